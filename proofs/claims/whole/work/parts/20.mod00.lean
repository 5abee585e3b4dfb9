def fX12_thrown (I : JI) : Option (Int32) :=
  some ((I 66 0))
set_option maxHeartbeats 4000000 in
set_option maxRecDepth 100000 in
theorem tcX12_thrown {E : JE} {r : Int32} {I : JI} {L : JL} {G D : JG} {S : JS} (hL : Lay G S) (h : fX12_thrown I = some r) : CallJ E xX12_thrown 1 [.ref (E.1 + 66)] I L G D S (some (.int r)) I L G D S := by
  unfold fX12_thrown at h
  refine j_entry (by decide) (Nat.le_of_ble_eq_true rfl) ?_
  show AtJ E xX12_thrown (Zr E (some (.int r)) I L G D S) ((S).length, jm_sl S) 1 0 [(0, .ref (E.1 + 66))] [] I L G D S
  refine j_aload_n 1 dX12_thrown_0 rfl rfl 0 rfl ?_
  refine j_getI 4 dX12_thrown_1 rfl (sh_66 hL) cl12 (k := 0) (by decide) flX12_218 rfl ?_
  cases h
  exact j_iret dX12_thrown_4 rfl
def fX12_within (l0 : Int32) (l1 : Int32) (l2 : Int32)  : Option (Int32) :=
  if l0 < l1 then (some ((0 : Int32))) else (if l2 < l0 then (some ((0 : Int32))) else (some ((1 : Int32))))
set_option maxHeartbeats 4000000 in
set_option maxRecDepth 100000 in
theorem tcX12_within {E : JE} {l0 : Int32} {l1 : Int32} {l2 : Int32} {r : Int32} {I : JI} {L : JL} {G D : JG} {S : JS} (h : fX12_within l0 l1 l2 = some r) : CallJ E xX12_within 1 [.int l0, .int l1, .int l2] I L G D S (some (.int r)) I L G D S := by
  unfold fX12_within at h
  refine j_entry (by decide) (Nat.le_of_ble_eq_true rfl) ?_
  show AtJ E xX12_within (Zr E (some (.int r)) I L G D S) ((S).length, jm_sl S) 1 0 [(0, .int l0), (1, .int l1), (2, .int l2)] [] I L G D S
  refine j_iload_n 1 dX12_within_0 rfl rfl 0 rfl ?_
  refine j_iload_n 2 dX12_within_1 rfl rfl 1 rfl ?_
  refine j_icmp_lt 14 5 dX12_within_2 (by decide) rfl (fun hc => ?_) (fun hc => ?_)
  · replace h := j_pos hc h
    refine j_iconst (v := (0 : Int32)) 15 dX12_within_14 rfl (by decide) ?_
    cases h
    exact j_zret dX12_within_15 rfl j_b01_0
  · replace h := j_neg hc h
    refine j_iload_n 6 dX12_within_5 rfl rfl 0 rfl ?_
    refine j_iload_n 7 dX12_within_6 rfl rfl 2 rfl ?_
    refine j_icmp_gt 14 10 dX12_within_7 (by decide) rfl (fun hc => ?_) (fun hc => ?_)
    · replace h := j_pos hc h
      refine j_iconst (v := (0 : Int32)) 15 dX12_within_14 rfl (by decide) ?_
      cases h
      exact j_zret dX12_within_15 rfl j_b01_0
    · replace h := j_neg hc h
      refine j_iconst (v := (1 : Int32)) 11 dX12_within_10 rfl (by decide) ?_
      refine j_goto 15 dX12_within_11 (by decide) ?_
      cases h
      exact j_zret dX12_within_15 rfl j_b01_1
def fX12_isParcel (l1 : Int32) (I : JI) : Option (Int32) :=
  (fX12_within l1 (0 : Int32) (11 : Int32)).bind (fun q1 => if q1 = 0 then (some ((0 : Int32))) else (j_g (j_in l1 12) (if (jm_b01 (I 67 l1.toNatClampNeg)) = 0 then (some ((0 : Int32))) else (some ((1 : Int32))))))
set_option maxHeartbeats 4000000 in
set_option maxRecDepth 100000 in
theorem tcX12_isParcel {E : JE} {l1 : Int32} {r : Int32} {I : JI} {L : JL} {G D : JG} {S : JS} (hL : Lay G S) (h : fX12_isParcel l1 I = some r) : CallJ E xX12_isParcel 2 [.ref (E.1 + 66), .int l1] I L G D S (some (.int r)) I L G D S := by
  unfold fX12_isParcel at h
  refine j_entry (by decide) (Nat.le_of_ble_eq_true rfl) ?_
  show AtJ E xX12_isParcel (Zr E (some (.int r)) I L G D S) ((S).length, jm_sl S) 2 0 [(0, .ref (E.1 + 66)), (1, .int l1)] [] I L G D S
  refine j_iload_n 1 dX12_isParcel_0 rfl rfl 1 rfl ?_
  refine j_iconst (v := (0 : Int32)) 2 dX12_isParcel_1 rfl (by decide) ?_
  refine j_bipush (v := (11 : Int32)) 4 dX12_isParcel_2 rfl (by decide) ?_
  obtain ⟨q1, hq1, h⟩ := j_bs h
  refine j_callS (rest := []) (As := [.int l1, .int (0 : Int32), .int (11 : Int32)]) 7 dX12_isParcel_4 rfl jyX12_within (tcX12_within   hq1) flX12_222 wm1697 (by decide) rfl rfl (Nat.le_of_ble_eq_true rfl) ?_
  refine j_if_eq 23 10 dX12_isParcel_7 (by decide) rfl (fun hc => ?_) (fun hc => ?_)
  · replace h := j_pos hc h
    refine j_iconst (v := (0 : Int32)) 24 dX12_isParcel_23 rfl (by decide) ?_
    cases h
    exact j_zret dX12_isParcel_24 rfl j_b01_0
  · replace h := j_neg hc h
    refine j_aload_n 11 dX12_isParcel_10 rfl rfl 0 rfl ?_
    refine j_getG 14 dX12_isParcel_11 rfl (sh_66 hL) cl12 (k := 1) (by decide) flX12_7 rfl (gs_66_1 hL) ?_
    refine j_iload_n 15 dX12_isParcel_14 rfl rfl 1 rfl ?_
    obtain ⟨hg, h⟩ := j_gs h
    refine j_zald 16 dX12_isParcel_15 rfl (sh_67 hL) (j_inv hg) ?_
    refine j_if_eq 23 19 dX12_isParcel_16 (by decide) rfl (fun hc => ?_) (fun hc => ?_)
    · replace h := j_pos hc h
      refine j_iconst (v := (0 : Int32)) 24 dX12_isParcel_23 rfl (by decide) ?_
      cases h
      exact j_zret dX12_isParcel_24 rfl j_b01_0
    · replace h := j_neg hc h
      refine j_iconst (v := (1 : Int32)) 20 dX12_isParcel_19 rfl (by decide) ?_
      refine j_goto 24 dX12_isParcel_20 (by decide) ?_
      cases h
      exact j_zret dX12_isParcel_24 rfl j_b01_1
def fX12_isPerson (l0 : Int32)  : Option (Int32) :=
  if l0 < 0 then (some ((0 : Int32))) else (if (16 : Int32) ≤ l0 then (some ((0 : Int32))) else (some ((1 : Int32))))
set_option maxHeartbeats 4000000 in
set_option maxRecDepth 100000 in
theorem tcX12_isPerson {E : JE} {l0 : Int32} {r : Int32} {I : JI} {L : JL} {G D : JG} {S : JS} (h : fX12_isPerson l0 = some r) : CallJ E xX12_isPerson 1 [.int l0] I L G D S (some (.int r)) I L G D S := by
  unfold fX12_isPerson at h
  refine j_entry (by decide) (Nat.le_of_ble_eq_true rfl) ?_
  show AtJ E xX12_isPerson (Zr E (some (.int r)) I L G D S) ((S).length, jm_sl S) 1 0 [(0, .int l0)] [] I L G D S
  refine j_iload_n 1 dX12_isPerson_0 rfl rfl 0 rfl ?_
  refine j_if_lt 14 4 dX12_isPerson_1 (by decide) rfl (fun hc => ?_) (fun hc => ?_)
  · replace h := j_pos hc h
    refine j_iconst (v := (0 : Int32)) 15 dX12_isPerson_14 rfl (by decide) ?_
    cases h
    exact j_zret dX12_isPerson_15 rfl j_b01_0
  · replace h := j_neg hc h
    refine j_iload_n 5 dX12_isPerson_4 rfl rfl 0 rfl ?_
    refine j_bipush (v := (16 : Int32)) 7 dX12_isPerson_5 rfl (by decide) ?_
    refine j_icmp_ge 14 10 dX12_isPerson_7 (by decide) rfl (fun hc => ?_) (fun hc => ?_)
    · replace h := j_pos hc h
      refine j_iconst (v := (0 : Int32)) 15 dX12_isPerson_14 rfl (by decide) ?_
      cases h
      exact j_zret dX12_isPerson_15 rfl j_b01_0
    · replace h := j_neg hc h
      refine j_iconst (v := (1 : Int32)) 11 dX12_isPerson_10 rfl (by decide) ?_
      refine j_goto 15 dX12_isPerson_11 (by decide) ?_
      cases h
      exact j_zret dX12_isPerson_15 rfl j_b01_1
def fX12_parcel (l1 : Int32) (l2 : Int32) (I : JI) : Option (Int32 × JI) :=
  (fX12_within l1 (0 : Int32) (11 : Int32)).bind (fun q1 => if q1 = 0 then (some ((0 : Int32), (j_up I 66 0 (0 : Int32)))) else (j_g (j_in l1 12) (if (jm_b01 ((j_up I 66 0 (0 : Int32)) 67 l1.toNatClampNeg)) = 0 then ((fX12_isPerson l2).bind (fun q2 => if q2 = 0 then (some ((0 : Int32), (j_up I 66 0 (0 : Int32)))) else (j_g (j_in l1 12) (j_g (j_in (((16 : Int32) * l1) + l2) 192) (some ((1 : Int32), (j_up (j_up (j_up I 66 0 (0 : Int32)) 67 l1.toNatClampNeg (1 : Int32)) 68 (((16 : Int32) * l1) + l2).toNatClampNeg (12 : Int32)))))))) else (some ((0 : Int32), (j_up I 66 0 (0 : Int32)))))))
set_option maxHeartbeats 4000000 in
set_option maxRecDepth 100000 in
theorem tcX12_parcel {E : JE} {l1 : Int32} {l2 : Int32} {r : Int32 × JI} {I : JI} {L : JL} {G D : JG} {S : JS} (hL : Lay G S) (h : fX12_parcel l1 l2 I = some r) : CallJ E xX12_parcel 2 [.ref (E.1 + 66), .int l1, .int l2] I L G D S (some (.int r.1)) r.2 L G D S := by
  unfold fX12_parcel at h
  refine j_entry (by decide) (Nat.le_of_ble_eq_true rfl) ?_
  show AtJ E xX12_parcel (Zr E (some (.int r.1)) r.2 L G D S) ((S).length, jm_sl S) 2 0 [(0, .ref (E.1 + 66)), (1, .int l1), (2, .int l2)] [] I L G D S
  refine j_aload_n 1 dX12_parcel_0 rfl rfl 0 rfl ?_
  refine j_iconst (v := (0 : Int32)) 2 dX12_parcel_1 rfl (by decide) ?_
  refine j_putI 5 dX12_parcel_2 rfl (sh_66 hL) cl12 (k := 0) (by decide) flX12_218 rfl rfl rfl ?_
  refine j_iload_n 6 dX12_parcel_5 rfl rfl 1 rfl ?_
  refine j_iconst (v := (0 : Int32)) 7 dX12_parcel_6 rfl (by decide) ?_
  refine j_bipush (v := (11 : Int32)) 9 dX12_parcel_7 rfl (by decide) ?_
  obtain ⟨q1, hq1, h⟩ := j_bs h
  refine j_callS (rest := []) (As := [.int l1, .int (0 : Int32), .int (11 : Int32)]) 12 dX12_parcel_9 rfl jyX12_within (tcX12_within   hq1) flX12_222 wm1697 (by decide) rfl rfl (Nat.le_of_ble_eq_true rfl) ?_
  refine j_if_eq 31 15 dX12_parcel_12 (by decide) rfl (fun hc => ?_) (fun hc => ?_)
  · replace h := j_pos hc h
    refine j_iconst (v := (0 : Int32)) 32 dX12_parcel_31 rfl (by decide) ?_
    cases h
    exact j_zret dX12_parcel_32 rfl j_b01_0
  · replace h := j_neg hc h
    refine j_aload_n 16 dX12_parcel_15 rfl rfl 0 rfl ?_
    refine j_getG 19 dX12_parcel_16 rfl (sh_66 hL) cl12 (k := 1) (by decide) flX12_7 rfl (gs_66_1 hL) ?_
    refine j_iload_n 20 dX12_parcel_19 rfl rfl 1 rfl ?_
    obtain ⟨hg, h⟩ := j_gs h
    refine j_zald 21 dX12_parcel_20 rfl (sh_67 hL) (j_inv hg) ?_
    refine j_if_ne 31 24 dX12_parcel_21 (by decide) rfl (fun hc => ?_) (fun hc => ?_)
    · replace h := j_neg hc h
      refine j_iconst (v := (0 : Int32)) 32 dX12_parcel_31 rfl (by decide) ?_
      cases h
      exact j_zret dX12_parcel_32 rfl j_b01_0
    · replace h := j_pos hc h
      refine j_iload_n 25 dX12_parcel_24 rfl rfl 2 rfl ?_
      obtain ⟨q2, hq2, h⟩ := j_bs h
      refine j_callS (rest := []) (As := [.int l2]) 28 dX12_parcel_25 rfl jyX12_isPerson (tcX12_isPerson   hq2) flX12_226 wm1700 (by decide) rfl rfl (Nat.le_of_ble_eq_true rfl) ?_
      refine j_if_ne 33 31 dX12_parcel_28 (by decide) rfl (fun hc => ?_) (fun hc => ?_)
      · replace h := j_neg hc h
        refine j_aload_n 34 dX12_parcel_33 rfl rfl 0 rfl ?_
        refine j_getG 37 dX12_parcel_34 rfl (sh_66 hL) cl12 (k := 1) (by decide) flX12_7 rfl (gs_66_1 hL) ?_
        refine j_iload_n 38 dX12_parcel_37 rfl rfl 1 rfl ?_
        refine j_iconst (v := (1 : Int32)) 39 dX12_parcel_38 rfl (by decide) ?_
        obtain ⟨hg, h⟩ := j_gs h
        refine j_zast 40 dX12_parcel_39 rfl (sh_67 hL) (j_inv hg) j_b01_1 ?_
        refine j_aload_n 41 dX12_parcel_40 rfl rfl 0 rfl ?_
        refine j_getG 44 dX12_parcel_41 rfl (sh_66 hL) cl12 (k := 2) (by decide) flX12_13 rfl (gs_66_2 hL) ?_
        refine j_bipush (v := (16 : Int32)) 46 dX12_parcel_44 rfl (by decide) ?_
        refine j_iload_n 47 dX12_parcel_46 rfl rfl 1 rfl ?_
        refine j_imul 48 dX12_parcel_47 rfl ?_
        refine j_iload_n 49 dX12_parcel_48 rfl rfl 2 rfl ?_
        refine j_iadd 50 dX12_parcel_49 rfl ?_
        refine j_bipush (v := (12 : Int32)) 52 dX12_parcel_50 rfl (by decide) ?_
        obtain ⟨hg, h⟩ := j_gs h
        refine j_iast 53 dX12_parcel_52 rfl (sh_68 hL) (j_inv hg) ?_
        refine j_iconst (v := (1 : Int32)) 54 dX12_parcel_53 rfl (by decide) ?_
        cases h
        exact j_zret dX12_parcel_54 rfl j_b01_1
      · replace h := j_pos hc h
        refine j_iconst (v := (0 : Int32)) 32 dX12_parcel_31 rfl (by decide) ?_
        cases h
        exact j_zret dX12_parcel_32 rfl j_b01_0
def fX12_moves (l1 : Int32) (l2 : Int32) (l3 : Int32) (l4 : Int32) (I : JI) : Option (JI) :=
  j_g (j_in (((16 : Int32) * l1) + l2) 192) (j_g (j_in (((16 : Int32) * l1) + l2) 192) (j_g (j_in (((16 : Int32) * l1) + l3) 192) (j_g (j_in (((16 : Int32) * l1) + l3) 192) (some ((j_up (j_up I 68 (((16 : Int32) * l1) + l2).toNatClampNeg ((I 68 (((16 : Int32) * l1) + l2).toNatClampNeg) - l4)) 68 (((16 : Int32) * l1) + l3).toNatClampNeg (((j_up I 68 (((16 : Int32) * l1) + l2).toNatClampNeg ((I 68 (((16 : Int32) * l1) + l2).toNatClampNeg) - l4)) 68 (((16 : Int32) * l1) + l3).toNatClampNeg) + l4)))))))
set_option maxHeartbeats 4000000 in
set_option maxRecDepth 100000 in
theorem tcX12_moves {E : JE} {l1 : Int32} {l2 : Int32} {l3 : Int32} {l4 : Int32} {r : JI} {I : JI} {L : JL} {G D : JG} {S : JS} (hL : Lay G S) (h : fX12_moves l1 l2 l3 l4 I = some r) : CallJ E xX12_moves 1 [.ref (E.1 + 66), .int l1, .int l2, .int l3, .int l4] I L G D S none r L G D S := by
  unfold fX12_moves at h
  refine j_entry (by decide) (Nat.le_of_ble_eq_true rfl) ?_
  show AtJ E xX12_moves (Zr E none r L G D S) ((S).length, jm_sl S) 1 0 [(0, .ref (E.1 + 66)), (1, .int l1), (2, .int l2), (3, .int l3), (4, .int l4)] [] I L G D S
  refine j_aload_n 1 dX12_moves_0 rfl rfl 0 rfl ?_
  refine j_getG 4 dX12_moves_1 rfl (sh_66 hL) cl12 (k := 2) (by decide) flX12_13 rfl (gs_66_2 hL) ?_
  refine j_bipush (v := (16 : Int32)) 6 dX12_moves_4 rfl (by decide) ?_
  refine j_iload_n 7 dX12_moves_6 rfl rfl 1 rfl ?_
  refine j_imul 8 dX12_moves_7 rfl ?_
  refine j_iload_n 9 dX12_moves_8 rfl rfl 2 rfl ?_
  refine j_iadd 10 dX12_moves_9 rfl ?_
  refine j_dup2_11 11 dX12_moves_10 rfl rfl rfl ?_
  obtain ⟨hg, h⟩ := j_gs h
  refine j_iald 12 dX12_moves_11 rfl (sh_68 hL) (j_inv hg) ?_
  refine j_iload 14 dX12_moves_12 rfl 4 rfl ?_
  refine j_isub 15 dX12_moves_14 rfl ?_
  obtain ⟨hg, h⟩ := j_gs h
  refine j_iast 16 dX12_moves_15 rfl (sh_68 hL) (j_inv hg) ?_
  refine j_aload_n 17 dX12_moves_16 rfl rfl 0 rfl ?_
  refine j_getG 20 dX12_moves_17 rfl (sh_66 hL) cl12 (k := 2) (by decide) flX12_13 rfl (gs_66_2 hL) ?_
  refine j_bipush (v := (16 : Int32)) 22 dX12_moves_20 rfl (by decide) ?_
  refine j_iload_n 23 dX12_moves_22 rfl rfl 1 rfl ?_
  refine j_imul 24 dX12_moves_23 rfl ?_
  refine j_iload_n 25 dX12_moves_24 rfl rfl 3 rfl ?_
  refine j_iadd 26 dX12_moves_25 rfl ?_
  refine j_dup2_11 27 dX12_moves_26 rfl rfl rfl ?_
  obtain ⟨hg, h⟩ := j_gs h
  refine j_iald 28 dX12_moves_27 rfl (sh_68 hL) (j_inv hg) ?_
  refine j_iload 30 dX12_moves_28 rfl 4 rfl ?_
  refine j_iadd 31 dX12_moves_30 rfl ?_
  obtain ⟨hg, h⟩ := j_gs h
  refine j_iast 32 dX12_moves_31 rfl (sh_68 hL) (j_inv hg) ?_
  cases h
  exact j_vret dX12_moves_32 rfl
def fX12_part (l1 : Int32) (l2 : Int32) (l3 : Int32) (l4 : Int32) (I : JI) : Option (Int32 × JI) :=
  (fX12_isParcel l1 (j_up I 66 0 (0 : Int32))).bind (fun q1 => if q1 = 0 then (some ((0 : Int32), (j_up I 66 0 (0 : Int32)))) else ((fX12_isPerson l2).bind (fun q2 => if q2 = 0 then (some ((0 : Int32), (j_up I 66 0 (0 : Int32)))) else ((fX12_isPerson l3).bind (fun q3 => if q3 = 0 then (some ((0 : Int32), (j_up I 66 0 (0 : Int32)))) else (if l2 = l3 then (some ((0 : Int32), (j_up I 66 0 (0 : Int32)))) else ((fX12_within l4 (1 : Int32) (12 : Int32)).bind (fun q4 => if q4 = 0 then (some ((0 : Int32), (j_up I 66 0 (0 : Int32)))) else (j_g (j_in (((16 : Int32) * l1) + l2) 192) (if l4 ≤ ((j_up I 66 0 (0 : Int32)) 68 (((16 : Int32) * l1) + l2).toNatClampNeg) then ((fX12_moves l1 l2 l3 l4 (j_up I 66 0 (0 : Int32))).bind (fun q5 => some ((1 : Int32), q5))) else (some ((0 : Int32), (j_up I 66 0 (0 : Int32))))))))))))))
set_option maxHeartbeats 4000000 in
set_option maxRecDepth 100000 in
theorem tcX12_part {E : JE} {l1 : Int32} {l2 : Int32} {l3 : Int32} {l4 : Int32} {r : Int32 × JI} {I : JI} {L : JL} {G D : JG} {S : JS} (hL : Lay G S) (h : fX12_part l1 l2 l3 l4 I = some r) : CallJ E xX12_part 3 [.ref (E.1 + 66), .int l1, .int l2, .int l3, .int l4] I L G D S (some (.int r.1)) r.2 L G D S := by
  unfold fX12_part at h
  refine j_entry (by decide) (Nat.le_of_ble_eq_true rfl) ?_
  show AtJ E xX12_part (Zr E (some (.int r.1)) r.2 L G D S) ((S).length, jm_sl S) 3 0 [(0, .ref (E.1 + 66)), (1, .int l1), (2, .int l2), (3, .int l3), (4, .int l4)] [] I L G D S
  refine j_aload_n 1 dX12_part_0 rfl rfl 0 rfl ?_
  refine j_iconst (v := (0 : Int32)) 2 dX12_part_1 rfl (by decide) ?_
  refine j_putI 5 dX12_part_2 rfl (sh_66 hL) cl12 (k := 0) (by decide) flX12_218 rfl rfl rfl ?_
  refine j_aload_n 6 dX12_part_5 rfl rfl 0 rfl ?_
  refine j_iload_n 7 dX12_part_6 rfl rfl 1 rfl ?_
  obtain ⟨q1, hq1, h⟩ := j_bs h
  refine j_callV (rest := []) (As := [.int l1]) 10 dX12_part_7 rfl jyX12_isParcel (tcX12_isParcel hL  hq1) (sh_66 hL) cl12 flX12_230 wm1708 wm40 (by decide) rfl rfl (Nat.le_of_ble_eq_true rfl) ?_
  refine j_if_eq 59 13 dX12_part_10 (by decide) rfl (fun hc => ?_) (fun hc => ?_)
  · replace h := j_pos hc h
    refine j_iconst (v := (0 : Int32)) 60 dX12_part_59 rfl (by decide) ?_
    cases h
    exact j_zret dX12_part_60 rfl j_b01_0
  · replace h := j_neg hc h
    refine j_iload_n 14 dX12_part_13 rfl rfl 2 rfl ?_
    obtain ⟨q2, hq2, h⟩ := j_bs h
    refine j_callS (rest := []) (As := [.int l2]) 17 dX12_part_14 rfl jyX12_isPerson (tcX12_isPerson   hq2) flX12_226 wm1700 (by decide) rfl rfl (Nat.le_of_ble_eq_true rfl) ?_
    refine j_if_eq 59 20 dX12_part_17 (by decide) rfl (fun hc => ?_) (fun hc => ?_)
    · replace h := j_pos hc h
      refine j_iconst (v := (0 : Int32)) 60 dX12_part_59 rfl (by decide) ?_
      cases h
      exact j_zret dX12_part_60 rfl j_b01_0
    · replace h := j_neg hc h
      refine j_iload_n 21 dX12_part_20 rfl rfl 3 rfl ?_
      obtain ⟨q3, hq3, h⟩ := j_bs h
      refine j_callS (rest := []) (As := [.int l3]) 24 dX12_part_21 rfl jyX12_isPerson (tcX12_isPerson   hq3) flX12_226 wm1700 (by decide) rfl rfl (Nat.le_of_ble_eq_true rfl) ?_
      refine j_if_eq 59 27 dX12_part_24 (by decide) rfl (fun hc => ?_) (fun hc => ?_)
      · replace h := j_pos hc h
        refine j_iconst (v := (0 : Int32)) 60 dX12_part_59 rfl (by decide) ?_
        cases h
        exact j_zret dX12_part_60 rfl j_b01_0
      · replace h := j_neg hc h
        refine j_iload_n 28 dX12_part_27 rfl rfl 2 rfl ?_
        refine j_iload_n 29 dX12_part_28 rfl rfl 3 rfl ?_
        refine j_icmp_eq 59 32 dX12_part_29 (by decide) rfl (fun hc => ?_) (fun hc => ?_)
        · replace h := j_pos hc h
          refine j_iconst (v := (0 : Int32)) 60 dX12_part_59 rfl (by decide) ?_
          cases h
          exact j_zret dX12_part_60 rfl j_b01_0
        · replace h := j_neg hc h
          refine j_iload 34 dX12_part_32 rfl 4 rfl ?_
          refine j_iconst (v := (1 : Int32)) 35 dX12_part_34 rfl (by decide) ?_
          refine j_bipush (v := (12 : Int32)) 37 dX12_part_35 rfl (by decide) ?_
          obtain ⟨q4, hq4, h⟩ := j_bs h
          refine j_callS (rest := []) (As := [.int l4, .int (1 : Int32), .int (12 : Int32)]) 40 dX12_part_37 rfl jyX12_within (tcX12_within   hq4) flX12_222 wm1697 (by decide) rfl rfl (Nat.le_of_ble_eq_true rfl) ?_
          refine j_if_eq 59 43 dX12_part_40 (by decide) rfl (fun hc => ?_) (fun hc => ?_)
          · replace h := j_pos hc h
            refine j_iconst (v := (0 : Int32)) 60 dX12_part_59 rfl (by decide) ?_
            cases h
            exact j_zret dX12_part_60 rfl j_b01_0
          · replace h := j_neg hc h
            refine j_aload_n 44 dX12_part_43 rfl rfl 0 rfl ?_
            refine j_getG 47 dX12_part_44 rfl (sh_66 hL) cl12 (k := 2) (by decide) flX12_13 rfl (gs_66_2 hL) ?_
            refine j_bipush (v := (16 : Int32)) 49 dX12_part_47 rfl (by decide) ?_
            refine j_iload_n 50 dX12_part_49 rfl rfl 1 rfl ?_
            refine j_imul 51 dX12_part_50 rfl ?_
            refine j_iload_n 52 dX12_part_51 rfl rfl 2 rfl ?_
            refine j_iadd 53 dX12_part_52 rfl ?_
            obtain ⟨hg, h⟩ := j_gs h
            refine j_iald 54 dX12_part_53 rfl (sh_68 hL) (j_inv hg) ?_
            refine j_iload 56 dX12_part_54 rfl 4 rfl ?_
            refine j_icmp_ge 61 59 dX12_part_56 (by decide) rfl (fun hc => ?_) (fun hc => ?_)
            · replace h := j_pos hc h
              refine j_aload_n 62 dX12_part_61 rfl rfl 0 rfl ?_
              refine j_iload_n 63 dX12_part_62 rfl rfl 1 rfl ?_
              refine j_iload_n 64 dX12_part_63 rfl rfl 2 rfl ?_
              refine j_iload_n 65 dX12_part_64 rfl rfl 3 rfl ?_
              refine j_iload 67 dX12_part_65 rfl 4 rfl ?_
              obtain ⟨q5, hq5, h⟩ := j_bs h
              refine j_callV (rest := []) (As := [.int l1, .int l2, .int l3, .int l4]) 70 dX12_part_67 rfl jyX12_moves (tcX12_moves hL  hq5) (sh_66 hL) cl12 flX12_233 wm1712 wm41 (by decide) rfl rfl (Nat.le_of_ble_eq_true rfl) ?_
              refine j_iconst (v := (1 : Int32)) 71 dX12_part_70 rfl (by decide) ?_
              cases h
              exact j_zret dX12_part_71 rfl j_b01_1
            · replace h := j_neg hc h
              refine j_iconst (v := (0 : Int32)) 60 dX12_part_59 rfl (by decide) ?_
              cases h
              exact j_zret dX12_part_60 rfl j_b01_0
def fX12_beside (l1 : Int32) (l2 : Int32) (l3 : Int32) (I : JI) : Option (Int32 × JI) :=
  (fX12_isParcel l1 (j_up I 66 0 (0 : Int32))).bind (fun q1 => if q1 = 0 then (some ((0 : Int32), (j_up I 66 0 (0 : Int32)))) else ((fX12_isParcel l2 (j_up I 66 0 (0 : Int32))).bind (fun q2 => if q2 = 0 then (some ((0 : Int32), (j_up I 66 0 (0 : Int32)))) else (if l1 = l2 then (some ((0 : Int32), (j_up I 66 0 (0 : Int32)))) else ((fX12_within l3 (0 : Int32) (3 : Int32)).bind (fun q3 => if q3 = 0 then (some ((0 : Int32), (j_up I 66 0 (0 : Int32)))) else (j_g (j_in (((12 : Int32) * l1) + l2) 144) (if ((((j_up I 66 0 (0 : Int32)) 69 (((12 : Int32) * l1) + l2).toNatClampNeg) >>> (l3 &&& 31)) &&& (1 : Int32)) = (1 : Int32) then (some ((0 : Int32), (j_up I 66 0 (0 : Int32)))) else (j_g (j_in (((12 : Int32) * l1) + l2) 144) (j_g (j_in (((12 : Int32) * l1) + l2) 144) (j_g (j_in (((12 : Int32) * l2) + l1) 144) (j_g (j_in (((12 : Int32) * l2) + l1) 144) (some ((1 : Int32), (j_up (j_up (j_up I 66 0 (0 : Int32)) 69 (((12 : Int32) * l1) + l2).toNatClampNeg (((j_up I 66 0 (0 : Int32)) 69 (((12 : Int32) * l1) + l2).toNatClampNeg) ||| ((1 : Int32) <<< (l3 &&& 31)))) 69 (((12 : Int32) * l2) + l1).toNatClampNeg (((j_up (j_up I 66 0 (0 : Int32)) 69 (((12 : Int32) * l1) + l2).toNatClampNeg (((j_up I 66 0 (0 : Int32)) 69 (((12 : Int32) * l1) + l2).toNatClampNeg) ||| ((1 : Int32) <<< (l3 &&& 31)))) 69 (((12 : Int32) * l2) + l1).toNatClampNeg) ||| ((1 : Int32) <<< (((l3 + (2 : Int32)) - (l3 + (2 : Int32)) / (4 : Int32) * (4 : Int32)) &&& 31))))))))))))))))))
set_option maxHeartbeats 4000000 in
set_option maxRecDepth 100000 in
theorem tcX12_beside {E : JE} {l1 : Int32} {l2 : Int32} {l3 : Int32} {r : Int32 × JI} {I : JI} {L : JL} {G D : JG} {S : JS} (hL : Lay G S) (h : fX12_beside l1 l2 l3 I = some r) : CallJ E xX12_beside 3 [.ref (E.1 + 66), .int l1, .int l2, .int l3] I L G D S (some (.int r.1)) r.2 L G D S := by
  unfold fX12_beside at h
  refine j_entry (by decide) (Nat.le_of_ble_eq_true rfl) ?_
  show AtJ E xX12_beside (Zr E (some (.int r.1)) r.2 L G D S) ((S).length, jm_sl S) 3 0 [(0, .ref (E.1 + 66)), (1, .int l1), (2, .int l2), (3, .int l3)] [] I L G D S
  refine j_aload_n 1 dX12_beside_0 rfl rfl 0 rfl ?_
  refine j_iconst (v := (0 : Int32)) 2 dX12_beside_1 rfl (by decide) ?_
  refine j_putI 5 dX12_beside_2 rfl (sh_66 hL) cl12 (k := 0) (by decide) flX12_218 rfl rfl rfl ?_
  refine j_aload_n 6 dX12_beside_5 rfl rfl 0 rfl ?_
  refine j_iload_n 7 dX12_beside_6 rfl rfl 1 rfl ?_
  obtain ⟨q1, hq1, h⟩ := j_bs h
  refine j_callV (rest := []) (As := [.int l1]) 10 dX12_beside_7 rfl jyX12_isParcel (tcX12_isParcel hL  hq1) (sh_66 hL) cl12 flX12_230 wm1708 wm40 (by decide) rfl rfl (Nat.le_of_ble_eq_true rfl) ?_
  refine j_if_eq 35 13 dX12_beside_10 (by decide) rfl (fun hc => ?_) (fun hc => ?_)
  · replace h := j_pos hc h
    refine j_iconst (v := (0 : Int32)) 36 dX12_beside_35 rfl (by decide) ?_
    cases h
    exact j_zret dX12_beside_36 rfl j_b01_0
  · replace h := j_neg hc h
    refine j_aload_n 14 dX12_beside_13 rfl rfl 0 rfl ?_
    refine j_iload_n 15 dX12_beside_14 rfl rfl 2 rfl ?_
    obtain ⟨q2, hq2, h⟩ := j_bs h
    refine j_callV (rest := []) (As := [.int l2]) 18 dX12_beside_15 rfl jyX12_isParcel (tcX12_isParcel hL  hq2) (sh_66 hL) cl12 flX12_230 wm1708 wm40 (by decide) rfl rfl (Nat.le_of_ble_eq_true rfl) ?_
    refine j_if_eq 35 21 dX12_beside_18 (by decide) rfl (fun hc => ?_) (fun hc => ?_)
    · replace h := j_pos hc h
      refine j_iconst (v := (0 : Int32)) 36 dX12_beside_35 rfl (by decide) ?_
      cases h
      exact j_zret dX12_beside_36 rfl j_b01_0
    · replace h := j_neg hc h
      refine j_iload_n 22 dX12_beside_21 rfl rfl 1 rfl ?_
      refine j_iload_n 23 dX12_beside_22 rfl rfl 2 rfl ?_
      refine j_icmp_eq 35 26 dX12_beside_23 (by decide) rfl (fun hc => ?_) (fun hc => ?_)
      · replace h := j_pos hc h
        refine j_iconst (v := (0 : Int32)) 36 dX12_beside_35 rfl (by decide) ?_
        cases h
        exact j_zret dX12_beside_36 rfl j_b01_0
      · replace h := j_neg hc h
        refine j_iload_n 27 dX12_beside_26 rfl rfl 3 rfl ?_
        refine j_iconst (v := (0 : Int32)) 28 dX12_beside_27 rfl (by decide) ?_
        refine j_iconst (v := (3 : Int32)) 29 dX12_beside_28 rfl (by decide) ?_
        obtain ⟨q3, hq3, h⟩ := j_bs h
        refine j_callS (rest := []) (As := [.int l3, .int (0 : Int32), .int (3 : Int32)]) 32 dX12_beside_29 rfl jyX12_within (tcX12_within   hq3) flX12_222 wm1697 (by decide) rfl rfl (Nat.le_of_ble_eq_true rfl) ?_
        refine j_if_ne 37 35 dX12_beside_32 (by decide) rfl (fun hc => ?_) (fun hc => ?_)
        · replace h := j_neg hc h
          refine j_aload_n 38 dX12_beside_37 rfl rfl 0 rfl ?_
          refine j_getG 41 dX12_beside_38 rfl (sh_66 hL) cl12 (k := 3) (by decide) flX12_17 rfl (gs_66_3 hL) ?_
          refine j_bipush (v := (12 : Int32)) 43 dX12_beside_41 rfl (by decide) ?_
          refine j_iload_n 44 dX12_beside_43 rfl rfl 1 rfl ?_
          refine j_imul 45 dX12_beside_44 rfl ?_
          refine j_iload_n 46 dX12_beside_45 rfl rfl 2 rfl ?_
          refine j_iadd 47 dX12_beside_46 rfl ?_
          obtain ⟨hg, h⟩ := j_gs h
          refine j_iald 48 dX12_beside_47 rfl (sh_69 hL) (j_inv hg) ?_
          refine j_iload_n 49 dX12_beside_48 rfl rfl 3 rfl ?_
          refine j_ishr 50 dX12_beside_49 rfl ?_
          refine j_iconst (v := (1 : Int32)) 51 dX12_beside_50 rfl (by decide) ?_
          refine j_iand 52 dX12_beside_51 rfl ?_
          refine j_iconst (v := (1 : Int32)) 53 dX12_beside_52 rfl (by decide) ?_
          refine j_icmp_ne 58 56 dX12_beside_53 (by decide) rfl (fun hc => ?_) (fun hc => ?_)
          · replace h := j_neg hc h
            refine j_aload_n 59 dX12_beside_58 rfl rfl 0 rfl ?_
            refine j_getG 62 dX12_beside_59 rfl (sh_66 hL) cl12 (k := 3) (by decide) flX12_17 rfl (gs_66_3 hL) ?_
            refine j_bipush (v := (12 : Int32)) 64 dX12_beside_62 rfl (by decide) ?_
            refine j_iload_n 65 dX12_beside_64 rfl rfl 1 rfl ?_
            refine j_imul 66 dX12_beside_65 rfl ?_
            refine j_iload_n 67 dX12_beside_66 rfl rfl 2 rfl ?_
            refine j_iadd 68 dX12_beside_67 rfl ?_
            refine j_dup2_11 69 dX12_beside_68 rfl rfl rfl ?_
            obtain ⟨hg, h⟩ := j_gs h
            refine j_iald 70 dX12_beside_69 rfl (sh_69 hL) (j_inv hg) ?_
            refine j_iconst (v := (1 : Int32)) 71 dX12_beside_70 rfl (by decide) ?_
            refine j_iload_n 72 dX12_beside_71 rfl rfl 3 rfl ?_
            refine j_ishl 73 dX12_beside_72 rfl ?_
            refine j_ior 74 dX12_beside_73 rfl ?_
            obtain ⟨hg, h⟩ := j_gs h
            refine j_iast 75 dX12_beside_74 rfl (sh_69 hL) (j_inv hg) ?_
            refine j_aload_n 76 dX12_beside_75 rfl rfl 0 rfl ?_
            refine j_getG 79 dX12_beside_76 rfl (sh_66 hL) cl12 (k := 3) (by decide) flX12_17 rfl (gs_66_3 hL) ?_
            refine j_bipush (v := (12 : Int32)) 81 dX12_beside_79 rfl (by decide) ?_
            refine j_iload_n 82 dX12_beside_81 rfl rfl 2 rfl ?_
            refine j_imul 83 dX12_beside_82 rfl ?_
            refine j_iload_n 84 dX12_beside_83 rfl rfl 1 rfl ?_
            refine j_iadd 85 dX12_beside_84 rfl ?_
            refine j_dup2_11 86 dX12_beside_85 rfl rfl rfl ?_
            obtain ⟨hg, h⟩ := j_gs h
            refine j_iald 87 dX12_beside_86 rfl (sh_69 hL) (j_inv hg) ?_
            refine j_iconst (v := (1 : Int32)) 88 dX12_beside_87 rfl (by decide) ?_
            refine j_iload_n 89 dX12_beside_88 rfl rfl 3 rfl ?_
            refine j_iconst (v := (2 : Int32)) 90 dX12_beside_89 rfl (by decide) ?_
            refine j_iadd 91 dX12_beside_90 rfl ?_
            refine j_iconst (v := (4 : Int32)) 92 dX12_beside_91 rfl (by decide) ?_
            refine j_irem 93 dX12_beside_92 rfl (by decide) ?_
            refine j_ishl 94 dX12_beside_93 rfl ?_
            refine j_ior 95 dX12_beside_94 rfl ?_
            obtain ⟨hg, h⟩ := j_gs h
            refine j_iast 96 dX12_beside_95 rfl (sh_69 hL) (j_inv hg) ?_
            refine j_iconst (v := (1 : Int32)) 97 dX12_beside_96 rfl (by decide) ?_
            cases h
            exact j_zret dX12_beside_97 rfl j_b01_1
          · replace h := j_pos hc h
            refine j_iconst (v := (0 : Int32)) 57 dX12_beside_56 rfl (by decide) ?_
            cases h
            exact j_zret dX12_beside_57 rfl j_b01_0
        · replace h := j_pos hc h
          refine j_iconst (v := (0 : Int32)) 36 dX12_beside_35 rfl (by decide) ?_
          cases h
          exact j_zret dX12_beside_36 rfl j_b01_0
def fX12_water (l1 : Int32) (l2 : Int32) (I : JI) : Option (Int32 × JI) :=
  (fX12_isParcel l1 (j_up I 66 0 (0 : Int32))).bind (fun q1 => if q1 = 0 then (some ((0 : Int32), (j_up I 66 0 (0 : Int32)))) else ((fX12_isParcel l2 (j_up I 66 0 (0 : Int32))).bind (fun q2 => if q2 = 0 then (some ((0 : Int32), (j_up I 66 0 (0 : Int32)))) else (if l1 = l2 then (some ((0 : Int32), (j_up I 66 0 (0 : Int32)))) else (j_g (j_in (((12 : Int32) * l1) + l2) 144) (if (jm_b01 ((j_up I 66 0 (0 : Int32)) 70 (((12 : Int32) * l1) + l2).toNatClampNeg)) = 0 then (j_g (j_in (((12 : Int32) * l1) + l2) 144) (j_g (j_in (((12 : Int32) * l2) + l1) 144) (some ((1 : Int32), (j_up (j_up (j_up I 66 0 (0 : Int32)) 70 (((12 : Int32) * l1) + l2).toNatClampNeg (1 : Int32)) 70 (((12 : Int32) * l2) + l1).toNatClampNeg (1 : Int32)))))) else (some ((0 : Int32), (j_up I 66 0 (0 : Int32))))))))))
set_option maxHeartbeats 4000000 in
set_option maxRecDepth 100000 in
theorem tcX12_water {E : JE} {l1 : Int32} {l2 : Int32} {r : Int32 × JI} {I : JI} {L : JL} {G D : JG} {S : JS} (hL : Lay G S) (h : fX12_water l1 l2 I = some r) : CallJ E xX12_water 3 [.ref (E.1 + 66), .int l1, .int l2] I L G D S (some (.int r.1)) r.2 L G D S := by
  unfold fX12_water at h
  refine j_entry (by decide) (Nat.le_of_ble_eq_true rfl) ?_
  show AtJ E xX12_water (Zr E (some (.int r.1)) r.2 L G D S) ((S).length, jm_sl S) 3 0 [(0, .ref (E.1 + 66)), (1, .int l1), (2, .int l2)] [] I L G D S
  refine j_aload_n 1 dX12_water_0 rfl rfl 0 rfl ?_
  refine j_iconst (v := (0 : Int32)) 2 dX12_water_1 rfl (by decide) ?_
  refine j_putI 5 dX12_water_2 rfl (sh_66 hL) cl12 (k := 0) (by decide) flX12_218 rfl rfl rfl ?_
  refine j_aload_n 6 dX12_water_5 rfl rfl 0 rfl ?_
  refine j_iload_n 7 dX12_water_6 rfl rfl 1 rfl ?_
  obtain ⟨q1, hq1, h⟩ := j_bs h
  refine j_callV (rest := []) (As := [.int l1]) 10 dX12_water_7 rfl jyX12_isParcel (tcX12_isParcel hL  hq1) (sh_66 hL) cl12 flX12_230 wm1708 wm40 (by decide) rfl rfl (Nat.le_of_ble_eq_true rfl) ?_
  refine j_if_eq 40 13 dX12_water_10 (by decide) rfl (fun hc => ?_) (fun hc => ?_)
  · replace h := j_pos hc h
    refine j_iconst (v := (0 : Int32)) 41 dX12_water_40 rfl (by decide) ?_
    cases h
    exact j_zret dX12_water_41 rfl j_b01_0
  · replace h := j_neg hc h
    refine j_aload_n 14 dX12_water_13 rfl rfl 0 rfl ?_
    refine j_iload_n 15 dX12_water_14 rfl rfl 2 rfl ?_
    obtain ⟨q2, hq2, h⟩ := j_bs h
    refine j_callV (rest := []) (As := [.int l2]) 18 dX12_water_15 rfl jyX12_isParcel (tcX12_isParcel hL  hq2) (sh_66 hL) cl12 flX12_230 wm1708 wm40 (by decide) rfl rfl (Nat.le_of_ble_eq_true rfl) ?_
    refine j_if_eq 40 21 dX12_water_18 (by decide) rfl (fun hc => ?_) (fun hc => ?_)
    · replace h := j_pos hc h
      refine j_iconst (v := (0 : Int32)) 41 dX12_water_40 rfl (by decide) ?_
      cases h
      exact j_zret dX12_water_41 rfl j_b01_0
    · replace h := j_neg hc h
      refine j_iload_n 22 dX12_water_21 rfl rfl 1 rfl ?_
      refine j_iload_n 23 dX12_water_22 rfl rfl 2 rfl ?_
      refine j_icmp_eq 40 26 dX12_water_23 (by decide) rfl (fun hc => ?_) (fun hc => ?_)
      · replace h := j_pos hc h
        refine j_iconst (v := (0 : Int32)) 41 dX12_water_40 rfl (by decide) ?_
        cases h
        exact j_zret dX12_water_41 rfl j_b01_0
      · replace h := j_neg hc h
        refine j_aload_n 27 dX12_water_26 rfl rfl 0 rfl ?_
        refine j_getG 30 dX12_water_27 rfl (sh_66 hL) cl12 (k := 4) (by decide) flX12_20 rfl (gs_66_4 hL) ?_
        refine j_bipush (v := (12 : Int32)) 32 dX12_water_30 rfl (by decide) ?_
        refine j_iload_n 33 dX12_water_32 rfl rfl 1 rfl ?_
        refine j_imul 34 dX12_water_33 rfl ?_
        refine j_iload_n 35 dX12_water_34 rfl rfl 2 rfl ?_
        refine j_iadd 36 dX12_water_35 rfl ?_
        obtain ⟨hg, h⟩ := j_gs h
        refine j_zald 37 dX12_water_36 rfl (sh_70 hL) (j_inv hg) ?_
        refine j_if_eq 42 40 dX12_water_37 (by decide) rfl (fun hc => ?_) (fun hc => ?_)
        · replace h := j_pos hc h
          refine j_aload_n 43 dX12_water_42 rfl rfl 0 rfl ?_
          refine j_getG 46 dX12_water_43 rfl (sh_66 hL) cl12 (k := 4) (by decide) flX12_20 rfl (gs_66_4 hL) ?_
          refine j_bipush (v := (12 : Int32)) 48 dX12_water_46 rfl (by decide) ?_
          refine j_iload_n 49 dX12_water_48 rfl rfl 1 rfl ?_
          refine j_imul 50 dX12_water_49 rfl ?_
          refine j_iload_n 51 dX12_water_50 rfl rfl 2 rfl ?_
          refine j_iadd 52 dX12_water_51 rfl ?_
          refine j_iconst (v := (1 : Int32)) 53 dX12_water_52 rfl (by decide) ?_
          obtain ⟨hg, h⟩ := j_gs h
          refine j_zast 54 dX12_water_53 rfl (sh_70 hL) (j_inv hg) j_b01_1 ?_
          refine j_aload_n 55 dX12_water_54 rfl rfl 0 rfl ?_
          refine j_getG 58 dX12_water_55 rfl (sh_66 hL) cl12 (k := 4) (by decide) flX12_20 rfl (gs_66_4 hL) ?_
          refine j_bipush (v := (12 : Int32)) 60 dX12_water_58 rfl (by decide) ?_
          refine j_iload_n 61 dX12_water_60 rfl rfl 2 rfl ?_
          refine j_imul 62 dX12_water_61 rfl ?_
          refine j_iload_n 63 dX12_water_62 rfl rfl 1 rfl ?_
          refine j_iadd 64 dX12_water_63 rfl ?_
          refine j_iconst (v := (1 : Int32)) 65 dX12_water_64 rfl (by decide) ?_
          obtain ⟨hg, h⟩ := j_gs h
          refine j_zast 66 dX12_water_65 rfl (sh_70 hL) (j_inv hg) j_b01_1 ?_
          refine j_iconst (v := (1 : Int32)) 67 dX12_water_66 rfl (by decide) ?_
          cases h
          exact j_zret dX12_water_67 rfl j_b01_1
        · replace h := j_neg hc h
          refine j_iconst (v := (0 : Int32)) 41 dX12_water_40 rfl (by decide) ?_
          cases h
          exact j_zret dX12_water_41 rfl j_b01_0
def fX12_kin (l1 : Int32) (l2 : Int32) (l3 : Int32) (I : JI) : Option (Int32 × JI) :=
  (fX12_isPerson l1).bind (fun q1 => if q1 = 0 then (some ((0 : Int32), (j_up I 66 0 (0 : Int32)))) else ((fX12_isPerson l2).bind (fun q2 => if q2 = 0 then (some ((0 : Int32), (j_up I 66 0 (0 : Int32)))) else (if l1 = l2 then (some ((0 : Int32), (j_up I 66 0 (0 : Int32)))) else ((fX12_within l3 (0 : Int32) (3 : Int32)).bind (fun q3 => if q3 = 0 then (some ((0 : Int32), (j_up I 66 0 (0 : Int32)))) else (j_g (j_in (((16 : Int32) * l1) + l2) 256) (j_g (j_in (((16 : Int32) * l2) + l1) 256) (some ((1 : Int32), (j_up (j_up (j_up I 66 0 (0 : Int32)) 71 (((16 : Int32) * l1) + l2).toNatClampNeg l3) 71 (((16 : Int32) * l2) + l1).toNatClampNeg l3)))))))))))
set_option maxHeartbeats 4000000 in
set_option maxRecDepth 100000 in
theorem tcX12_kin {E : JE} {l1 : Int32} {l2 : Int32} {l3 : Int32} {r : Int32 × JI} {I : JI} {L : JL} {G D : JG} {S : JS} (hL : Lay G S) (h : fX12_kin l1 l2 l3 I = some r) : CallJ E xX12_kin 2 [.ref (E.1 + 66), .int l1, .int l2, .int l3] I L G D S (some (.int r.1)) r.2 L G D S := by
  unfold fX12_kin at h
  refine j_entry (by decide) (Nat.le_of_ble_eq_true rfl) ?_
  show AtJ E xX12_kin (Zr E (some (.int r.1)) r.2 L G D S) ((S).length, jm_sl S) 2 0 [(0, .ref (E.1 + 66)), (1, .int l1), (2, .int l2), (3, .int l3)] [] I L G D S
  refine j_aload_n 1 dX12_kin_0 rfl rfl 0 rfl ?_
  refine j_iconst (v := (0 : Int32)) 2 dX12_kin_1 rfl (by decide) ?_
  refine j_putI 5 dX12_kin_2 rfl (sh_66 hL) cl12 (k := 0) (by decide) flX12_218 rfl rfl rfl ?_
  refine j_iload_n 6 dX12_kin_5 rfl rfl 1 rfl ?_
  obtain ⟨q1, hq1, h⟩ := j_bs h
  refine j_callS (rest := []) (As := [.int l1]) 9 dX12_kin_6 rfl jyX12_isPerson (tcX12_isPerson   hq1) flX12_226 wm1700 (by decide) rfl rfl (Nat.le_of_ble_eq_true rfl) ?_
  refine j_if_eq 33 12 dX12_kin_9 (by decide) rfl (fun hc => ?_) (fun hc => ?_)
  · replace h := j_pos hc h
    refine j_iconst (v := (0 : Int32)) 34 dX12_kin_33 rfl (by decide) ?_
    cases h
    exact j_zret dX12_kin_34 rfl j_b01_0
  · replace h := j_neg hc h
    refine j_iload_n 13 dX12_kin_12 rfl rfl 2 rfl ?_
    obtain ⟨q2, hq2, h⟩ := j_bs h
    refine j_callS (rest := []) (As := [.int l2]) 16 dX12_kin_13 rfl jyX12_isPerson (tcX12_isPerson   hq2) flX12_226 wm1700 (by decide) rfl rfl (Nat.le_of_ble_eq_true rfl) ?_
    refine j_if_eq 33 19 dX12_kin_16 (by decide) rfl (fun hc => ?_) (fun hc => ?_)
    · replace h := j_pos hc h
      refine j_iconst (v := (0 : Int32)) 34 dX12_kin_33 rfl (by decide) ?_
      cases h
      exact j_zret dX12_kin_34 rfl j_b01_0
    · replace h := j_neg hc h
      refine j_iload_n 20 dX12_kin_19 rfl rfl 1 rfl ?_
      refine j_iload_n 21 dX12_kin_20 rfl rfl 2 rfl ?_
      refine j_icmp_eq 33 24 dX12_kin_21 (by decide) rfl (fun hc => ?_) (fun hc => ?_)
      · replace h := j_pos hc h
        refine j_iconst (v := (0 : Int32)) 34 dX12_kin_33 rfl (by decide) ?_
        cases h
        exact j_zret dX12_kin_34 rfl j_b01_0
      · replace h := j_neg hc h
        refine j_iload_n 25 dX12_kin_24 rfl rfl 3 rfl ?_
        refine j_iconst (v := (0 : Int32)) 26 dX12_kin_25 rfl (by decide) ?_
        refine j_iconst (v := (3 : Int32)) 27 dX12_kin_26 rfl (by decide) ?_
        obtain ⟨q3, hq3, h⟩ := j_bs h
        refine j_callS (rest := []) (As := [.int l3, .int (0 : Int32), .int (3 : Int32)]) 30 dX12_kin_27 rfl jyX12_within (tcX12_within   hq3) flX12_222 wm1697 (by decide) rfl rfl (Nat.le_of_ble_eq_true rfl) ?_
        refine j_if_ne 35 33 dX12_kin_30 (by decide) rfl (fun hc => ?_) (fun hc => ?_)
        · replace h := j_neg hc h
          refine j_aload_n 36 dX12_kin_35 rfl rfl 0 rfl ?_
          refine j_getG 39 dX12_kin_36 rfl (sh_66 hL) cl12 (k := 5) (by decide) flX12_23 rfl (gs_66_5 hL) ?_
          refine j_bipush (v := (16 : Int32)) 41 dX12_kin_39 rfl (by decide) ?_
          refine j_iload_n 42 dX12_kin_41 rfl rfl 1 rfl ?_
          refine j_imul 43 dX12_kin_42 rfl ?_
          refine j_iload_n 44 dX12_kin_43 rfl rfl 2 rfl ?_
          refine j_iadd 45 dX12_kin_44 rfl ?_
          refine j_iload_n 46 dX12_kin_45 rfl rfl 3 rfl ?_
          obtain ⟨hg, h⟩ := j_gs h
          refine j_iast 47 dX12_kin_46 rfl (sh_71 hL) (j_inv hg) ?_
          refine j_aload_n 48 dX12_kin_47 rfl rfl 0 rfl ?_
          refine j_getG 51 dX12_kin_48 rfl (sh_66 hL) cl12 (k := 5) (by decide) flX12_23 rfl (gs_66_5 hL) ?_
          refine j_bipush (v := (16 : Int32)) 53 dX12_kin_51 rfl (by decide) ?_
          refine j_iload_n 54 dX12_kin_53 rfl rfl 2 rfl ?_
          refine j_imul 55 dX12_kin_54 rfl ?_
          refine j_iload_n 56 dX12_kin_55 rfl rfl 1 rfl ?_
          refine j_iadd 57 dX12_kin_56 rfl ?_
          refine j_iload_n 58 dX12_kin_57 rfl rfl 3 rfl ?_
          obtain ⟨hg, h⟩ := j_gs h
          refine j_iast 59 dX12_kin_58 rfl (sh_71 hL) (j_inv hg) ?_
          refine j_iconst (v := (1 : Int32)) 60 dX12_kin_59 rfl (by decide) ?_
          cases h
          exact j_zret dX12_kin_60 rfl j_b01_1
        · replace h := j_pos hc h
          refine j_iconst (v := (0 : Int32)) 34 dX12_kin_33 rfl (by decide) ?_
          cases h
          exact j_zret dX12_kin_34 rfl j_b01_0
def fX12_need (l1 : Int32) (l2 : Int32) (I : JI) : Option (Int32 × JI) :=
  (fX12_isPerson l1).bind (fun q1 => if q1 = 0 then (some ((0 : Int32), (j_up I 66 0 (0 : Int32)))) else (j_g (j_in l1 16) (j_g (decide (jm_b01 l2 = l2)) (some ((1 : Int32), (j_up (j_up I 66 0 (0 : Int32)) 72 l1.toNatClampNeg l2))))))
set_option maxHeartbeats 4000000 in
set_option maxRecDepth 100000 in
theorem tcX12_need {E : JE} {l1 : Int32} {l2 : Int32} {r : Int32 × JI} {I : JI} {L : JL} {G D : JG} {S : JS} (hL : Lay G S) (h : fX12_need l1 l2 I = some r) : CallJ E xX12_need 2 [.ref (E.1 + 66), .int l1, .int l2] I L G D S (some (.int r.1)) r.2 L G D S := by
  unfold fX12_need at h
  refine j_entry (by decide) (Nat.le_of_ble_eq_true rfl) ?_
  show AtJ E xX12_need (Zr E (some (.int r.1)) r.2 L G D S) ((S).length, jm_sl S) 2 0 [(0, .ref (E.1 + 66)), (1, .int l1), (2, .int l2)] [] I L G D S
  refine j_aload_n 1 dX12_need_0 rfl rfl 0 rfl ?_
  refine j_iconst (v := (0 : Int32)) 2 dX12_need_1 rfl (by decide) ?_
  refine j_putI 5 dX12_need_2 rfl (sh_66 hL) cl12 (k := 0) (by decide) flX12_218 rfl rfl rfl ?_
  refine j_iload_n 6 dX12_need_5 rfl rfl 1 rfl ?_
  obtain ⟨q1, hq1, h⟩ := j_bs h
  refine j_callS (rest := []) (As := [.int l1]) 9 dX12_need_6 rfl jyX12_isPerson (tcX12_isPerson   hq1) flX12_226 wm1700 (by decide) rfl rfl (Nat.le_of_ble_eq_true rfl) ?_
  refine j_if_ne 14 12 dX12_need_9 (by decide) rfl (fun hc => ?_) (fun hc => ?_)
  · replace h := j_neg hc h
    refine j_aload_n 15 dX12_need_14 rfl rfl 0 rfl ?_
    refine j_getG 18 dX12_need_15 rfl (sh_66 hL) cl12 (k := 6) (by decide) flX12_26 rfl (gs_66_6 hL) ?_
    refine j_iload_n 19 dX12_need_18 rfl rfl 1 rfl ?_
    refine j_iload_n 20 dX12_need_19 rfl rfl 2 rfl ?_
    obtain ⟨hg, h⟩ := j_gs h
    obtain ⟨hz, h⟩ := j_gs h
    refine j_zast 21 dX12_need_20 rfl (sh_72 hL) (j_inv hg) (of_decide_eq_true hz) ?_
    refine j_iconst (v := (1 : Int32)) 22 dX12_need_21 rfl (by decide) ?_
    cases h
    exact j_zret dX12_need_22 rfl j_b01_1
  · replace h := j_pos hc h
    refine j_iconst (v := (0 : Int32)) 13 dX12_need_12 rfl (by decide) ?_
    cases h
    exact j_zret dX12_need_13 rfl j_b01_0
def fX12_care (l1 : Int32) (l2 : Int32) (I : JI) : Option (Int32 × JI) :=
  (fX12_isPerson l1).bind (fun q1 => if q1 = 0 then (some ((0 : Int32), (j_up I 66 0 (0 : Int32)))) else (j_g (j_in l1 16) (j_g (decide (jm_b01 l2 = l2)) (some ((1 : Int32), (j_up (j_up I 66 0 (0 : Int32)) 73 l1.toNatClampNeg l2))))))
set_option maxHeartbeats 4000000 in
set_option maxRecDepth 100000 in
theorem tcX12_care {E : JE} {l1 : Int32} {l2 : Int32} {r : Int32 × JI} {I : JI} {L : JL} {G D : JG} {S : JS} (hL : Lay G S) (h : fX12_care l1 l2 I = some r) : CallJ E xX12_care 2 [.ref (E.1 + 66), .int l1, .int l2] I L G D S (some (.int r.1)) r.2 L G D S := by
  unfold fX12_care at h
  refine j_entry (by decide) (Nat.le_of_ble_eq_true rfl) ?_
  show AtJ E xX12_care (Zr E (some (.int r.1)) r.2 L G D S) ((S).length, jm_sl S) 2 0 [(0, .ref (E.1 + 66)), (1, .int l1), (2, .int l2)] [] I L G D S
  refine j_aload_n 1 dX12_care_0 rfl rfl 0 rfl ?_
  refine j_iconst (v := (0 : Int32)) 2 dX12_care_1 rfl (by decide) ?_
  refine j_putI 5 dX12_care_2 rfl (sh_66 hL) cl12 (k := 0) (by decide) flX12_218 rfl rfl rfl ?_
  refine j_iload_n 6 dX12_care_5 rfl rfl 1 rfl ?_
  obtain ⟨q1, hq1, h⟩ := j_bs h
  refine j_callS (rest := []) (As := [.int l1]) 9 dX12_care_6 rfl jyX12_isPerson (tcX12_isPerson   hq1) flX12_226 wm1700 (by decide) rfl rfl (Nat.le_of_ble_eq_true rfl) ?_
  refine j_if_ne 14 12 dX12_care_9 (by decide) rfl (fun hc => ?_) (fun hc => ?_)
  · replace h := j_neg hc h
    refine j_aload_n 15 dX12_care_14 rfl rfl 0 rfl ?_
    refine j_getG 18 dX12_care_15 rfl (sh_66 hL) cl12 (k := 7) (by decide) flX12_29 rfl (gs_66_7 hL) ?_
    refine j_iload_n 19 dX12_care_18 rfl rfl 1 rfl ?_
    refine j_iload_n 20 dX12_care_19 rfl rfl 2 rfl ?_
    obtain ⟨hg, h⟩ := j_gs h
    obtain ⟨hz, h⟩ := j_gs h
    refine j_zast 21 dX12_care_20 rfl (sh_73 hL) (j_inv hg) (of_decide_eq_true hz) ?_
    refine j_iconst (v := (1 : Int32)) 22 dX12_care_21 rfl (by decide) ?_
    cases h
    exact j_zret dX12_care_22 rfl j_b01_1
  · replace h := j_pos hc h
    refine j_iconst (v := (0 : Int32)) 13 dX12_care_12 rfl (by decide) ?_
    cases h
    exact j_zret dX12_care_13 rfl j_b01_0
def fX12_days (l1 : Int32) (I : JI) : Option (Int32 × JI) :=
  (fX12_within l1 (0 : Int32) (1000 : Int32)).bind (fun q1 => if q1 = 0 then (some ((-1 : Int32), (j_up I 66 0 (0 : Int32)))) else (if (((j_up I 66 0 (0 : Int32)) 66 8) + l1) ≤ (9999 : Int32) then (some (((j_up (j_up I 66 0 (0 : Int32)) 66 8 (((j_up I 66 0 (0 : Int32)) 66 8) + l1)) 66 8), (j_up (j_up I 66 0 (0 : Int32)) 66 8 (((j_up I 66 0 (0 : Int32)) 66 8) + l1)))) else (some ((-1 : Int32), (j_up I 66 0 (0 : Int32))))))
set_option maxHeartbeats 4000000 in
set_option maxRecDepth 100000 in
theorem tcX12_days {E : JE} {l1 : Int32} {r : Int32 × JI} {I : JI} {L : JL} {G D : JG} {S : JS} (hL : Lay G S) (h : fX12_days l1 I = some r) : CallJ E xX12_days 2 [.ref (E.1 + 66), .int l1] I L G D S (some (.int r.1)) r.2 L G D S := by
  unfold fX12_days at h
  refine j_entry (by decide) (Nat.le_of_ble_eq_true rfl) ?_
  show AtJ E xX12_days (Zr E (some (.int r.1)) r.2 L G D S) ((S).length, jm_sl S) 2 0 [(0, .ref (E.1 + 66)), (1, .int l1)] [] I L G D S
  refine j_aload_n 1 dX12_days_0 rfl rfl 0 rfl ?_
  refine j_iconst (v := (0 : Int32)) 2 dX12_days_1 rfl (by decide) ?_
  refine j_putI 5 dX12_days_2 rfl (sh_66 hL) cl12 (k := 0) (by decide) flX12_218 rfl rfl rfl ?_
  refine j_iload_n 6 dX12_days_5 rfl rfl 1 rfl ?_
  refine j_iconst (v := (0 : Int32)) 7 dX12_days_6 rfl (by decide) ?_
  refine j_sipush (v := (1000 : Int32)) 10 dX12_days_7 rfl (by decide) ?_
  obtain ⟨q1, hq1, h⟩ := j_bs h
  refine j_callS (rest := []) (As := [.int l1, .int (0 : Int32), .int (1000 : Int32)]) 13 dX12_days_10 rfl jyX12_within (tcX12_within   hq1) flX12_222 wm1697 (by decide) rfl rfl (Nat.le_of_ble_eq_true rfl) ?_
  refine j_if_eq 28 16 dX12_days_13 (by decide) rfl (fun hc => ?_) (fun hc => ?_)
  · replace h := j_pos hc h
    refine j_iconst (v := (-1 : Int32)) 29 dX12_days_28 rfl (by decide) ?_
    cases h
    exact j_iret dX12_days_29 rfl
  · replace h := j_neg hc h
    refine j_aload_n 17 dX12_days_16 rfl rfl 0 rfl ?_
    refine j_getI 20 dX12_days_17 rfl (sh_66 hL) cl12 (k := 8) (by decide) flX12_237 rfl ?_
    refine j_iload_n 21 dX12_days_20 rfl rfl 1 rfl ?_
    refine j_iadd 22 dX12_days_21 rfl ?_
    refine j_sipush (v := (9999 : Int32)) 25 dX12_days_22 rfl (by decide) ?_
    refine j_icmp_le 30 28 dX12_days_25 (by decide) rfl (fun hc => ?_) (fun hc => ?_)
    · replace h := j_pos hc h
      refine j_aload_n 31 dX12_days_30 rfl rfl 0 rfl ?_
      refine j_dup 32 dX12_days_31 rfl rfl ?_
      refine j_getI 35 dX12_days_32 rfl (sh_66 hL) cl12 (k := 8) (by decide) flX12_237 rfl ?_
      refine j_iload_n 36 dX12_days_35 rfl rfl 1 rfl ?_
      refine j_iadd 37 dX12_days_36 rfl ?_
      refine j_putI 40 dX12_days_37 rfl (sh_66 hL) cl12 (k := 8) (by decide) flX12_237 rfl rfl rfl ?_
      refine j_aload_n 41 dX12_days_40 rfl rfl 0 rfl ?_
      refine j_getI 44 dX12_days_41 rfl (sh_66 hL) cl12 (k := 8) (by decide) flX12_237 rfl ?_
      cases h
      exact j_iret dX12_days_44 rfl
    · replace h := j_neg hc h
      refine j_iconst (v := (-1 : Int32)) 29 dX12_days_28 rfl (by decide) ?_
      cases h
      exact j_iret dX12_days_29 rfl
def fX12_holds (l1 : Int32) (l2 : Int32) (I : JI) : Option (Int32 × JI) :=
  (fX12_isParcel l1 (j_up I 66 0 (0 : Int32))).bind (fun q1 => if q1 = 0 then (some ((-1 : Int32), (j_up I 66 0 (0 : Int32)))) else ((fX12_isPerson l2).bind (fun q2 => if q2 = 0 then (some ((-1 : Int32), (j_up I 66 0 (0 : Int32)))) else (j_g (j_in (((16 : Int32) * l1) + l2) 192) (some (((j_up I 66 0 (0 : Int32)) 68 (((16 : Int32) * l1) + l2).toNatClampNeg), (j_up I 66 0 (0 : Int32))))))))
set_option maxHeartbeats 4000000 in
set_option maxRecDepth 100000 in
theorem tcX12_holds {E : JE} {l1 : Int32} {l2 : Int32} {r : Int32 × JI} {I : JI} {L : JL} {G D : JG} {S : JS} (hL : Lay G S) (h : fX12_holds l1 l2 I = some r) : CallJ E xX12_holds 3 [.ref (E.1 + 66), .int l1, .int l2] I L G D S (some (.int r.1)) r.2 L G D S := by
  unfold fX12_holds at h
  refine j_entry (by decide) (Nat.le_of_ble_eq_true rfl) ?_
  show AtJ E xX12_holds (Zr E (some (.int r.1)) r.2 L G D S) ((S).length, jm_sl S) 3 0 [(0, .ref (E.1 + 66)), (1, .int l1), (2, .int l2)] [] I L G D S
  refine j_aload_n 1 dX12_holds_0 rfl rfl 0 rfl ?_
  refine j_iconst (v := (0 : Int32)) 2 dX12_holds_1 rfl (by decide) ?_
  refine j_putI 5 dX12_holds_2 rfl (sh_66 hL) cl12 (k := 0) (by decide) flX12_218 rfl rfl rfl ?_
  refine j_aload_n 6 dX12_holds_5 rfl rfl 0 rfl ?_
  refine j_iload_n 7 dX12_holds_6 rfl rfl 1 rfl ?_
  obtain ⟨q1, hq1, h⟩ := j_bs h
  refine j_callV (rest := []) (As := [.int l1]) 10 dX12_holds_7 rfl jyX12_isParcel (tcX12_isParcel hL  hq1) (sh_66 hL) cl12 flX12_230 wm1708 wm40 (by decide) rfl rfl (Nat.le_of_ble_eq_true rfl) ?_
  refine j_if_eq 34 13 dX12_holds_10 (by decide) rfl (fun hc => ?_) (fun hc => ?_)
  · replace h := j_pos hc h
    refine j_iconst (v := (-1 : Int32)) 35 dX12_holds_34 rfl (by decide) ?_
    cases h
    exact j_iret dX12_holds_35 rfl
  · replace h := j_neg hc h
    refine j_iload_n 14 dX12_holds_13 rfl rfl 2 rfl ?_
    obtain ⟨q2, hq2, h⟩ := j_bs h
    refine j_callS (rest := []) (As := [.int l2]) 17 dX12_holds_14 rfl jyX12_isPerson (tcX12_isPerson   hq2) flX12_226 wm1700 (by decide) rfl rfl (Nat.le_of_ble_eq_true rfl) ?_
    refine j_if_eq 34 20 dX12_holds_17 (by decide) rfl (fun hc => ?_) (fun hc => ?_)
    · replace h := j_pos hc h
      refine j_iconst (v := (-1 : Int32)) 35 dX12_holds_34 rfl (by decide) ?_
      cases h
      exact j_iret dX12_holds_35 rfl
    · replace h := j_neg hc h
      refine j_aload_n 21 dX12_holds_20 rfl rfl 0 rfl ?_
      refine j_getG 24 dX12_holds_21 rfl (sh_66 hL) cl12 (k := 2) (by decide) flX12_13 rfl (gs_66_2 hL) ?_
      refine j_bipush (v := (16 : Int32)) 26 dX12_holds_24 rfl (by decide) ?_
      refine j_iload_n 27 dX12_holds_26 rfl rfl 1 rfl ?_
      refine j_imul 28 dX12_holds_27 rfl ?_
      refine j_iload_n 29 dX12_holds_28 rfl rfl 2 rfl ?_
      refine j_iadd 30 dX12_holds_29 rfl ?_
      obtain ⟨hg, h⟩ := j_gs h
      refine j_iald 31 dX12_holds_30 rfl (sh_68 hL) (j_inv hg) ?_
      refine j_goto 35 dX12_holds_31 (by decide) ?_
      cases h
      exact j_iret dX12_holds_35 rfl
def fX12_joins (l1 : Int32) (l2 : Int32) (l3 : Int32) (I : JI) : Option (Int32) :=
  if l3 = (2 : Int32) then (j_g (j_in (((12 : Int32) * l1) + l2) 144) (if (I 69 (((12 : Int32) * l1) + l2).toNatClampNeg) ≤ 0 then (some ((0 : Int32))) else (some ((1 : Int32))))) else (j_g (j_in (((12 : Int32) * l1) + l2) 144) (some ((jm_b01 (I 70 (((12 : Int32) * l1) + l2).toNatClampNeg)))))
set_option maxHeartbeats 4000000 in
set_option maxRecDepth 100000 in
theorem tcX12_joins {E : JE} {l1 : Int32} {l2 : Int32} {l3 : Int32} {r : Int32} {I : JI} {L : JL} {G D : JG} {S : JS} (hL : Lay G S) (h : fX12_joins l1 l2 l3 I = some r) : CallJ E xX12_joins 1 [.ref (E.1 + 66), .int l1, .int l2, .int l3] I L G D S (some (.int r)) I L G D S := by
  unfold fX12_joins at h
  refine j_entry (by decide) (Nat.le_of_ble_eq_true rfl) ?_
  show AtJ E xX12_joins (Zr E (some (.int r)) I L G D S) ((S).length, jm_sl S) 1 0 [(0, .ref (E.1 + 66)), (1, .int l1), (2, .int l2), (3, .int l3)] [] I L G D S
  refine j_iload_n 1 dX12_joins_0 rfl rfl 3 rfl ?_
  refine j_iconst (v := (2 : Int32)) 2 dX12_joins_1 rfl (by decide) ?_
  refine j_icmp_ne 27 5 dX12_joins_2 (by decide) rfl (fun hc => ?_) (fun hc => ?_)
  · replace h := j_neg hc h
    refine j_aload_n 28 dX12_joins_27 rfl rfl 0 rfl ?_
    refine j_getG 31 dX12_joins_28 rfl (sh_66 hL) cl12 (k := 4) (by decide) flX12_20 rfl (gs_66_4 hL) ?_
    refine j_bipush (v := (12 : Int32)) 33 dX12_joins_31 rfl (by decide) ?_
    refine j_iload_n 34 dX12_joins_33 rfl rfl 1 rfl ?_
    refine j_imul 35 dX12_joins_34 rfl ?_
    refine j_iload_n 36 dX12_joins_35 rfl rfl 2 rfl ?_
    refine j_iadd 37 dX12_joins_36 rfl ?_
    obtain ⟨hg, h⟩ := j_gs h
    refine j_zald 38 dX12_joins_37 rfl (sh_70 hL) (j_inv hg) ?_
    cases h
    exact j_zret dX12_joins_38 rfl (jm_b01_idem _)
  · replace h := j_pos hc h
    refine j_aload_n 6 dX12_joins_5 rfl rfl 0 rfl ?_
    refine j_getG 9 dX12_joins_6 rfl (sh_66 hL) cl12 (k := 3) (by decide) flX12_17 rfl (gs_66_3 hL) ?_
    refine j_bipush (v := (12 : Int32)) 11 dX12_joins_9 rfl (by decide) ?_
    refine j_iload_n 12 dX12_joins_11 rfl rfl 1 rfl ?_
    refine j_imul 13 dX12_joins_12 rfl ?_
    refine j_iload_n 14 dX12_joins_13 rfl rfl 2 rfl ?_
    refine j_iadd 15 dX12_joins_14 rfl ?_
    obtain ⟨hg, h⟩ := j_gs h
    refine j_iald 16 dX12_joins_15 rfl (sh_69 hL) (j_inv hg) ?_
    refine j_if_le 23 19 dX12_joins_16 (by decide) rfl (fun hc => ?_) (fun hc => ?_)
    · replace h := j_pos hc h
      refine j_iconst (v := (0 : Int32)) 24 dX12_joins_23 rfl (by decide) ?_
      refine j_goto 38 dX12_joins_24 (by decide) ?_
      cases h
      exact j_zret dX12_joins_38 rfl j_b01_0
    · replace h := j_neg hc h
      refine j_iconst (v := (1 : Int32)) 20 dX12_joins_19 rfl (by decide) ?_
      refine j_goto 38 dX12_joins_20 (by decide) ?_
      cases h
      exact j_zret dX12_joins_38 rfl j_b01_1
def fX12_weight_49 : Nat → Int32 → Int32 → Int32 → Int32 → Int32 → JI → Option (Int32)
  | 0, _, _, _, _, _, _ => none
  | n + 1, l1, l2, l4, l5, l6, I =>
    if (12 : Int32) ≤ l6 then (some (l5)) else ((fX12_joins l2 l6 l1 I).bind (fun q1 => if q1 = 0 then ((fX12_weight_49 n) l1 l2 l4 (l5 + (0 : Int32)) (l6 + (1 : Int32)) I) else (j_g (j_in (((16 : Int32) * l6) + l4) 192) ((fX12_weight_49 n) l1 l2 l4 (l5 + (I 68 (((16 : Int32) * l6) + l4).toNatClampNeg)) (l6 + (1 : Int32)) I))))
set_option maxHeartbeats 4000000 in
set_option maxRecDepth 100000 in
theorem kX12_weight_49 {E : JE} {r : Int32} {L : JL} {G : JG} {D : JG} {S : JS} (hL : Lay G S) : ∀ (n : Nat) (l1 : Int32) (l2 : Int32) (l4 : Int32) (l5 : Int32) (l6 : Int32) (I : JI), fX12_weight_49 n l1 l2 l4 l5 l6 I = some r → AtJ E xX12_weight (Zr E (some (.int r)) I L G D S) ((S).length, jm_sl S) 2 49 [(0, .ref (E.1 + 66)), (1, .int l1), (2, .int l2), (4, .int l4), (5, .int l5), (6, .int l6)] [] I L G D S := by
  intro n
  induction n with
  | zero => intro l1 l2 l4 l5 l6 I  h; simp [fX12_weight_49] at h
  | succ n ih =>
    intro l1 l2 l4 l5 l6 I  h
    rw [fX12_weight_49] at h
    refine j_iload 51 dX12_weight_49 rfl 5 rfl ?_
    refine j_bipush (v := (12 : Int32)) 53 dX12_weight_51 rfl (by decide) ?_
    refine j_icmp_ge 95 56 dX12_weight_53 (by decide) rfl (fun hc => ?_) (fun hc => ?_)
    · replace h := j_pos hc h
      refine j_iload 97 dX12_weight_95 rfl 4 rfl ?_
      cases h
      exact j_iret dX12_weight_97 rfl
    · replace h := j_neg hc h
      refine j_iload 58 dX12_weight_56 rfl 4 rfl ?_
      refine j_aload_n 59 dX12_weight_58 rfl rfl 0 rfl ?_
      refine j_iload_n 60 dX12_weight_59 rfl rfl 2 rfl ?_
      refine j_iload 62 dX12_weight_60 rfl 5 rfl ?_
      refine j_iload_n 63 dX12_weight_62 rfl rfl 1 rfl ?_
      obtain ⟨q1, hq1, h⟩ := j_bs h
      refine j_callV (rest := [.int l5]) (As := [.int l2, .int l6, .int l1]) 66 dX12_weight_63 rfl jyX12_joins (tcX12_joins hL  hq1) (sh_66 hL) cl12 flX12_240 wm1752 wm43 (by decide) rfl rfl (Nat.le_of_ble_eq_true rfl) ?_
      refine j_if_eq 85 69 dX12_weight_66 (by decide) rfl (fun hc => ?_) (fun hc => ?_)
      · replace h := j_pos hc h
        refine j_iconst (v := (0 : Int32)) 86 dX12_weight_85 rfl (by decide) ?_
        refine j_iadd 87 dX12_weight_86 rfl ?_
        refine j_istore (lv' := [(5, .int (l5 + (0 : Int32))), (0, .ref (E.1 + 66)), (1, .int l1), (2, .int l2), (4, .int l4), (6, .int l6)]) 89 dX12_weight_87 rfl (by decide) rfl ?_
        refine j_iinc (v := (l6 + (1 : Int32))) (lv' := [(6, .int (l6 + (1 : Int32))), (5, .int (l5 + (0 : Int32))), (0, .ref (E.1 + 66)), (1, .int l1), (2, .int l2), (4, .int l4)]) (q := 5) 92 dX12_weight_89 rfl rfl rfl (by decide) rfl ?_
        refine j_goto 49 dX12_weight_92 (by decide) ?_
        refine j_sub [2, 3, 4, 5, 1, 0] rfl ?_
        exact ih _ _ _ _ _ _  h
      · replace h := j_neg hc h
        refine j_aload_n 70 dX12_weight_69 rfl rfl 0 rfl ?_
        refine j_getG 73 dX12_weight_70 rfl (sh_66 hL) cl12 (k := 2) (by decide) flX12_13 rfl (gs_66_2 hL) ?_
        refine j_bipush (v := (16 : Int32)) 75 dX12_weight_73 rfl (by decide) ?_
        refine j_iload 77 dX12_weight_75 rfl 5 rfl ?_
        refine j_imul 78 dX12_weight_77 rfl ?_
        refine j_iload 80 dX12_weight_78 rfl 3 rfl ?_
        refine j_iadd 81 dX12_weight_80 rfl ?_
        obtain ⟨hg, h⟩ := j_gs h
        refine j_iald 82 dX12_weight_81 rfl (sh_68 hL) (j_inv hg) ?_
        refine j_goto 86 dX12_weight_82 (by decide) ?_
        refine j_iadd 87 dX12_weight_86 rfl ?_
        refine j_istore (lv' := [(5, .int (l5 + (I 68 (((16 : Int32) * l6) + l4).toNatClampNeg))), (0, .ref (E.1 + 66)), (1, .int l1), (2, .int l2), (4, .int l4), (6, .int l6)]) 89 dX12_weight_87 rfl (by decide) rfl ?_
        refine j_iinc (v := (l6 + (1 : Int32))) (lv' := [(6, .int (l6 + (1 : Int32))), (5, .int (l5 + (I 68 (((16 : Int32) * l6) + l4).toNatClampNeg))), (0, .ref (E.1 + 66)), (1, .int l1), (2, .int l2), (4, .int l4)]) (q := 5) 92 dX12_weight_89 rfl rfl rfl (by decide) rfl ?_
        refine j_goto 49 dX12_weight_92 (by decide) ?_
        refine j_sub [2, 3, 4, 5, 1, 0] rfl ?_
        exact ih _ _ _ _ _ _  h
def fX12_weight (l1 : Int32) (l2 : Int32) (l3 : Int32) (l4 : Int32) (I : JI) : Option (Int32) :=
  if l1 = 0 then (j_g (j_in (((16 : Int32) * l3) + l4) 256) (if (I 71 (((16 : Int32) * l3) + l4).toNatClampNeg) ≤ 0 then (some ((0 : Int32))) else (some ((1 : Int32))))) else (if l1 = (1 : Int32) then (j_g (j_in (((16 : Int32) * l2) + l4) 192) (some ((I 68 (((16 : Int32) * l2) + l4).toNatClampNeg)))) else (fX12_weight_49 100000 l1 l2 l4 (0 : Int32) (0 : Int32) I))
set_option maxHeartbeats 4000000 in
set_option maxRecDepth 100000 in
theorem tcX12_weight {E : JE} {l1 : Int32} {l2 : Int32} {l3 : Int32} {l4 : Int32} {r : Int32} {I : JI} {L : JL} {G D : JG} {S : JS} (hL : Lay G S) (h : fX12_weight l1 l2 l3 l4 I = some r) : CallJ E xX12_weight 2 [.ref (E.1 + 66), .int l1, .int l2, .int l3, .int l4] I L G D S (some (.int r)) I L G D S := by
  unfold fX12_weight at h
  refine j_entry (by decide) (Nat.le_of_ble_eq_true rfl) ?_
  show AtJ E xX12_weight (Zr E (some (.int r)) I L G D S) ((S).length, jm_sl S) 2 0 [(0, .ref (E.1 + 66)), (1, .int l1), (2, .int l2), (3, .int l3), (4, .int l4)] [] I L G D S
  refine j_iload_n 1 dX12_weight_0 rfl rfl 1 rfl ?_
  refine j_if_ne 25 4 dX12_weight_1 (by decide) rfl (fun hc => ?_) (fun hc => ?_)
  · replace h := j_neg hc h
    refine j_iload_n 26 dX12_weight_25 rfl rfl 1 rfl ?_
    refine j_iconst (v := (1 : Int32)) 27 dX12_weight_26 rfl (by decide) ?_
    refine j_icmp_ne 43 30 dX12_weight_27 (by decide) rfl (fun hc => ?_) (fun hc => ?_)
    · replace h := j_neg hc h
      refine j_iconst (v := (0 : Int32)) 44 dX12_weight_43 rfl (by decide) ?_
      refine j_istore (lv' := [(5, .int (0 : Int32)), (0, .ref (E.1 + 66)), (1, .int l1), (2, .int l2), (3, .int l3), (4, .int l4)]) 46 dX12_weight_44 rfl (by decide) rfl ?_
      refine j_iconst (v := (0 : Int32)) 47 dX12_weight_46 rfl (by decide) ?_
      refine j_istore (lv' := [(6, .int (0 : Int32)), (5, .int (0 : Int32)), (0, .ref (E.1 + 66)), (1, .int l1), (2, .int l2), (3, .int l3), (4, .int l4)]) 49 dX12_weight_47 rfl (by decide) rfl ?_
      refine j_sub [2, 3, 4, 6, 1, 0] rfl ?_
      exact kX12_weight_49 hL    100000 _ _ _ _ _ _  h
    · replace h := j_pos hc h
      refine j_aload_n 31 dX12_weight_30 rfl rfl 0 rfl ?_
      refine j_getG 34 dX12_weight_31 rfl (sh_66 hL) cl12 (k := 2) (by decide) flX12_13 rfl (gs_66_2 hL) ?_
      refine j_bipush (v := (16 : Int32)) 36 dX12_weight_34 rfl (by decide) ?_
      refine j_iload_n 37 dX12_weight_36 rfl rfl 2 rfl ?_
      refine j_imul 38 dX12_weight_37 rfl ?_
      refine j_iload 40 dX12_weight_38 rfl 4 rfl ?_
      refine j_iadd 41 dX12_weight_40 rfl ?_
      obtain ⟨hg, h⟩ := j_gs h
      refine j_iald 42 dX12_weight_41 rfl (sh_68 hL) (j_inv hg) ?_
      cases h
      exact j_iret dX12_weight_42 rfl
  · replace h := j_pos hc h
    refine j_aload_n 5 dX12_weight_4 rfl rfl 0 rfl ?_
    refine j_getG 8 dX12_weight_5 rfl (sh_66 hL) cl12 (k := 5) (by decide) flX12_23 rfl (gs_66_5 hL) ?_
    refine j_bipush (v := (16 : Int32)) 10 dX12_weight_8 rfl (by decide) ?_
    refine j_iload_n 11 dX12_weight_10 rfl rfl 3 rfl ?_
    refine j_imul 12 dX12_weight_11 rfl ?_
    refine j_iload 14 dX12_weight_12 rfl 4 rfl ?_
    refine j_iadd 15 dX12_weight_14 rfl ?_
    obtain ⟨hg, h⟩ := j_gs h
    refine j_iald 16 dX12_weight_15 rfl (sh_71 hL) (j_inv hg) ?_
    refine j_if_le 23 19 dX12_weight_16 (by decide) rfl (fun hc => ?_) (fun hc => ?_)
    · replace h := j_pos hc h
      refine j_iconst (v := (0 : Int32)) 24 dX12_weight_23 rfl (by decide) ?_
      cases h
      exact j_iret dX12_weight_24 rfl
    · replace h := j_neg hc h
      refine j_iconst (v := (1 : Int32)) 20 dX12_weight_19 rfl (by decide) ?_
      refine j_goto 24 dX12_weight_20 (by decide) ?_
      cases h
      exact j_iret dX12_weight_24 rfl
def fX12_stands_35 : Nat → Int32 → Int32 → Int32 → Int32 → Int32 → JI → Option (Int32 × JI)
  | 0, _, _, _, _, _, _ => none
  | n + 1, l1, l2, l3, l4, l5, I =>
    if (4 : Int32) ≤ l5 then (some (l4, I)) else ((fX12_weight l5 l1 l2 l3 I).bind (fun q4 => if q4 ≤ 0 then ((fX12_stands_35 n) l1 l2 l3 (l4 ||| (0 : Int32)) (l5 + (1 : Int32)) I) else ((fX12_stands_35 n) l1 l2 l3 (l4 ||| ((1 : Int32) <<< (l5 &&& 31))) (l5 + (1 : Int32)) I)))
set_option maxHeartbeats 4000000 in
set_option maxRecDepth 100000 in
theorem kX12_stands_35 {E : JE} {r : Int32 × JI} {L : JL} {G : JG} {D : JG} {S : JS} (hL : Lay G S) : ∀ (n : Nat) (l1 : Int32) (l2 : Int32) (l3 : Int32) (l4 : Int32) (l5 : Int32) (I : JI), fX12_stands_35 n l1 l2 l3 l4 l5 I = some r → AtJ E xX12_stands (Zr E (some (.int r.1)) r.2 L G D S) ((S).length, jm_sl S) 3 35 [(0, .ref (E.1 + 66)), (1, .int l1), (2, .int l2), (3, .int l3), (4, .int l4), (5, .int l5)] [] I L G D S := by
  intro n
  induction n with
  | zero => intro l1 l2 l3 l4 l5 I  h; simp [fX12_stands_35] at h
  | succ n ih =>
    intro l1 l2 l3 l4 l5 I  h
    rw [fX12_stands_35] at h
    refine j_iload 37 dX12_stands_35 rfl 5 rfl ?_
    refine j_iconst (v := (4 : Int32)) 38 dX12_stands_37 rfl (by decide) ?_
    refine j_icmp_ge 72 41 dX12_stands_38 (by decide) rfl (fun hc => ?_) (fun hc => ?_)
    · replace h := j_pos hc h
      refine j_iload 74 dX12_stands_72 rfl 4 rfl ?_
      cases h
      exact j_iret dX12_stands_74 rfl
    · replace h := j_neg hc h
      refine j_iload 43 dX12_stands_41 rfl 4 rfl ?_
      refine j_aload_n 44 dX12_stands_43 rfl rfl 0 rfl ?_
      refine j_iload 46 dX12_stands_44 rfl 5 rfl ?_
      refine j_iload_n 47 dX12_stands_46 rfl rfl 1 rfl ?_
      refine j_iload_n 48 dX12_stands_47 rfl rfl 2 rfl ?_
      refine j_iload_n 49 dX12_stands_48 rfl rfl 3 rfl ?_
      obtain ⟨q4, hq4, h⟩ := j_bs h
      refine j_callV (rest := [.int l4]) (As := [.int l5, .int l1, .int l2, .int l3]) 52 dX12_stands_49 rfl jyX12_weight (tcX12_weight hL  hq4) (sh_66 hL) cl12 flX12_243 wm1748 wm42 (by decide) rfl rfl (Nat.le_of_ble_eq_true rfl) ?_
      refine j_if_le 62 55 dX12_stands_52 (by decide) rfl (fun hc => ?_) (fun hc => ?_)
      · replace h := j_pos hc h
        refine j_iconst (v := (0 : Int32)) 63 dX12_stands_62 rfl (by decide) ?_
        refine j_ior 64 dX12_stands_63 rfl ?_
        refine j_istore (lv' := [(4, .int (l4 ||| (0 : Int32))), (0, .ref (E.1 + 66)), (1, .int l1), (2, .int l2), (3, .int l3), (5, .int l5)]) 66 dX12_stands_64 rfl (by decide) rfl ?_
        refine j_iinc (v := (l5 + (1 : Int32))) (lv' := [(5, .int (l5 + (1 : Int32))), (4, .int (l4 ||| (0 : Int32))), (0, .ref (E.1 + 66)), (1, .int l1), (2, .int l2), (3, .int l3)]) (q := 5) 69 dX12_stands_66 rfl rfl rfl (by decide) rfl ?_
        refine j_goto 35 dX12_stands_69 (by decide) ?_
        refine j_sub [2, 3, 4, 5, 1, 0] rfl ?_
        exact ih _ _ _ _ _ _  h
      · replace h := j_neg hc h
        refine j_iconst (v := (1 : Int32)) 56 dX12_stands_55 rfl (by decide) ?_
        refine j_iload 58 dX12_stands_56 rfl 5 rfl ?_
        refine j_ishl 59 dX12_stands_58 rfl ?_
        refine j_goto 63 dX12_stands_59 (by decide) ?_
        refine j_ior 64 dX12_stands_63 rfl ?_
        refine j_istore (lv' := [(4, .int (l4 ||| ((1 : Int32) <<< (l5 &&& 31)))), (0, .ref (E.1 + 66)), (1, .int l1), (2, .int l2), (3, .int l3), (5, .int l5)]) 66 dX12_stands_64 rfl (by decide) rfl ?_
        refine j_iinc (v := (l5 + (1 : Int32))) (lv' := [(5, .int (l5 + (1 : Int32))), (4, .int (l4 ||| ((1 : Int32) <<< (l5 &&& 31)))), (0, .ref (E.1 + 66)), (1, .int l1), (2, .int l2), (3, .int l3)]) (q := 5) 69 dX12_stands_66 rfl rfl rfl (by decide) rfl ?_
        refine j_goto 35 dX12_stands_69 (by decide) ?_
        refine j_sub [2, 3, 4, 5, 1, 0] rfl ?_
        exact ih _ _ _ _ _ _  h
def fX12_stands (l1 : Int32) (l2 : Int32) (l3 : Int32) (I : JI) : Option (Int32 × JI) :=
  (fX12_isParcel l1 (j_up I 66 0 (0 : Int32))).bind (fun q1 => if q1 = 0 then (some ((-1 : Int32), (j_up I 66 0 (0 : Int32)))) else ((fX12_isPerson l2).bind (fun q2 => if q2 = 0 then (some ((-1 : Int32), (j_up I 66 0 (0 : Int32)))) else ((fX12_isPerson l3).bind (fun q3 => if q3 = 0 then (some ((-1 : Int32), (j_up I 66 0 (0 : Int32)))) else (fX12_stands_35 100000 l1 l2 l3 (0 : Int32) (0 : Int32) (j_up I 66 0 (0 : Int32))))))))
set_option maxHeartbeats 4000000 in
set_option maxRecDepth 100000 in
theorem tcX12_stands {E : JE} {l1 : Int32} {l2 : Int32} {l3 : Int32} {r : Int32 × JI} {I : JI} {L : JL} {G D : JG} {S : JS} (hL : Lay G S) (h : fX12_stands l1 l2 l3 I = some r) : CallJ E xX12_stands 3 [.ref (E.1 + 66), .int l1, .int l2, .int l3] I L G D S (some (.int r.1)) r.2 L G D S := by
  unfold fX12_stands at h
  refine j_entry (by decide) (Nat.le_of_ble_eq_true rfl) ?_
  show AtJ E xX12_stands (Zr E (some (.int r.1)) r.2 L G D S) ((S).length, jm_sl S) 3 0 [(0, .ref (E.1 + 66)), (1, .int l1), (2, .int l2), (3, .int l3)] [] I L G D S
  refine j_aload_n 1 dX12_stands_0 rfl rfl 0 rfl ?_
  refine j_iconst (v := (0 : Int32)) 2 dX12_stands_1 rfl (by decide) ?_
  refine j_putI 5 dX12_stands_2 rfl (sh_66 hL) cl12 (k := 0) (by decide) flX12_218 rfl rfl rfl ?_
  refine j_aload_n 6 dX12_stands_5 rfl rfl 0 rfl ?_
  refine j_iload_n 7 dX12_stands_6 rfl rfl 1 rfl ?_
  obtain ⟨q1, hq1, h⟩ := j_bs h
  refine j_callV (rest := []) (As := [.int l1]) 10 dX12_stands_7 rfl jyX12_isParcel (tcX12_isParcel hL  hq1) (sh_66 hL) cl12 flX12_230 wm1708 wm40 (by decide) rfl rfl (Nat.le_of_ble_eq_true rfl) ?_
  refine j_if_eq 27 13 dX12_stands_10 (by decide) rfl (fun hc => ?_) (fun hc => ?_)
  · replace h := j_pos hc h
    refine j_iconst (v := (-1 : Int32)) 28 dX12_stands_27 rfl (by decide) ?_
    cases h
    exact j_iret dX12_stands_28 rfl
  · replace h := j_neg hc h
    refine j_iload_n 14 dX12_stands_13 rfl rfl 2 rfl ?_
    obtain ⟨q2, hq2, h⟩ := j_bs h
    refine j_callS (rest := []) (As := [.int l2]) 17 dX12_stands_14 rfl jyX12_isPerson (tcX12_isPerson   hq2) flX12_226 wm1700 (by decide) rfl rfl (Nat.le_of_ble_eq_true rfl) ?_
    refine j_if_eq 27 20 dX12_stands_17 (by decide) rfl (fun hc => ?_) (fun hc => ?_)
    · replace h := j_pos hc h
      refine j_iconst (v := (-1 : Int32)) 28 dX12_stands_27 rfl (by decide) ?_
      cases h
      exact j_iret dX12_stands_28 rfl
    · replace h := j_neg hc h
      refine j_iload_n 21 dX12_stands_20 rfl rfl 3 rfl ?_
      obtain ⟨q3, hq3, h⟩ := j_bs h
      refine j_callS (rest := []) (As := [.int l3]) 24 dX12_stands_21 rfl jyX12_isPerson (tcX12_isPerson   hq3) flX12_226 wm1700 (by decide) rfl rfl (Nat.le_of_ble_eq_true rfl) ?_
      refine j_if_ne 29 27 dX12_stands_24 (by decide) rfl (fun hc => ?_) (fun hc => ?_)
      · replace h := j_neg hc h
        refine j_iconst (v := (0 : Int32)) 30 dX12_stands_29 rfl (by decide) ?_
        refine j_istore (lv' := [(4, .int (0 : Int32)), (0, .ref (E.1 + 66)), (1, .int l1), (2, .int l2), (3, .int l3)]) 32 dX12_stands_30 rfl (by decide) rfl ?_
        refine j_iconst (v := (0 : Int32)) 33 dX12_stands_32 rfl (by decide) ?_
        refine j_istore (lv' := [(5, .int (0 : Int32)), (4, .int (0 : Int32)), (0, .ref (E.1 + 66)), (1, .int l1), (2, .int l2), (3, .int l3)]) 35 dX12_stands_33 rfl (by decide) rfl ?_
        refine j_sub [2, 3, 4, 5, 1, 0] rfl ?_
        exact kX12_stands_35 hL    100000 _ _ _ _ _ _  h
      · replace h := j_pos hc h
        refine j_iconst (v := (-1 : Int32)) 28 dX12_stands_27 rfl (by decide) ?_
        cases h
        exact j_iret dX12_stands_28 rfl
def fX12_feed_93 (k8 : Int64 → Int64 → Int64 → Int32 → JI → Option (Int32 × JI)) (l1 : Int64) (l3 : Int64) (l5 : Int64) (l7 : Int32) (l10 : Int32) (I : JI) : Option (Int32 × JI) :=
  j_g (j_in (I 66 9) 1000) (k8 l1 l3 l5 (l7 + (1 : Int32)) (j_up (j_up I 74 (I 66 9).toNatClampNeg l10) 66 9 (((j_up I 74 (I 66 9).toNatClampNeg l10) 66 9) + (1 : Int32))))
set_option maxHeartbeats 4000000 in
set_option maxRecDepth 100000 in
theorem kX12_feed_93 {E : JE} {k8 : Int64 → Int64 → Int64 → Int32 → JI → Option (Int32 × JI)} {r : Int32 × JI} {L : JL} {G : JG} {D : JG} {S : JS} (hL : Lay G S) (H8 : ∀ (l1 : Int64) (l3 : Int64) (l5 : Int64) (l7 : Int32) (I : JI), k8 l1 l3 l5 l7 I = some r → AtJ E xX12_feed (Zr E (some (.int r.1)) r.2 L G D S) ((S).length, jm_sl S) 1 8 [(0, .ref (E.1 + 66)), (1, .long l1), (3, .long l3), (5, .long l5), (7, .int l7)] [] I L G D S) : ∀ (l1 : Int64) (l3 : Int64) (l5 : Int64) (l7 : Int32) (l10 : Int32) (I : JI), fX12_feed_93 k8 l1 l3 l5 l7 l10 I = some r → AtJ E xX12_feed (Zr E (some (.int r.1)) r.2 L G D S) ((S).length, jm_sl S) 1 93 [(0, .ref (E.1 + 66)), (1, .long l1), (3, .long l3), (5, .long l5), (7, .int l7), (10, .int l10)] [] I L G D S := by
  intro l1 l3 l5 l7 l10 I  h
  unfold fX12_feed_93 at h
  refine j_aload_n 94 dX12_feed_93 rfl rfl 0 rfl ?_
  refine j_getG 97 dX12_feed_94 rfl (sh_66 hL) cl12 (k := 10) (by decide) flX12_32 rfl (gs_66_10 hL) ?_
  refine j_aload_n 98 dX12_feed_97 rfl rfl 0 rfl ?_
  refine j_getI 101 dX12_feed_98 rfl (sh_66 hL) cl12 (k := 9) (by decide) flX12_249 rfl ?_
  refine j_iload 103 dX12_feed_101 rfl 5 rfl ?_
  obtain ⟨hg, h⟩ := j_gs h
  refine j_iast 104 dX12_feed_103 rfl (sh_74 hL) (j_inv hg) ?_
  refine j_aload_n 105 dX12_feed_104 rfl rfl 0 rfl ?_
  refine j_dup 106 dX12_feed_105 rfl rfl ?_
  refine j_getI 109 dX12_feed_106 rfl (sh_66 hL) cl12 (k := 9) (by decide) flX12_249 rfl ?_
  refine j_iconst (v := (1 : Int32)) 110 dX12_feed_109 rfl (by decide) ?_
  refine j_iadd 111 dX12_feed_110 rfl ?_
  refine j_putI 114 dX12_feed_111 rfl (sh_66 hL) cl12 (k := 9) (by decide) flX12_249 rfl rfl rfl ?_
  refine j_iinc (v := (l7 + (1 : Int32))) (lv' := [(7, .int (l7 + (1 : Int32))), (0, .ref (E.1 + 66)), (1, .long l1), (3, .long l3), (5, .long l5), (10, .int l10)]) (q := 4) 117 dX12_feed_114 rfl rfl rfl (by decide) rfl ?_
  refine j_goto 8 dX12_feed_117 (by decide) ?_
  refine j_sub [1, 2, 3, 4, 0] rfl ?_
  exact H8 _ _ _ _ _  h
def fX12_feed_39 (k8 : Int64 → Int64 → Int64 → Int32 → JI → Option (Int32 × JI)) (l1 : Int64) (l3 : Int64) (l5 : Int64) (l7 : Int32) (s0 : Int64) (I : JI) : Option (Int32 × JI) :=
  if (1000 : Int32) ≤ (I 66 9) then (k8 l1 l3 l5 (l7 + (1 : Int32)) I) else (if ((s0.toUInt64 >>> (((56 : Int32) - ((8 : Int32) * (l7 &&& (7 : Int32)))).toInt64.toUInt64 &&& Int64.toUInt64 63)).toInt64 &&& (255 : Int64)).toInt32 = (10 : Int32) then (fX12_feed_93 k8 l1 l3 l5 l7 ((s0.toUInt64 >>> (((56 : Int32) - ((8 : Int32) * (l7 &&& (7 : Int32)))).toInt64.toUInt64 &&& Int64.toUInt64 63)).toInt64 &&& (255 : Int64)).toInt32 I) else (if ((s0.toUInt64 >>> (((56 : Int32) - ((8 : Int32) * (l7 &&& (7 : Int32)))).toInt64.toUInt64 &&& Int64.toUInt64 63)).toInt64 &&& (255 : Int64)).toInt32 < (32 : Int32) then (k8 l1 l3 l5 (l7 + (1 : Int32)) I) else (if (126 : Int32) < ((s0.toUInt64 >>> (((56 : Int32) - ((8 : Int32) * (l7 &&& (7 : Int32)))).toInt64.toUInt64 &&& Int64.toUInt64 63)).toInt64 &&& (255 : Int64)).toInt32 then (k8 l1 l3 l5 (l7 + (1 : Int32)) I) else (fX12_feed_93 k8 l1 l3 l5 l7 ((s0.toUInt64 >>> (((56 : Int32) - ((8 : Int32) * (l7 &&& (7 : Int32)))).toInt64.toUInt64 &&& Int64.toUInt64 63)).toInt64 &&& (255 : Int64)).toInt32 I))))
set_option maxHeartbeats 4000000 in
set_option maxRecDepth 100000 in
theorem kX12_feed_39 {E : JE} {k8 : Int64 → Int64 → Int64 → Int32 → JI → Option (Int32 × JI)} {r : Int32 × JI} {L : JL} {G : JG} {D : JG} {S : JS} (hL : Lay G S) (H8 : ∀ (l1 : Int64) (l3 : Int64) (l5 : Int64) (l7 : Int32) (I : JI), k8 l1 l3 l5 l7 I = some r → AtJ E xX12_feed (Zr E (some (.int r.1)) r.2 L G D S) ((S).length, jm_sl S) 1 8 [(0, .ref (E.1 + 66)), (1, .long l1), (3, .long l3), (5, .long l5), (7, .int l7)] [] I L G D S) : ∀ (l1 : Int64) (l3 : Int64) (l5 : Int64) (l7 : Int32) (s0 : Int64) (I : JI), fX12_feed_39 k8 l1 l3 l5 l7 s0 I = some r → AtJ E xX12_feed (Zr E (some (.int r.1)) r.2 L G D S) ((S).length, jm_sl S) 1 39 [(0, .ref (E.1 + 66)), (1, .long l1), (3, .long l3), (5, .long l5), (7, .int l7)] [.long s0] I L G D S := by
  intro l1 l3 l5 l7 s0 I  h
  unfold fX12_feed_39 at h
  refine j_lstore (lv' := [(8, .long s0), (0, .ref (E.1 + 66)), (1, .long l1), (3, .long l3), (5, .long l5), (7, .int l7)]) 41 dX12_feed_39 rfl (by decide) rfl ?_
  refine j_lload 43 dX12_feed_41 rfl 0 rfl ?_
  refine j_bipush (v := (56 : Int32)) 45 dX12_feed_43 rfl (by decide) ?_
  refine j_bipush (v := (8 : Int32)) 47 dX12_feed_45 rfl (by decide) ?_
  refine j_iload 49 dX12_feed_47 rfl 5 rfl ?_
  refine j_bipush (v := (7 : Int32)) 51 dX12_feed_49 rfl (by decide) ?_
  refine j_iand 52 dX12_feed_51 rfl ?_
  refine j_imul 53 dX12_feed_52 rfl ?_
  refine j_isub 54 dX12_feed_53 rfl ?_
  refine j_lushr 55 dX12_feed_54 rfl ?_
  refine j_ldc2 (v := (255 : Int64)) 58 dX12_feed_55 rfl wm1758 ?_
  refine j_land 59 dX12_feed_58 rfl ?_
  refine j_l2i 60 dX12_feed_59 rfl ?_
  refine j_istore (lv' := [(10, .int ((s0.toUInt64 >>> (((56 : Int32) - ((8 : Int32) * (l7 &&& (7 : Int32)))).toInt64.toUInt64 &&& Int64.toUInt64 63)).toInt64 &&& (255 : Int64)).toInt32), (8, .long s0), (0, .ref (E.1 + 66)), (1, .long l1), (3, .long l3), (5, .long l5), (7, .int l7)]) 62 dX12_feed_60 rfl (by decide) rfl ?_
  refine j_aload_n 63 dX12_feed_62 rfl rfl 2 rfl ?_
  refine j_getI 66 dX12_feed_63 rfl (sh_66 hL) cl12 (k := 9) (by decide) flX12_249 rfl ?_
  refine j_sipush (v := (1000 : Int32)) 69 dX12_feed_66 rfl (by decide) ?_
  refine j_icmp_ge 114 72 dX12_feed_69 (by decide) rfl (fun hc => ?_) (fun hc => ?_)
  · replace h := j_pos hc h
    refine j_iinc (v := (l7 + (1 : Int32))) (lv' := [(7, .int (l7 + (1 : Int32))), (10, .int ((s0.toUInt64 >>> (((56 : Int32) - ((8 : Int32) * (l7 &&& (7 : Int32)))).toInt64.toUInt64 &&& Int64.toUInt64 63)).toInt64 &&& (255 : Int64)).toInt32), (8, .long s0), (0, .ref (E.1 + 66)), (1, .long l1), (3, .long l3), (5, .long l5)]) (q := 6) 117 dX12_feed_114 rfl rfl rfl (by decide) rfl ?_
    refine j_goto 8 dX12_feed_117 (by decide) ?_
    refine j_sub [3, 4, 5, 6, 0] rfl ?_
    exact H8 _ _ _ _ _  h
  · replace h := j_neg hc h
    refine j_iload 74 dX12_feed_72 rfl 0 rfl ?_
    refine j_bipush (v := (10 : Int32)) 76 dX12_feed_74 rfl (by decide) ?_
    refine j_icmp_eq 93 79 dX12_feed_76 (by decide) rfl (fun hc => ?_) (fun hc => ?_)
    · replace h := j_pos hc h
      refine j_sub [2, 3, 4, 5, 6, 0] rfl ?_
      exact kX12_feed_93 hL   H8 _ _ _ _ _ _  h
    · replace h := j_neg hc h
      refine j_iload 81 dX12_feed_79 rfl 0 rfl ?_
      refine j_bipush (v := (32 : Int32)) 83 dX12_feed_81 rfl (by decide) ?_
      refine j_icmp_lt 114 86 dX12_feed_83 (by decide) rfl (fun hc => ?_) (fun hc => ?_)
      · replace h := j_pos hc h
        refine j_iinc (v := (l7 + (1 : Int32))) (lv' := [(7, .int (l7 + (1 : Int32))), (10, .int ((s0.toUInt64 >>> (((56 : Int32) - ((8 : Int32) * (l7 &&& (7 : Int32)))).toInt64.toUInt64 &&& Int64.toUInt64 63)).toInt64 &&& (255 : Int64)).toInt32), (8, .long s0), (0, .ref (E.1 + 66)), (1, .long l1), (3, .long l3), (5, .long l5)]) (q := 6) 117 dX12_feed_114 rfl rfl rfl (by decide) rfl ?_
        refine j_goto 8 dX12_feed_117 (by decide) ?_
        refine j_sub [3, 4, 5, 6, 0] rfl ?_
        exact H8 _ _ _ _ _  h
      · replace h := j_neg hc h
        refine j_iload 88 dX12_feed_86 rfl 0 rfl ?_
        refine j_bipush (v := (126 : Int32)) 90 dX12_feed_88 rfl (by decide) ?_
        refine j_icmp_gt 114 93 dX12_feed_90 (by decide) rfl (fun hc => ?_) (fun hc => ?_)
        · replace h := j_pos hc h
          refine j_iinc (v := (l7 + (1 : Int32))) (lv' := [(7, .int (l7 + (1 : Int32))), (10, .int ((s0.toUInt64 >>> (((56 : Int32) - ((8 : Int32) * (l7 &&& (7 : Int32)))).toInt64.toUInt64 &&& Int64.toUInt64 63)).toInt64 &&& (255 : Int64)).toInt32), (8, .long s0), (0, .ref (E.1 + 66)), (1, .long l1), (3, .long l3), (5, .long l5)]) (q := 6) 117 dX12_feed_114 rfl rfl rfl (by decide) rfl ?_
          refine j_goto 8 dX12_feed_117 (by decide) ?_
          refine j_sub [3, 4, 5, 6, 0] rfl ?_
          exact H8 _ _ _ _ _  h
        · replace h := j_neg hc h
          refine j_sub [2, 3, 4, 5, 6, 0] rfl ?_
          exact kX12_feed_93 hL   H8 _ _ _ _ _ _  h
def fX12_feed_8 : Nat → Int64 → Int64 → Int64 → Int32 → JI → Option (Int32 × JI)
  | 0, _, _, _, _, _ => none
  | n + 1, l1, l3, l5, l7, I =>
    if (24 : Int32) ≤ l7 then (some ((I 66 9), I)) else (if (8 : Int32) ≤ l7 then (if (16 : Int32) ≤ l7 then (fX12_feed_39 (fX12_feed_8 n) l1 l3 l5 l7 l5 I) else (fX12_feed_39 (fX12_feed_8 n) l1 l3 l5 l7 l3 I)) else (fX12_feed_39 (fX12_feed_8 n) l1 l3 l5 l7 l1 I))
set_option maxHeartbeats 4000000 in
set_option maxRecDepth 100000 in
theorem kX12_feed_8 {E : JE} {r : Int32 × JI} {L : JL} {G : JG} {D : JG} {S : JS} (hL : Lay G S) : ∀ (n : Nat) (l1 : Int64) (l3 : Int64) (l5 : Int64) (l7 : Int32) (I : JI), fX12_feed_8 n l1 l3 l5 l7 I = some r → AtJ E xX12_feed (Zr E (some (.int r.1)) r.2 L G D S) ((S).length, jm_sl S) 1 8 [(0, .ref (E.1 + 66)), (1, .long l1), (3, .long l3), (5, .long l5), (7, .int l7)] [] I L G D S := by
  intro n
  induction n with
  | zero => intro l1 l3 l5 l7 I  h; simp [fX12_feed_8] at h
  | succ n ih =>
    intro l1 l3 l5 l7 I  h
    rw [fX12_feed_8] at h
    refine j_iload 10 dX12_feed_8 rfl 4 rfl ?_
    refine j_bipush (v := (24 : Int32)) 12 dX12_feed_10 rfl (by decide) ?_
    refine j_icmp_ge 120 15 dX12_feed_12 (by decide) rfl (fun hc => ?_) (fun hc => ?_)
    · replace h := j_pos hc h
      refine j_aload_n 121 dX12_feed_120 rfl rfl 0 rfl ?_
      refine j_getI 124 dX12_feed_121 rfl (sh_66 hL) cl12 (k := 9) (by decide) flX12_249 rfl ?_
      cases h
      exact j_iret dX12_feed_124 rfl
    · replace h := j_neg hc h
      refine j_iload 17 dX12_feed_15 rfl 4 rfl ?_
      refine j_bipush (v := (8 : Int32)) 19 dX12_feed_17 rfl (by decide) ?_
      refine j_icmp_ge 26 22 dX12_feed_19 (by decide) rfl (fun hc => ?_) (fun hc => ?_)
      · replace h := j_pos hc h
        refine j_iload 28 dX12_feed_26 rfl 4 rfl ?_
        refine j_bipush (v := (16 : Int32)) 30 dX12_feed_28 rfl (by decide) ?_
        refine j_icmp_ge 37 33 dX12_feed_30 (by decide) rfl (fun hc => ?_) (fun hc => ?_)
        · replace h := j_pos hc h
          refine j_lload 39 dX12_feed_37 rfl 3 rfl ?_
          exact kX12_feed_39 hL   ih _ _ _ _ _ _  h
        · replace h := j_neg hc h
          refine j_lload_n 34 dX12_feed_33 rfl rfl 2 rfl ?_
          refine j_goto 39 dX12_feed_34 (by decide) ?_
          exact kX12_feed_39 hL   ih _ _ _ _ _ _  h
      · replace h := j_neg hc h
        refine j_lload_n 23 dX12_feed_22 rfl rfl 1 rfl ?_
        refine j_goto 39 dX12_feed_23 (by decide) ?_
        exact kX12_feed_39 hL   ih _ _ _ _ _ _  h
def fX12_feed (l1 : Int64) (l3 : Int64) (l5 : Int64) (I : JI) : Option (Int32 × JI) :=
  fX12_feed_8 100000 l1 l3 l5 (0 : Int32) (j_up I 66 0 (0 : Int32))
set_option maxHeartbeats 4000000 in
set_option maxRecDepth 100000 in
theorem tcX12_feed {E : JE} {l1 : Int64} {l3 : Int64} {l5 : Int64} {r : Int32 × JI} {I : JI} {L : JL} {G D : JG} {S : JS} (hL : Lay G S) (h : fX12_feed l1 l3 l5 I = some r) : CallJ E xX12_feed 1 [.ref (E.1 + 66), .long l1, .long l3, .long l5] I L G D S (some (.int r.1)) r.2 L G D S := by
  unfold fX12_feed at h
  refine j_entry (by decide) (Nat.le_of_ble_eq_true rfl) ?_
  show AtJ E xX12_feed (Zr E (some (.int r.1)) r.2 L G D S) ((S).length, jm_sl S) 1 0 [(0, .ref (E.1 + 66)), (1, .long l1), (3, .long l3), (5, .long l5)] [] I L G D S
  refine j_aload_n 1 dX12_feed_0 rfl rfl 0 rfl ?_
  refine j_iconst (v := (0 : Int32)) 2 dX12_feed_1 rfl (by decide) ?_
  refine j_putI 5 dX12_feed_2 rfl (sh_66 hL) cl12 (k := 0) (by decide) flX12_218 rfl rfl rfl ?_
  refine j_iconst (v := (0 : Int32)) 6 dX12_feed_5 rfl (by decide) ?_
  refine j_istore (lv' := [(7, .int (0 : Int32)), (0, .ref (E.1 + 66)), (1, .long l1), (3, .long l3), (5, .long l5)]) 8 dX12_feed_6 rfl (by decide) rfl ?_
  refine j_sub [1, 2, 3, 4, 0] rfl ?_
  exact kX12_feed_8 hL    100000 _ _ _ _ _  h
def fX12_signAt (l1 : Int32) (I : JI) : Option (Int32) :=
  if (I 66 11) ≤ l1 then (some ((0 : Int32))) else (j_g (j_in l1 1000) (some ((I 74 l1.toNatClampNeg))))
set_option maxHeartbeats 4000000 in
set_option maxRecDepth 100000 in
theorem tcX12_signAt {E : JE} {l1 : Int32} {r : Int32} {I : JI} {L : JL} {G D : JG} {S : JS} (hL : Lay G S) (h : fX12_signAt l1 I = some r) : CallJ E xX12_signAt 1 [.ref (E.1 + 66), .int l1] I L G D S (some (.int r)) I L G D S := by
  unfold fX12_signAt at h
  refine j_entry (by decide) (Nat.le_of_ble_eq_true rfl) ?_
  show AtJ E xX12_signAt (Zr E (some (.int r)) I L G D S) ((S).length, jm_sl S) 1 0 [(0, .ref (E.1 + 66)), (1, .int l1)] [] I L G D S
  refine j_iload_n 1 dX12_signAt_0 rfl rfl 1 rfl ?_
  refine j_aload_n 2 dX12_signAt_1 rfl rfl 0 rfl ?_
  refine j_getI 5 dX12_signAt_2 rfl (sh_66 hL) cl12 (k := 11) (by decide) flX12_252 rfl ?_
  refine j_icmp_ge 17 8 dX12_signAt_5 (by decide) rfl (fun hc => ?_) (fun hc => ?_)
  · replace h := j_pos hc h
    refine j_iconst (v := (0 : Int32)) 18 dX12_signAt_17 rfl (by decide) ?_
    cases h
    exact j_iret dX12_signAt_18 rfl
  · replace h := j_neg hc h
    refine j_aload_n 9 dX12_signAt_8 rfl rfl 0 rfl ?_
    refine j_getG 12 dX12_signAt_9 rfl (sh_66 hL) cl12 (k := 10) (by decide) flX12_32 rfl (gs_66_10 hL) ?_
    refine j_iload_n 13 dX12_signAt_12 rfl rfl 1 rfl ?_
    obtain ⟨hg, h⟩ := j_gs h
    refine j_iald 14 dX12_signAt_13 rfl (sh_74 hL) (j_inv hg) ?_
    refine j_goto 18 dX12_signAt_14 (by decide) ?_
    cases h
    exact j_iret dX12_signAt_18 rfl
def fX12_nextToken_345 (l1 : Int32) (I : JI) (L : JL) : Option (JI × JL) :=
  if l1 = (45 : Int32) then (some ((j_up I 66 14 (3 : Int32)), L)) else (if l1 < (59 : Int32) then (some ((j_up I 66 14 (4 : Int32)), L)) else (if (61 : Int32) < l1 then (some ((j_up I 66 14 (4 : Int32)), L)) else (some ((j_up I 66 14 (3 : Int32)), L))))
set_option maxHeartbeats 4000000 in
set_option maxRecDepth 100000 in
theorem kX12_nextToken_345 {E : JE} {r : JI × JL} {G : JG} {D : JG} {S : JS} (hL : Lay G S) : ∀ (l1 : Int32) (I : JI) (L : JL), fX12_nextToken_345 l1 I L = some r → AtJ E xX12_nextToken (Zr E none r.1 r.2 G D S) ((S).length, jm_sl S) 2 345 [(1, .int l1)] [.ref (E.1 + 66)] I L G D S := by
  intro l1 I L  h
  unfold fX12_nextToken_345 at h
  refine j_iload_n 346 dX12_nextToken_345 rfl rfl 0 rfl ?_
  refine j_bipush (v := (45 : Int32)) 348 dX12_nextToken_346 rfl (by decide) ?_
  refine j_icmp_eq 363 351 dX12_nextToken_348 (by decide) rfl (fun hc => ?_) (fun hc => ?_)
  · replace h := j_pos hc h
    refine j_iconst (v := (3 : Int32)) 364 dX12_nextToken_363 rfl (by decide) ?_
    refine j_goto 368 dX12_nextToken_364 (by decide) ?_
    refine j_putI 371 dX12_nextToken_368 rfl (sh_66 hL) cl12 (k := 14) (by decide) flX12_268 rfl rfl rfl ?_
    cases h
    exact j_vret dX12_nextToken_371 rfl
  · replace h := j_neg hc h
    refine j_iload_n 352 dX12_nextToken_351 rfl rfl 0 rfl ?_
    refine j_bipush (v := (59 : Int32)) 354 dX12_nextToken_352 rfl (by decide) ?_
    refine j_icmp_lt 367 357 dX12_nextToken_354 (by decide) rfl (fun hc => ?_) (fun hc => ?_)
    · replace h := j_pos hc h
      refine j_iconst (v := (4 : Int32)) 368 dX12_nextToken_367 rfl (by decide) ?_
      refine j_putI 371 dX12_nextToken_368 rfl (sh_66 hL) cl12 (k := 14) (by decide) flX12_268 rfl rfl rfl ?_
      cases h
      exact j_vret dX12_nextToken_371 rfl
    · replace h := j_neg hc h
      refine j_iload_n 358 dX12_nextToken_357 rfl rfl 0 rfl ?_
      refine j_bipush (v := (61 : Int32)) 360 dX12_nextToken_358 rfl (by decide) ?_
      refine j_icmp_gt 367 363 dX12_nextToken_360 (by decide) rfl (fun hc => ?_) (fun hc => ?_)
      · replace h := j_pos hc h
        refine j_iconst (v := (4 : Int32)) 368 dX12_nextToken_367 rfl (by decide) ?_
        refine j_putI 371 dX12_nextToken_368 rfl (sh_66 hL) cl12 (k := 14) (by decide) flX12_268 rfl rfl rfl ?_
        cases h
        exact j_vret dX12_nextToken_371 rfl
      · replace h := j_neg hc h
        refine j_iconst (v := (3 : Int32)) 364 dX12_nextToken_363 rfl (by decide) ?_
        refine j_goto 368 dX12_nextToken_364 (by decide) ?_
        refine j_putI 371 dX12_nextToken_368 rfl (sh_66 hL) cl12 (k := 14) (by decide) flX12_268 rfl rfl rfl ?_
        cases h
        exact j_vret dX12_nextToken_371 rfl
def fX12_nextToken_322 (l1 : Int32) (I : JI) (L : JL) : Option (JI × JL) :=
  if l1 < (40 : Int32) then (fX12_nextToken_345 l1 (j_up I 66 12 ((I 66 12) + (1 : Int32))) L) else (if l1 ≤ (43 : Int32) then (some ((j_up (j_up I 66 12 ((I 66 12) + (1 : Int32))) 66 14 (3 : Int32)), L)) else (fX12_nextToken_345 l1 (j_up I 66 12 ((I 66 12) + (1 : Int32))) L))
set_option maxHeartbeats 4000000 in
set_option maxRecDepth 100000 in
theorem kX12_nextToken_322 {E : JE} {r : JI × JL} {G : JG} {D : JG} {S : JS} (hL : Lay G S) : ∀ (l1 : Int32) (I : JI) (L : JL), fX12_nextToken_322 l1 I L = some r → AtJ E xX12_nextToken (Zr E none r.1 r.2 G D S) ((S).length, jm_sl S) 2 322 [(0, .ref (E.1 + 66)), (1, .int l1)] [] I L G D S := by
  intro l1 I L  h
  unfold fX12_nextToken_322 at h
  refine j_aload_n 323 dX12_nextToken_322 rfl rfl 0 rfl ?_
  refine j_dup 324 dX12_nextToken_323 rfl rfl ?_
  refine j_getI 327 dX12_nextToken_324 rfl (sh_66 hL) cl12 (k := 12) (by decide) flX12_255 rfl ?_
  refine j_iconst (v := (1 : Int32)) 328 dX12_nextToken_327 rfl (by decide) ?_
  refine j_iadd 329 dX12_nextToken_328 rfl ?_
  refine j_putI 332 dX12_nextToken_329 rfl (sh_66 hL) cl12 (k := 12) (by decide) flX12_255 rfl rfl rfl ?_
  refine j_aload_n 333 dX12_nextToken_332 rfl rfl 0 rfl ?_
  refine j_iload_n 334 dX12_nextToken_333 rfl rfl 1 rfl ?_
  refine j_bipush (v := (40 : Int32)) 336 dX12_nextToken_334 rfl (by decide) ?_
  refine j_icmp_lt 345 339 dX12_nextToken_336 (by decide) rfl (fun hc => ?_) (fun hc => ?_)
  · replace h := j_pos hc h
    refine j_sub [1] rfl ?_
    exact kX12_nextToken_345 hL    _ _ _  h
  · replace h := j_neg hc h
    refine j_iload_n 340 dX12_nextToken_339 rfl rfl 1 rfl ?_
    refine j_bipush (v := (43 : Int32)) 342 dX12_nextToken_340 rfl (by decide) ?_
    refine j_icmp_le 363 345 dX12_nextToken_342 (by decide) rfl (fun hc => ?_) (fun hc => ?_)
    · replace h := j_pos hc h
      refine j_iconst (v := (3 : Int32)) 364 dX12_nextToken_363 rfl (by decide) ?_
      refine j_goto 368 dX12_nextToken_364 (by decide) ?_
      refine j_putI 371 dX12_nextToken_368 rfl (sh_66 hL) cl12 (k := 14) (by decide) flX12_268 rfl rfl rfl ?_
      cases h
      exact j_vret dX12_nextToken_371 rfl
    · replace h := j_neg hc h
      refine j_sub [1] rfl ?_
      exact kX12_nextToken_345 hL    _ _ _  h
def fX12_nextToken_299 (I : JI) (L : JL) : Option (JI × JL) :=
  if ((I 66 12) - (I 66 13)) ≤ (4 : Int32) then (some ((j_up I 66 14 (2 : Int32)), L)) else (some ((j_up I 66 14 (4 : Int32)), L))
set_option maxHeartbeats 4000000 in
set_option maxRecDepth 100000 in
theorem kX12_nextToken_299 {E : JE} {r : JI × JL} {G : JG} {D : JG} {S : JS} (hL : Lay G S) : ∀ (I : JI) (L : JL), fX12_nextToken_299 I L = some r → AtJ E xX12_nextToken (Zr E none r.1 r.2 G D S) ((S).length, jm_sl S) 2 299 [(0, .ref (E.1 + 66))] [] I L G D S := by
  intro I L  h
  unfold fX12_nextToken_299 at h
  refine j_aload_n 300 dX12_nextToken_299 rfl rfl 0 rfl ?_
  refine j_aload_n 301 dX12_nextToken_300 rfl rfl 0 rfl ?_
  refine j_getI 304 dX12_nextToken_301 rfl (sh_66 hL) cl12 (k := 12) (by decide) flX12_255 rfl ?_
  refine j_aload_n 305 dX12_nextToken_304 rfl rfl 0 rfl ?_
  refine j_getI 308 dX12_nextToken_305 rfl (sh_66 hL) cl12 (k := 13) (by decide) flX12_258 rfl ?_
  refine j_isub 309 dX12_nextToken_308 rfl ?_
  refine j_iconst (v := (4 : Int32)) 310 dX12_nextToken_309 rfl (by decide) ?_
  refine j_icmp_le 317 313 dX12_nextToken_310 (by decide) rfl (fun hc => ?_) (fun hc => ?_)
  · replace h := j_pos hc h
    refine j_iconst (v := (2 : Int32)) 318 dX12_nextToken_317 rfl (by decide) ?_
    refine j_putI 321 dX12_nextToken_318 rfl (sh_66 hL) cl12 (k := 14) (by decide) flX12_268 rfl rfl rfl ?_
    cases h
    exact j_vret dX12_nextToken_321 rfl
  · replace h := j_neg hc h
    refine j_iconst (v := (4 : Int32)) 314 dX12_nextToken_313 rfl (by decide) ?_
    refine j_goto 318 dX12_nextToken_314 (by decide) ?_
    refine j_putI 321 dX12_nextToken_318 rfl (sh_66 hL) cl12 (k := 14) (by decide) flX12_268 rfl rfl rfl ?_
    cases h
    exact j_vret dX12_nextToken_321 rfl
def fX12_nextToken_224 : Nat → JI → JL → Option (JI × JL)
  | 0, _, _ => none
  | n + 1, I, L =>
    (fX12_signAt (I 66 12) I).bind (fun q1 => if q1 < (48 : Int32) then (fX12_nextToken_299 I L) else ((fX12_signAt (I 66 12) I).bind (fun q2 => if (57 : Int32) < q2 then (fX12_nextToken_299 I L) else (if (4 : Int32) ≤ ((I 66 12) - (I 66 13)) then ((fX12_nextToken_224 n) (j_up I 66 12 ((I 66 12) + (1 : Int32))) L) else ((fX12_signAt (I 66 12) I).bind (fun q3 => (fX12_nextToken_224 n) (j_up (j_up I 66 16 ((((I 66 16) * (10 : Int32)) + q3) - (48 : Int32))) 66 12 (((j_up I 66 16 ((((I 66 16) * (10 : Int32)) + q3) - (48 : Int32))) 66 12) + (1 : Int32))) L))))))
set_option maxHeartbeats 4000000 in
set_option maxRecDepth 100000 in
theorem kX12_nextToken_224 {E : JE} {r : JI × JL} {G : JG} {D : JG} {S : JS} (hL : Lay G S) : ∀ (n : Nat)  (I : JI) (L : JL), fX12_nextToken_224 n I L = some r → AtJ E xX12_nextToken (Zr E none r.1 r.2 G D S) ((S).length, jm_sl S) 2 224 [(0, .ref (E.1 + 66))] [] I L G D S := by
  intro n
  induction n with
  | zero => intro I L  h; simp [fX12_nextToken_224] at h
  | succ n ih =>
    intro I L  h
    rw [fX12_nextToken_224] at h
    refine j_aload_n 225 dX12_nextToken_224 rfl rfl 0 rfl ?_
    refine j_aload_n 226 dX12_nextToken_225 rfl rfl 0 rfl ?_
    refine j_getI 229 dX12_nextToken_226 rfl (sh_66 hL) cl12 (k := 12) (by decide) flX12_255 rfl ?_
    obtain ⟨q1, hq1, h⟩ := j_bs h
    refine j_callV (rest := []) (As := [.int (I 66 12)]) 232 dX12_nextToken_229 rfl jyX12_signAt (tcX12_signAt hL  hq1) (sh_66 hL) cl12 flX12_271 wm1773 wm46 (by decide) rfl rfl (Nat.le_of_ble_eq_true rfl) ?_
    refine j_bipush (v := (48 : Int32)) 234 dX12_nextToken_232 rfl (by decide) ?_
    refine j_icmp_lt 299 237 dX12_nextToken_234 (by decide) rfl (fun hc => ?_) (fun hc => ?_)
    · replace h := j_pos hc h
      exact kX12_nextToken_299 hL    _ _  h
    · replace h := j_neg hc h
      refine j_aload_n 238 dX12_nextToken_237 rfl rfl 0 rfl ?_
      refine j_aload_n 239 dX12_nextToken_238 rfl rfl 0 rfl ?_
      refine j_getI 242 dX12_nextToken_239 rfl (sh_66 hL) cl12 (k := 12) (by decide) flX12_255 rfl ?_
      obtain ⟨q2, hq2, h⟩ := j_bs h
      refine j_callV (rest := []) (As := [.int (I 66 12)]) 245 dX12_nextToken_242 rfl jyX12_signAt (tcX12_signAt hL  hq2) (sh_66 hL) cl12 flX12_271 wm1773 wm46 (by decide) rfl rfl (Nat.le_of_ble_eq_true rfl) ?_
      refine j_bipush (v := (57 : Int32)) 247 dX12_nextToken_245 rfl (by decide) ?_
      refine j_icmp_gt 299 250 dX12_nextToken_247 (by decide) rfl (fun hc => ?_) (fun hc => ?_)
      · replace h := j_pos hc h
        exact kX12_nextToken_299 hL    _ _  h
      · replace h := j_neg hc h
        refine j_aload_n 251 dX12_nextToken_250 rfl rfl 0 rfl ?_
        refine j_getI 254 dX12_nextToken_251 rfl (sh_66 hL) cl12 (k := 12) (by decide) flX12_255 rfl ?_
        refine j_aload_n 255 dX12_nextToken_254 rfl rfl 0 rfl ?_
        refine j_getI 258 dX12_nextToken_255 rfl (sh_66 hL) cl12 (k := 13) (by decide) flX12_258 rfl ?_
        refine j_isub 259 dX12_nextToken_258 rfl ?_
        refine j_iconst (v := (4 : Int32)) 260 dX12_nextToken_259 rfl (by decide) ?_
        refine j_icmp_ge 286 263 dX12_nextToken_260 (by decide) rfl (fun hc => ?_) (fun hc => ?_)
        · replace h := j_pos hc h
          refine j_aload_n 287 dX12_nextToken_286 rfl rfl 0 rfl ?_
          refine j_dup 288 dX12_nextToken_287 rfl rfl ?_
          refine j_getI 291 dX12_nextToken_288 rfl (sh_66 hL) cl12 (k := 12) (by decide) flX12_255 rfl ?_
          refine j_iconst (v := (1 : Int32)) 292 dX12_nextToken_291 rfl (by decide) ?_
          refine j_iadd 293 dX12_nextToken_292 rfl ?_
          refine j_putI 296 dX12_nextToken_293 rfl (sh_66 hL) cl12 (k := 12) (by decide) flX12_255 rfl rfl rfl ?_
          refine j_goto 224 dX12_nextToken_296 (by decide) ?_
          exact ih _ _  h
        · replace h := j_neg hc h
          refine j_aload_n 264 dX12_nextToken_263 rfl rfl 0 rfl ?_
          refine j_aload_n 265 dX12_nextToken_264 rfl rfl 0 rfl ?_
          refine j_getI 268 dX12_nextToken_265 rfl (sh_66 hL) cl12 (k := 16) (by decide) flX12_265 rfl ?_
          refine j_bipush (v := (10 : Int32)) 270 dX12_nextToken_268 rfl (by decide) ?_
          refine j_imul 271 dX12_nextToken_270 rfl ?_
          refine j_aload_n 272 dX12_nextToken_271 rfl rfl 0 rfl ?_
          refine j_aload_n 273 dX12_nextToken_272 rfl rfl 0 rfl ?_
          refine j_getI 276 dX12_nextToken_273 rfl (sh_66 hL) cl12 (k := 12) (by decide) flX12_255 rfl ?_
          obtain ⟨q3, hq3, h⟩ := j_bs h
          refine j_callV (rest := [.int ((I 66 16) * (10 : Int32)), .ref (E.1 + 66)]) (As := [.int (I 66 12)]) 279 dX12_nextToken_276 rfl jyX12_signAt (tcX12_signAt hL  hq3) (sh_66 hL) cl12 flX12_271 wm1773 wm46 (by decide) rfl rfl (Nat.le_of_ble_eq_true rfl) ?_
          refine j_iadd 280 dX12_nextToken_279 rfl ?_
          refine j_bipush (v := (48 : Int32)) 282 dX12_nextToken_280 rfl (by decide) ?_
          refine j_isub 283 dX12_nextToken_282 rfl ?_
          refine j_putI 286 dX12_nextToken_283 rfl (sh_66 hL) cl12 (k := 16) (by decide) flX12_265 rfl rfl rfl ?_
          refine j_aload_n 287 dX12_nextToken_286 rfl rfl 0 rfl ?_
          refine j_dup 288 dX12_nextToken_287 rfl rfl ?_
          refine j_getI 291 dX12_nextToken_288 rfl (sh_66 hL) cl12 (k := 12) (by decide) flX12_255 rfl ?_
          refine j_iconst (v := (1 : Int32)) 292 dX12_nextToken_291 rfl (by decide) ?_
          refine j_iadd 293 dX12_nextToken_292 rfl ?_
          refine j_putI 296 dX12_nextToken_293 rfl (sh_66 hL) cl12 (k := 12) (by decide) flX12_255 rfl rfl rfl ?_
          refine j_goto 224 dX12_nextToken_296 (by decide) ?_
          exact ih _ _  h
def fX12_nextToken_188 (I : JI) (L : JL) : Option (JI × JL) :=
  if ((I 66 12) - (I 66 13)) ≤ (8 : Int32) then (some ((j_up I 66 14 (1 : Int32)), L)) else (some ((j_up I 66 14 (4 : Int32)), L))
set_option maxHeartbeats 4000000 in
set_option maxRecDepth 100000 in
theorem kX12_nextToken_188 {E : JE} {r : JI × JL} {G : JG} {D : JG} {S : JS} (hL : Lay G S) : ∀ (I : JI) (L : JL), fX12_nextToken_188 I L = some r → AtJ E xX12_nextToken (Zr E none r.1 r.2 G D S) ((S).length, jm_sl S) 2 188 [(0, .ref (E.1 + 66))] [] I L G D S := by
  intro I L  h
  unfold fX12_nextToken_188 at h
  refine j_aload_n 189 dX12_nextToken_188 rfl rfl 0 rfl ?_
  refine j_aload_n 190 dX12_nextToken_189 rfl rfl 0 rfl ?_
  refine j_getI 193 dX12_nextToken_190 rfl (sh_66 hL) cl12 (k := 12) (by decide) flX12_255 rfl ?_
  refine j_aload_n 194 dX12_nextToken_193 rfl rfl 0 rfl ?_
  refine j_getI 197 dX12_nextToken_194 rfl (sh_66 hL) cl12 (k := 13) (by decide) flX12_258 rfl ?_
  refine j_isub 198 dX12_nextToken_197 rfl ?_
  refine j_bipush (v := (8 : Int32)) 200 dX12_nextToken_198 rfl (by decide) ?_
  refine j_icmp_le 207 203 dX12_nextToken_200 (by decide) rfl (fun hc => ?_) (fun hc => ?_)
  · replace h := j_pos hc h
    refine j_iconst (v := (1 : Int32)) 208 dX12_nextToken_207 rfl (by decide) ?_
    refine j_putI 211 dX12_nextToken_208 rfl (sh_66 hL) cl12 (k := 14) (by decide) flX12_268 rfl rfl rfl ?_
    cases h
    exact j_vret dX12_nextToken_211 rfl
  · replace h := j_neg hc h
    refine j_iconst (v := (4 : Int32)) 204 dX12_nextToken_203 rfl (by decide) ?_
    refine j_goto 208 dX12_nextToken_204 (by decide) ?_
    refine j_putI 211 dX12_nextToken_208 rfl (sh_66 hL) cl12 (k := 14) (by decide) flX12_268 rfl rfl rfl ?_
    cases h
    exact j_vret dX12_nextToken_211 rfl
def fX12_nextToken_109 : Nat → JI → JL → Option (JI × JL)
  | 0, _, _ => none
  | n + 1, I, L =>
    (fX12_signAt (I 66 12) I).bind (fun q4 => if q4 < (97 : Int32) then (fX12_nextToken_188 I L) else ((fX12_signAt (I 66 12) I).bind (fun q5 => if (122 : Int32) < q5 then (fX12_nextToken_188 I L) else (if (8 : Int32) ≤ ((I 66 12) - (I 66 13)) then ((fX12_nextToken_109 n) (j_up I 66 12 ((I 66 12) + (1 : Int32))) L) else ((fX12_signAt (I 66 12) I).bind (fun q6 => (fX12_nextToken_109 n) (j_up I 66 12 ((I 66 12) + (1 : Int32))) (j_up L 66 15 ((((L 66 15) * (27 : Int64)) + q6.toInt64) - (96 : Int64)))))))))
set_option maxHeartbeats 4000000 in
set_option maxRecDepth 100000 in
theorem kX12_nextToken_109 {E : JE} {r : JI × JL} {G : JG} {D : JG} {S : JS} (hL : Lay G S) : ∀ (n : Nat)  (I : JI) (L : JL), fX12_nextToken_109 n I L = some r → AtJ E xX12_nextToken (Zr E none r.1 r.2 G D S) ((S).length, jm_sl S) 2 109 [(0, .ref (E.1 + 66))] [] I L G D S := by
  intro n
  induction n with
  | zero => intro I L  h; simp [fX12_nextToken_109] at h
  | succ n ih =>
    intro I L  h
    rw [fX12_nextToken_109] at h
    refine j_aload_n 110 dX12_nextToken_109 rfl rfl 0 rfl ?_
    refine j_aload_n 111 dX12_nextToken_110 rfl rfl 0 rfl ?_
    refine j_getI 114 dX12_nextToken_111 rfl (sh_66 hL) cl12 (k := 12) (by decide) flX12_255 rfl ?_
    obtain ⟨q4, hq4, h⟩ := j_bs h
    refine j_callV (rest := []) (As := [.int (I 66 12)]) 117 dX12_nextToken_114 rfl jyX12_signAt (tcX12_signAt hL  hq4) (sh_66 hL) cl12 flX12_271 wm1773 wm46 (by decide) rfl rfl (Nat.le_of_ble_eq_true rfl) ?_
    refine j_bipush (v := (97 : Int32)) 119 dX12_nextToken_117 rfl (by decide) ?_
    refine j_icmp_lt 188 122 dX12_nextToken_119 (by decide) rfl (fun hc => ?_) (fun hc => ?_)
    · replace h := j_pos hc h
      exact kX12_nextToken_188 hL    _ _  h
    · replace h := j_neg hc h
      refine j_aload_n 123 dX12_nextToken_122 rfl rfl 0 rfl ?_
      refine j_aload_n 124 dX12_nextToken_123 rfl rfl 0 rfl ?_
      refine j_getI 127 dX12_nextToken_124 rfl (sh_66 hL) cl12 (k := 12) (by decide) flX12_255 rfl ?_
      obtain ⟨q5, hq5, h⟩ := j_bs h
      refine j_callV (rest := []) (As := [.int (I 66 12)]) 130 dX12_nextToken_127 rfl jyX12_signAt (tcX12_signAt hL  hq5) (sh_66 hL) cl12 flX12_271 wm1773 wm46 (by decide) rfl rfl (Nat.le_of_ble_eq_true rfl) ?_
      refine j_bipush (v := (122 : Int32)) 132 dX12_nextToken_130 rfl (by decide) ?_
      refine j_icmp_gt 188 135 dX12_nextToken_132 (by decide) rfl (fun hc => ?_) (fun hc => ?_)
      · replace h := j_pos hc h
        exact kX12_nextToken_188 hL    _ _  h
      · replace h := j_neg hc h
        refine j_aload_n 136 dX12_nextToken_135 rfl rfl 0 rfl ?_
        refine j_getI 139 dX12_nextToken_136 rfl (sh_66 hL) cl12 (k := 12) (by decide) flX12_255 rfl ?_
        refine j_aload_n 140 dX12_nextToken_139 rfl rfl 0 rfl ?_
        refine j_getI 143 dX12_nextToken_140 rfl (sh_66 hL) cl12 (k := 13) (by decide) flX12_258 rfl ?_
        refine j_isub 144 dX12_nextToken_143 rfl ?_
        refine j_bipush (v := (8 : Int32)) 146 dX12_nextToken_144 rfl (by decide) ?_
        refine j_icmp_ge 175 149 dX12_nextToken_146 (by decide) rfl (fun hc => ?_) (fun hc => ?_)
        · replace h := j_pos hc h
          refine j_aload_n 176 dX12_nextToken_175 rfl rfl 0 rfl ?_
          refine j_dup 177 dX12_nextToken_176 rfl rfl ?_
          refine j_getI 180 dX12_nextToken_177 rfl (sh_66 hL) cl12 (k := 12) (by decide) flX12_255 rfl ?_
          refine j_iconst (v := (1 : Int32)) 181 dX12_nextToken_180 rfl (by decide) ?_
          refine j_iadd 182 dX12_nextToken_181 rfl ?_
          refine j_putI 185 dX12_nextToken_182 rfl (sh_66 hL) cl12 (k := 12) (by decide) flX12_255 rfl rfl rfl ?_
          refine j_goto 109 dX12_nextToken_185 (by decide) ?_
          exact ih _ _  h
        · replace h := j_neg hc h
          refine j_aload_n 150 dX12_nextToken_149 rfl rfl 0 rfl ?_
          refine j_aload_n 151 dX12_nextToken_150 rfl rfl 0 rfl ?_
          refine j_getL 154 dX12_nextToken_151 rfl (sh_66 hL) cl12 (k := 15) (by decide) flX12_261 rfl ?_
          refine j_ldc2 (v := (27 : Int64)) 157 dX12_nextToken_154 rfl wm1775 ?_
          refine j_lmul 158 dX12_nextToken_157 rfl ?_
          refine j_aload_n 159 dX12_nextToken_158 rfl rfl 0 rfl ?_
          refine j_aload_n 160 dX12_nextToken_159 rfl rfl 0 rfl ?_
          refine j_getI 163 dX12_nextToken_160 rfl (sh_66 hL) cl12 (k := 12) (by decide) flX12_255 rfl ?_
          obtain ⟨q6, hq6, h⟩ := j_bs h
          refine j_callV (rest := [.long ((L 66 15) * (27 : Int64)), .ref (E.1 + 66)]) (As := [.int (I 66 12)]) 166 dX12_nextToken_163 rfl jyX12_signAt (tcX12_signAt hL  hq6) (sh_66 hL) cl12 flX12_271 wm1773 wm46 (by decide) rfl rfl (Nat.le_of_ble_eq_true rfl) ?_
          refine j_i2l 167 dX12_nextToken_166 rfl ?_
          refine j_ladd 168 dX12_nextToken_167 rfl ?_
          refine j_ldc2 (v := (96 : Int64)) 171 dX12_nextToken_168 rfl wm1776 ?_
          refine j_lsub 172 dX12_nextToken_171 rfl ?_
          refine j_putL 175 dX12_nextToken_172 rfl (sh_66 hL) cl12 (k := 15) (by decide) flX12_261 rfl rfl rfl ?_
          refine j_aload_n 176 dX12_nextToken_175 rfl rfl 0 rfl ?_
          refine j_dup 177 dX12_nextToken_176 rfl rfl ?_
          refine j_getI 180 dX12_nextToken_177 rfl (sh_66 hL) cl12 (k := 12) (by decide) flX12_255 rfl ?_
          refine j_iconst (v := (1 : Int32)) 181 dX12_nextToken_180 rfl (by decide) ?_
          refine j_iadd 182 dX12_nextToken_181 rfl ?_
          refine j_putI 185 dX12_nextToken_182 rfl (sh_66 hL) cl12 (k := 12) (by decide) flX12_255 rfl rfl rfl ?_
          refine j_goto 109 dX12_nextToken_185 (by decide) ?_
          exact ih _ _  h
def fX12_nextToken_52 (I : JI) (L : JL) : Option (JI × JL) :=
  if ((j_up (j_up I 66 13 (I 66 12)) 66 16 (0 : Int32)) 66 12) = ((j_up (j_up I 66 13 (I 66 12)) 66 16 (0 : Int32)) 66 11) then (some ((j_up (j_up (j_up I 66 13 (I 66 12)) 66 16 (0 : Int32)) 66 14 (0 : Int32)), (j_up L 66 15 (0 : Int64)))) else (j_g (j_in ((j_up (j_up I 66 13 (I 66 12)) 66 16 (0 : Int32)) 66 12) 1000) (if ((j_up (j_up I 66 13 (I 66 12)) 66 16 (0 : Int32)) 74 ((j_up (j_up I 66 13 (I 66 12)) 66 16 (0 : Int32)) 66 12).toNatClampNeg) < (97 : Int32) then (if ((j_up (j_up I 66 13 (I 66 12)) 66 16 (0 : Int32)) 74 ((j_up (j_up I 66 13 (I 66 12)) 66 16 (0 : Int32)) 66 12).toNatClampNeg) < (48 : Int32) then (fX12_nextToken_322 ((j_up (j_up I 66 13 (I 66 12)) 66 16 (0 : Int32)) 74 ((j_up (j_up I 66 13 (I 66 12)) 66 16 (0 : Int32)) 66 12).toNatClampNeg) (j_up (j_up I 66 13 (I 66 12)) 66 16 (0 : Int32)) (j_up L 66 15 (0 : Int64))) else (if (57 : Int32) < ((j_up (j_up I 66 13 (I 66 12)) 66 16 (0 : Int32)) 74 ((j_up (j_up I 66 13 (I 66 12)) 66 16 (0 : Int32)) 66 12).toNatClampNeg) then (fX12_nextToken_322 ((j_up (j_up I 66 13 (I 66 12)) 66 16 (0 : Int32)) 74 ((j_up (j_up I 66 13 (I 66 12)) 66 16 (0 : Int32)) 66 12).toNatClampNeg) (j_up (j_up I 66 13 (I 66 12)) 66 16 (0 : Int32)) (j_up L 66 15 (0 : Int64))) else (fX12_nextToken_224 100000 (j_up (j_up I 66 13 (I 66 12)) 66 16 (0 : Int32)) (j_up L 66 15 (0 : Int64))))) else (if (122 : Int32) < ((j_up (j_up I 66 13 (I 66 12)) 66 16 (0 : Int32)) 74 ((j_up (j_up I 66 13 (I 66 12)) 66 16 (0 : Int32)) 66 12).toNatClampNeg) then (if ((j_up (j_up I 66 13 (I 66 12)) 66 16 (0 : Int32)) 74 ((j_up (j_up I 66 13 (I 66 12)) 66 16 (0 : Int32)) 66 12).toNatClampNeg) < (48 : Int32) then (fX12_nextToken_322 ((j_up (j_up I 66 13 (I 66 12)) 66 16 (0 : Int32)) 74 ((j_up (j_up I 66 13 (I 66 12)) 66 16 (0 : Int32)) 66 12).toNatClampNeg) (j_up (j_up I 66 13 (I 66 12)) 66 16 (0 : Int32)) (j_up L 66 15 (0 : Int64))) else (if (57 : Int32) < ((j_up (j_up I 66 13 (I 66 12)) 66 16 (0 : Int32)) 74 ((j_up (j_up I 66 13 (I 66 12)) 66 16 (0 : Int32)) 66 12).toNatClampNeg) then (fX12_nextToken_322 ((j_up (j_up I 66 13 (I 66 12)) 66 16 (0 : Int32)) 74 ((j_up (j_up I 66 13 (I 66 12)) 66 16 (0 : Int32)) 66 12).toNatClampNeg) (j_up (j_up I 66 13 (I 66 12)) 66 16 (0 : Int32)) (j_up L 66 15 (0 : Int64))) else (fX12_nextToken_224 100000 (j_up (j_up I 66 13 (I 66 12)) 66 16 (0 : Int32)) (j_up L 66 15 (0 : Int64))))) else (fX12_nextToken_109 100000 (j_up (j_up I 66 13 (I 66 12)) 66 16 (0 : Int32)) (j_up L 66 15 (0 : Int64))))))
set_option maxHeartbeats 4000000 in
set_option maxRecDepth 100000 in
theorem kX12_nextToken_52 {E : JE} {r : JI × JL} {G : JG} {D : JG} {S : JS} (hL : Lay G S) : ∀ (I : JI) (L : JL), fX12_nextToken_52 I L = some r → AtJ E xX12_nextToken (Zr E none r.1 r.2 G D S) ((S).length, jm_sl S) 2 52 [(0, .ref (E.1 + 66))] [] I L G D S := by
  intro I L  h
  unfold fX12_nextToken_52 at h
  refine j_aload_n 53 dX12_nextToken_52 rfl rfl 0 rfl ?_
  refine j_aload_n 54 dX12_nextToken_53 rfl rfl 0 rfl ?_
  refine j_getI 57 dX12_nextToken_54 rfl (sh_66 hL) cl12 (k := 12) (by decide) flX12_255 rfl ?_
  refine j_putI 60 dX12_nextToken_57 rfl (sh_66 hL) cl12 (k := 13) (by decide) flX12_258 rfl rfl rfl ?_
  refine j_aload_n 61 dX12_nextToken_60 rfl rfl 0 rfl ?_
  refine j_lconst (v := (0 : Int64)) 62 dX12_nextToken_61 rfl (by decide) ?_
  refine j_putL 65 dX12_nextToken_62 rfl (sh_66 hL) cl12 (k := 15) (by decide) flX12_261 rfl rfl rfl ?_
  refine j_aload_n 66 dX12_nextToken_65 rfl rfl 0 rfl ?_
  refine j_iconst (v := (0 : Int32)) 67 dX12_nextToken_66 rfl (by decide) ?_
  refine j_putI 70 dX12_nextToken_67 rfl (sh_66 hL) cl12 (k := 16) (by decide) flX12_265 rfl rfl rfl ?_
  refine j_aload_n 71 dX12_nextToken_70 rfl rfl 0 rfl ?_
  refine j_getI 74 dX12_nextToken_71 rfl (sh_66 hL) cl12 (k := 12) (by decide) flX12_255 rfl ?_
  refine j_aload_n 75 dX12_nextToken_74 rfl rfl 0 rfl ?_
  refine j_getI 78 dX12_nextToken_75 rfl (sh_66 hL) cl12 (k := 11) (by decide) flX12_252 rfl ?_
  refine j_icmp_ne 87 81 dX12_nextToken_78 (by decide) rfl (fun hc => ?_) (fun hc => ?_)
  · replace h := j_neg hc h
    refine j_aload_n 88 dX12_nextToken_87 rfl rfl 0 rfl ?_
    refine j_getG 91 dX12_nextToken_88 rfl (sh_66 hL) cl12 (k := 10) (by decide) flX12_32 rfl (gs_66_10 hL) ?_
    refine j_aload_n 92 dX12_nextToken_91 rfl rfl 0 rfl ?_
    refine j_getI 95 dX12_nextToken_92 rfl (sh_66 hL) cl12 (k := 12) (by decide) flX12_255 rfl ?_
    obtain ⟨hg, h⟩ := j_gs h
    refine j_iald 96 dX12_nextToken_95 rfl (sh_74 hL) (j_inv hg) ?_
    refine j_istore_n (lv' := [(1, .int ((j_up (j_up I 66 13 (I 66 12)) 66 16 (0 : Int32)) 74 ((j_up (j_up I 66 13 (I 66 12)) 66 16 (0 : Int32)) 66 12).toNatClampNeg)), (0, .ref (E.1 + 66))]) 97 dX12_nextToken_96 rfl rfl (by decide) rfl ?_
    refine j_iload_n 98 dX12_nextToken_97 rfl rfl 0 rfl ?_
    refine j_bipush (v := (97 : Int32)) 100 dX12_nextToken_98 rfl (by decide) ?_
    refine j_icmp_lt 212 103 dX12_nextToken_100 (by decide) rfl (fun hc => ?_) (fun hc => ?_)
    · replace h := j_pos hc h
      refine j_iload_n 213 dX12_nextToken_212 rfl rfl 0 rfl ?_
      refine j_bipush (v := (48 : Int32)) 215 dX12_nextToken_213 rfl (by decide) ?_
      refine j_icmp_lt 322 218 dX12_nextToken_215 (by decide) rfl (fun hc => ?_) (fun hc => ?_)
      · replace h := j_pos hc h
        refine j_sub [1, 0] rfl ?_
        exact kX12_nextToken_322 hL    _ _ _  h
      · replace h := j_neg hc h
        refine j_iload_n 219 dX12_nextToken_218 rfl rfl 0 rfl ?_
        refine j_bipush (v := (57 : Int32)) 221 dX12_nextToken_219 rfl (by decide) ?_
        refine j_icmp_gt 322 224 dX12_nextToken_221 (by decide) rfl (fun hc => ?_) (fun hc => ?_)
        · replace h := j_pos hc h
          refine j_sub [1, 0] rfl ?_
          exact kX12_nextToken_322 hL    _ _ _  h
        · replace h := j_neg hc h
          refine j_sub [1] rfl ?_
          exact kX12_nextToken_224 hL    100000 _ _  h
    · replace h := j_neg hc h
      refine j_iload_n 104 dX12_nextToken_103 rfl rfl 0 rfl ?_
      refine j_bipush (v := (122 : Int32)) 106 dX12_nextToken_104 rfl (by decide) ?_
      refine j_icmp_gt 212 109 dX12_nextToken_106 (by decide) rfl (fun hc => ?_) (fun hc => ?_)
      · replace h := j_pos hc h
        refine j_iload_n 213 dX12_nextToken_212 rfl rfl 0 rfl ?_
        refine j_bipush (v := (48 : Int32)) 215 dX12_nextToken_213 rfl (by decide) ?_
        refine j_icmp_lt 322 218 dX12_nextToken_215 (by decide) rfl (fun hc => ?_) (fun hc => ?_)
        · replace h := j_pos hc h
          refine j_sub [1, 0] rfl ?_
          exact kX12_nextToken_322 hL    _ _ _  h
        · replace h := j_neg hc h
          refine j_iload_n 219 dX12_nextToken_218 rfl rfl 0 rfl ?_
          refine j_bipush (v := (57 : Int32)) 221 dX12_nextToken_219 rfl (by decide) ?_
          refine j_icmp_gt 322 224 dX12_nextToken_221 (by decide) rfl (fun hc => ?_) (fun hc => ?_)
          · replace h := j_pos hc h
            refine j_sub [1, 0] rfl ?_
            exact kX12_nextToken_322 hL    _ _ _  h
          · replace h := j_neg hc h
            refine j_sub [1] rfl ?_
            exact kX12_nextToken_224 hL    100000 _ _  h
      · replace h := j_neg hc h
        refine j_sub [1] rfl ?_
        exact kX12_nextToken_109 hL    100000 _ _  h
  · replace h := j_pos hc h
    refine j_aload_n 82 dX12_nextToken_81 rfl rfl 0 rfl ?_
    refine j_iconst (v := (0 : Int32)) 83 dX12_nextToken_82 rfl (by decide) ?_
    refine j_putI 86 dX12_nextToken_83 rfl (sh_66 hL) cl12 (k := 14) (by decide) flX12_268 rfl rfl rfl ?_
    cases h
    exact j_vret dX12_nextToken_86 rfl
def fX12_nextToken_0 : Nat → JI → JL → Option (JI × JL)
  | 0, _, _ => none
  | n + 1, I, L =>
    if (I 66 11) ≤ (I 66 12) then (fX12_nextToken_52 I L) else (j_g (j_in (I 66 12) 1000) (if (I 74 (I 66 12).toNatClampNeg) = (32 : Int32) then ((fX12_nextToken_0 n) (j_up I 66 12 ((I 66 12) + (1 : Int32))) L) else (j_g (j_in (I 66 12) 1000) (if (I 74 (I 66 12).toNatClampNeg) = (10 : Int32) then ((fX12_nextToken_0 n) (j_up I 66 12 ((I 66 12) + (1 : Int32))) L) else (fX12_nextToken_52 I L)))))
set_option maxHeartbeats 4000000 in
set_option maxRecDepth 100000 in
theorem kX12_nextToken_0 {E : JE} {r : JI × JL} {G : JG} {D : JG} {S : JS} (hL : Lay G S) : ∀ (n : Nat)  (I : JI) (L : JL), fX12_nextToken_0 n I L = some r → AtJ E xX12_nextToken (Zr E none r.1 r.2 G D S) ((S).length, jm_sl S) 2 0 [(0, .ref (E.1 + 66))] [] I L G D S := by
  intro n
  induction n with
  | zero => intro I L  h; simp [fX12_nextToken_0] at h
  | succ n ih =>
    intro I L  h
    rw [fX12_nextToken_0] at h
    refine j_aload_n 1 dX12_nextToken_0 rfl rfl 0 rfl ?_
    refine j_getI 4 dX12_nextToken_1 rfl (sh_66 hL) cl12 (k := 12) (by decide) flX12_255 rfl ?_
    refine j_aload_n 5 dX12_nextToken_4 rfl rfl 0 rfl ?_
    refine j_getI 8 dX12_nextToken_5 rfl (sh_66 hL) cl12 (k := 11) (by decide) flX12_252 rfl ?_
    refine j_icmp_ge 52 11 dX12_nextToken_8 (by decide) rfl (fun hc => ?_) (fun hc => ?_)
    · replace h := j_pos hc h
      exact kX12_nextToken_52 hL    _ _  h
    · replace h := j_neg hc h
      refine j_aload_n 12 dX12_nextToken_11 rfl rfl 0 rfl ?_
      refine j_getG 15 dX12_nextToken_12 rfl (sh_66 hL) cl12 (k := 10) (by decide) flX12_32 rfl (gs_66_10 hL) ?_
      refine j_aload_n 16 dX12_nextToken_15 rfl rfl 0 rfl ?_
      refine j_getI 19 dX12_nextToken_16 rfl (sh_66 hL) cl12 (k := 12) (by decide) flX12_255 rfl ?_
      obtain ⟨hg, h⟩ := j_gs h
      refine j_iald 20 dX12_nextToken_19 rfl (sh_74 hL) (j_inv hg) ?_
      refine j_bipush (v := (32 : Int32)) 22 dX12_nextToken_20 rfl (by decide) ?_
      refine j_icmp_eq 39 25 dX12_nextToken_22 (by decide) rfl (fun hc => ?_) (fun hc => ?_)
      · replace h := j_pos hc h
        refine j_aload_n 40 dX12_nextToken_39 rfl rfl 0 rfl ?_
        refine j_dup 41 dX12_nextToken_40 rfl rfl ?_
        refine j_getI 44 dX12_nextToken_41 rfl (sh_66 hL) cl12 (k := 12) (by decide) flX12_255 rfl ?_
        refine j_iconst (v := (1 : Int32)) 45 dX12_nextToken_44 rfl (by decide) ?_
        refine j_iadd 46 dX12_nextToken_45 rfl ?_
        refine j_putI 49 dX12_nextToken_46 rfl (sh_66 hL) cl12 (k := 12) (by decide) flX12_255 rfl rfl rfl ?_
        refine j_goto 0 dX12_nextToken_49 (by decide) ?_
        exact ih _ _  h
      · replace h := j_neg hc h
        refine j_aload_n 26 dX12_nextToken_25 rfl rfl 0 rfl ?_
        refine j_getG 29 dX12_nextToken_26 rfl (sh_66 hL) cl12 (k := 10) (by decide) flX12_32 rfl (gs_66_10 hL) ?_
        refine j_aload_n 30 dX12_nextToken_29 rfl rfl 0 rfl ?_
        refine j_getI 33 dX12_nextToken_30 rfl (sh_66 hL) cl12 (k := 12) (by decide) flX12_255 rfl ?_
        obtain ⟨hg, h⟩ := j_gs h
        refine j_iald 34 dX12_nextToken_33 rfl (sh_74 hL) (j_inv hg) ?_
        refine j_bipush (v := (10 : Int32)) 36 dX12_nextToken_34 rfl (by decide) ?_
        refine j_icmp_ne 52 39 dX12_nextToken_36 (by decide) rfl (fun hc => ?_) (fun hc => ?_)
        · replace h := j_neg hc h
          exact kX12_nextToken_52 hL    _ _  h
        · replace h := j_pos hc h
          refine j_aload_n 40 dX12_nextToken_39 rfl rfl 0 rfl ?_
          refine j_dup 41 dX12_nextToken_40 rfl rfl ?_
          refine j_getI 44 dX12_nextToken_41 rfl (sh_66 hL) cl12 (k := 12) (by decide) flX12_255 rfl ?_
          refine j_iconst (v := (1 : Int32)) 45 dX12_nextToken_44 rfl (by decide) ?_
          refine j_iadd 46 dX12_nextToken_45 rfl ?_
          refine j_putI 49 dX12_nextToken_46 rfl (sh_66 hL) cl12 (k := 12) (by decide) flX12_255 rfl rfl rfl ?_
          refine j_goto 0 dX12_nextToken_49 (by decide) ?_
          exact ih _ _  h
def fX12_nextToken (I : JI) (L : JL) : Option (JI × JL) :=
  fX12_nextToken_0 100000 I L
set_option maxHeartbeats 4000000 in
set_option maxRecDepth 100000 in
theorem tcX12_nextToken {E : JE} {r : JI × JL} {I : JI} {L : JL} {G D : JG} {S : JS} (hL : Lay G S) (h : fX12_nextToken I L = some r) : CallJ E xX12_nextToken 2 [.ref (E.1 + 66)] I L G D S none r.1 r.2 G D S := by
  unfold fX12_nextToken at h
  refine j_entry (by decide) (Nat.le_of_ble_eq_true rfl) ?_
  show AtJ E xX12_nextToken (Zr E none r.1 r.2 G D S) ((S).length, jm_sl S) 2 0 [(0, .ref (E.1 + 66))] [] I L G D S
  exact kX12_nextToken_0 hL    100000 _ _  h
def fX12_isWord (l1 : Int64) (I : JI) (L : JL) : Option (Int32) :=
  if (I 66 14) = (1 : Int32) then (if (lg_cmp (L 66 15) l1) = 0 then (some ((1 : Int32))) else (some ((0 : Int32)))) else (some ((0 : Int32)))
set_option maxHeartbeats 4000000 in
set_option maxRecDepth 100000 in
theorem tcX12_isWord {E : JE} {l1 : Int64} {r : Int32} {I : JI} {L : JL} {G D : JG} {S : JS} (hL : Lay G S) (h : fX12_isWord l1 I L = some r) : CallJ E xX12_isWord 1 [.ref (E.1 + 66), .long l1] I L G D S (some (.int r)) I L G D S := by
  unfold fX12_isWord at h
  refine j_entry (by decide) (Nat.le_of_ble_eq_true rfl) ?_
  show AtJ E xX12_isWord (Zr E (some (.int r)) I L G D S) ((S).length, jm_sl S) 1 0 [(0, .ref (E.1 + 66)), (1, .long l1)] [] I L G D S
  refine j_aload_n 1 dX12_isWord_0 rfl rfl 0 rfl ?_
  refine j_getI 4 dX12_isWord_1 rfl (sh_66 hL) cl12 (k := 14) (by decide) flX12_268 rfl ?_
  refine j_iconst (v := (1 : Int32)) 5 dX12_isWord_4 rfl (by decide) ?_
  refine j_icmp_ne 21 8 dX12_isWord_5 (by decide) rfl (fun hc => ?_) (fun hc => ?_)
  · replace h := j_neg hc h
    refine j_iconst (v := (0 : Int32)) 22 dX12_isWord_21 rfl (by decide) ?_
    cases h
    exact j_zret dX12_isWord_22 rfl j_b01_0
  · replace h := j_pos hc h
    refine j_aload_n 9 dX12_isWord_8 rfl rfl 0 rfl ?_
    refine j_getL 12 dX12_isWord_9 rfl (sh_66 hL) cl12 (k := 15) (by decide) flX12_261 rfl ?_
    refine j_lload_n 13 dX12_isWord_12 rfl rfl 1 rfl ?_
    refine j_lcmp 14 dX12_isWord_13 rfl ?_
    refine j_if_ne 21 17 dX12_isWord_14 (by decide) rfl (fun hc => ?_) (fun hc => ?_)
    · replace h := j_neg hc h
      refine j_iconst (v := (0 : Int32)) 22 dX12_isWord_21 rfl (by decide) ?_
      cases h
      exact j_zret dX12_isWord_22 rfl j_b01_0
    · replace h := j_pos hc h
      refine j_iconst (v := (1 : Int32)) 18 dX12_isWord_17 rfl (by decide) ?_
      refine j_goto 22 dX12_isWord_18 (by decide) ?_
      cases h
      exact j_zret dX12_isWord_22 rfl j_b01_1
def fX12_isSign (l1 : Int32) (I : JI) : Option (Int32) :=
  if (I 66 14) = (3 : Int32) then (j_g (j_in (I 66 13) 1000) (if (I 74 (I 66 13).toNatClampNeg) = l1 then (some ((1 : Int32))) else (some ((0 : Int32))))) else (some ((0 : Int32)))
set_option maxHeartbeats 4000000 in
set_option maxRecDepth 100000 in
theorem tcX12_isSign {E : JE} {l1 : Int32} {r : Int32} {I : JI} {L : JL} {G D : JG} {S : JS} (hL : Lay G S) (h : fX12_isSign l1 I = some r) : CallJ E xX12_isSign 1 [.ref (E.1 + 66), .int l1] I L G D S (some (.int r)) I L G D S := by
  unfold fX12_isSign at h
  refine j_entry (by decide) (Nat.le_of_ble_eq_true rfl) ?_
  show AtJ E xX12_isSign (Zr E (some (.int r)) I L G D S) ((S).length, jm_sl S) 1 0 [(0, .ref (E.1 + 66)), (1, .int l1)] [] I L G D S
  refine j_aload_n 1 dX12_isSign_0 rfl rfl 0 rfl ?_
  refine j_getI 4 dX12_isSign_1 rfl (sh_66 hL) cl12 (k := 14) (by decide) flX12_268 rfl ?_
  refine j_iconst (v := (3 : Int32)) 5 dX12_isSign_4 rfl (by decide) ?_
  refine j_icmp_ne 25 8 dX12_isSign_5 (by decide) rfl (fun hc => ?_) (fun hc => ?_)
  · replace h := j_neg hc h
    refine j_iconst (v := (0 : Int32)) 26 dX12_isSign_25 rfl (by decide) ?_
    cases h
    exact j_zret dX12_isSign_26 rfl j_b01_0
  · replace h := j_pos hc h
    refine j_aload_n 9 dX12_isSign_8 rfl rfl 0 rfl ?_
    refine j_getG 12 dX12_isSign_9 rfl (sh_66 hL) cl12 (k := 10) (by decide) flX12_32 rfl (gs_66_10 hL) ?_
    refine j_aload_n 13 dX12_isSign_12 rfl rfl 0 rfl ?_
    refine j_getI 16 dX12_isSign_13 rfl (sh_66 hL) cl12 (k := 13) (by decide) flX12_258 rfl ?_
    obtain ⟨hg, h⟩ := j_gs h
    refine j_iald 17 dX12_isSign_16 rfl (sh_74 hL) (j_inv hg) ?_
    refine j_iload_n 18 dX12_isSign_17 rfl rfl 1 rfl ?_
    refine j_icmp_ne 25 21 dX12_isSign_18 (by decide) rfl (fun hc => ?_) (fun hc => ?_)
    · replace h := j_neg hc h
      refine j_iconst (v := (0 : Int32)) 26 dX12_isSign_25 rfl (by decide) ?_
      cases h
      exact j_zret dX12_isSign_26 rfl j_b01_0
    · replace h := j_pos hc h
      refine j_iconst (v := (1 : Int32)) 22 dX12_isSign_21 rfl (by decide) ?_
      refine j_goto 26 dX12_isSign_22 (by decide) ?_
      cases h
      exact j_zret dX12_isSign_26 rfl j_b01_1
def fX12_fails (l1 : Int32) (I : JI) : Option (Int32 × JI) :=
  some ((0 : Int32), (j_up I 66 17 (l1 + ((16 : Int32) * (I 66 13)))))
set_option maxHeartbeats 4000000 in
set_option maxRecDepth 100000 in
theorem tcX12_fails {E : JE} {l1 : Int32} {r : Int32 × JI} {I : JI} {L : JL} {G D : JG} {S : JS} (hL : Lay G S) (h : fX12_fails l1 I = some r) : CallJ E xX12_fails 1 [.ref (E.1 + 66), .int l1] I L G D S (some (.int r.1)) r.2 L G D S := by
  unfold fX12_fails at h
  refine j_entry (by decide) (Nat.le_of_ble_eq_true rfl) ?_
  show AtJ E xX12_fails (Zr E (some (.int r.1)) r.2 L G D S) ((S).length, jm_sl S) 1 0 [(0, .ref (E.1 + 66)), (1, .int l1)] [] I L G D S
  refine j_aload_n 1 dX12_fails_0 rfl rfl 0 rfl ?_
  refine j_iload_n 2 dX12_fails_1 rfl rfl 1 rfl ?_
  refine j_bipush (v := (16 : Int32)) 4 dX12_fails_2 rfl (by decide) ?_
  refine j_aload_n 5 dX12_fails_4 rfl rfl 0 rfl ?_
  refine j_getI 8 dX12_fails_5 rfl (sh_66 hL) cl12 (k := 13) (by decide) flX12_258 rfl ?_
  refine j_imul 9 dX12_fails_8 rfl ?_
  refine j_iadd 10 dX12_fails_9 rfl ?_
  refine j_putI 13 dX12_fails_10 rfl (sh_66 hL) cl12 (k := 17) (by decide) flX12_279 rfl rfl rfl ?_
  refine j_iconst (v := (0 : Int32)) 14 dX12_fails_13 rfl (by decide) ?_
  cases h
  exact j_zret dX12_fails_14 rfl j_b01_0
def fX12_puts (l1 : Int32) (I : JI) : Option (JI) :=
  j_g (j_in (I 66 28) 2000) (some ((j_up (j_up I 83 (I 66 28).toNatClampNeg l1) 66 28 (((j_up I 83 (I 66 28).toNatClampNeg l1) 66 28) + (1 : Int32)))))
set_option maxHeartbeats 4000000 in
set_option maxRecDepth 100000 in
theorem tcX12_puts {E : JE} {l1 : Int32} {r : JI} {I : JI} {L : JL} {G D : JG} {S : JS} (hL : Lay G S) (h : fX12_puts l1 I = some r) : CallJ E xX12_puts 1 [.ref (E.1 + 66), .int l1] I L G D S none r L G D S := by
  unfold fX12_puts at h
  refine j_entry (by decide) (Nat.le_of_ble_eq_true rfl) ?_
  show AtJ E xX12_puts (Zr E none r L G D S) ((S).length, jm_sl S) 1 0 [(0, .ref (E.1 + 66)), (1, .int l1)] [] I L G D S
  refine j_aload_n 1 dX12_puts_0 rfl rfl 0 rfl ?_
  refine j_getG 4 dX12_puts_1 rfl (sh_66 hL) cl12 (k := 27) (by decide) flX12_59 rfl (gs_66_27 hL) ?_
  refine j_aload_n 5 dX12_puts_4 rfl rfl 0 rfl ?_
  refine j_getI 8 dX12_puts_5 rfl (sh_66 hL) cl12 (k := 28) (by decide) flX12_282 rfl ?_
  refine j_iload_n 9 dX12_puts_8 rfl rfl 1 rfl ?_
  obtain ⟨hg, h⟩ := j_gs h
  refine j_iast 10 dX12_puts_9 rfl (sh_83 hL) (j_inv hg) ?_
  refine j_aload_n 11 dX12_puts_10 rfl rfl 0 rfl ?_
  refine j_dup 12 dX12_puts_11 rfl rfl ?_
  refine j_getI 15 dX12_puts_12 rfl (sh_66 hL) cl12 (k := 28) (by decide) flX12_282 rfl ?_
  refine j_iconst (v := (1 : Int32)) 16 dX12_puts_15 rfl (by decide) ?_
  refine j_iadd 17 dX12_puts_16 rfl ?_
  refine j_putI 20 dX12_puts_17 rfl (sh_66 hL) cl12 (k := 28) (by decide) flX12_282 rfl rfl rfl ?_
  cases h
  exact j_vret dX12_puts_20 rfl
def fX12_form (I : JI) (L : JL) : Option (Int32) :=
  (fX12_isWord (375035 : Int64) I L).bind (fun q1 => if q1 = 0 then ((fX12_isWord (144524 : Int64) I L).bind (fun q2 => if q2 = 0 then ((fX12_isWord (390787 : Int64) I L).bind (fun q3 => if q3 = 0 then (some ((-1 : Int32))) else (some ((2 : Int32))))) else (some ((1 : Int32))))) else (some ((0 : Int32))))
set_option maxHeartbeats 4000000 in
set_option maxRecDepth 100000 in
theorem tcX12_form {E : JE} {r : Int32} {I : JI} {L : JL} {G D : JG} {S : JS} (hL : Lay G S) (h : fX12_form I L = some r) : CallJ E xX12_form 2 [.ref (E.1 + 66)] I L G D S (some (.int r)) I L G D S := by
  unfold fX12_form at h
  refine j_entry (by decide) (Nat.le_of_ble_eq_true rfl) ?_
  show AtJ E xX12_form (Zr E (some (.int r)) I L G D S) ((S).length, jm_sl S) 2 0 [(0, .ref (E.1 + 66))] [] I L G D S
  refine j_aload_n 1 dX12_form_0 rfl rfl 0 rfl ?_
  refine j_ldc2 (v := (375035 : Int64)) 4 dX12_form_1 rfl wm1815 ?_
  obtain ⟨q1, hq1, h⟩ := j_bs h
  refine j_callV (rest := []) (As := [.long (375035 : Int64)]) 7 dX12_form_4 rfl jyX12_isWord (tcX12_isWord hL  hq1) (sh_66 hL) cl12 flX12_313 wm1780 wm47 (by decide) rfl rfl (Nat.le_of_ble_eq_true rfl) ?_
  refine j_if_eq 14 10 dX12_form_7 (by decide) rfl (fun hc => ?_) (fun hc => ?_)
  · replace h := j_pos hc h
    refine j_aload_n 15 dX12_form_14 rfl rfl 0 rfl ?_
    refine j_ldc2 (v := (144524 : Int64)) 18 dX12_form_15 rfl wm1816 ?_
    obtain ⟨q2, hq2, h⟩ := j_bs h
    refine j_callV (rest := []) (As := [.long (144524 : Int64)]) 21 dX12_form_18 rfl jyX12_isWord (tcX12_isWord hL  hq2) (sh_66 hL) cl12 flX12_313 wm1780 wm47 (by decide) rfl rfl (Nat.le_of_ble_eq_true rfl) ?_
    refine j_if_eq 28 24 dX12_form_21 (by decide) rfl (fun hc => ?_) (fun hc => ?_)
    · replace h := j_pos hc h
      refine j_aload_n 29 dX12_form_28 rfl rfl 0 rfl ?_
      refine j_ldc2 (v := (390787 : Int64)) 32 dX12_form_29 rfl wm1817 ?_
      obtain ⟨q3, hq3, h⟩ := j_bs h
      refine j_callV (rest := []) (As := [.long (390787 : Int64)]) 35 dX12_form_32 rfl jyX12_isWord (tcX12_isWord hL  hq3) (sh_66 hL) cl12 flX12_313 wm1780 wm47 (by decide) rfl rfl (Nat.le_of_ble_eq_true rfl) ?_
      refine j_if_eq 42 38 dX12_form_35 (by decide) rfl (fun hc => ?_) (fun hc => ?_)
      · replace h := j_pos hc h
        refine j_iconst (v := (-1 : Int32)) 43 dX12_form_42 rfl (by decide) ?_
        cases h
        exact j_iret dX12_form_43 rfl
      · replace h := j_neg hc h
        refine j_iconst (v := (2 : Int32)) 39 dX12_form_38 rfl (by decide) ?_
        refine j_goto 43 dX12_form_39 (by decide) ?_
        cases h
        exact j_iret dX12_form_43 rfl
    · replace h := j_neg hc h
      refine j_iconst (v := (1 : Int32)) 25 dX12_form_24 rfl (by decide) ?_
      refine j_goto 43 dX12_form_25 (by decide) ?_
      cases h
      exact j_iret dX12_form_43 rfl
  · replace h := j_neg hc h
    refine j_iconst (v := (0 : Int32)) 11 dX12_form_10 rfl (by decide) ?_
    refine j_goto 43 dX12_form_11 (by decide) ?_
    cases h
    exact j_iret dX12_form_43 rfl
def fX12_fact (I : JI) (L : JL) : Option (Int32) :=
  if (I 66 14) = (1 : Int32) then (if (lg_cmp (L 66 15) (14 : Int64)) = 0 then (some ((1 : Int32))) else (if (lg_cmp (L 66 15) (8863997 : Int64)) = 0 then (some ((2 : Int32))) else (if (lg_cmp (L 66 15) (315904 : Int64)) = 0 then (some ((3 : Int32))) else (if (lg_cmp (L 66 15) (5948362 : Int64)) = 0 then (some ((4 : Int32))) else (if (lg_cmp (L 66 15) (82236848 : Int64)) = 0 then (some ((5 : Int32))) else (if (lg_cmp (L 66 15) (5878 : Int64)) = 0 then (some ((6 : Int32))) else (if (lg_cmp (L 66 15) (279346 : Int64)) = 0 then (some ((10 : Int32))) else (if (lg_cmp (L 66 15) (4555648 : Int64)) = 0 then (some ((11 : Int32))) else (if (lg_cmp (L 66 15) (312409 : Int64)) = 0 then (some ((12 : Int32))) else (if (lg_cmp (L 66 15) (60203876 : Int64)) = 0 then (some ((13 : Int32))) else (if (lg_cmp (L 66 15) (2968 : Int64)) = 0 then (some ((14 : Int32))) else ((fX12_form I L).bind (fun q1 => if 0 ≤ q1 then ((fX12_form I L).bind (fun q2 => some (((7 : Int32) + q2)))) else (some ((0 : Int32)))))))))))))))) else (some ((0 : Int32)))
set_option maxHeartbeats 4000000 in
set_option maxRecDepth 100000 in
theorem tcX12_fact {E : JE} {r : Int32} {I : JI} {L : JL} {G D : JG} {S : JS} (hL : Lay G S) (h : fX12_fact I L = some r) : CallJ E xX12_fact 3 [.ref (E.1 + 66)] I L G D S (some (.int r)) I L G D S := by
  unfold fX12_fact at h
  refine j_entry (by decide) (Nat.le_of_ble_eq_true rfl) ?_
  show AtJ E xX12_fact (Zr E (some (.int r)) I L G D S) ((S).length, jm_sl S) 3 0 [(0, .ref (E.1 + 66))] [] I L G D S
  refine j_aload_n 1 dX12_fact_0 rfl rfl 0 rfl ?_
  refine j_getI 4 dX12_fact_1 rfl (sh_66 hL) cl12 (k := 14) (by decide) flX12_268 rfl ?_
  refine j_iconst (v := (1 : Int32)) 5 dX12_fact_4 rfl (by decide) ?_
  refine j_icmp_eq 10 8 dX12_fact_5 (by decide) rfl (fun hc => ?_) (fun hc => ?_)
  · replace h := j_pos hc h
    refine j_aload_n 11 dX12_fact_10 rfl rfl 0 rfl ?_
    refine j_getL 14 dX12_fact_11 rfl (sh_66 hL) cl12 (k := 15) (by decide) flX12_261 rfl ?_
    refine j_ldc2 (v := (14 : Int64)) 17 dX12_fact_14 rfl wm1832 ?_
    refine j_lcmp 18 dX12_fact_17 rfl ?_
    refine j_if_ne 23 21 dX12_fact_18 (by decide) rfl (fun hc => ?_) (fun hc => ?_)
    · replace h := j_neg hc h
      refine j_aload_n 24 dX12_fact_23 rfl rfl 0 rfl ?_
      refine j_getL 27 dX12_fact_24 rfl (sh_66 hL) cl12 (k := 15) (by decide) flX12_261 rfl ?_
      refine j_ldc2 (v := (8863997 : Int64)) 30 dX12_fact_27 rfl wm1777 ?_
      refine j_lcmp 31 dX12_fact_30 rfl ?_
      refine j_if_ne 36 34 dX12_fact_31 (by decide) rfl (fun hc => ?_) (fun hc => ?_)
      · replace h := j_neg hc h
        refine j_aload_n 37 dX12_fact_36 rfl rfl 0 rfl ?_
        refine j_getL 40 dX12_fact_37 rfl (sh_66 hL) cl12 (k := 15) (by decide) flX12_261 rfl ?_
        refine j_ldc2 (v := (315904 : Int64)) 43 dX12_fact_40 rfl wm1791 ?_
        refine j_lcmp 44 dX12_fact_43 rfl ?_
        refine j_if_ne 49 47 dX12_fact_44 (by decide) rfl (fun hc => ?_) (fun hc => ?_)
        · replace h := j_neg hc h
          refine j_aload_n 50 dX12_fact_49 rfl rfl 0 rfl ?_
          refine j_getL 53 dX12_fact_50 rfl (sh_66 hL) cl12 (k := 15) (by decide) flX12_261 rfl ?_
          refine j_ldc2 (v := (5948362 : Int64)) 56 dX12_fact_53 rfl wm1833 ?_
          refine j_lcmp 57 dX12_fact_56 rfl ?_
          refine j_if_ne 62 60 dX12_fact_57 (by decide) rfl (fun hc => ?_) (fun hc => ?_)
          · replace h := j_neg hc h
            refine j_aload_n 63 dX12_fact_62 rfl rfl 0 rfl ?_
            refine j_getL 66 dX12_fact_63 rfl (sh_66 hL) cl12 (k := 15) (by decide) flX12_261 rfl ?_
            refine j_ldc2 (v := (82236848 : Int64)) 69 dX12_fact_66 rfl wm1834 ?_
            refine j_lcmp 70 dX12_fact_69 rfl ?_
            refine j_if_ne 75 73 dX12_fact_70 (by decide) rfl (fun hc => ?_) (fun hc => ?_)
            · replace h := j_neg hc h
              refine j_aload_n 76 dX12_fact_75 rfl rfl 0 rfl ?_
              refine j_getL 79 dX12_fact_76 rfl (sh_66 hL) cl12 (k := 15) (by decide) flX12_261 rfl ?_
              refine j_ldc2 (v := (5878 : Int64)) 82 dX12_fact_79 rfl wm1835 ?_
              refine j_lcmp 83 dX12_fact_82 rfl ?_
              refine j_if_ne 89 86 dX12_fact_83 (by decide) rfl (fun hc => ?_) (fun hc => ?_)
              · replace h := j_neg hc h
                refine j_aload_n 90 dX12_fact_89 rfl rfl 0 rfl ?_
                refine j_getL 93 dX12_fact_90 rfl (sh_66 hL) cl12 (k := 15) (by decide) flX12_261 rfl ?_
                refine j_ldc2 (v := (279346 : Int64)) 96 dX12_fact_93 rfl wm1836 ?_
                refine j_lcmp 97 dX12_fact_96 rfl ?_
                refine j_if_ne 103 100 dX12_fact_97 (by decide) rfl (fun hc => ?_) (fun hc => ?_)
                · replace h := j_neg hc h
                  refine j_aload_n 104 dX12_fact_103 rfl rfl 0 rfl ?_
                  refine j_getL 107 dX12_fact_104 rfl (sh_66 hL) cl12 (k := 15) (by decide) flX12_261 rfl ?_
                  refine j_ldc2 (v := (4555648 : Int64)) 110 dX12_fact_107 rfl wm1837 ?_
                  refine j_lcmp 111 dX12_fact_110 rfl ?_
                  refine j_if_ne 117 114 dX12_fact_111 (by decide) rfl (fun hc => ?_) (fun hc => ?_)
                  · replace h := j_neg hc h
                    refine j_aload_n 118 dX12_fact_117 rfl rfl 0 rfl ?_
                    refine j_getL 121 dX12_fact_118 rfl (sh_66 hL) cl12 (k := 15) (by decide) flX12_261 rfl ?_
                    refine j_ldc2 (v := (312409 : Int64)) 124 dX12_fact_121 rfl wm1838 ?_
                    refine j_lcmp 125 dX12_fact_124 rfl ?_
                    refine j_if_ne 131 128 dX12_fact_125 (by decide) rfl (fun hc => ?_) (fun hc => ?_)
                    · replace h := j_neg hc h
                      refine j_aload_n 132 dX12_fact_131 rfl rfl 0 rfl ?_
                      refine j_getL 135 dX12_fact_132 rfl (sh_66 hL) cl12 (k := 15) (by decide) flX12_261 rfl ?_
                      refine j_ldc2 (v := (60203876 : Int64)) 138 dX12_fact_135 rfl wm1839 ?_
                      refine j_lcmp 139 dX12_fact_138 rfl ?_
                      refine j_if_ne 145 142 dX12_fact_139 (by decide) rfl (fun hc => ?_) (fun hc => ?_)
                      · replace h := j_neg hc h
                        refine j_aload_n 146 dX12_fact_145 rfl rfl 0 rfl ?_
                        refine j_getL 149 dX12_fact_146 rfl (sh_66 hL) cl12 (k := 15) (by decide) flX12_261 rfl ?_
                        refine j_ldc2 (v := (2968 : Int64)) 152 dX12_fact_149 rfl wm1840 ?_
                        refine j_lcmp 153 dX12_fact_152 rfl ?_
                        refine j_if_ne 159 156 dX12_fact_153 (by decide) rfl (fun hc => ?_) (fun hc => ?_)
                        · replace h := j_neg hc h
                          refine j_aload_n 160 dX12_fact_159 rfl rfl 0 rfl ?_
                          obtain ⟨q1, hq1, h⟩ := j_bs h
                          refine j_callV (rest := []) (As := []) 163 dX12_fact_160 rfl jyX12_form (tcX12_form hL  hq1) (sh_66 hL) cl12 flX12_307 wm1813 wm52 (by decide) rfl rfl (Nat.le_of_ble_eq_true rfl) ?_
                          refine j_if_ge 170 166 dX12_fact_163 (by decide) rfl (fun hc => ?_) (fun hc => ?_)
                          · replace h := j_pos hc h
                            refine j_bipush (v := (7 : Int32)) 172 dX12_fact_170 rfl (by decide) ?_
                            refine j_aload_n 173 dX12_fact_172 rfl rfl 0 rfl ?_
                            obtain ⟨q2, hq2, h⟩ := j_bs h
                            refine j_callV (rest := [.int (7 : Int32)]) (As := []) 176 dX12_fact_173 rfl jyX12_form (tcX12_form hL  hq2) (sh_66 hL) cl12 flX12_307 wm1813 wm52 (by decide) rfl rfl (Nat.le_of_ble_eq_true rfl) ?_
                            refine j_iadd 177 dX12_fact_176 rfl ?_
                            cases h
                            exact j_iret dX12_fact_177 rfl
                          · replace h := j_neg hc h
                            refine j_iconst (v := (0 : Int32)) 167 dX12_fact_166 rfl (by decide) ?_
                            refine j_goto 177 dX12_fact_167 (by decide) ?_
                            cases h
                            exact j_iret dX12_fact_177 rfl
                        · replace h := j_pos hc h
                          refine j_bipush (v := (14 : Int32)) 158 dX12_fact_156 rfl (by decide) ?_
                          cases h
                          exact j_iret dX12_fact_158 rfl
                      · replace h := j_pos hc h
                        refine j_bipush (v := (13 : Int32)) 144 dX12_fact_142 rfl (by decide) ?_
                        cases h
                        exact j_iret dX12_fact_144 rfl
                    · replace h := j_pos hc h
                      refine j_bipush (v := (12 : Int32)) 130 dX12_fact_128 rfl (by decide) ?_
                      cases h
                      exact j_iret dX12_fact_130 rfl
                  · replace h := j_pos hc h
                    refine j_bipush (v := (11 : Int32)) 116 dX12_fact_114 rfl (by decide) ?_
                    cases h
                    exact j_iret dX12_fact_116 rfl
                · replace h := j_pos hc h
                  refine j_bipush (v := (10 : Int32)) 102 dX12_fact_100 rfl (by decide) ?_
                  cases h
                  exact j_iret dX12_fact_102 rfl
              · replace h := j_pos hc h
                refine j_bipush (v := (6 : Int32)) 88 dX12_fact_86 rfl (by decide) ?_
                cases h
                exact j_iret dX12_fact_88 rfl
            · replace h := j_pos hc h
              refine j_iconst (v := (5 : Int32)) 74 dX12_fact_73 rfl (by decide) ?_
              cases h
              exact j_iret dX12_fact_74 rfl
          · replace h := j_pos hc h
            refine j_iconst (v := (4 : Int32)) 61 dX12_fact_60 rfl (by decide) ?_
            cases h
            exact j_iret dX12_fact_61 rfl
        · replace h := j_pos hc h
          refine j_iconst (v := (3 : Int32)) 48 dX12_fact_47 rfl (by decide) ?_
          cases h
          exact j_iret dX12_fact_48 rfl
      · replace h := j_pos hc h
        refine j_iconst (v := (2 : Int32)) 35 dX12_fact_34 rfl (by decide) ?_
        cases h
        exact j_iret dX12_fact_35 rfl
    · replace h := j_pos hc h
      refine j_iconst (v := (1 : Int32)) 22 dX12_fact_21 rfl (by decide) ?_
      cases h
      exact j_iret dX12_fact_22 rfl
  · replace h := j_neg hc h
    refine j_iconst (v := (0 : Int32)) 9 dX12_fact_8 rfl (by decide) ?_
    cases h
    exact j_iret dX12_fact_9 rfl
