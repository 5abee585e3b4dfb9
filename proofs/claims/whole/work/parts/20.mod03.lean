def fX12_mays (l1 : Int32) (l2 : Int32) (I : JI) : Option (Int32) :=
  (fX12_isPassed l1 I).bind (fun q1 => if q1 = 0 then (some ((0 : Int32))) else ((fX12_isPerson l2).bind (fun q2 => if q2 = 0 then (some ((0 : Int32))) else (j_g (j_in (((16 : Int32) * l1) + l2) 640) (if (I 109 (((16 : Int32) * l1) + l2).toNatClampNeg) < 0 then (some ((0 : Int32))) else (some ((1 : Int32))))))))
set_option maxHeartbeats 4000000 in
set_option maxRecDepth 100000 in
theorem tcX12_mays {E : JE} {l1 : Int32} {l2 : Int32} {r : Int32} {I : JI} {L : JL} {G D : JG} {S : JS} (hL : Lay G S) (h : fX12_mays l1 l2 I = some r) : CallJ E xX12_mays 2 [.ref (E.1 + 66), .int l1, .int l2] I L G D S (some (.int r)) I L G D S := by
  unfold fX12_mays at h
  refine j_entry (by decide) (Nat.le_of_ble_eq_true rfl) ?_
  show AtJ E xX12_mays (Zr E (some (.int r)) I L G D S) ((S).length, jm_sl S) 2 0 [(0, .ref (E.1 + 66)), (1, .int l1), (2, .int l2)] [] I L G D S
  refine j_aload_n 1 dX12_mays_0 rfl rfl 0 rfl ?_
  refine j_iload_n 2 dX12_mays_1 rfl rfl 1 rfl ?_
  obtain ⟨q1, hq1, h⟩ := j_bs h
  refine j_callV (rest := []) (As := [.int l1]) 5 dX12_mays_2 rfl jyX12_isPassed (tcX12_isPassed hL  hq1) (sh_66 hL) cl12 flX12_470 wm1914 wm70 (by decide) rfl rfl (Nat.le_of_ble_eq_true rfl) ?_
  refine j_if_eq 33 8 dX12_mays_5 (by decide) rfl (fun hc => ?_) (fun hc => ?_)
  · replace h := j_pos hc h
    refine j_iconst (v := (0 : Int32)) 34 dX12_mays_33 rfl (by decide) ?_
    cases h
    exact j_zret dX12_mays_34 rfl j_b01_0
  · replace h := j_neg hc h
    refine j_iload_n 9 dX12_mays_8 rfl rfl 2 rfl ?_
    obtain ⟨q2, hq2, h⟩ := j_bs h
    refine j_callS (rest := []) (As := [.int l2]) 12 dX12_mays_9 rfl jyX12_isPerson (tcX12_isPerson   hq2) flX12_226 wm1700 (by decide) rfl rfl (Nat.le_of_ble_eq_true rfl) ?_
    refine j_if_eq 33 15 dX12_mays_12 (by decide) rfl (fun hc => ?_) (fun hc => ?_)
    · replace h := j_pos hc h
      refine j_iconst (v := (0 : Int32)) 34 dX12_mays_33 rfl (by decide) ?_
      cases h
      exact j_zret dX12_mays_34 rfl j_b01_0
    · replace h := j_neg hc h
      refine j_aload_n 16 dX12_mays_15 rfl rfl 0 rfl ?_
      refine j_getG 19 dX12_mays_16 rfl (sh_66 hL) cl12 (k := 66) (by decide) flX12_137 rfl (gs_66_66 hL) ?_
      refine j_bipush (v := (16 : Int32)) 21 dX12_mays_19 rfl (by decide) ?_
      refine j_iload_n 22 dX12_mays_21 rfl rfl 1 rfl ?_
      refine j_imul 23 dX12_mays_22 rfl ?_
      refine j_iload_n 24 dX12_mays_23 rfl rfl 2 rfl ?_
      refine j_iadd 25 dX12_mays_24 rfl ?_
      obtain ⟨hg, h⟩ := j_gs h
      refine j_iald 26 dX12_mays_25 rfl (sh_109 hL) (j_inv hg) ?_
      refine j_if_lt 33 29 dX12_mays_26 (by decide) rfl (fun hc => ?_) (fun hc => ?_)
      · replace h := j_pos hc h
        refine j_iconst (v := (0 : Int32)) 34 dX12_mays_33 rfl (by decide) ?_
        cases h
        exact j_zret dX12_mays_34 rfl j_b01_0
      · replace h := j_neg hc h
        refine j_iconst (v := (1 : Int32)) 30 dX12_mays_29 rfl (by decide) ?_
        refine j_goto 34 dX12_mays_30 (by decide) ?_
        cases h
        exact j_zret dX12_mays_34 rfl j_b01_1
def fX12_may (l1 : Int32) (l2 : Int32) (I : JI) : Option (Int32 × JI) :=
  (fX12_mays l1 l2 (j_up I 66 0 (0 : Int32))).bind (fun q1 => if q1 = 0 then (some ((-1 : Int32), (j_up I 66 0 (0 : Int32)))) else (j_g (j_in (((16 : Int32) * l1) + l2) 640) (some (((j_up I 66 0 (0 : Int32)) 109 (((16 : Int32) * l1) + l2).toNatClampNeg), (j_up I 66 0 (0 : Int32))))))
set_option maxHeartbeats 4000000 in
set_option maxRecDepth 100000 in
theorem tcX12_may {E : JE} {l1 : Int32} {l2 : Int32} {r : Int32 × JI} {I : JI} {L : JL} {G D : JG} {S : JS} (hL : Lay G S) (h : fX12_may l1 l2 I = some r) : CallJ E xX12_may 3 [.ref (E.1 + 66), .int l1, .int l2] I L G D S (some (.int r.1)) r.2 L G D S := by
  unfold fX12_may at h
  refine j_entry (by decide) (Nat.le_of_ble_eq_true rfl) ?_
  show AtJ E xX12_may (Zr E (some (.int r.1)) r.2 L G D S) ((S).length, jm_sl S) 3 0 [(0, .ref (E.1 + 66)), (1, .int l1), (2, .int l2)] [] I L G D S
  refine j_aload_n 1 dX12_may_0 rfl rfl 0 rfl ?_
  refine j_iconst (v := (0 : Int32)) 2 dX12_may_1 rfl (by decide) ?_
  refine j_putI 5 dX12_may_2 rfl (sh_66 hL) cl12 (k := 0) (by decide) flX12_218 rfl rfl rfl ?_
  refine j_aload_n 6 dX12_may_5 rfl rfl 0 rfl ?_
  refine j_iload_n 7 dX12_may_6 rfl rfl 1 rfl ?_
  refine j_iload_n 8 dX12_may_7 rfl rfl 2 rfl ?_
  obtain ⟨q1, hq1, h⟩ := j_bs h
  refine j_callV (rest := []) (As := [.int l1, .int l2]) 11 dX12_may_8 rfl jyX12_mays (tcX12_mays hL  hq1) (sh_66 hL) cl12 flX12_476 wm1926 wm72 (by decide) rfl rfl (Nat.le_of_ble_eq_true rfl) ?_
  refine j_if_eq 28 14 dX12_may_11 (by decide) rfl (fun hc => ?_) (fun hc => ?_)
  · replace h := j_pos hc h
    refine j_iconst (v := (-1 : Int32)) 29 dX12_may_28 rfl (by decide) ?_
    cases h
    exact j_iret dX12_may_29 rfl
  · replace h := j_neg hc h
    refine j_aload_n 15 dX12_may_14 rfl rfl 0 rfl ?_
    refine j_getG 18 dX12_may_15 rfl (sh_66 hL) cl12 (k := 66) (by decide) flX12_137 rfl (gs_66_66 hL) ?_
    refine j_bipush (v := (16 : Int32)) 20 dX12_may_18 rfl (by decide) ?_
    refine j_iload_n 21 dX12_may_20 rfl rfl 1 rfl ?_
    refine j_imul 22 dX12_may_21 rfl ?_
    refine j_iload_n 23 dX12_may_22 rfl rfl 2 rfl ?_
    refine j_iadd 24 dX12_may_23 rfl ?_
    obtain ⟨hg, h⟩ := j_gs h
    refine j_iald 25 dX12_may_24 rfl (sh_109 hL) (j_inv hg) ?_
    refine j_goto 29 dX12_may_25 (by decide) ?_
    cases h
    exact j_iret dX12_may_29 rfl
def fX12_order_78 (k24 : Int32 → Int32 → Int32 → Int32 → JI → Option (Int32 × JI)) (l1 : Int32) (l2 : Int32) (l3 : Int32) (l4 : Int32) (I : JI) : Option (Int32 × JI) :=
  k24 l1 l2 l3 (l4 + (1 : Int32)) I
set_option maxHeartbeats 4000000 in
set_option maxRecDepth 100000 in
theorem kX12_order_78 {E : JE} {k24 : Int32 → Int32 → Int32 → Int32 → JI → Option (Int32 × JI)} {r : Int32 × JI} {L : JL} {G : JG} {D : JG} {S : JS} (hL : Lay G S) (H24 : ∀ (l1 : Int32) (l2 : Int32) (l3 : Int32) (l4 : Int32) (I : JI), k24 l1 l2 l3 l4 I = some r → AtJ E xX12_order (Zr E (some (.int r.1)) r.2 L G D S) ((S).length, jm_sl S) 2 24 [(0, .ref (E.1 + 66)), (1, .int l1), (2, .int l2), (3, .int l3), (4, .int l4)] [] I L G D S) : ∀ (l1 : Int32) (l2 : Int32) (l3 : Int32) (l4 : Int32) (I : JI), fX12_order_78 k24 l1 l2 l3 l4 I = some r → AtJ E xX12_order (Zr E (some (.int r.1)) r.2 L G D S) ((S).length, jm_sl S) 2 78 [(0, .ref (E.1 + 66)), (1, .int l1), (2, .int l2), (3, .int l3), (4, .int l4)] [] I L G D S := by
  intro l1 l2 l3 l4 I  h
  unfold fX12_order_78 at h
  refine j_iinc (v := (l4 + (1 : Int32))) (lv' := [(4, .int (l4 + (1 : Int32))), (0, .ref (E.1 + 66)), (1, .int l1), (2, .int l2), (3, .int l3)]) (q := 4) 81 dX12_order_78 rfl rfl rfl (by decide) rfl ?_
  refine j_goto 24 dX12_order_81 (by decide) ?_
  refine j_sub [1, 2, 3, 4, 0] rfl ?_
  exact H24 _ _ _ _ _  h
def fX12_order_34 (k24 : Int32 → Int32 → Int32 → Int32 → JI → Option (Int32 × JI)) : Nat → Int32 → Int32 → Int32 → Int32 → Int32 → JI → Option (Int32 × JI)
  | 0, _, _, _, _, _, _ => none
  | n + 1, l1, l2, l3, l4, l5, I =>
    if (16 : Int32) ≤ l5 then (fX12_order_78 k24 l1 l2 l3 l4 I) else (j_g (j_in (((16 : Int32) * l1) + l5) 640) (if (I 109 (((16 : Int32) * l1) + l5).toNatClampNeg) = l4 then (if l3 = l2 then (some (l5, I)) else ((fX12_order_34 k24 n) l1 l2 (l3 + (1 : Int32)) l4 (l5 + (1 : Int32)) I)) else ((fX12_order_34 k24 n) l1 l2 l3 l4 (l5 + (1 : Int32)) I)))
set_option maxHeartbeats 4000000 in
set_option maxRecDepth 100000 in
theorem kX12_order_34 {E : JE} {k24 : Int32 → Int32 → Int32 → Int32 → JI → Option (Int32 × JI)} {r : Int32 × JI} {L : JL} {G : JG} {D : JG} {S : JS} (hL : Lay G S) (H24 : ∀ (l1 : Int32) (l2 : Int32) (l3 : Int32) (l4 : Int32) (I : JI), k24 l1 l2 l3 l4 I = some r → AtJ E xX12_order (Zr E (some (.int r.1)) r.2 L G D S) ((S).length, jm_sl S) 2 24 [(0, .ref (E.1 + 66)), (1, .int l1), (2, .int l2), (3, .int l3), (4, .int l4)] [] I L G D S) : ∀ (n : Nat) (l1 : Int32) (l2 : Int32) (l3 : Int32) (l4 : Int32) (l5 : Int32) (I : JI), fX12_order_34 k24 n l1 l2 l3 l4 l5 I = some r → AtJ E xX12_order (Zr E (some (.int r.1)) r.2 L G D S) ((S).length, jm_sl S) 2 34 [(0, .ref (E.1 + 66)), (1, .int l1), (2, .int l2), (3, .int l3), (4, .int l4), (5, .int l5)] [] I L G D S := by
  intro n
  induction n with
  | zero => intro l1 l2 l3 l4 l5 I  h; simp [fX12_order_34] at h
  | succ n ih =>
    intro l1 l2 l3 l4 l5 I  h
    rw [fX12_order_34] at h
    refine j_iload 36 dX12_order_34 rfl 5 rfl ?_
    refine j_bipush (v := (16 : Int32)) 38 dX12_order_36 rfl (by decide) ?_
    refine j_icmp_ge 78 41 dX12_order_38 (by decide) rfl (fun hc => ?_) (fun hc => ?_)
    · replace h := j_pos hc h
      refine j_sub [0, 1, 2, 3, 4] rfl ?_
      exact kX12_order_78 hL   H24 _ _ _ _ _  h
    · replace h := j_neg hc h
      refine j_aload_n 42 dX12_order_41 rfl rfl 0 rfl ?_
      refine j_getG 45 dX12_order_42 rfl (sh_66 hL) cl12 (k := 66) (by decide) flX12_137 rfl (gs_66_66 hL) ?_
      refine j_bipush (v := (16 : Int32)) 47 dX12_order_45 rfl (by decide) ?_
      refine j_iload_n 48 dX12_order_47 rfl rfl 1 rfl ?_
      refine j_imul 49 dX12_order_48 rfl ?_
      refine j_iload 51 dX12_order_49 rfl 5 rfl ?_
      refine j_iadd 52 dX12_order_51 rfl ?_
      obtain ⟨hg, h⟩ := j_gs h
      refine j_iald 53 dX12_order_52 rfl (sh_109 hL) (j_inv hg) ?_
      refine j_iload 55 dX12_order_53 rfl 4 rfl ?_
      refine j_icmp_eq 61 58 dX12_order_55 (by decide) rfl (fun hc => ?_) (fun hc => ?_)
      · replace h := j_pos hc h
        refine j_iload_n 62 dX12_order_61 rfl rfl 3 rfl ?_
        refine j_iload_n 63 dX12_order_62 rfl rfl 2 rfl ?_
        refine j_icmp_ne 69 66 dX12_order_63 (by decide) rfl (fun hc => ?_) (fun hc => ?_)
        · replace h := j_neg hc h
          refine j_iinc (v := (l3 + (1 : Int32))) (lv' := [(3, .int (l3 + (1 : Int32))), (0, .ref (E.1 + 66)), (1, .int l1), (2, .int l2), (4, .int l4), (5, .int l5)]) (q := 3) 72 dX12_order_69 rfl rfl rfl (by decide) rfl ?_
          refine j_iinc (v := (l5 + (1 : Int32))) (lv' := [(5, .int (l5 + (1 : Int32))), (3, .int (l3 + (1 : Int32))), (0, .ref (E.1 + 66)), (1, .int l1), (2, .int l2), (4, .int l4)]) (q := 5) 75 dX12_order_72 rfl rfl rfl (by decide) rfl ?_
          refine j_goto 34 dX12_order_75 (by decide) ?_
          refine j_sub [2, 3, 4, 1, 5, 0] rfl ?_
          exact ih _ _ _ _ _ _  h
        · replace h := j_pos hc h
          refine j_iload 68 dX12_order_66 rfl 5 rfl ?_
          cases h
          exact j_iret dX12_order_68 rfl
      · replace h := j_neg hc h
        refine j_goto 72 dX12_order_58 (by decide) ?_
        refine j_iinc (v := (l5 + (1 : Int32))) (lv' := [(5, .int (l5 + (1 : Int32))), (0, .ref (E.1 + 66)), (1, .int l1), (2, .int l2), (3, .int l3), (4, .int l4)]) (q := 5) 75 dX12_order_72 rfl rfl rfl (by decide) rfl ?_
        refine j_goto 34 dX12_order_75 (by decide) ?_
        refine j_sub [1, 2, 3, 4, 5, 0] rfl ?_
        exact ih _ _ _ _ _ _  h
def fX12_order_24 : Nat → Int32 → Int32 → Int32 → Int32 → JI → Option (Int32 × JI)
  | 0, _, _, _, _, _ => none
  | n + 1, l1, l2, l3, l4, I =>
    if (18 : Int32) ≤ l4 then (some ((-1 : Int32), I)) else (fX12_order_34 (fX12_order_24 n) 100000 l1 l2 l3 l4 (0 : Int32) I)
set_option maxHeartbeats 4000000 in
set_option maxRecDepth 100000 in
theorem kX12_order_24 {E : JE} {r : Int32 × JI} {L : JL} {G : JG} {D : JG} {S : JS} (hL : Lay G S) : ∀ (n : Nat) (l1 : Int32) (l2 : Int32) (l3 : Int32) (l4 : Int32) (I : JI), fX12_order_24 n l1 l2 l3 l4 I = some r → AtJ E xX12_order (Zr E (some (.int r.1)) r.2 L G D S) ((S).length, jm_sl S) 2 24 [(0, .ref (E.1 + 66)), (1, .int l1), (2, .int l2), (3, .int l3), (4, .int l4)] [] I L G D S := by
  intro n
  induction n with
  | zero => intro l1 l2 l3 l4 I  h; simp [fX12_order_24] at h
  | succ n ih =>
    intro l1 l2 l3 l4 I  h
    rw [fX12_order_24] at h
    refine j_iload 26 dX12_order_24 rfl 4 rfl ?_
    refine j_bipush (v := (18 : Int32)) 28 dX12_order_26 rfl (by decide) ?_
    refine j_icmp_ge 84 31 dX12_order_28 (by decide) rfl (fun hc => ?_) (fun hc => ?_)
    · replace h := j_pos hc h
      refine j_iconst (v := (-1 : Int32)) 85 dX12_order_84 rfl (by decide) ?_
      cases h
      exact j_iret dX12_order_85 rfl
    · replace h := j_neg hc h
      refine j_iconst (v := (0 : Int32)) 32 dX12_order_31 rfl (by decide) ?_
      refine j_istore (lv' := [(5, .int (0 : Int32)), (0, .ref (E.1 + 66)), (1, .int l1), (2, .int l2), (3, .int l3), (4, .int l4)]) 34 dX12_order_32 rfl (by decide) rfl ?_
      refine j_sub [1, 2, 3, 4, 5, 0] rfl ?_
      exact kX12_order_34 hL   ih 100000 _ _ _ _ _ _  h
def fX12_order (l1 : Int32) (l2 : Int32) (I : JI) : Option (Int32 × JI) :=
  (fX12_isPassed l1 (j_up I 66 0 (0 : Int32))).bind (fun q1 => if q1 = 0 then (some ((-1 : Int32), (j_up I 66 0 (0 : Int32)))) else (if 0 ≤ l2 then (fX12_order_24 100000 l1 l2 (0 : Int32) (0 : Int32) (j_up I 66 0 (0 : Int32))) else (some ((-1 : Int32), (j_up I 66 0 (0 : Int32))))))
set_option maxHeartbeats 4000000 in
set_option maxRecDepth 100000 in
theorem tcX12_order {E : JE} {l1 : Int32} {l2 : Int32} {r : Int32 × JI} {I : JI} {L : JL} {G D : JG} {S : JS} (hL : Lay G S) (h : fX12_order l1 l2 I = some r) : CallJ E xX12_order 2 [.ref (E.1 + 66), .int l1, .int l2] I L G D S (some (.int r.1)) r.2 L G D S := by
  unfold fX12_order at h
  refine j_entry (by decide) (Nat.le_of_ble_eq_true rfl) ?_
  show AtJ E xX12_order (Zr E (some (.int r.1)) r.2 L G D S) ((S).length, jm_sl S) 2 0 [(0, .ref (E.1 + 66)), (1, .int l1), (2, .int l2)] [] I L G D S
  refine j_aload_n 1 dX12_order_0 rfl rfl 0 rfl ?_
  refine j_iconst (v := (0 : Int32)) 2 dX12_order_1 rfl (by decide) ?_
  refine j_putI 5 dX12_order_2 rfl (sh_66 hL) cl12 (k := 0) (by decide) flX12_218 rfl rfl rfl ?_
  refine j_aload_n 6 dX12_order_5 rfl rfl 0 rfl ?_
  refine j_iload_n 7 dX12_order_6 rfl rfl 1 rfl ?_
  obtain ⟨q1, hq1, h⟩ := j_bs h
  refine j_callV (rest := []) (As := [.int l1]) 10 dX12_order_7 rfl jyX12_isPassed (tcX12_isPassed hL  hq1) (sh_66 hL) cl12 flX12_470 wm1914 wm70 (by decide) rfl rfl (Nat.le_of_ble_eq_true rfl) ?_
  refine j_if_eq 17 13 dX12_order_10 (by decide) rfl (fun hc => ?_) (fun hc => ?_)
  · replace h := j_pos hc h
    refine j_iconst (v := (-1 : Int32)) 18 dX12_order_17 rfl (by decide) ?_
    cases h
    exact j_iret dX12_order_18 rfl
  · replace h := j_neg hc h
    refine j_iload_n 14 dX12_order_13 rfl rfl 2 rfl ?_
    refine j_if_ge 19 17 dX12_order_14 (by decide) rfl (fun hc => ?_) (fun hc => ?_)
    · replace h := j_pos hc h
      refine j_iconst (v := (0 : Int32)) 20 dX12_order_19 rfl (by decide) ?_
      refine j_istore_n (lv' := [(3, .int (0 : Int32)), (0, .ref (E.1 + 66)), (1, .int l1), (2, .int l2)]) 21 dX12_order_20 rfl rfl (by decide) rfl ?_
      refine j_iconst (v := (0 : Int32)) 22 dX12_order_21 rfl (by decide) ?_
      refine j_istore (lv' := [(4, .int (0 : Int32)), (3, .int (0 : Int32)), (0, .ref (E.1 + 66)), (1, .int l1), (2, .int l2)]) 24 dX12_order_22 rfl (by decide) rfl ?_
      refine j_sub [2, 3, 4, 1, 0] rfl ?_
      exact kX12_order_24 hL    100000 _ _ _ _ _  h
    · replace h := j_neg hc h
      refine j_iconst (v := (-1 : Int32)) 18 dX12_order_17 rfl (by decide) ?_
      cases h
      exact j_iret dX12_order_18 rfl
def fX12_hears (l1 : Int32) (l2 : Int32) (l3 : Int32) (I : JI) : Option (Int32 × JI) :=
  (fX12_isPassed l1 (j_up I 66 0 (0 : Int32))).bind (fun q1 => if q1 = 0 then (some ((0 : Int32), (j_up I 66 0 (0 : Int32)))) else ((fX12_isPerson l2).bind (fun q2 => if q2 = 0 then (some ((0 : Int32), (j_up I 66 0 (0 : Int32)))) else (j_g (j_in l1 40) (if l3 < ((j_up I 66 0 (0 : Int32)) 103 l1.toNatClampNeg) then (some ((0 : Int32), (j_up I 66 0 (0 : Int32)))) else (if ((j_up I 66 0 (0 : Int32)) 66 8) < l3 then (some ((0 : Int32), (j_up I 66 0 (0 : Int32)))) else (j_g (j_in (((16 : Int32) * l1) + l2) 640) (if ((j_up I 66 0 (0 : Int32)) 112 (((16 : Int32) * l1) + l2).toNatClampNeg) < 0 then (j_g (j_in (((16 : Int32) * l1) + l2) 640) (some ((1 : Int32), (j_up (j_up I 66 0 (0 : Int32)) 112 (((16 : Int32) * l1) + l2).toNatClampNeg l3)))) else (some ((0 : Int32), (j_up I 66 0 (0 : Int32))))))))))))
set_option maxHeartbeats 4000000 in
set_option maxRecDepth 100000 in
theorem tcX12_hears {E : JE} {l1 : Int32} {l2 : Int32} {l3 : Int32} {r : Int32 × JI} {I : JI} {L : JL} {G D : JG} {S : JS} (hL : Lay G S) (h : fX12_hears l1 l2 l3 I = some r) : CallJ E xX12_hears 2 [.ref (E.1 + 66), .int l1, .int l2, .int l3] I L G D S (some (.int r.1)) r.2 L G D S := by
  unfold fX12_hears at h
  refine j_entry (by decide) (Nat.le_of_ble_eq_true rfl) ?_
  show AtJ E xX12_hears (Zr E (some (.int r.1)) r.2 L G D S) ((S).length, jm_sl S) 2 0 [(0, .ref (E.1 + 66)), (1, .int l1), (2, .int l2), (3, .int l3)] [] I L G D S
  refine j_aload_n 1 dX12_hears_0 rfl rfl 0 rfl ?_
  refine j_iconst (v := (0 : Int32)) 2 dX12_hears_1 rfl (by decide) ?_
  refine j_putI 5 dX12_hears_2 rfl (sh_66 hL) cl12 (k := 0) (by decide) flX12_218 rfl rfl rfl ?_
  refine j_aload_n 6 dX12_hears_5 rfl rfl 0 rfl ?_
  refine j_iload_n 7 dX12_hears_6 rfl rfl 1 rfl ?_
  obtain ⟨q1, hq1, h⟩ := j_bs h
  refine j_callV (rest := []) (As := [.int l1]) 10 dX12_hears_7 rfl jyX12_isPassed (tcX12_isPassed hL  hq1) (sh_66 hL) cl12 flX12_470 wm1914 wm70 (by decide) rfl rfl (Nat.le_of_ble_eq_true rfl) ?_
  refine j_if_eq 52 13 dX12_hears_10 (by decide) rfl (fun hc => ?_) (fun hc => ?_)
  · replace h := j_pos hc h
    refine j_iconst (v := (0 : Int32)) 53 dX12_hears_52 rfl (by decide) ?_
    cases h
    exact j_zret dX12_hears_53 rfl j_b01_0
  · replace h := j_neg hc h
    refine j_iload_n 14 dX12_hears_13 rfl rfl 2 rfl ?_
    obtain ⟨q2, hq2, h⟩ := j_bs h
    refine j_callS (rest := []) (As := [.int l2]) 17 dX12_hears_14 rfl jyX12_isPerson (tcX12_isPerson   hq2) flX12_226 wm1700 (by decide) rfl rfl (Nat.le_of_ble_eq_true rfl) ?_
    refine j_if_eq 52 20 dX12_hears_17 (by decide) rfl (fun hc => ?_) (fun hc => ?_)
    · replace h := j_pos hc h
      refine j_iconst (v := (0 : Int32)) 53 dX12_hears_52 rfl (by decide) ?_
      cases h
      exact j_zret dX12_hears_53 rfl j_b01_0
    · replace h := j_neg hc h
      refine j_iload_n 21 dX12_hears_20 rfl rfl 3 rfl ?_
      refine j_aload_n 22 dX12_hears_21 rfl rfl 0 rfl ?_
      refine j_getG 25 dX12_hears_22 rfl (sh_66 hL) cl12 (k := 60) (by decide) flX12_119 rfl (gs_66_60 hL) ?_
      refine j_iload_n 26 dX12_hears_25 rfl rfl 1 rfl ?_
      obtain ⟨hg, h⟩ := j_gs h
      refine j_iald 27 dX12_hears_26 rfl (sh_103 hL) (j_inv hg) ?_
      refine j_icmp_lt 52 30 dX12_hears_27 (by decide) rfl (fun hc => ?_) (fun hc => ?_)
      · replace h := j_pos hc h
        refine j_iconst (v := (0 : Int32)) 53 dX12_hears_52 rfl (by decide) ?_
        cases h
        exact j_zret dX12_hears_53 rfl j_b01_0
      · replace h := j_neg hc h
        refine j_iload_n 31 dX12_hears_30 rfl rfl 3 rfl ?_
        refine j_aload_n 32 dX12_hears_31 rfl rfl 0 rfl ?_
        refine j_getI 35 dX12_hears_32 rfl (sh_66 hL) cl12 (k := 8) (by decide) flX12_237 rfl ?_
        refine j_icmp_gt 52 38 dX12_hears_35 (by decide) rfl (fun hc => ?_) (fun hc => ?_)
        · replace h := j_pos hc h
          refine j_iconst (v := (0 : Int32)) 53 dX12_hears_52 rfl (by decide) ?_
          cases h
          exact j_zret dX12_hears_53 rfl j_b01_0
        · replace h := j_neg hc h
          refine j_aload_n 39 dX12_hears_38 rfl rfl 0 rfl ?_
          refine j_getG 42 dX12_hears_39 rfl (sh_66 hL) cl12 (k := 69) (by decide) flX12_146 rfl (gs_66_69 hL) ?_
          refine j_bipush (v := (16 : Int32)) 44 dX12_hears_42 rfl (by decide) ?_
          refine j_iload_n 45 dX12_hears_44 rfl rfl 1 rfl ?_
          refine j_imul 46 dX12_hears_45 rfl ?_
          refine j_iload_n 47 dX12_hears_46 rfl rfl 2 rfl ?_
          refine j_iadd 48 dX12_hears_47 rfl ?_
          obtain ⟨hg, h⟩ := j_gs h
          refine j_iald 49 dX12_hears_48 rfl (sh_112 hL) (j_inv hg) ?_
          refine j_if_lt 54 52 dX12_hears_49 (by decide) rfl (fun hc => ?_) (fun hc => ?_)
          · replace h := j_pos hc h
            refine j_aload_n 55 dX12_hears_54 rfl rfl 0 rfl ?_
            refine j_getG 58 dX12_hears_55 rfl (sh_66 hL) cl12 (k := 69) (by decide) flX12_146 rfl (gs_66_69 hL) ?_
            refine j_bipush (v := (16 : Int32)) 60 dX12_hears_58 rfl (by decide) ?_
            refine j_iload_n 61 dX12_hears_60 rfl rfl 1 rfl ?_
            refine j_imul 62 dX12_hears_61 rfl ?_
            refine j_iload_n 63 dX12_hears_62 rfl rfl 2 rfl ?_
            refine j_iadd 64 dX12_hears_63 rfl ?_
            refine j_iload_n 65 dX12_hears_64 rfl rfl 3 rfl ?_
            obtain ⟨hg, h⟩ := j_gs h
            refine j_iast 66 dX12_hears_65 rfl (sh_112 hL) (j_inv hg) ?_
            refine j_iconst (v := (1 : Int32)) 67 dX12_hears_66 rfl (by decide) ?_
            cases h
            exact j_zret dX12_hears_67 rfl j_b01_1
          · replace h := j_neg hc h
            refine j_iconst (v := (0 : Int32)) 53 dX12_hears_52 rfl (by decide) ?_
            cases h
            exact j_zret dX12_hears_53 rfl j_b01_0
def fX12_till (l1 : Int32) (l2 : Int32) (I : JI) : Option (Int32 × JI) :=
  (fX12_mays l1 l2 (j_up I 66 0 (0 : Int32))).bind (fun q1 => if q1 = 0 then (some ((-1 : Int32), (j_up I 66 0 (0 : Int32)))) else (j_g (j_in (((16 : Int32) * l1) + l2) 640) (if 0 ≤ ((j_up I 66 0 (0 : Int32)) 112 (((16 : Int32) * l1) + l2).toNatClampNeg) then (j_g (j_in (((16 : Int32) * l1) + l2) 640) (j_g (j_in (((16 : Int32) * l1) + l2) 640) (some ((((j_up I 66 0 (0 : Int32)) 112 (((16 : Int32) * l1) + l2).toNatClampNeg) + ((j_up I 66 0 (0 : Int32)) 110 (((16 : Int32) * l1) + l2).toNatClampNeg)), (j_up I 66 0 (0 : Int32)))))) else (some ((-1 : Int32), (j_up I 66 0 (0 : Int32)))))))
set_option maxHeartbeats 4000000 in
set_option maxRecDepth 100000 in
theorem tcX12_till {E : JE} {l1 : Int32} {l2 : Int32} {r : Int32 × JI} {I : JI} {L : JL} {G D : JG} {S : JS} (hL : Lay G S) (h : fX12_till l1 l2 I = some r) : CallJ E xX12_till 3 [.ref (E.1 + 66), .int l1, .int l2] I L G D S (some (.int r.1)) r.2 L G D S := by
  unfold fX12_till at h
  refine j_entry (by decide) (Nat.le_of_ble_eq_true rfl) ?_
  show AtJ E xX12_till (Zr E (some (.int r.1)) r.2 L G D S) ((S).length, jm_sl S) 3 0 [(0, .ref (E.1 + 66)), (1, .int l1), (2, .int l2)] [] I L G D S
  refine j_aload_n 1 dX12_till_0 rfl rfl 0 rfl ?_
  refine j_iconst (v := (0 : Int32)) 2 dX12_till_1 rfl (by decide) ?_
  refine j_putI 5 dX12_till_2 rfl (sh_66 hL) cl12 (k := 0) (by decide) flX12_218 rfl rfl rfl ?_
  refine j_aload_n 6 dX12_till_5 rfl rfl 0 rfl ?_
  refine j_iload_n 7 dX12_till_6 rfl rfl 1 rfl ?_
  refine j_iload_n 8 dX12_till_7 rfl rfl 2 rfl ?_
  obtain ⟨q1, hq1, h⟩ := j_bs h
  refine j_callV (rest := []) (As := [.int l1, .int l2]) 11 dX12_till_8 rfl jyX12_mays (tcX12_mays hL  hq1) (sh_66 hL) cl12 flX12_476 wm1926 wm72 (by decide) rfl rfl (Nat.le_of_ble_eq_true rfl) ?_
  refine j_if_eq 28 14 dX12_till_11 (by decide) rfl (fun hc => ?_) (fun hc => ?_)
  · replace h := j_pos hc h
    refine j_iconst (v := (-1 : Int32)) 29 dX12_till_28 rfl (by decide) ?_
    cases h
    exact j_iret dX12_till_29 rfl
  · replace h := j_neg hc h
    refine j_aload_n 15 dX12_till_14 rfl rfl 0 rfl ?_
    refine j_getG 18 dX12_till_15 rfl (sh_66 hL) cl12 (k := 69) (by decide) flX12_146 rfl (gs_66_69 hL) ?_
    refine j_bipush (v := (16 : Int32)) 20 dX12_till_18 rfl (by decide) ?_
    refine j_iload_n 21 dX12_till_20 rfl rfl 1 rfl ?_
    refine j_imul 22 dX12_till_21 rfl ?_
    refine j_iload_n 23 dX12_till_22 rfl rfl 2 rfl ?_
    refine j_iadd 24 dX12_till_23 rfl ?_
    obtain ⟨hg, h⟩ := j_gs h
    refine j_iald 25 dX12_till_24 rfl (sh_112 hL) (j_inv hg) ?_
    refine j_if_ge 30 28 dX12_till_25 (by decide) rfl (fun hc => ?_) (fun hc => ?_)
    · replace h := j_pos hc h
      refine j_aload_n 31 dX12_till_30 rfl rfl 0 rfl ?_
      refine j_getG 34 dX12_till_31 rfl (sh_66 hL) cl12 (k := 69) (by decide) flX12_146 rfl (gs_66_69 hL) ?_
      refine j_bipush (v := (16 : Int32)) 36 dX12_till_34 rfl (by decide) ?_
      refine j_iload_n 37 dX12_till_36 rfl rfl 1 rfl ?_
      refine j_imul 38 dX12_till_37 rfl ?_
      refine j_iload_n 39 dX12_till_38 rfl rfl 2 rfl ?_
      refine j_iadd 40 dX12_till_39 rfl ?_
      obtain ⟨hg, h⟩ := j_gs h
      refine j_iald 41 dX12_till_40 rfl (sh_112 hL) (j_inv hg) ?_
      refine j_aload_n 42 dX12_till_41 rfl rfl 0 rfl ?_
      refine j_getG 45 dX12_till_42 rfl (sh_66 hL) cl12 (k := 67) (by decide) flX12_140 rfl (gs_66_67 hL) ?_
      refine j_bipush (v := (16 : Int32)) 47 dX12_till_45 rfl (by decide) ?_
      refine j_iload_n 48 dX12_till_47 rfl rfl 1 rfl ?_
      refine j_imul 49 dX12_till_48 rfl ?_
      refine j_iload_n 50 dX12_till_49 rfl rfl 2 rfl ?_
      refine j_iadd 51 dX12_till_50 rfl ?_
      obtain ⟨hg, h⟩ := j_gs h
      refine j_iald 52 dX12_till_51 rfl (sh_110 hL) (j_inv hg) ?_
      refine j_iadd 53 dX12_till_52 rfl ?_
      cases h
      exact j_iret dX12_till_53 rfl
    · replace h := j_neg hc h
      refine j_iconst (v := (-1 : Int32)) 29 dX12_till_28 rfl (by decide) ?_
      cases h
      exact j_iret dX12_till_29 rfl
def fX12_waive (l1 : Int32) (l2 : Int32) (I : JI) : Option (Int32 × JI) :=
  (fX12_mays l1 l2 (j_up I 66 0 (0 : Int32))).bind (fun q1 => if q1 = 0 then (some ((0 : Int32), (j_up I 66 0 (0 : Int32)))) else (j_g (j_in (((16 : Int32) * l1) + l2) 640) (if (jm_b01 ((j_up I 66 0 (0 : Int32)) 113 (((16 : Int32) * l1) + l2).toNatClampNeg)) = 0 then (j_g (j_in (((16 : Int32) * l1) + l2) 640) (some ((1 : Int32), (j_up (j_up I 66 0 (0 : Int32)) 113 (((16 : Int32) * l1) + l2).toNatClampNeg (1 : Int32))))) else (some ((0 : Int32), (j_up I 66 0 (0 : Int32)))))))
set_option maxHeartbeats 4000000 in
set_option maxRecDepth 100000 in
theorem tcX12_waive {E : JE} {l1 : Int32} {l2 : Int32} {r : Int32 × JI} {I : JI} {L : JL} {G D : JG} {S : JS} (hL : Lay G S) (h : fX12_waive l1 l2 I = some r) : CallJ E xX12_waive 3 [.ref (E.1 + 66), .int l1, .int l2] I L G D S (some (.int r.1)) r.2 L G D S := by
  unfold fX12_waive at h
  refine j_entry (by decide) (Nat.le_of_ble_eq_true rfl) ?_
  show AtJ E xX12_waive (Zr E (some (.int r.1)) r.2 L G D S) ((S).length, jm_sl S) 3 0 [(0, .ref (E.1 + 66)), (1, .int l1), (2, .int l2)] [] I L G D S
  refine j_aload_n 1 dX12_waive_0 rfl rfl 0 rfl ?_
  refine j_iconst (v := (0 : Int32)) 2 dX12_waive_1 rfl (by decide) ?_
  refine j_putI 5 dX12_waive_2 rfl (sh_66 hL) cl12 (k := 0) (by decide) flX12_218 rfl rfl rfl ?_
  refine j_aload_n 6 dX12_waive_5 rfl rfl 0 rfl ?_
  refine j_iload_n 7 dX12_waive_6 rfl rfl 1 rfl ?_
  refine j_iload_n 8 dX12_waive_7 rfl rfl 2 rfl ?_
  obtain ⟨q1, hq1, h⟩ := j_bs h
  refine j_callV (rest := []) (As := [.int l1, .int l2]) 11 dX12_waive_8 rfl jyX12_mays (tcX12_mays hL  hq1) (sh_66 hL) cl12 flX12_476 wm1926 wm72 (by decide) rfl rfl (Nat.le_of_ble_eq_true rfl) ?_
  refine j_if_eq 28 14 dX12_waive_11 (by decide) rfl (fun hc => ?_) (fun hc => ?_)
  · replace h := j_pos hc h
    refine j_iconst (v := (0 : Int32)) 29 dX12_waive_28 rfl (by decide) ?_
    cases h
    exact j_zret dX12_waive_29 rfl j_b01_0
  · replace h := j_neg hc h
    refine j_aload_n 15 dX12_waive_14 rfl rfl 0 rfl ?_
    refine j_getG 18 dX12_waive_15 rfl (sh_66 hL) cl12 (k := 70) (by decide) flX12_149 rfl (gs_66_70 hL) ?_
    refine j_bipush (v := (16 : Int32)) 20 dX12_waive_18 rfl (by decide) ?_
    refine j_iload_n 21 dX12_waive_20 rfl rfl 1 rfl ?_
    refine j_imul 22 dX12_waive_21 rfl ?_
    refine j_iload_n 23 dX12_waive_22 rfl rfl 2 rfl ?_
    refine j_iadd 24 dX12_waive_23 rfl ?_
    obtain ⟨hg, h⟩ := j_gs h
    refine j_zald 25 dX12_waive_24 rfl (sh_113 hL) (j_inv hg) ?_
    refine j_if_eq 30 28 dX12_waive_25 (by decide) rfl (fun hc => ?_) (fun hc => ?_)
    · replace h := j_pos hc h
      refine j_aload_n 31 dX12_waive_30 rfl rfl 0 rfl ?_
      refine j_getG 34 dX12_waive_31 rfl (sh_66 hL) cl12 (k := 70) (by decide) flX12_149 rfl (gs_66_70 hL) ?_
      refine j_bipush (v := (16 : Int32)) 36 dX12_waive_34 rfl (by decide) ?_
      refine j_iload_n 37 dX12_waive_36 rfl rfl 1 rfl ?_
      refine j_imul 38 dX12_waive_37 rfl ?_
      refine j_iload_n 39 dX12_waive_38 rfl rfl 2 rfl ?_
      refine j_iadd 40 dX12_waive_39 rfl ?_
      refine j_iconst (v := (1 : Int32)) 41 dX12_waive_40 rfl (by decide) ?_
      obtain ⟨hg, h⟩ := j_gs h
      refine j_zast 42 dX12_waive_41 rfl (sh_113 hL) (j_inv hg) j_b01_1 ?_
      refine j_iconst (v := (1 : Int32)) 43 dX12_waive_42 rfl (by decide) ?_
      cases h
      exact j_zret dX12_waive_43 rfl j_b01_1
    · replace h := j_neg hc h
      refine j_iconst (v := (0 : Int32)) 29 dX12_waive_28 rfl (by decide) ?_
      cases h
      exact j_zret dX12_waive_29 rfl j_b01_0
def fX12_truly (l1 : Int32) (l2 : Int32) (I : JI) : Option (Int32 × JI) :=
  (fX12_isPassed l1 (j_up I 66 0 (0 : Int32))).bind (fun q1 => if q1 = 0 then (some ((0 : Int32), (j_up I 66 0 (0 : Int32)))) else ((fX12_within l2 (0 : Int32) (9999 : Int32)).bind (fun q2 => if q2 = 0 then (some ((0 : Int32), (j_up I 66 0 (0 : Int32)))) else (j_g (j_in l1 40) (if ((j_up I 66 0 (0 : Int32)) 100 l1.toNatClampNeg) = (1 : Int32) then (some ((0 : Int32), (j_up I 66 0 (0 : Int32)))) else (j_g (j_in l1 40) (if ((j_up I 66 0 (0 : Int32)) 106 l1.toNatClampNeg) < 0 then (j_g (j_in l1 40) (some ((1 : Int32), (j_up (j_up I 66 0 (0 : Int32)) 102 l1.toNatClampNeg l2)))) else (some ((0 : Int32), (j_up I 66 0 (0 : Int32)))))))))))
set_option maxHeartbeats 4000000 in
set_option maxRecDepth 100000 in
theorem tcX12_truly {E : JE} {l1 : Int32} {l2 : Int32} {r : Int32 × JI} {I : JI} {L : JL} {G D : JG} {S : JS} (hL : Lay G S) (h : fX12_truly l1 l2 I = some r) : CallJ E xX12_truly 2 [.ref (E.1 + 66), .int l1, .int l2] I L G D S (some (.int r.1)) r.2 L G D S := by
  unfold fX12_truly at h
  refine j_entry (by decide) (Nat.le_of_ble_eq_true rfl) ?_
  show AtJ E xX12_truly (Zr E (some (.int r.1)) r.2 L G D S) ((S).length, jm_sl S) 2 0 [(0, .ref (E.1 + 66)), (1, .int l1), (2, .int l2)] [] I L G D S
  refine j_aload_n 1 dX12_truly_0 rfl rfl 0 rfl ?_
  refine j_iconst (v := (0 : Int32)) 2 dX12_truly_1 rfl (by decide) ?_
  refine j_putI 5 dX12_truly_2 rfl (sh_66 hL) cl12 (k := 0) (by decide) flX12_218 rfl rfl rfl ?_
  refine j_aload_n 6 dX12_truly_5 rfl rfl 0 rfl ?_
  refine j_iload_n 7 dX12_truly_6 rfl rfl 1 rfl ?_
  obtain ⟨q1, hq1, h⟩ := j_bs h
  refine j_callV (rest := []) (As := [.int l1]) 10 dX12_truly_7 rfl jyX12_isPassed (tcX12_isPassed hL  hq1) (sh_66 hL) cl12 flX12_470 wm1914 wm70 (by decide) rfl rfl (Nat.le_of_ble_eq_true rfl) ?_
  refine j_if_eq 43 13 dX12_truly_10 (by decide) rfl (fun hc => ?_) (fun hc => ?_)
  · replace h := j_pos hc h
    refine j_iconst (v := (0 : Int32)) 44 dX12_truly_43 rfl (by decide) ?_
    cases h
    exact j_zret dX12_truly_44 rfl j_b01_0
  · replace h := j_neg hc h
    refine j_iload_n 14 dX12_truly_13 rfl rfl 2 rfl ?_
    refine j_iconst (v := (0 : Int32)) 15 dX12_truly_14 rfl (by decide) ?_
    refine j_sipush (v := (9999 : Int32)) 18 dX12_truly_15 rfl (by decide) ?_
    obtain ⟨q2, hq2, h⟩ := j_bs h
    refine j_callS (rest := []) (As := [.int l2, .int (0 : Int32), .int (9999 : Int32)]) 21 dX12_truly_18 rfl jyX12_within (tcX12_within   hq2) flX12_222 wm1697 (by decide) rfl rfl (Nat.le_of_ble_eq_true rfl) ?_
    refine j_if_eq 43 24 dX12_truly_21 (by decide) rfl (fun hc => ?_) (fun hc => ?_)
    · replace h := j_pos hc h
      refine j_iconst (v := (0 : Int32)) 44 dX12_truly_43 rfl (by decide) ?_
      cases h
      exact j_zret dX12_truly_44 rfl j_b01_0
    · replace h := j_neg hc h
      refine j_aload_n 25 dX12_truly_24 rfl rfl 0 rfl ?_
      refine j_getG 28 dX12_truly_25 rfl (sh_66 hL) cl12 (k := 57) (by decide) flX12_110 rfl (gs_66_57 hL) ?_
      refine j_iload_n 29 dX12_truly_28 rfl rfl 1 rfl ?_
      obtain ⟨hg, h⟩ := j_gs h
      refine j_iald 30 dX12_truly_29 rfl (sh_100 hL) (j_inv hg) ?_
      refine j_iconst (v := (1 : Int32)) 31 dX12_truly_30 rfl (by decide) ?_
      refine j_icmp_eq 43 34 dX12_truly_31 (by decide) rfl (fun hc => ?_) (fun hc => ?_)
      · replace h := j_pos hc h
        refine j_iconst (v := (0 : Int32)) 44 dX12_truly_43 rfl (by decide) ?_
        cases h
        exact j_zret dX12_truly_44 rfl j_b01_0
      · replace h := j_neg hc h
        refine j_aload_n 35 dX12_truly_34 rfl rfl 0 rfl ?_
        refine j_getG 38 dX12_truly_35 rfl (sh_66 hL) cl12 (k := 63) (by decide) flX12_128 rfl (gs_66_63 hL) ?_
        refine j_iload_n 39 dX12_truly_38 rfl rfl 1 rfl ?_
        obtain ⟨hg, h⟩ := j_gs h
        refine j_iald 40 dX12_truly_39 rfl (sh_106 hL) (j_inv hg) ?_
        refine j_if_lt 45 43 dX12_truly_40 (by decide) rfl (fun hc => ?_) (fun hc => ?_)
        · replace h := j_pos hc h
          refine j_aload_n 46 dX12_truly_45 rfl rfl 0 rfl ?_
          refine j_getG 49 dX12_truly_46 rfl (sh_66 hL) cl12 (k := 59) (by decide) flX12_116 rfl (gs_66_59 hL) ?_
          refine j_iload_n 50 dX12_truly_49 rfl rfl 1 rfl ?_
          refine j_iload_n 51 dX12_truly_50 rfl rfl 2 rfl ?_
          obtain ⟨hg, h⟩ := j_gs h
          refine j_iast 52 dX12_truly_51 rfl (sh_102 hL) (j_inv hg) ?_
          refine j_iconst (v := (1 : Int32)) 53 dX12_truly_52 rfl (by decide) ?_
          cases h
          exact j_zret dX12_truly_53 rfl j_b01_1
        · replace h := j_neg hc h
          refine j_iconst (v := (0 : Int32)) 44 dX12_truly_43 rfl (by decide) ?_
          cases h
          exact j_zret dX12_truly_44 rfl j_b01_0
def fX12_isLate (l1 : Int32) (I : JI) : Option (Int32) :=
  j_g (j_in l1 640) (if (I 112 l1.toNatClampNeg) < 0 then (some ((0 : Int32))) else (j_g (j_in l1 640) (j_g (j_in l1 640) (if (I 66 8) ≤ ((I 112 l1.toNatClampNeg) + (I 110 l1.toNatClampNeg)) then (some ((0 : Int32))) else (some ((1 : Int32)))))))
set_option maxHeartbeats 4000000 in
set_option maxRecDepth 100000 in
theorem tcX12_isLate {E : JE} {l1 : Int32} {r : Int32} {I : JI} {L : JL} {G D : JG} {S : JS} (hL : Lay G S) (h : fX12_isLate l1 I = some r) : CallJ E xX12_isLate 1 [.ref (E.1 + 66), .int l1] I L G D S (some (.int r)) I L G D S := by
  unfold fX12_isLate at h
  refine j_entry (by decide) (Nat.le_of_ble_eq_true rfl) ?_
  show AtJ E xX12_isLate (Zr E (some (.int r)) I L G D S) ((S).length, jm_sl S) 1 0 [(0, .ref (E.1 + 66)), (1, .int l1)] [] I L G D S
  refine j_aload_n 1 dX12_isLate_0 rfl rfl 0 rfl ?_
  refine j_getG 4 dX12_isLate_1 rfl (sh_66 hL) cl12 (k := 69) (by decide) flX12_146 rfl (gs_66_69 hL) ?_
  refine j_iload_n 5 dX12_isLate_4 rfl rfl 1 rfl ?_
  obtain ⟨hg, h⟩ := j_gs h
  refine j_iald 6 dX12_isLate_5 rfl (sh_112 hL) (j_inv hg) ?_
  refine j_if_lt 33 9 dX12_isLate_6 (by decide) rfl (fun hc => ?_) (fun hc => ?_)
  · replace h := j_pos hc h
    refine j_iconst (v := (0 : Int32)) 34 dX12_isLate_33 rfl (by decide) ?_
    cases h
    exact j_zret dX12_isLate_34 rfl j_b01_0
  · replace h := j_neg hc h
    refine j_aload_n 10 dX12_isLate_9 rfl rfl 0 rfl ?_
    refine j_getI 13 dX12_isLate_10 rfl (sh_66 hL) cl12 (k := 8) (by decide) flX12_237 rfl ?_
    refine j_aload_n 14 dX12_isLate_13 rfl rfl 0 rfl ?_
    refine j_getG 17 dX12_isLate_14 rfl (sh_66 hL) cl12 (k := 69) (by decide) flX12_146 rfl (gs_66_69 hL) ?_
    refine j_iload_n 18 dX12_isLate_17 rfl rfl 1 rfl ?_
    obtain ⟨hg, h⟩ := j_gs h
    refine j_iald 19 dX12_isLate_18 rfl (sh_112 hL) (j_inv hg) ?_
    refine j_aload_n 20 dX12_isLate_19 rfl rfl 0 rfl ?_
    refine j_getG 23 dX12_isLate_20 rfl (sh_66 hL) cl12 (k := 67) (by decide) flX12_140 rfl (gs_66_67 hL) ?_
    refine j_iload_n 24 dX12_isLate_23 rfl rfl 1 rfl ?_
    obtain ⟨hg, h⟩ := j_gs h
    refine j_iald 25 dX12_isLate_24 rfl (sh_110 hL) (j_inv hg) ?_
    refine j_iadd 26 dX12_isLate_25 rfl ?_
    refine j_icmp_le 33 29 dX12_isLate_26 (by decide) rfl (fun hc => ?_) (fun hc => ?_)
    · replace h := j_pos hc h
      refine j_iconst (v := (0 : Int32)) 34 dX12_isLate_33 rfl (by decide) ?_
      cases h
      exact j_zret dX12_isLate_34 rfl j_b01_0
    · replace h := j_neg hc h
      refine j_iconst (v := (1 : Int32)) 30 dX12_isLate_29 rfl (by decide) ?_
      refine j_goto 34 dX12_isLate_30 (by decide) ?_
      cases h
      exact j_zret dX12_isLate_34 rfl j_b01_1
def fX12_claim_151 (l1 : Int32) (l2 : Int32) (l3 : Int32) (I : JI) : Option (Int32 × JI) :=
  (fX12_askedPrice l1 I).bind (fun q5 => if q5 ≤ l3 then (j_g (j_in l1 40) (j_g (j_in l1 40) (j_g (j_in (((16 : Int32) * (I 96 l1.toNatClampNeg)) + (I 98 l1.toNatClampNeg)) 192) (j_g (j_in l1 40) (if (I 99 l1.toNatClampNeg) ≤ (I 68 (((16 : Int32) * (I 96 l1.toNatClampNeg)) + (I 98 l1.toNatClampNeg)).toNatClampNeg) then (j_g (j_in l1 40) (j_g (j_in l1 40) (j_g (j_in l1 40) ((fX12_moves (I 96 l1.toNatClampNeg) (I 98 l1.toNatClampNeg) l2 (I 99 l1.toNatClampNeg) I).bind (fun q6 => j_g (j_in l1 40) (some ((0 : Int32), (j_up q6 106 l1.toNatClampNeg l2)))))))) else (some ((5 : Int32), I))))))) else (some ((4 : Int32), I)))
set_option maxHeartbeats 4000000 in
set_option maxRecDepth 100000 in
theorem kX12_claim_151 {E : JE} {r : Int32 × JI} {L : JL} {G : JG} {D : JG} {S : JS} (hL : Lay G S) : ∀ (l1 : Int32) (l2 : Int32) (l3 : Int32) (I : JI), fX12_claim_151 l1 l2 l3 I = some r → AtJ E xX12_claim (Zr E (some (.int r.1)) r.2 L G D S) ((S).length, jm_sl S) 2 151 [(0, .ref (E.1 + 66)), (1, .int l1), (2, .int l2), (3, .int l3)] [] I L G D S := by
  intro l1 l2 l3 I  h
  unfold fX12_claim_151 at h
  refine j_iload_n 152 dX12_claim_151 rfl rfl 3 rfl ?_
  refine j_aload_n 153 dX12_claim_152 rfl rfl 0 rfl ?_
  refine j_iload_n 154 dX12_claim_153 rfl rfl 1 rfl ?_
  obtain ⟨q5, hq5, h⟩ := j_bs h
  refine j_callV (rest := [.int l3]) (As := [.int l1]) 157 dX12_claim_154 rfl jyX12_askedPrice (tcX12_askedPrice hL  hq5) (sh_66 hL) cl12 flX12_473 wm1918 wm71 (by decide) rfl rfl (Nat.le_of_ble_eq_true rfl) ?_
  refine j_icmp_ge 162 160 dX12_claim_157 (by decide) rfl (fun hc => ?_) (fun hc => ?_)
  · replace h := j_pos hc h
    refine j_aload_n 163 dX12_claim_162 rfl rfl 0 rfl ?_
    refine j_getG 166 dX12_claim_163 rfl (sh_66 hL) cl12 (k := 2) (by decide) flX12_13 rfl (gs_66_2 hL) ?_
    refine j_bipush (v := (16 : Int32)) 168 dX12_claim_166 rfl (by decide) ?_
    refine j_aload_n 169 dX12_claim_168 rfl rfl 0 rfl ?_
    refine j_getG 172 dX12_claim_169 rfl (sh_66 hL) cl12 (k := 53) (by decide) flX12_98 rfl (gs_66_53 hL) ?_
    refine j_iload_n 173 dX12_claim_172 rfl rfl 1 rfl ?_
    obtain ⟨hg, h⟩ := j_gs h
    refine j_iald 174 dX12_claim_173 rfl (sh_96 hL) (j_inv hg) ?_
    refine j_imul 175 dX12_claim_174 rfl ?_
    refine j_aload_n 176 dX12_claim_175 rfl rfl 0 rfl ?_
    refine j_getG 179 dX12_claim_176 rfl (sh_66 hL) cl12 (k := 55) (by decide) flX12_104 rfl (gs_66_55 hL) ?_
    refine j_iload_n 180 dX12_claim_179 rfl rfl 1 rfl ?_
    obtain ⟨hg, h⟩ := j_gs h
    refine j_iald 181 dX12_claim_180 rfl (sh_98 hL) (j_inv hg) ?_
    refine j_iadd 182 dX12_claim_181 rfl ?_
    obtain ⟨hg, h⟩ := j_gs h
    refine j_iald 183 dX12_claim_182 rfl (sh_68 hL) (j_inv hg) ?_
    refine j_aload_n 184 dX12_claim_183 rfl rfl 0 rfl ?_
    refine j_getG 187 dX12_claim_184 rfl (sh_66 hL) cl12 (k := 56) (by decide) flX12_107 rfl (gs_66_56 hL) ?_
    refine j_iload_n 188 dX12_claim_187 rfl rfl 1 rfl ?_
    obtain ⟨hg, h⟩ := j_gs h
    refine j_iald 189 dX12_claim_188 rfl (sh_99 hL) (j_inv hg) ?_
    refine j_icmp_ge 194 192 dX12_claim_189 (by decide) rfl (fun hc => ?_) (fun hc => ?_)
    · replace h := j_pos hc h
      refine j_aload_n 195 dX12_claim_194 rfl rfl 0 rfl ?_
      refine j_aload_n 196 dX12_claim_195 rfl rfl 0 rfl ?_
      refine j_getG 199 dX12_claim_196 rfl (sh_66 hL) cl12 (k := 53) (by decide) flX12_98 rfl (gs_66_53 hL) ?_
      refine j_iload_n 200 dX12_claim_199 rfl rfl 1 rfl ?_
      obtain ⟨hg, h⟩ := j_gs h
      refine j_iald 201 dX12_claim_200 rfl (sh_96 hL) (j_inv hg) ?_
      refine j_aload_n 202 dX12_claim_201 rfl rfl 0 rfl ?_
      refine j_getG 205 dX12_claim_202 rfl (sh_66 hL) cl12 (k := 55) (by decide) flX12_104 rfl (gs_66_55 hL) ?_
      refine j_iload_n 206 dX12_claim_205 rfl rfl 1 rfl ?_
      obtain ⟨hg, h⟩ := j_gs h
      refine j_iald 207 dX12_claim_206 rfl (sh_98 hL) (j_inv hg) ?_
      refine j_iload_n 208 dX12_claim_207 rfl rfl 2 rfl ?_
      refine j_aload_n 209 dX12_claim_208 rfl rfl 0 rfl ?_
      refine j_getG 212 dX12_claim_209 rfl (sh_66 hL) cl12 (k := 56) (by decide) flX12_107 rfl (gs_66_56 hL) ?_
      refine j_iload_n 213 dX12_claim_212 rfl rfl 1 rfl ?_
      obtain ⟨hg, h⟩ := j_gs h
      refine j_iald 214 dX12_claim_213 rfl (sh_99 hL) (j_inv hg) ?_
      obtain ⟨q6, hq6, h⟩ := j_bs h
      refine j_callV (rest := []) (As := [.int (I 96 l1.toNatClampNeg), .int (I 98 l1.toNatClampNeg), .int l2, .int (I 99 l1.toNatClampNeg)]) 217 dX12_claim_214 rfl jyX12_moves (tcX12_moves hL  hq6) (sh_66 hL) cl12 flX12_233 wm1712 wm41 (by decide) rfl rfl (Nat.le_of_ble_eq_true rfl) ?_
      refine j_aload_n 218 dX12_claim_217 rfl rfl 0 rfl ?_
      refine j_getG 221 dX12_claim_218 rfl (sh_66 hL) cl12 (k := 63) (by decide) flX12_128 rfl (gs_66_63 hL) ?_
      refine j_iload_n 222 dX12_claim_221 rfl rfl 1 rfl ?_
      refine j_iload_n 223 dX12_claim_222 rfl rfl 2 rfl ?_
      obtain ⟨hg, h⟩ := j_gs h
      refine j_iast 224 dX12_claim_223 rfl (sh_106 hL) (j_inv hg) ?_
      refine j_iconst (v := (0 : Int32)) 225 dX12_claim_224 rfl (by decide) ?_
      cases h
      exact j_iret dX12_claim_225 rfl
    · replace h := j_neg hc h
      refine j_iconst (v := (5 : Int32)) 193 dX12_claim_192 rfl (by decide) ?_
      cases h
      exact j_iret dX12_claim_193 rfl
  · replace h := j_neg hc h
    refine j_iconst (v := (4 : Int32)) 161 dX12_claim_160 rfl (by decide) ?_
    cases h
    exact j_iret dX12_claim_161 rfl
def fX12_claim_85 : Nat → Int32 → Int32 → Int32 → Int32 → Int32 → JI → Option (Int32 × JI)
  | 0, _, _, _, _, _, _ => none
  | n + 1, l1, l2, l3, l4, l5, I =>
    if (((16 : Int32) * l1) + (16 : Int32)) ≤ l5 then (fX12_claim_151 l1 l2 l3 I) else (j_g (j_in l5 640) (if (I 109 l5.toNatClampNeg) < 0 then ((fX12_claim_85 n) l1 l2 l3 l4 (l5 + (1 : Int32)) I) else (j_g (j_in l5 640) (j_g (j_in l4 640) (if (I 109 l4.toNatClampNeg) ≤ (I 109 l5.toNatClampNeg) then ((fX12_claim_85 n) l1 l2 l3 l4 (l5 + (1 : Int32)) I) else (j_g (j_in l5 640) (if (jm_b01 (I 113 l5.toNatClampNeg)) = 0 then ((fX12_isLate l5 I).bind (fun q4 => if q4 = 0 then (some ((3 : Int32), I)) else ((fX12_claim_85 n) l1 l2 l3 l4 (l5 + (1 : Int32)) I))) else ((fX12_claim_85 n) l1 l2 l3 l4 (l5 + (1 : Int32)) I))))))))
set_option maxHeartbeats 4000000 in
set_option maxRecDepth 100000 in
theorem kX12_claim_85 {E : JE} {r : Int32 × JI} {L : JL} {G : JG} {D : JG} {S : JS} (hL : Lay G S) : ∀ (n : Nat) (l1 : Int32) (l2 : Int32) (l3 : Int32) (l4 : Int32) (l5 : Int32) (I : JI), fX12_claim_85 n l1 l2 l3 l4 l5 I = some r → AtJ E xX12_claim (Zr E (some (.int r.1)) r.2 L G D S) ((S).length, jm_sl S) 2 85 [(0, .ref (E.1 + 66)), (1, .int l1), (2, .int l2), (3, .int l3), (4, .int l4), (5, .int l5)] [] I L G D S := by
  intro n
  induction n with
  | zero => intro l1 l2 l3 l4 l5 I  h; simp [fX12_claim_85] at h
  | succ n ih =>
    intro l1 l2 l3 l4 l5 I  h
    rw [fX12_claim_85] at h
    refine j_iload 87 dX12_claim_85 rfl 5 rfl ?_
    refine j_bipush (v := (16 : Int32)) 89 dX12_claim_87 rfl (by decide) ?_
    refine j_iload_n 90 dX12_claim_89 rfl rfl 1 rfl ?_
    refine j_imul 91 dX12_claim_90 rfl ?_
    refine j_bipush (v := (16 : Int32)) 93 dX12_claim_91 rfl (by decide) ?_
    refine j_iadd 94 dX12_claim_93 rfl ?_
    refine j_icmp_ge 151 97 dX12_claim_94 (by decide) rfl (fun hc => ?_) (fun hc => ?_)
    · replace h := j_pos hc h
      refine j_sub [0, 1, 2, 3] rfl ?_
      exact kX12_claim_151 hL    _ _ _ _  h
    · replace h := j_neg hc h
      refine j_aload_n 98 dX12_claim_97 rfl rfl 0 rfl ?_
      refine j_getG 101 dX12_claim_98 rfl (sh_66 hL) cl12 (k := 66) (by decide) flX12_137 rfl (gs_66_66 hL) ?_
      refine j_iload 103 dX12_claim_101 rfl 5 rfl ?_
      obtain ⟨hg, h⟩ := j_gs h
      refine j_iald 104 dX12_claim_103 rfl (sh_109 hL) (j_inv hg) ?_
      refine j_if_lt 145 107 dX12_claim_104 (by decide) rfl (fun hc => ?_) (fun hc => ?_)
      · replace h := j_pos hc h
        refine j_iinc (v := (l5 + (1 : Int32))) (lv' := [(5, .int (l5 + (1 : Int32))), (0, .ref (E.1 + 66)), (1, .int l1), (2, .int l2), (3, .int l3), (4, .int l4)]) (q := 5) 148 dX12_claim_145 rfl rfl rfl (by decide) rfl ?_
        refine j_goto 85 dX12_claim_148 (by decide) ?_
        refine j_sub [1, 2, 3, 4, 5, 0] rfl ?_
        exact ih _ _ _ _ _ _  h
      · replace h := j_neg hc h
        refine j_aload_n 108 dX12_claim_107 rfl rfl 0 rfl ?_
        refine j_getG 111 dX12_claim_108 rfl (sh_66 hL) cl12 (k := 66) (by decide) flX12_137 rfl (gs_66_66 hL) ?_
        refine j_iload 113 dX12_claim_111 rfl 5 rfl ?_
        obtain ⟨hg, h⟩ := j_gs h
        refine j_iald 114 dX12_claim_113 rfl (sh_109 hL) (j_inv hg) ?_
        refine j_aload_n 115 dX12_claim_114 rfl rfl 0 rfl ?_
        refine j_getG 118 dX12_claim_115 rfl (sh_66 hL) cl12 (k := 66) (by decide) flX12_137 rfl (gs_66_66 hL) ?_
        refine j_iload 120 dX12_claim_118 rfl 4 rfl ?_
        obtain ⟨hg, h⟩ := j_gs h
        refine j_iald 121 dX12_claim_120 rfl (sh_109 hL) (j_inv hg) ?_
        refine j_icmp_ge 145 124 dX12_claim_121 (by decide) rfl (fun hc => ?_) (fun hc => ?_)
        · replace h := j_pos hc h
          refine j_iinc (v := (l5 + (1 : Int32))) (lv' := [(5, .int (l5 + (1 : Int32))), (0, .ref (E.1 + 66)), (1, .int l1), (2, .int l2), (3, .int l3), (4, .int l4)]) (q := 5) 148 dX12_claim_145 rfl rfl rfl (by decide) rfl ?_
          refine j_goto 85 dX12_claim_148 (by decide) ?_
          refine j_sub [1, 2, 3, 4, 5, 0] rfl ?_
          exact ih _ _ _ _ _ _  h
        · replace h := j_neg hc h
          refine j_aload_n 125 dX12_claim_124 rfl rfl 0 rfl ?_
          refine j_getG 128 dX12_claim_125 rfl (sh_66 hL) cl12 (k := 70) (by decide) flX12_149 rfl (gs_66_70 hL) ?_
          refine j_iload 130 dX12_claim_128 rfl 5 rfl ?_
          obtain ⟨hg, h⟩ := j_gs h
          refine j_zald 131 dX12_claim_130 rfl (sh_113 hL) (j_inv hg) ?_
          refine j_if_ne 145 134 dX12_claim_131 (by decide) rfl (fun hc => ?_) (fun hc => ?_)
          · replace h := j_neg hc h
            refine j_iinc (v := (l5 + (1 : Int32))) (lv' := [(5, .int (l5 + (1 : Int32))), (0, .ref (E.1 + 66)), (1, .int l1), (2, .int l2), (3, .int l3), (4, .int l4)]) (q := 5) 148 dX12_claim_145 rfl rfl rfl (by decide) rfl ?_
            refine j_goto 85 dX12_claim_148 (by decide) ?_
            refine j_sub [1, 2, 3, 4, 5, 0] rfl ?_
            exact ih _ _ _ _ _ _  h
          · replace h := j_pos hc h
            refine j_aload_n 135 dX12_claim_134 rfl rfl 0 rfl ?_
            refine j_iload 137 dX12_claim_135 rfl 5 rfl ?_
            obtain ⟨q4, hq4, h⟩ := j_bs h
            refine j_callV (rest := []) (As := [.int l5]) 140 dX12_claim_137 rfl jyX12_isLate (tcX12_isLate hL  hq4) (sh_66 hL) cl12 flX12_479 wm1954 wm73 (by decide) rfl rfl (Nat.le_of_ble_eq_true rfl) ?_
            refine j_if_ne 145 143 dX12_claim_140 (by decide) rfl (fun hc => ?_) (fun hc => ?_)
            · replace h := j_neg hc h
              refine j_iinc (v := (l5 + (1 : Int32))) (lv' := [(5, .int (l5 + (1 : Int32))), (0, .ref (E.1 + 66)), (1, .int l1), (2, .int l2), (3, .int l3), (4, .int l4)]) (q := 5) 148 dX12_claim_145 rfl rfl rfl (by decide) rfl ?_
              refine j_goto 85 dX12_claim_148 (by decide) ?_
              refine j_sub [1, 2, 3, 4, 5, 0] rfl ?_
              exact ih _ _ _ _ _ _  h
            · replace h := j_pos hc h
              refine j_iconst (v := (3 : Int32)) 144 dX12_claim_143 rfl (by decide) ?_
              cases h
              exact j_iret dX12_claim_144 rfl
def fX12_claim (l1 : Int32) (l2 : Int32) (l3 : Int32) (I : JI) : Option (Int32 × JI) :=
  (fX12_isPassed l1 (j_up I 66 0 (0 : Int32))).bind (fun q1 => if q1 = 0 then (some ((-1 : Int32), (j_up I 66 0 (0 : Int32)))) else ((fX12_isPerson l2).bind (fun q2 => if q2 = 0 then (some ((-1 : Int32), (j_up I 66 0 (0 : Int32)))) else (if 0 ≤ l3 then (j_g (j_in l1 40) (if ((j_up I 66 0 (0 : Int32)) 106 l1.toNatClampNeg) < 0 then (j_g (j_in (((16 : Int32) * l1) + l2) 640) (if ((j_up I 66 0 (0 : Int32)) 109 (((16 : Int32) * l1) + l2).toNatClampNeg) < 0 then (some ((1 : Int32), (j_up I 66 0 (0 : Int32)))) else (j_g (j_in (((16 : Int32) * l1) + l2) 640) (if (jm_b01 ((j_up I 66 0 (0 : Int32)) 113 (((16 : Int32) * l1) + l2).toNatClampNeg)) = 0 then ((fX12_isLate (((16 : Int32) * l1) + l2) (j_up I 66 0 (0 : Int32))).bind (fun q3 => if q3 = 0 then (fX12_claim_85 100000 l1 l2 l3 (((16 : Int32) * l1) + l2) ((16 : Int32) * l1) (j_up I 66 0 (0 : Int32))) else (some ((2 : Int32), (j_up I 66 0 (0 : Int32)))))) else (some ((1 : Int32), (j_up I 66 0 (0 : Int32)))))))) else (some ((6 : Int32), (j_up I 66 0 (0 : Int32)))))) else (some ((-1 : Int32), (j_up I 66 0 (0 : Int32))))))))
set_option maxHeartbeats 4000000 in
set_option maxRecDepth 100000 in
theorem tcX12_claim {E : JE} {l1 : Int32} {l2 : Int32} {l3 : Int32} {r : Int32 × JI} {I : JI} {L : JL} {G D : JG} {S : JS} (hL : Lay G S) (h : fX12_claim l1 l2 l3 I = some r) : CallJ E xX12_claim 2 [.ref (E.1 + 66), .int l1, .int l2, .int l3] I L G D S (some (.int r.1)) r.2 L G D S := by
  unfold fX12_claim at h
  refine j_entry (by decide) (Nat.le_of_ble_eq_true rfl) ?_
  show AtJ E xX12_claim (Zr E (some (.int r.1)) r.2 L G D S) ((S).length, jm_sl S) 2 0 [(0, .ref (E.1 + 66)), (1, .int l1), (2, .int l2), (3, .int l3)] [] I L G D S
  refine j_aload_n 1 dX12_claim_0 rfl rfl 0 rfl ?_
  refine j_iconst (v := (0 : Int32)) 2 dX12_claim_1 rfl (by decide) ?_
  refine j_putI 5 dX12_claim_2 rfl (sh_66 hL) cl12 (k := 0) (by decide) flX12_218 rfl rfl rfl ?_
  refine j_aload_n 6 dX12_claim_5 rfl rfl 0 rfl ?_
  refine j_iload_n 7 dX12_claim_6 rfl rfl 1 rfl ?_
  obtain ⟨q1, hq1, h⟩ := j_bs h
  refine j_callV (rest := []) (As := [.int l1]) 10 dX12_claim_7 rfl jyX12_isPassed (tcX12_isPassed hL  hq1) (sh_66 hL) cl12 flX12_470 wm1914 wm70 (by decide) rfl rfl (Nat.le_of_ble_eq_true rfl) ?_
  refine j_if_eq 24 13 dX12_claim_10 (by decide) rfl (fun hc => ?_) (fun hc => ?_)
  · replace h := j_pos hc h
    refine j_iconst (v := (-1 : Int32)) 25 dX12_claim_24 rfl (by decide) ?_
    cases h
    exact j_iret dX12_claim_25 rfl
  · replace h := j_neg hc h
    refine j_iload_n 14 dX12_claim_13 rfl rfl 2 rfl ?_
    obtain ⟨q2, hq2, h⟩ := j_bs h
    refine j_callS (rest := []) (As := [.int l2]) 17 dX12_claim_14 rfl jyX12_isPerson (tcX12_isPerson   hq2) flX12_226 wm1700 (by decide) rfl rfl (Nat.le_of_ble_eq_true rfl) ?_
    refine j_if_eq 24 20 dX12_claim_17 (by decide) rfl (fun hc => ?_) (fun hc => ?_)
    · replace h := j_pos hc h
      refine j_iconst (v := (-1 : Int32)) 25 dX12_claim_24 rfl (by decide) ?_
      cases h
      exact j_iret dX12_claim_25 rfl
    · replace h := j_neg hc h
      refine j_iload_n 21 dX12_claim_20 rfl rfl 3 rfl ?_
      refine j_if_ge 26 24 dX12_claim_21 (by decide) rfl (fun hc => ?_) (fun hc => ?_)
      · replace h := j_pos hc h
        refine j_bipush (v := (16 : Int32)) 28 dX12_claim_26 rfl (by decide) ?_
        refine j_iload_n 29 dX12_claim_28 rfl rfl 1 rfl ?_
        refine j_imul 30 dX12_claim_29 rfl ?_
        refine j_iload_n 31 dX12_claim_30 rfl rfl 2 rfl ?_
        refine j_iadd 32 dX12_claim_31 rfl ?_
        refine j_istore (lv' := [(4, .int (((16 : Int32) * l1) + l2)), (0, .ref (E.1 + 66)), (1, .int l1), (2, .int l2), (3, .int l3)]) 34 dX12_claim_32 rfl (by decide) rfl ?_
        refine j_aload_n 35 dX12_claim_34 rfl rfl 1 rfl ?_
        refine j_getG 38 dX12_claim_35 rfl (sh_66 hL) cl12 (k := 63) (by decide) flX12_128 rfl (gs_66_63 hL) ?_
        refine j_iload_n 39 dX12_claim_38 rfl rfl 2 rfl ?_
        obtain ⟨hg, h⟩ := j_gs h
        refine j_iald 40 dX12_claim_39 rfl (sh_106 hL) (j_inv hg) ?_
        refine j_if_lt 46 43 dX12_claim_40 (by decide) rfl (fun hc => ?_) (fun hc => ?_)
        · replace h := j_pos hc h
          refine j_aload_n 47 dX12_claim_46 rfl rfl 1 rfl ?_
          refine j_getG 50 dX12_claim_47 rfl (sh_66 hL) cl12 (k := 66) (by decide) flX12_137 rfl (gs_66_66 hL) ?_
          refine j_iload 52 dX12_claim_50 rfl 0 rfl ?_
          obtain ⟨hg, h⟩ := j_gs h
          refine j_iald 53 dX12_claim_52 rfl (sh_109 hL) (j_inv hg) ?_
          refine j_if_lt 66 56 dX12_claim_53 (by decide) rfl (fun hc => ?_) (fun hc => ?_)
          · replace h := j_pos hc h
            refine j_iconst (v := (1 : Int32)) 67 dX12_claim_66 rfl (by decide) ?_
            cases h
            exact j_iret dX12_claim_67 rfl
          · replace h := j_neg hc h
            refine j_aload_n 57 dX12_claim_56 rfl rfl 1 rfl ?_
            refine j_getG 60 dX12_claim_57 rfl (sh_66 hL) cl12 (k := 70) (by decide) flX12_149 rfl (gs_66_70 hL) ?_
            refine j_iload 62 dX12_claim_60 rfl 0 rfl ?_
            obtain ⟨hg, h⟩ := j_gs h
            refine j_zald 63 dX12_claim_62 rfl (sh_113 hL) (j_inv hg) ?_
            refine j_if_eq 68 66 dX12_claim_63 (by decide) rfl (fun hc => ?_) (fun hc => ?_)
            · replace h := j_pos hc h
              refine j_aload_n 69 dX12_claim_68 rfl rfl 1 rfl ?_
              refine j_iload 71 dX12_claim_69 rfl 0 rfl ?_
              obtain ⟨q3, hq3, h⟩ := j_bs h
              refine j_callV (rest := []) (As := [.int (((16 : Int32) * l1) + l2)]) 74 dX12_claim_71 rfl jyX12_isLate (tcX12_isLate hL  hq3) (sh_66 hL) cl12 flX12_479 wm1954 wm73 (by decide) rfl rfl (Nat.le_of_ble_eq_true rfl) ?_
              refine j_if_eq 79 77 dX12_claim_74 (by decide) rfl (fun hc => ?_) (fun hc => ?_)
              · replace h := j_pos hc h
                refine j_bipush (v := (16 : Int32)) 81 dX12_claim_79 rfl (by decide) ?_
                refine j_iload_n 82 dX12_claim_81 rfl rfl 2 rfl ?_
                refine j_imul 83 dX12_claim_82 rfl ?_
                refine j_istore (lv' := [(5, .int ((16 : Int32) * l1)), (4, .int (((16 : Int32) * l1) + l2)), (0, .ref (E.1 + 66)), (1, .int l1), (2, .int l2), (3, .int l3)]) 85 dX12_claim_83 rfl (by decide) rfl ?_
                refine j_sub [2, 3, 4, 5, 1, 0] rfl ?_
                exact kX12_claim_85 hL    100000 _ _ _ _ _ _  h
              · replace h := j_neg hc h
                refine j_iconst (v := (2 : Int32)) 78 dX12_claim_77 rfl (by decide) ?_
                cases h
                exact j_iret dX12_claim_78 rfl
            · replace h := j_neg hc h
              refine j_iconst (v := (1 : Int32)) 67 dX12_claim_66 rfl (by decide) ?_
              cases h
              exact j_iret dX12_claim_67 rfl
        · replace h := j_neg hc h
          refine j_bipush (v := (6 : Int32)) 45 dX12_claim_43 rfl (by decide) ?_
          cases h
          exact j_iret dX12_claim_45 rfl
      · replace h := j_neg hc h
        refine j_iconst (v := (-1 : Int32)) 25 dX12_claim_24 rfl (by decide) ?_
        cases h
        exact j_iret dX12_claim_25 rfl
def fX12_parted_215 (l4 : Int32) (l5 : Int32) (l6 : Int32) (s0 : Int32) (s1 : Int32) (I : JI) : Option (Int32 × JI) :=
  j_g (decide (¬ l4 = 0)) (if l5 ≤ l6 then (some ((((s1 * s0) / l4) + (0 : Int32)), I)) else (some ((((s1 * s0) / l4) + (1 : Int32)), I)))
set_option maxHeartbeats 4000000 in
set_option maxRecDepth 100000 in
theorem kX12_parted_215 {E : JE} {r : Int32 × JI} {L : JL} {G : JG} {D : JG} {S : JS} (hL : Lay G S) : ∀ (l4 : Int32) (l5 : Int32) (l6 : Int32) (s0 : Int32) (s1 : Int32) (I : JI), fX12_parted_215 l4 l5 l6 s0 s1 I = some r → AtJ E xX12_parted (Zr E (some (.int r.1)) r.2 L G D S) ((S).length, jm_sl S) 3 215 [(4, .int l4), (5, .int l5), (6, .int l6)] [.int s0, .int s1] I L G D S := by
  intro l4 l5 l6 s0 s1 I  h
  unfold fX12_parted_215 at h
  refine j_imul 216 dX12_parted_215 rfl ?_
  refine j_iload 218 dX12_parted_216 rfl 0 rfl ?_
  obtain ⟨hg, h⟩ := j_gs h
  refine j_idiv 219 dX12_parted_218 rfl (of_decide_eq_true hg) ?_
  refine j_iload 221 dX12_parted_219 rfl 2 rfl ?_
  refine j_iload 223 dX12_parted_221 rfl 1 rfl ?_
  refine j_icmp_ge 230 226 dX12_parted_223 (by decide) rfl (fun hc => ?_) (fun hc => ?_)
  · replace h := j_pos hc h
    refine j_iconst (v := (0 : Int32)) 231 dX12_parted_230 rfl (by decide) ?_
    refine j_iadd 232 dX12_parted_231 rfl ?_
    cases h
    exact j_iret dX12_parted_232 rfl
  · replace h := j_neg hc h
    refine j_iconst (v := (1 : Int32)) 227 dX12_parted_226 rfl (by decide) ?_
    refine j_goto 231 dX12_parted_227 (by decide) ?_
    refine j_iadd 232 dX12_parted_231 rfl ?_
    cases h
    exact j_iret dX12_parted_232 rfl
def fX12_parted_185 (l1 : Int32) (l2 : Int32) (l4 : Int32) (l5 : Int32) (l6 : Int32) (I : JI) : Option (Int32 × JI) :=
  j_g (j_in l1 40) (j_g (j_in l1 40) (if (jm_b01 (I 108 l1.toNatClampNeg)) = 0 then (fX12_parted_215 l4 l5 l6 (1 : Int32) (I 99 l1.toNatClampNeg) I) else (j_g (j_in (((16 : Int32) * l1) + l2) 640) (fX12_parted_215 l4 l5 l6 (I 111 (((16 : Int32) * l1) + l2).toNatClampNeg) (I 99 l1.toNatClampNeg) I))))
set_option maxHeartbeats 4000000 in
set_option maxRecDepth 100000 in
theorem kX12_parted_185 {E : JE} {r : Int32 × JI} {L : JL} {G : JG} {D : JG} {S : JS} (hL : Lay G S) : ∀ (l1 : Int32) (l2 : Int32) (l4 : Int32) (l5 : Int32) (l6 : Int32) (I : JI), fX12_parted_185 l1 l2 l4 l5 l6 I = some r → AtJ E xX12_parted (Zr E (some (.int r.1)) r.2 L G D S) ((S).length, jm_sl S) 3 185 [(0, .ref (E.1 + 66)), (1, .int l1), (2, .int l2), (4, .int l4), (5, .int l5), (6, .int l6)] [] I L G D S := by
  intro l1 l2 l4 l5 l6 I  h
  unfold fX12_parted_185 at h
  refine j_aload_n 186 dX12_parted_185 rfl rfl 0 rfl ?_
  refine j_getG 189 dX12_parted_186 rfl (sh_66 hL) cl12 (k := 56) (by decide) flX12_107 rfl (gs_66_56 hL) ?_
  refine j_iload_n 190 dX12_parted_189 rfl rfl 1 rfl ?_
  obtain ⟨hg, h⟩ := j_gs h
  refine j_iald 191 dX12_parted_190 rfl (sh_99 hL) (j_inv hg) ?_
  refine j_aload_n 192 dX12_parted_191 rfl rfl 0 rfl ?_
  refine j_getG 195 dX12_parted_192 rfl (sh_66 hL) cl12 (k := 65) (by decide) flX12_134 rfl (gs_66_65 hL) ?_
  refine j_iload_n 196 dX12_parted_195 rfl rfl 1 rfl ?_
  obtain ⟨hg, h⟩ := j_gs h
  refine j_zald 197 dX12_parted_196 rfl (sh_108 hL) (j_inv hg) ?_
  refine j_if_eq 214 200 dX12_parted_197 (by decide) rfl (fun hc => ?_) (fun hc => ?_)
  · replace h := j_pos hc h
    refine j_iconst (v := (1 : Int32)) 215 dX12_parted_214 rfl (by decide) ?_
    refine j_sub [3, 4, 5] rfl ?_
    exact kX12_parted_215 hL    _ _ _ _ _ _  h
  · replace h := j_neg hc h
    refine j_aload_n 201 dX12_parted_200 rfl rfl 0 rfl ?_
    refine j_getG 204 dX12_parted_201 rfl (sh_66 hL) cl12 (k := 68) (by decide) flX12_143 rfl (gs_66_68 hL) ?_
    refine j_bipush (v := (16 : Int32)) 206 dX12_parted_204 rfl (by decide) ?_
    refine j_iload_n 207 dX12_parted_206 rfl rfl 1 rfl ?_
    refine j_imul 208 dX12_parted_207 rfl ?_
    refine j_iload_n 209 dX12_parted_208 rfl rfl 2 rfl ?_
    refine j_iadd 210 dX12_parted_209 rfl ?_
    obtain ⟨hg, h⟩ := j_gs h
    refine j_iald 211 dX12_parted_210 rfl (sh_111 hL) (j_inv hg) ?_
    refine j_goto 215 dX12_parted_211 (by decide) ?_
    refine j_sub [3, 4, 5] rfl ?_
    exact kX12_parted_215 hL    _ _ _ _ _ _  h
def fX12_parted_163 (k105 : Int32 → Int32 → Int32 → Int32 → Int32 → Int32 → Int32 → JI → Option (Int32 × JI)) (l1 : Int32) (l2 : Int32) (l3 : Int32) (l4 : Int32) (l6 : Int32) (l7 : Int32) (s0 : Int32) (s1 : Int32) (s2 : Int32) (I : JI) : Option (Int32 × JI) :=
  j_g (decide (¬ l4 = 0)) (if l2 ≤ l7 then (k105 l1 l2 l3 l4 (s2 - ((s1 * s0) / l4)) l6 (l7 + (1 : Int32)) I) else (k105 l1 l2 l3 l4 (s2 - ((s1 * s0) / l4)) (l6 + (1 : Int32)) (l7 + (1 : Int32)) I))
set_option maxHeartbeats 4000000 in
set_option maxRecDepth 100000 in
theorem kX12_parted_163 {E : JE} {k105 : Int32 → Int32 → Int32 → Int32 → Int32 → Int32 → Int32 → JI → Option (Int32 × JI)} {r : Int32 × JI} {L : JL} {G : JG} {D : JG} {S : JS} (hL : Lay G S) (H105 : ∀ (l1 : Int32) (l2 : Int32) (l3 : Int32) (l4 : Int32) (l5 : Int32) (l6 : Int32) (l7 : Int32) (I : JI), k105 l1 l2 l3 l4 l5 l6 l7 I = some r → AtJ E xX12_parted (Zr E (some (.int r.1)) r.2 L G D S) ((S).length, jm_sl S) 3 105 [(0, .ref (E.1 + 66)), (1, .int l1), (2, .int l2), (3, .int l3), (4, .int l4), (5, .int l5), (6, .int l6), (7, .int l7)] [] I L G D S) : ∀ (l1 : Int32) (l2 : Int32) (l3 : Int32) (l4 : Int32) (l6 : Int32) (l7 : Int32) (s0 : Int32) (s1 : Int32) (s2 : Int32) (I : JI), fX12_parted_163 k105 l1 l2 l3 l4 l6 l7 s0 s1 s2 I = some r → AtJ E xX12_parted (Zr E (some (.int r.1)) r.2 L G D S) ((S).length, jm_sl S) 3 163 [(0, .ref (E.1 + 66)), (1, .int l1), (2, .int l2), (3, .int l3), (4, .int l4), (6, .int l6), (7, .int l7)] [.int s0, .int s1, .int s2] I L G D S := by
  intro l1 l2 l3 l4 l6 l7 s0 s1 s2 I  h
  unfold fX12_parted_163 at h
  refine j_imul 164 dX12_parted_163 rfl ?_
  refine j_iload 166 dX12_parted_164 rfl 4 rfl ?_
  obtain ⟨hg, h⟩ := j_gs h
  refine j_idiv 167 dX12_parted_166 rfl (of_decide_eq_true hg) ?_
  refine j_isub 168 dX12_parted_167 rfl ?_
  refine j_istore (lv' := [(5, .int (s2 - ((s1 * s0) / l4))), (0, .ref (E.1 + 66)), (1, .int l1), (2, .int l2), (3, .int l3), (4, .int l4), (6, .int l6), (7, .int l7)]) 170 dX12_parted_168 rfl (by decide) rfl ?_
  refine j_iload 172 dX12_parted_170 rfl 7 rfl ?_
  refine j_iload_n 173 dX12_parted_172 rfl rfl 3 rfl ?_
  refine j_icmp_ge 179 176 dX12_parted_173 (by decide) rfl (fun hc => ?_) (fun hc => ?_)
  · replace h := j_pos hc h
    refine j_iinc (v := (l7 + (1 : Int32))) (lv' := [(7, .int (l7 + (1 : Int32))), (5, .int (s2 - ((s1 * s0) / l4))), (0, .ref (E.1 + 66)), (1, .int l1), (2, .int l2), (3, .int l3), (4, .int l4), (6, .int l6)]) (q := 7) 182 dX12_parted_179 rfl rfl rfl (by decide) rfl ?_
    refine j_goto 105 dX12_parted_182 (by decide) ?_
    refine j_sub [2, 3, 4, 5, 6, 1, 7, 0] rfl ?_
    exact H105 _ _ _ _ _ _ _ _  h
  · replace h := j_neg hc h
    refine j_iinc (v := (l6 + (1 : Int32))) (lv' := [(6, .int (l6 + (1 : Int32))), (5, .int (s2 - ((s1 * s0) / l4))), (0, .ref (E.1 + 66)), (1, .int l1), (2, .int l2), (3, .int l3), (4, .int l4), (7, .int l7)]) (q := 6) 179 dX12_parted_176 rfl rfl rfl (by decide) rfl ?_
    refine j_iinc (v := (l7 + (1 : Int32))) (lv' := [(7, .int (l7 + (1 : Int32))), (6, .int (l6 + (1 : Int32))), (5, .int (s2 - ((s1 * s0) / l4))), (0, .ref (E.1 + 66)), (1, .int l1), (2, .int l2), (3, .int l3), (4, .int l4)]) (q := 7) 182 dX12_parted_179 rfl rfl rfl (by decide) rfl ?_
    refine j_goto 105 dX12_parted_182 (by decide) ?_
    refine j_sub [3, 4, 5, 6, 7, 2, 1, 0] rfl ?_
    exact H105 _ _ _ _ _ _ _ _  h
def fX12_parted_105 : Nat → Int32 → Int32 → Int32 → Int32 → Int32 → Int32 → Int32 → JI → Option (Int32 × JI)
  | 0, _, _, _, _, _, _, _, _ => none
  | n + 1, l1, l2, l3, l4, l5, l6, l7, I =>
    if (16 : Int32) ≤ l7 then (fX12_parted_185 l1 l2 l4 l5 l6 I) else (j_g (j_in (((16 : Int32) * l1) + l7) 640) (if (I 109 (((16 : Int32) * l1) + l7).toNatClampNeg) = l3 then (j_g (j_in l1 40) (j_g (j_in l1 40) (if (jm_b01 (I 108 l1.toNatClampNeg)) = 0 then (fX12_parted_163 (fX12_parted_105 n) l1 l2 l3 l4 l6 l7 (1 : Int32) (I 99 l1.toNatClampNeg) l5 I) else (j_g (j_in (((16 : Int32) * l1) + l7) 640) (fX12_parted_163 (fX12_parted_105 n) l1 l2 l3 l4 l6 l7 (I 111 (((16 : Int32) * l1) + l7).toNatClampNeg) (I 99 l1.toNatClampNeg) l5 I))))) else ((fX12_parted_105 n) l1 l2 l3 l4 l5 l6 (l7 + (1 : Int32)) I)))
set_option maxHeartbeats 4000000 in
set_option maxRecDepth 100000 in
theorem kX12_parted_105 {E : JE} {r : Int32 × JI} {L : JL} {G : JG} {D : JG} {S : JS} (hL : Lay G S) : ∀ (n : Nat) (l1 : Int32) (l2 : Int32) (l3 : Int32) (l4 : Int32) (l5 : Int32) (l6 : Int32) (l7 : Int32) (I : JI), fX12_parted_105 n l1 l2 l3 l4 l5 l6 l7 I = some r → AtJ E xX12_parted (Zr E (some (.int r.1)) r.2 L G D S) ((S).length, jm_sl S) 3 105 [(0, .ref (E.1 + 66)), (1, .int l1), (2, .int l2), (3, .int l3), (4, .int l4), (5, .int l5), (6, .int l6), (7, .int l7)] [] I L G D S := by
  intro n
  induction n with
  | zero => intro l1 l2 l3 l4 l5 l6 l7 I  h; simp [fX12_parted_105] at h
  | succ n ih =>
    intro l1 l2 l3 l4 l5 l6 l7 I  h
    rw [fX12_parted_105] at h
    refine j_iload 107 dX12_parted_105 rfl 7 rfl ?_
    refine j_bipush (v := (16 : Int32)) 109 dX12_parted_107 rfl (by decide) ?_
    refine j_icmp_ge 185 112 dX12_parted_109 (by decide) rfl (fun hc => ?_) (fun hc => ?_)
    · replace h := j_pos hc h
      refine j_sub [0, 1, 2, 4, 5, 6] rfl ?_
      exact kX12_parted_185 hL    _ _ _ _ _ _  h
    · replace h := j_neg hc h
      refine j_bipush (v := (16 : Int32)) 114 dX12_parted_112 rfl (by decide) ?_
      refine j_iload_n 115 dX12_parted_114 rfl rfl 1 rfl ?_
      refine j_imul 116 dX12_parted_115 rfl ?_
      refine j_iload 118 dX12_parted_116 rfl 7 rfl ?_
      refine j_iadd 119 dX12_parted_118 rfl ?_
      refine j_istore (lv' := [(8, .int (((16 : Int32) * l1) + l7)), (0, .ref (E.1 + 66)), (1, .int l1), (2, .int l2), (3, .int l3), (4, .int l4), (5, .int l5), (6, .int l6), (7, .int l7)]) 121 dX12_parted_119 rfl (by decide) rfl ?_
      refine j_aload_n 122 dX12_parted_121 rfl rfl 1 rfl ?_
      refine j_getG 125 dX12_parted_122 rfl (sh_66 hL) cl12 (k := 66) (by decide) flX12_137 rfl (gs_66_66 hL) ?_
      refine j_iload 127 dX12_parted_125 rfl 0 rfl ?_
      obtain ⟨hg, h⟩ := j_gs h
      refine j_iald 128 dX12_parted_127 rfl (sh_109 hL) (j_inv hg) ?_
      refine j_iload_n 129 dX12_parted_128 rfl rfl 4 rfl ?_
      refine j_icmp_eq 135 132 dX12_parted_129 (by decide) rfl (fun hc => ?_) (fun hc => ?_)
      · replace h := j_pos hc h
        refine j_iload 137 dX12_parted_135 rfl 6 rfl ?_
        refine j_aload_n 138 dX12_parted_137 rfl rfl 1 rfl ?_
        refine j_getG 141 dX12_parted_138 rfl (sh_66 hL) cl12 (k := 56) (by decide) flX12_107 rfl (gs_66_56 hL) ?_
        refine j_iload_n 142 dX12_parted_141 rfl rfl 2 rfl ?_
        obtain ⟨hg, h⟩ := j_gs h
        refine j_iald 143 dX12_parted_142 rfl (sh_99 hL) (j_inv hg) ?_
        refine j_aload_n 144 dX12_parted_143 rfl rfl 1 rfl ?_
        refine j_getG 147 dX12_parted_144 rfl (sh_66 hL) cl12 (k := 65) (by decide) flX12_134 rfl (gs_66_65 hL) ?_
        refine j_iload_n 148 dX12_parted_147 rfl rfl 2 rfl ?_
        obtain ⟨hg, h⟩ := j_gs h
        refine j_zald 149 dX12_parted_148 rfl (sh_108 hL) (j_inv hg) ?_
        refine j_if_eq 162 152 dX12_parted_149 (by decide) rfl (fun hc => ?_) (fun hc => ?_)
        · replace h := j_pos hc h
          refine j_iconst (v := (1 : Int32)) 163 dX12_parted_162 rfl (by decide) ?_
          refine j_sub [1, 2, 3, 4, 5, 7, 8] rfl ?_
          exact kX12_parted_163 hL   ih _ _ _ _ _ _ _ _ _ _  h
        · replace h := j_neg hc h
          refine j_aload_n 153 dX12_parted_152 rfl rfl 1 rfl ?_
          refine j_getG 156 dX12_parted_153 rfl (sh_66 hL) cl12 (k := 68) (by decide) flX12_143 rfl (gs_66_68 hL) ?_
          refine j_iload 158 dX12_parted_156 rfl 0 rfl ?_
          obtain ⟨hg, h⟩ := j_gs h
          refine j_iald 159 dX12_parted_158 rfl (sh_111 hL) (j_inv hg) ?_
          refine j_goto 163 dX12_parted_159 (by decide) ?_
          refine j_sub [1, 2, 3, 4, 5, 7, 8] rfl ?_
          exact kX12_parted_163 hL   ih _ _ _ _ _ _ _ _ _ _  h
      · replace h := j_neg hc h
        refine j_goto 179 dX12_parted_132 (by decide) ?_
        refine j_iinc (v := (l7 + (1 : Int32))) (lv' := [(7, .int (l7 + (1 : Int32))), (8, .int (((16 : Int32) * l1) + l7)), (0, .ref (E.1 + 66)), (1, .int l1), (2, .int l2), (3, .int l3), (4, .int l4), (5, .int l5), (6, .int l6)]) (q := 8) 182 dX12_parted_179 rfl rfl rfl (by decide) rfl ?_
        refine j_goto 105 dX12_parted_182 (by decide) ?_
        refine j_sub [2, 3, 4, 5, 6, 7, 8, 0] rfl ?_
        exact ih _ _ _ _ _ _ _ _  h
def fX12_parted_91 (l1 : Int32) (l2 : Int32) (l3 : Int32) (l4 : Int32) (I : JI) : Option (Int32 × JI) :=
  j_g (j_in l1 40) (fX12_parted_105 100000 l1 l2 l3 l4 (I 99 l1.toNatClampNeg) (0 : Int32) (0 : Int32) I)
set_option maxHeartbeats 4000000 in
set_option maxRecDepth 100000 in
theorem kX12_parted_91 {E : JE} {r : Int32 × JI} {L : JL} {G : JG} {D : JG} {S : JS} (hL : Lay G S) : ∀ (l1 : Int32) (l2 : Int32) (l3 : Int32) (l4 : Int32) (I : JI), fX12_parted_91 l1 l2 l3 l4 I = some r → AtJ E xX12_parted (Zr E (some (.int r.1)) r.2 L G D S) ((S).length, jm_sl S) 3 91 [(0, .ref (E.1 + 66)), (1, .int l1), (2, .int l2), (3, .int l3), (4, .int l4)] [] I L G D S := by
  intro l1 l2 l3 l4 I  h
  unfold fX12_parted_91 at h
  refine j_aload_n 92 dX12_parted_91 rfl rfl 0 rfl ?_
  refine j_getG 95 dX12_parted_92 rfl (sh_66 hL) cl12 (k := 56) (by decide) flX12_107 rfl (gs_66_56 hL) ?_
  refine j_iload_n 96 dX12_parted_95 rfl rfl 1 rfl ?_
  obtain ⟨hg, h⟩ := j_gs h
  refine j_iald 97 dX12_parted_96 rfl (sh_99 hL) (j_inv hg) ?_
  refine j_istore (lv' := [(5, .int (I 99 l1.toNatClampNeg)), (0, .ref (E.1 + 66)), (1, .int l1), (2, .int l2), (3, .int l3), (4, .int l4)]) 99 dX12_parted_97 rfl (by decide) rfl ?_
  refine j_iconst (v := (0 : Int32)) 100 dX12_parted_99 rfl (by decide) ?_
  refine j_istore (lv' := [(6, .int (0 : Int32)), (5, .int (I 99 l1.toNatClampNeg)), (0, .ref (E.1 + 66)), (1, .int l1), (2, .int l2), (3, .int l3), (4, .int l4)]) 102 dX12_parted_100 rfl (by decide) rfl ?_
  refine j_iconst (v := (0 : Int32)) 103 dX12_parted_102 rfl (by decide) ?_
  refine j_istore (lv' := [(7, .int (0 : Int32)), (6, .int (0 : Int32)), (5, .int (I 99 l1.toNatClampNeg)), (0, .ref (E.1 + 66)), (1, .int l1), (2, .int l2), (3, .int l3), (4, .int l4)]) 105 dX12_parted_103 rfl (by decide) rfl ?_
  refine j_sub [3, 4, 5, 6, 7, 2, 1, 0] rfl ?_
  exact kX12_parted_105 hL    100000 _ _ _ _ _ _ _ _  h
def fX12_parted_37 : Nat → Int32 → Int32 → Int32 → Int32 → Int32 → JI → Option (Int32 × JI)
  | 0, _, _, _, _, _, _ => none
  | n + 1, l1, l2, l3, l4, l5, I =>
    if (((16 : Int32) * l1) + (16 : Int32)) ≤ l5 then (fX12_parted_91 l1 l2 l3 l4 I) else (j_g (j_in l5 640) (if (I 109 l5.toNatClampNeg) = l3 then (j_g (j_in l1 40) (if (jm_b01 (I 108 l1.toNatClampNeg)) = 0 then ((fX12_parted_37 n) l1 l2 l3 (l4 + (1 : Int32)) (l5 + (1 : Int32)) I) else (j_g (j_in l5 640) ((fX12_parted_37 n) l1 l2 l3 (l4 + (I 111 l5.toNatClampNeg)) (l5 + (1 : Int32)) I)))) else ((fX12_parted_37 n) l1 l2 l3 l4 (l5 + (1 : Int32)) I)))
set_option maxHeartbeats 4000000 in
set_option maxRecDepth 100000 in
theorem kX12_parted_37 {E : JE} {r : Int32 × JI} {L : JL} {G : JG} {D : JG} {S : JS} (hL : Lay G S) : ∀ (n : Nat) (l1 : Int32) (l2 : Int32) (l3 : Int32) (l4 : Int32) (l5 : Int32) (I : JI), fX12_parted_37 n l1 l2 l3 l4 l5 I = some r → AtJ E xX12_parted (Zr E (some (.int r.1)) r.2 L G D S) ((S).length, jm_sl S) 3 37 [(0, .ref (E.1 + 66)), (1, .int l1), (2, .int l2), (3, .int l3), (4, .int l4), (5, .int l5)] [] I L G D S := by
  intro n
  induction n with
  | zero => intro l1 l2 l3 l4 l5 I  h; simp [fX12_parted_37] at h
  | succ n ih =>
    intro l1 l2 l3 l4 l5 I  h
    rw [fX12_parted_37] at h
    refine j_iload 39 dX12_parted_37 rfl 5 rfl ?_
    refine j_bipush (v := (16 : Int32)) 41 dX12_parted_39 rfl (by decide) ?_
    refine j_iload_n 42 dX12_parted_41 rfl rfl 1 rfl ?_
    refine j_imul 43 dX12_parted_42 rfl ?_
    refine j_bipush (v := (16 : Int32)) 45 dX12_parted_43 rfl (by decide) ?_
    refine j_iadd 46 dX12_parted_45 rfl ?_
    refine j_icmp_ge 91 49 dX12_parted_46 (by decide) rfl (fun hc => ?_) (fun hc => ?_)
    · replace h := j_pos hc h
      refine j_sub [0, 1, 2, 3, 4] rfl ?_
      exact kX12_parted_91 hL    _ _ _ _ _  h
    · replace h := j_neg hc h
      refine j_aload_n 50 dX12_parted_49 rfl rfl 0 rfl ?_
      refine j_getG 53 dX12_parted_50 rfl (sh_66 hL) cl12 (k := 66) (by decide) flX12_137 rfl (gs_66_66 hL) ?_
      refine j_iload 55 dX12_parted_53 rfl 5 rfl ?_
      obtain ⟨hg, h⟩ := j_gs h
      refine j_iald 56 dX12_parted_55 rfl (sh_109 hL) (j_inv hg) ?_
      refine j_iload_n 57 dX12_parted_56 rfl rfl 3 rfl ?_
      refine j_icmp_ne 85 60 dX12_parted_57 (by decide) rfl (fun hc => ?_) (fun hc => ?_)
      · replace h := j_neg hc h
        refine j_iinc (v := (l5 + (1 : Int32))) (lv' := [(5, .int (l5 + (1 : Int32))), (0, .ref (E.1 + 66)), (1, .int l1), (2, .int l2), (3, .int l3), (4, .int l4)]) (q := 5) 88 dX12_parted_85 rfl rfl rfl (by decide) rfl ?_
        refine j_goto 37 dX12_parted_88 (by decide) ?_
        refine j_sub [1, 2, 3, 4, 5, 0] rfl ?_
        exact ih _ _ _ _ _ _  h
      · replace h := j_pos hc h
        refine j_iload 62 dX12_parted_60 rfl 4 rfl ?_
        refine j_aload_n 63 dX12_parted_62 rfl rfl 0 rfl ?_
        refine j_getG 66 dX12_parted_63 rfl (sh_66 hL) cl12 (k := 65) (by decide) flX12_134 rfl (gs_66_65 hL) ?_
        refine j_iload_n 67 dX12_parted_66 rfl rfl 1 rfl ?_
        obtain ⟨hg, h⟩ := j_gs h
        refine j_zald 68 dX12_parted_67 rfl (sh_108 hL) (j_inv hg) ?_
        refine j_if_eq 81 71 dX12_parted_68 (by decide) rfl (fun hc => ?_) (fun hc => ?_)
        · replace h := j_pos hc h
          refine j_iconst (v := (1 : Int32)) 82 dX12_parted_81 rfl (by decide) ?_
          refine j_iadd 83 dX12_parted_82 rfl ?_
          refine j_istore (lv' := [(4, .int (l4 + (1 : Int32))), (0, .ref (E.1 + 66)), (1, .int l1), (2, .int l2), (3, .int l3), (5, .int l5)]) 85 dX12_parted_83 rfl (by decide) rfl ?_
          refine j_iinc (v := (l5 + (1 : Int32))) (lv' := [(5, .int (l5 + (1 : Int32))), (4, .int (l4 + (1 : Int32))), (0, .ref (E.1 + 66)), (1, .int l1), (2, .int l2), (3, .int l3)]) (q := 5) 88 dX12_parted_85 rfl rfl rfl (by decide) rfl ?_
          refine j_goto 37 dX12_parted_88 (by decide) ?_
          refine j_sub [2, 3, 4, 5, 1, 0] rfl ?_
          exact ih _ _ _ _ _ _  h
        · replace h := j_neg hc h
          refine j_aload_n 72 dX12_parted_71 rfl rfl 0 rfl ?_
          refine j_getG 75 dX12_parted_72 rfl (sh_66 hL) cl12 (k := 68) (by decide) flX12_143 rfl (gs_66_68 hL) ?_
          refine j_iload 77 dX12_parted_75 rfl 5 rfl ?_
          obtain ⟨hg, h⟩ := j_gs h
          refine j_iald 78 dX12_parted_77 rfl (sh_111 hL) (j_inv hg) ?_
          refine j_goto 82 dX12_parted_78 (by decide) ?_
          refine j_iadd 83 dX12_parted_82 rfl ?_
          refine j_istore (lv' := [(4, .int (l4 + (I 111 l5.toNatClampNeg))), (0, .ref (E.1 + 66)), (1, .int l1), (2, .int l2), (3, .int l3), (5, .int l5)]) 85 dX12_parted_83 rfl (by decide) rfl ?_
          refine j_iinc (v := (l5 + (1 : Int32))) (lv' := [(5, .int (l5 + (1 : Int32))), (4, .int (l4 + (I 111 l5.toNatClampNeg))), (0, .ref (E.1 + 66)), (1, .int l1), (2, .int l2), (3, .int l3)]) (q := 5) 88 dX12_parted_85 rfl rfl rfl (by decide) rfl ?_
          refine j_goto 37 dX12_parted_88 (by decide) ?_
          refine j_sub [2, 3, 4, 5, 1, 0] rfl ?_
          exact ih _ _ _ _ _ _  h
def fX12_parted (l1 : Int32) (l2 : Int32) (I : JI) : Option (Int32 × JI) :=
  (fX12_mays l1 l2 (j_up I 66 0 (0 : Int32))).bind (fun q1 => if q1 = 0 then (some ((-1 : Int32), (j_up I 66 0 (0 : Int32)))) else (j_g (j_in (((16 : Int32) * l1) + l2) 640) (fX12_parted_37 100000 l1 l2 ((j_up I 66 0 (0 : Int32)) 109 (((16 : Int32) * l1) + l2).toNatClampNeg) (0 : Int32) ((16 : Int32) * l1) (j_up I 66 0 (0 : Int32)))))
set_option maxHeartbeats 4000000 in
set_option maxRecDepth 100000 in
theorem tcX12_parted {E : JE} {l1 : Int32} {l2 : Int32} {r : Int32 × JI} {I : JI} {L : JL} {G D : JG} {S : JS} (hL : Lay G S) (h : fX12_parted l1 l2 I = some r) : CallJ E xX12_parted 3 [.ref (E.1 + 66), .int l1, .int l2] I L G D S (some (.int r.1)) r.2 L G D S := by
  unfold fX12_parted at h
  refine j_entry (by decide) (Nat.le_of_ble_eq_true rfl) ?_
  show AtJ E xX12_parted (Zr E (some (.int r.1)) r.2 L G D S) ((S).length, jm_sl S) 3 0 [(0, .ref (E.1 + 66)), (1, .int l1), (2, .int l2)] [] I L G D S
  refine j_aload_n 1 dX12_parted_0 rfl rfl 0 rfl ?_
  refine j_iconst (v := (0 : Int32)) 2 dX12_parted_1 rfl (by decide) ?_
  refine j_putI 5 dX12_parted_2 rfl (sh_66 hL) cl12 (k := 0) (by decide) flX12_218 rfl rfl rfl ?_
  refine j_aload_n 6 dX12_parted_5 rfl rfl 0 rfl ?_
  refine j_iload_n 7 dX12_parted_6 rfl rfl 1 rfl ?_
  refine j_iload_n 8 dX12_parted_7 rfl rfl 2 rfl ?_
  obtain ⟨q1, hq1, h⟩ := j_bs h
  refine j_callV (rest := []) (As := [.int l1, .int l2]) 11 dX12_parted_8 rfl jyX12_mays (tcX12_mays hL  hq1) (sh_66 hL) cl12 flX12_476 wm1926 wm72 (by decide) rfl rfl (Nat.le_of_ble_eq_true rfl) ?_
  refine j_if_ne 16 14 dX12_parted_11 (by decide) rfl (fun hc => ?_) (fun hc => ?_)
  · replace h := j_neg hc h
    refine j_aload_n 17 dX12_parted_16 rfl rfl 0 rfl ?_
    refine j_getG 20 dX12_parted_17 rfl (sh_66 hL) cl12 (k := 66) (by decide) flX12_137 rfl (gs_66_66 hL) ?_
    refine j_bipush (v := (16 : Int32)) 22 dX12_parted_20 rfl (by decide) ?_
    refine j_iload_n 23 dX12_parted_22 rfl rfl 1 rfl ?_
    refine j_imul 24 dX12_parted_23 rfl ?_
    refine j_iload_n 25 dX12_parted_24 rfl rfl 2 rfl ?_
    refine j_iadd 26 dX12_parted_25 rfl ?_
    obtain ⟨hg, h⟩ := j_gs h
    refine j_iald 27 dX12_parted_26 rfl (sh_109 hL) (j_inv hg) ?_
    refine j_istore_n (lv' := [(3, .int ((j_up I 66 0 (0 : Int32)) 109 (((16 : Int32) * l1) + l2).toNatClampNeg)), (0, .ref (E.1 + 66)), (1, .int l1), (2, .int l2)]) 28 dX12_parted_27 rfl rfl (by decide) rfl ?_
    refine j_iconst (v := (0 : Int32)) 29 dX12_parted_28 rfl (by decide) ?_
    refine j_istore (lv' := [(4, .int (0 : Int32)), (3, .int ((j_up I 66 0 (0 : Int32)) 109 (((16 : Int32) * l1) + l2).toNatClampNeg)), (0, .ref (E.1 + 66)), (1, .int l1), (2, .int l2)]) 31 dX12_parted_29 rfl (by decide) rfl ?_
    refine j_bipush (v := (16 : Int32)) 33 dX12_parted_31 rfl (by decide) ?_
    refine j_iload_n 34 dX12_parted_33 rfl rfl 3 rfl ?_
    refine j_imul 35 dX12_parted_34 rfl ?_
    refine j_istore (lv' := [(5, .int ((16 : Int32) * l1)), (4, .int (0 : Int32)), (3, .int ((j_up I 66 0 (0 : Int32)) 109 (((16 : Int32) * l1) + l2).toNatClampNeg)), (0, .ref (E.1 + 66)), (1, .int l1), (2, .int l2)]) 37 dX12_parted_35 rfl (by decide) rfl ?_
    refine j_sub [3, 4, 5, 2, 1, 0] rfl ?_
    exact kX12_parted_37 hL    100000 _ _ _ _ _ _  h
  · replace h := j_pos hc h
    refine j_iconst (v := (-1 : Int32)) 15 dX12_parted_14 rfl (by decide) ?_
    cases h
    exact j_iret dX12_parted_15 rfl
def fX12_isSly (l1 : Int32) (l2 : Int32) (l3 : Int32) (l4 : Int32) (I : JI) : Option (Int32) :=
  (fX12_isParcel l1 I).bind (fun q1 => if q1 = 0 then (some ((0 : Int32))) else ((fX12_isPerson l2).bind (fun q2 => if q2 = 0 then (some ((0 : Int32))) else ((fX12_isPerson l3).bind (fun q3 => if q3 = 0 then (some ((0 : Int32))) else (if l2 = l3 then (some ((0 : Int32))) else (j_g (j_in (((16 : Int32) * l1) + l2) 192) (if (I 68 (((16 : Int32) * l1) + l2).toNatClampNeg) ≤ 0 then (some ((0 : Int32))) else ((fX12_within l4 (0 : Int32) (800 : Int32)).bind (fun q4 => if q4 = 0 then (some ((0 : Int32))) else (some ((1 : Int32)))))))))))))
set_option maxHeartbeats 4000000 in
set_option maxRecDepth 100000 in
theorem tcX12_isSly {E : JE} {l1 : Int32} {l2 : Int32} {l3 : Int32} {l4 : Int32} {r : Int32} {I : JI} {L : JL} {G D : JG} {S : JS} (hL : Lay G S) (h : fX12_isSly l1 l2 l3 l4 I = some r) : CallJ E xX12_isSly 3 [.ref (E.1 + 66), .int l1, .int l2, .int l3, .int l4] I L G D S (some (.int r)) I L G D S := by
  unfold fX12_isSly at h
  refine j_entry (by decide) (Nat.le_of_ble_eq_true rfl) ?_
  show AtJ E xX12_isSly (Zr E (some (.int r)) I L G D S) ((S).length, jm_sl S) 3 0 [(0, .ref (E.1 + 66)), (1, .int l1), (2, .int l2), (3, .int l3), (4, .int l4)] [] I L G D S
  refine j_aload_n 1 dX12_isSly_0 rfl rfl 0 rfl ?_
  refine j_iload_n 2 dX12_isSly_1 rfl rfl 1 rfl ?_
  obtain ⟨q1, hq1, h⟩ := j_bs h
  refine j_callV (rest := []) (As := [.int l1]) 5 dX12_isSly_2 rfl jyX12_isParcel (tcX12_isParcel hL  hq1) (sh_66 hL) cl12 flX12_230 wm1708 wm40 (by decide) rfl rfl (Nat.le_of_ble_eq_true rfl) ?_
  refine j_if_eq 57 8 dX12_isSly_5 (by decide) rfl (fun hc => ?_) (fun hc => ?_)
  · replace h := j_pos hc h
    refine j_iconst (v := (0 : Int32)) 58 dX12_isSly_57 rfl (by decide) ?_
    cases h
    exact j_zret dX12_isSly_58 rfl j_b01_0
  · replace h := j_neg hc h
    refine j_iload_n 9 dX12_isSly_8 rfl rfl 2 rfl ?_
    obtain ⟨q2, hq2, h⟩ := j_bs h
    refine j_callS (rest := []) (As := [.int l2]) 12 dX12_isSly_9 rfl jyX12_isPerson (tcX12_isPerson   hq2) flX12_226 wm1700 (by decide) rfl rfl (Nat.le_of_ble_eq_true rfl) ?_
    refine j_if_eq 57 15 dX12_isSly_12 (by decide) rfl (fun hc => ?_) (fun hc => ?_)
    · replace h := j_pos hc h
      refine j_iconst (v := (0 : Int32)) 58 dX12_isSly_57 rfl (by decide) ?_
      cases h
      exact j_zret dX12_isSly_58 rfl j_b01_0
    · replace h := j_neg hc h
      refine j_iload_n 16 dX12_isSly_15 rfl rfl 3 rfl ?_
      obtain ⟨q3, hq3, h⟩ := j_bs h
      refine j_callS (rest := []) (As := [.int l3]) 19 dX12_isSly_16 rfl jyX12_isPerson (tcX12_isPerson   hq3) flX12_226 wm1700 (by decide) rfl rfl (Nat.le_of_ble_eq_true rfl) ?_
      refine j_if_eq 57 22 dX12_isSly_19 (by decide) rfl (fun hc => ?_) (fun hc => ?_)
      · replace h := j_pos hc h
        refine j_iconst (v := (0 : Int32)) 58 dX12_isSly_57 rfl (by decide) ?_
        cases h
        exact j_zret dX12_isSly_58 rfl j_b01_0
      · replace h := j_neg hc h
        refine j_iload_n 23 dX12_isSly_22 rfl rfl 2 rfl ?_
        refine j_iload_n 24 dX12_isSly_23 rfl rfl 3 rfl ?_
        refine j_icmp_eq 57 27 dX12_isSly_24 (by decide) rfl (fun hc => ?_) (fun hc => ?_)
        · replace h := j_pos hc h
          refine j_iconst (v := (0 : Int32)) 58 dX12_isSly_57 rfl (by decide) ?_
          cases h
          exact j_zret dX12_isSly_58 rfl j_b01_0
        · replace h := j_neg hc h
          refine j_aload_n 28 dX12_isSly_27 rfl rfl 0 rfl ?_
          refine j_getG 31 dX12_isSly_28 rfl (sh_66 hL) cl12 (k := 2) (by decide) flX12_13 rfl (gs_66_2 hL) ?_
          refine j_bipush (v := (16 : Int32)) 33 dX12_isSly_31 rfl (by decide) ?_
          refine j_iload_n 34 dX12_isSly_33 rfl rfl 1 rfl ?_
          refine j_imul 35 dX12_isSly_34 rfl ?_
          refine j_iload_n 36 dX12_isSly_35 rfl rfl 2 rfl ?_
          refine j_iadd 37 dX12_isSly_36 rfl ?_
          obtain ⟨hg, h⟩ := j_gs h
          refine j_iald 38 dX12_isSly_37 rfl (sh_68 hL) (j_inv hg) ?_
          refine j_if_le 57 41 dX12_isSly_38 (by decide) rfl (fun hc => ?_) (fun hc => ?_)
          · replace h := j_pos hc h
            refine j_iconst (v := (0 : Int32)) 58 dX12_isSly_57 rfl (by decide) ?_
            cases h
            exact j_zret dX12_isSly_58 rfl j_b01_0
          · replace h := j_neg hc h
            refine j_iload 43 dX12_isSly_41 rfl 4 rfl ?_
            refine j_iconst (v := (0 : Int32)) 44 dX12_isSly_43 rfl (by decide) ?_
            refine j_sipush (v := (800 : Int32)) 47 dX12_isSly_44 rfl (by decide) ?_
            obtain ⟨q4, hq4, h⟩ := j_bs h
            refine j_callS (rest := []) (As := [.int l4, .int (0 : Int32), .int (800 : Int32)]) 50 dX12_isSly_47 rfl jyX12_within (tcX12_within   hq4) flX12_222 wm1697 (by decide) rfl rfl (Nat.le_of_ble_eq_true rfl) ?_
            refine j_if_eq 57 53 dX12_isSly_50 (by decide) rfl (fun hc => ?_) (fun hc => ?_)
            · replace h := j_pos hc h
              refine j_iconst (v := (0 : Int32)) 58 dX12_isSly_57 rfl (by decide) ?_
              cases h
              exact j_zret dX12_isSly_58 rfl j_b01_0
            · replace h := j_neg hc h
              refine j_iconst (v := (1 : Int32)) 54 dX12_isSly_53 rfl (by decide) ?_
              refine j_goto 58 dX12_isSly_54 (by decide) ?_
              cases h
              exact j_zret dX12_isSly_58 rfl j_b01_1
def fX12_lies (l1 : Int32) (l2 : Int32) (l3 : Int32) (l4 : Int32) (I : JI) : Option (JI) :=
  j_g (j_in (((16 : Int32) * l1) + l2) 192) (j_g (j_in (((16 : Int32) * l1) + l3) 192) (j_g (j_in (((16 : Int32) * l1) + l2) 192) (j_g (j_in (((16 : Int32) * l1) + l3) 192) (some ((j_up (j_up I 68 (((16 : Int32) * l1) + l2).toNatClampNeg l4) 68 (((16 : Int32) * l1) + l3).toNatClampNeg (((I 68 (((16 : Int32) * l1) + l2).toNatClampNeg) + (I 68 (((16 : Int32) * l1) + l3).toNatClampNeg)) - l4)))))))
set_option maxHeartbeats 4000000 in
set_option maxRecDepth 100000 in
theorem tcX12_lies {E : JE} {l1 : Int32} {l2 : Int32} {l3 : Int32} {l4 : Int32} {r : JI} {I : JI} {L : JL} {G D : JG} {S : JS} (hL : Lay G S) (h : fX12_lies l1 l2 l3 l4 I = some r) : CallJ E xX12_lies 1 [.ref (E.1 + 66), .int l1, .int l2, .int l3, .int l4] I L G D S none r L G D S := by
  unfold fX12_lies at h
  refine j_entry (by decide) (Nat.le_of_ble_eq_true rfl) ?_
  show AtJ E xX12_lies (Zr E none r L G D S) ((S).length, jm_sl S) 1 0 [(0, .ref (E.1 + 66)), (1, .int l1), (2, .int l2), (3, .int l3), (4, .int l4)] [] I L G D S
  refine j_aload_n 1 dX12_lies_0 rfl rfl 0 rfl ?_
  refine j_getG 4 dX12_lies_1 rfl (sh_66 hL) cl12 (k := 2) (by decide) flX12_13 rfl (gs_66_2 hL) ?_
  refine j_bipush (v := (16 : Int32)) 6 dX12_lies_4 rfl (by decide) ?_
  refine j_iload_n 7 dX12_lies_6 rfl rfl 1 rfl ?_
  refine j_imul 8 dX12_lies_7 rfl ?_
  refine j_iload_n 9 dX12_lies_8 rfl rfl 2 rfl ?_
  refine j_iadd 10 dX12_lies_9 rfl ?_
  obtain ⟨hg, h⟩ := j_gs h
  refine j_iald 11 dX12_lies_10 rfl (sh_68 hL) (j_inv hg) ?_
  refine j_aload_n 12 dX12_lies_11 rfl rfl 0 rfl ?_
  refine j_getG 15 dX12_lies_12 rfl (sh_66 hL) cl12 (k := 2) (by decide) flX12_13 rfl (gs_66_2 hL) ?_
  refine j_bipush (v := (16 : Int32)) 17 dX12_lies_15 rfl (by decide) ?_
  refine j_iload_n 18 dX12_lies_17 rfl rfl 1 rfl ?_
  refine j_imul 19 dX12_lies_18 rfl ?_
  refine j_iload_n 20 dX12_lies_19 rfl rfl 3 rfl ?_
  refine j_iadd 21 dX12_lies_20 rfl ?_
  obtain ⟨hg, h⟩ := j_gs h
  refine j_iald 22 dX12_lies_21 rfl (sh_68 hL) (j_inv hg) ?_
  refine j_iadd 23 dX12_lies_22 rfl ?_
  refine j_istore (lv' := [(5, .int ((I 68 (((16 : Int32) * l1) + l2).toNatClampNeg) + (I 68 (((16 : Int32) * l1) + l3).toNatClampNeg))), (0, .ref (E.1 + 66)), (1, .int l1), (2, .int l2), (3, .int l3), (4, .int l4)]) 25 dX12_lies_23 rfl (by decide) rfl ?_
  refine j_aload_n 26 dX12_lies_25 rfl rfl 1 rfl ?_
  refine j_getG 29 dX12_lies_26 rfl (sh_66 hL) cl12 (k := 2) (by decide) flX12_13 rfl (gs_66_2 hL) ?_
  refine j_bipush (v := (16 : Int32)) 31 dX12_lies_29 rfl (by decide) ?_
  refine j_iload_n 32 dX12_lies_31 rfl rfl 2 rfl ?_
  refine j_imul 33 dX12_lies_32 rfl ?_
  refine j_iload_n 34 dX12_lies_33 rfl rfl 3 rfl ?_
  refine j_iadd 35 dX12_lies_34 rfl ?_
  refine j_iload 37 dX12_lies_35 rfl 5 rfl ?_
  obtain ⟨hg, h⟩ := j_gs h
  refine j_iast 38 dX12_lies_37 rfl (sh_68 hL) (j_inv hg) ?_
  refine j_aload_n 39 dX12_lies_38 rfl rfl 1 rfl ?_
  refine j_getG 42 dX12_lies_39 rfl (sh_66 hL) cl12 (k := 2) (by decide) flX12_13 rfl (gs_66_2 hL) ?_
  refine j_bipush (v := (16 : Int32)) 44 dX12_lies_42 rfl (by decide) ?_
  refine j_iload_n 45 dX12_lies_44 rfl rfl 2 rfl ?_
  refine j_imul 46 dX12_lies_45 rfl ?_
  refine j_iload_n 47 dX12_lies_46 rfl rfl 4 rfl ?_
  refine j_iadd 48 dX12_lies_47 rfl ?_
  refine j_iload 50 dX12_lies_48 rfl 0 rfl ?_
  refine j_iload 52 dX12_lies_50 rfl 5 rfl ?_
  refine j_isub 53 dX12_lies_52 rfl ?_
  obtain ⟨hg, h⟩ := j_gs h
  refine j_iast 54 dX12_lies_53 rfl (sh_68 hL) (j_inv hg) ?_
  cases h
  exact j_vret dX12_lies_54 rfl
def fX12_isUnseen_15 (l1 : Int32) (l2 : Int32) (l3 : Int32) (l4 : Int32) (l5 : Int32) (s0 : Int32) (I : JI) : Option (Int32 × JI) :=
  (fX12_lays l1 l2 l3 l4 l5 s0 s0 I).bind (fun q1 => (fX12_comers q1).bind (fun q2 => if q2.1 = 0 then (some ((1 : Int32), q2.2)) else (some ((0 : Int32), q2.2))))
set_option maxHeartbeats 4000000 in
set_option maxRecDepth 100000 in
theorem kX12_isUnseen_15 {E : JE} {r : Int32 × JI} {L : JL} {G : JG} {D : JG} {S : JS} (hL : Lay G S) : ∀ (l1 : Int32) (l2 : Int32) (l3 : Int32) (l4 : Int32) (l5 : Int32) (s0 : Int32) (I : JI), fX12_isUnseen_15 l1 l2 l3 l4 l5 s0 I = some r → AtJ E xX12_isUnseen (Zr E (some (.int r.1)) r.2 L G D S) ((S).length, jm_sl S) 7 15 [(0, .ref (E.1 + 66)), (1, .int l1), (2, .int l2), (3, .int l3), (4, .int l4), (5, .int l5)] [.int s0] I L G D S := by
  intro l1 l2 l3 l4 l5 s0 I  h
  unfold fX12_isUnseen_15 at h
  refine j_istore (lv' := [(7, .int s0), (0, .ref (E.1 + 66)), (1, .int l1), (2, .int l2), (3, .int l3), (4, .int l4), (5, .int l5)]) 17 dX12_isUnseen_15 rfl (by decide) rfl ?_
  refine j_aload_n 18 dX12_isUnseen_17 rfl rfl 1 rfl ?_
  refine j_iload_n 19 dX12_isUnseen_18 rfl rfl 2 rfl ?_
  refine j_iload_n 20 dX12_isUnseen_19 rfl rfl 3 rfl ?_
  refine j_iload_n 21 dX12_isUnseen_20 rfl rfl 4 rfl ?_
  refine j_iload 23 dX12_isUnseen_21 rfl 5 rfl ?_
  refine j_iload 25 dX12_isUnseen_23 rfl 6 rfl ?_
  refine j_iload 27 dX12_isUnseen_25 rfl 0 rfl ?_
  refine j_iload 29 dX12_isUnseen_27 rfl 0 rfl ?_
  obtain ⟨q1, hq1, h⟩ := j_bs h
  refine j_callV (rest := []) (As := [.int l1, .int l2, .int l3, .int l4, .int l5, .int s0, .int s0]) 32 dX12_isUnseen_29 rfl jyX12_lays (tcX12_lays hL  hq1) (sh_66 hL) cl12 flX12_463 wm1858 wm58 (by decide) rfl rfl (Nat.le_of_ble_eq_true rfl) ?_
  refine j_aload_n 33 dX12_isUnseen_32 rfl rfl 1 rfl ?_
  obtain ⟨q2, hq2, h⟩ := j_bs h
  refine j_callV (rest := []) (As := []) 36 dX12_isUnseen_33 rfl jyX12_comers (tcX12_comers hL  hq2) (sh_66 hL) cl12 flX12_467 wm1906 wm69 (by decide) rfl rfl (Nat.le_of_ble_eq_true rfl) ?_
  refine j_if_ne 43 39 dX12_isUnseen_36 (by decide) rfl (fun hc => ?_) (fun hc => ?_)
  · replace h := j_neg hc h
    refine j_iconst (v := (0 : Int32)) 44 dX12_isUnseen_43 rfl (by decide) ?_
    cases h
    exact j_zret dX12_isUnseen_44 rfl j_b01_0
  · replace h := j_pos hc h
    refine j_iconst (v := (1 : Int32)) 40 dX12_isUnseen_39 rfl (by decide) ?_
    refine j_goto 44 dX12_isUnseen_40 (by decide) ?_
    cases h
    exact j_zret dX12_isUnseen_44 rfl j_b01_1
def fX12_isUnseen (l1 : Int32) (l2 : Int32) (l3 : Int32) (l4 : Int32) (l5 : Int32) (l6 : Int32) (I : JI) : Option (Int32 × JI) :=
  if l5 = (1 : Int32) then (fX12_isUnseen_15 l1 l2 l3 l4 l5 (0 : Int32) I) else (fX12_isUnseen_15 l1 l2 l3 l4 l5 (l4 * l6) I)
set_option maxHeartbeats 4000000 in
set_option maxRecDepth 100000 in
theorem tcX12_isUnseen {E : JE} {l1 : Int32} {l2 : Int32} {l3 : Int32} {l4 : Int32} {l5 : Int32} {l6 : Int32} {r : Int32 × JI} {I : JI} {L : JL} {G D : JG} {S : JS} (hL : Lay G S) (h : fX12_isUnseen l1 l2 l3 l4 l5 l6 I = some r) : CallJ E xX12_isUnseen 7 [.ref (E.1 + 66), .int l1, .int l2, .int l3, .int l4, .int l5, .int l6] I L G D S (some (.int r.1)) r.2 L G D S := by
  unfold fX12_isUnseen at h
  refine j_entry (by decide) (Nat.le_of_ble_eq_true rfl) ?_
  show AtJ E xX12_isUnseen (Zr E (some (.int r.1)) r.2 L G D S) ((S).length, jm_sl S) 7 0 [(0, .ref (E.1 + 66)), (1, .int l1), (2, .int l2), (3, .int l3), (4, .int l4), (5, .int l5), (6, .int l6)] [] I L G D S
  refine j_iload 2 dX12_isUnseen_0 rfl 5 rfl ?_
  refine j_iconst (v := (1 : Int32)) 3 dX12_isUnseen_2 rfl (by decide) ?_
  refine j_icmp_ne 10 6 dX12_isUnseen_3 (by decide) rfl (fun hc => ?_) (fun hc => ?_)
  · replace h := j_neg hc h
    refine j_iload 12 dX12_isUnseen_10 rfl 4 rfl ?_
    refine j_iload 14 dX12_isUnseen_12 rfl 6 rfl ?_
    refine j_imul 15 dX12_isUnseen_14 rfl ?_
    refine j_sub [0, 1, 2, 3, 4, 5] rfl ?_
    exact kX12_isUnseen_15 hL    _ _ _ _ _ _ _  h
  · replace h := j_pos hc h
    refine j_iconst (v := (0 : Int32)) 7 dX12_isUnseen_6 rfl (by decide) ?_
    refine j_goto 15 dX12_isUnseen_7 (by decide) ?_
    refine j_sub [0, 1, 2, 3, 4, 5] rfl ?_
    exact kX12_isUnseen_15 hL    _ _ _ _ _ _ _  h
def fX12_steps_193 (k28 : Int32 → Int32 → Int32 → Int32 → Int32 → Int32 → Int32 → Int32 → JI → Option (JI)) (l1 : Int32) (l3 : Int32) (l4 : Int32) (l5 : Int32) (l6 : Int32) (l7 : Int32) (l8 : Int32) (l9 : Int32) (I : JI) : Option (JI) :=
  k28 l1 l3 l4 l5 l6 l7 l8 (l9 + (1 : Int32)) I
set_option maxHeartbeats 4000000 in
set_option maxRecDepth 100000 in
theorem kX12_steps_193 {E : JE} {k28 : Int32 → Int32 → Int32 → Int32 → Int32 → Int32 → Int32 → Int32 → JI → Option (JI)} {r : JI} {L : JL} {G : JG} {D : JG} {S : JS} (hL : Lay G S) (H28 : ∀ (l1 : Int32) (l3 : Int32) (l4 : Int32) (l5 : Int32) (l6 : Int32) (l7 : Int32) (l8 : Int32) (l9 : Int32) (I : JI), k28 l1 l3 l4 l5 l6 l7 l8 l9 I = some r → AtJ E xX12_steps (Zr E none r L G D S) ((S).length, jm_sl S) 8 28 [(0, .ref (E.1 + 66)), (1, .int l1), (3, .int l3), (4, .int l4), (5, .int l5), (6, .int l6), (7, .int l7), (8, .int l8), (9, .int l9)] [] I L G D S) : ∀ (l1 : Int32) (l3 : Int32) (l4 : Int32) (l5 : Int32) (l6 : Int32) (l7 : Int32) (l8 : Int32) (l9 : Int32) (I : JI), fX12_steps_193 k28 l1 l3 l4 l5 l6 l7 l8 l9 I = some r → AtJ E xX12_steps (Zr E none r L G D S) ((S).length, jm_sl S) 8 193 [(0, .ref (E.1 + 66)), (1, .int l1), (3, .int l3), (4, .int l4), (5, .int l5), (6, .int l6), (7, .int l7), (8, .int l8), (9, .int l9)] [] I L G D S := by
  intro l1 l3 l4 l5 l6 l7 l8 l9 I  h
  unfold fX12_steps_193 at h
  refine j_iinc (v := (l9 + (1 : Int32))) (lv' := [(9, .int (l9 + (1 : Int32))), (0, .ref (E.1 + 66)), (1, .int l1), (3, .int l3), (4, .int l4), (5, .int l5), (6, .int l6), (7, .int l7), (8, .int l8)]) (q := 8) 196 dX12_steps_193 rfl rfl rfl (by decide) rfl ?_
  refine j_goto 28 dX12_steps_196 (by decide) ?_
  refine j_sub [1, 2, 3, 4, 5, 6, 7, 8, 0] rfl ?_
  exact H28 _ _ _ _ _ _ _ _ _  h
def fX12_steps_137 (k28 : Int32 → Int32 → Int32 → Int32 → Int32 → Int32 → Int32 → Int32 → JI → Option (JI)) (k63 : Int32 → Int32 → Int32 → Int32 → Int32 → Int32 → Int32 → Int32 → Int32 → Int32 → JI → Option (JI)) (l1 : Int32) (l3 : Int32) (l4 : Int32) (l5 : Int32) (l6 : Int32) (l7 : Int32) (l8 : Int32) (l9 : Int32) (l10 : Int32) (l11 : Int32) (s0 : Int32) (s1 : Int32) (I : JI) : Option (JI) :=
  j_g (j_in s1 169) (j_g (j_in l1 169) (j_g (j_in l10 169) (j_g (j_in (l6 + ((j_up (j_up I 116 s1.toNatClampNeg ((s0 + ((3 : Int32) * (l9 - (1 : Int32)))) + l11)) 117 l10.toNatClampNeg (((j_up I 116 s1.toNatClampNeg ((s0 + ((3 : Int32) * (l9 - (1 : Int32)))) + l11)) 117 l1.toNatClampNeg) + (1 : Int32))) 66 78)) 169) (k63 l1 l3 l4 l5 l6 l7 l8 l9 l10 (l11 + (1 : Int32)) (j_up (j_up (j_up (j_up I 116 s1.toNatClampNeg ((s0 + ((3 : Int32) * (l9 - (1 : Int32)))) + l11)) 117 l10.toNatClampNeg (((j_up I 116 s1.toNatClampNeg ((s0 + ((3 : Int32) * (l9 - (1 : Int32)))) + l11)) 117 l1.toNatClampNeg) + (1 : Int32))) 114 (l6 + ((j_up (j_up I 116 s1.toNatClampNeg ((s0 + ((3 : Int32) * (l9 - (1 : Int32)))) + l11)) 117 l10.toNatClampNeg (((j_up I 116 s1.toNatClampNeg ((s0 + ((3 : Int32) * (l9 - (1 : Int32)))) + l11)) 117 l1.toNatClampNeg) + (1 : Int32))) 66 78)).toNatClampNeg l10) 66 78 (((j_up (j_up (j_up I 116 s1.toNatClampNeg ((s0 + ((3 : Int32) * (l9 - (1 : Int32)))) + l11)) 117 l10.toNatClampNeg (((j_up I 116 s1.toNatClampNeg ((s0 + ((3 : Int32) * (l9 - (1 : Int32)))) + l11)) 117 l1.toNatClampNeg) + (1 : Int32))) 114 (l6 + ((j_up (j_up I 116 s1.toNatClampNeg ((s0 + ((3 : Int32) * (l9 - (1 : Int32)))) + l11)) 117 l10.toNatClampNeg (((j_up I 116 s1.toNatClampNeg ((s0 + ((3 : Int32) * (l9 - (1 : Int32)))) + l11)) 117 l1.toNatClampNeg) + (1 : Int32))) 66 78)).toNatClampNeg l10) 66 78) + (1 : Int32)))))))
set_option maxHeartbeats 4000000 in
set_option maxRecDepth 100000 in
theorem kX12_steps_137 {E : JE} {k28 : Int32 → Int32 → Int32 → Int32 → Int32 → Int32 → Int32 → Int32 → JI → Option (JI)} {k63 : Int32 → Int32 → Int32 → Int32 → Int32 → Int32 → Int32 → Int32 → Int32 → Int32 → JI → Option (JI)} {r : JI} {L : JL} {G : JG} {D : JG} {S : JS} (hL : Lay G S) (H28 : ∀ (l1 : Int32) (l3 : Int32) (l4 : Int32) (l5 : Int32) (l6 : Int32) (l7 : Int32) (l8 : Int32) (l9 : Int32) (I : JI), k28 l1 l3 l4 l5 l6 l7 l8 l9 I = some r → AtJ E xX12_steps (Zr E none r L G D S) ((S).length, jm_sl S) 8 28 [(0, .ref (E.1 + 66)), (1, .int l1), (3, .int l3), (4, .int l4), (5, .int l5), (6, .int l6), (7, .int l7), (8, .int l8), (9, .int l9)] [] I L G D S) (H63 : ∀ (l1 : Int32) (l3 : Int32) (l4 : Int32) (l5 : Int32) (l6 : Int32) (l7 : Int32) (l8 : Int32) (l9 : Int32) (l10 : Int32) (l11 : Int32) (I : JI), k63 l1 l3 l4 l5 l6 l7 l8 l9 l10 l11 I = some r → AtJ E xX12_steps (Zr E none r L G D S) ((S).length, jm_sl S) 8 63 [(0, .ref (E.1 + 66)), (1, .int l1), (3, .int l3), (4, .int l4), (5, .int l5), (6, .int l6), (7, .int l7), (8, .int l8), (9, .int l9), (10, .int l10), (11, .int l11)] [] I L G D S) : ∀ (l1 : Int32) (l3 : Int32) (l4 : Int32) (l5 : Int32) (l6 : Int32) (l7 : Int32) (l8 : Int32) (l9 : Int32) (l10 : Int32) (l11 : Int32) (s0 : Int32) (s1 : Int32) (I : JI), fX12_steps_137 k28 k63 l1 l3 l4 l5 l6 l7 l8 l9 l10 l11 s0 s1 I = some r → AtJ E xX12_steps (Zr E none r L G D S) ((S).length, jm_sl S) 8 137 [(0, .ref (E.1 + 66)), (1, .int l1), (3, .int l3), (4, .int l4), (5, .int l5), (6, .int l6), (7, .int l7), (8, .int l8), (9, .int l9), (10, .int l10), (11, .int l11)] [.int s0, .int s1, .ref (E.1 + 116)] I L G D S := by
  intro l1 l3 l4 l5 l6 l7 l8 l9 l10 l11 s0 s1 I  h
  unfold fX12_steps_137 at h
  refine j_iconst (v := (3 : Int32)) 138 dX12_steps_137 rfl (by decide) ?_
  refine j_iload 140 dX12_steps_138 rfl 8 rfl ?_
  refine j_iconst (v := (1 : Int32)) 141 dX12_steps_140 rfl (by decide) ?_
  refine j_isub 142 dX12_steps_141 rfl ?_
  refine j_imul 143 dX12_steps_142 rfl ?_
  refine j_iadd 144 dX12_steps_143 rfl ?_
  refine j_iload 146 dX12_steps_144 rfl 10 rfl ?_
  refine j_iadd 147 dX12_steps_146 rfl ?_
  obtain ⟨hg, h⟩ := j_gs h
  refine j_iast 148 dX12_steps_147 rfl (sh_116 hL) (j_inv hg) ?_
  refine j_aload_n 149 dX12_steps_148 rfl rfl 0 rfl ?_
  refine j_getG 152 dX12_steps_149 rfl (sh_66 hL) cl12 (k := 74) (by decide) flX12_161 rfl (gs_66_74 hL) ?_
  refine j_iload 154 dX12_steps_152 rfl 9 rfl ?_
  refine j_aload_n 155 dX12_steps_154 rfl rfl 0 rfl ?_
  refine j_getG 158 dX12_steps_155 rfl (sh_66 hL) cl12 (k := 74) (by decide) flX12_161 rfl (gs_66_74 hL) ?_
  refine j_iload_n 159 dX12_steps_158 rfl rfl 1 rfl ?_
  obtain ⟨hg, h⟩ := j_gs h
  refine j_iald 160 dX12_steps_159 rfl (sh_117 hL) (j_inv hg) ?_
  refine j_iconst (v := (1 : Int32)) 161 dX12_steps_160 rfl (by decide) ?_
  refine j_iadd 162 dX12_steps_161 rfl ?_
  obtain ⟨hg, h⟩ := j_gs h
  refine j_iast 163 dX12_steps_162 rfl (sh_117 hL) (j_inv hg) ?_
  refine j_aload_n 164 dX12_steps_163 rfl rfl 0 rfl ?_
  refine j_getG 167 dX12_steps_164 rfl (sh_66 hL) cl12 (k := 71) (by decide) flX12_152 rfl (gs_66_71 hL) ?_
  refine j_iload 169 dX12_steps_167 rfl 5 rfl ?_
  refine j_aload_n 170 dX12_steps_169 rfl rfl 0 rfl ?_
  refine j_getI 173 dX12_steps_170 rfl (sh_66 hL) cl12 (k := 78) (by decide) flX12_489 rfl ?_
  refine j_iadd 174 dX12_steps_173 rfl ?_
  refine j_iload 176 dX12_steps_174 rfl 9 rfl ?_
  obtain ⟨hg, h⟩ := j_gs h
  refine j_iast 177 dX12_steps_176 rfl (sh_114 hL) (j_inv hg) ?_
  refine j_aload_n 178 dX12_steps_177 rfl rfl 0 rfl ?_
  refine j_dup 179 dX12_steps_178 rfl rfl ?_
  refine j_getI 182 dX12_steps_179 rfl (sh_66 hL) cl12 (k := 78) (by decide) flX12_489 rfl ?_
  refine j_iconst (v := (1 : Int32)) 183 dX12_steps_182 rfl (by decide) ?_
  refine j_iadd 184 dX12_steps_183 rfl ?_
  refine j_putI 187 dX12_steps_184 rfl (sh_66 hL) cl12 (k := 78) (by decide) flX12_489 rfl rfl rfl ?_
  refine j_iinc (v := (l11 + (1 : Int32))) (lv' := [(11, .int (l11 + (1 : Int32))), (0, .ref (E.1 + 66)), (1, .int l1), (3, .int l3), (4, .int l4), (5, .int l5), (6, .int l6), (7, .int l7), (8, .int l8), (9, .int l9), (10, .int l10)]) (q := 10) 190 dX12_steps_187 rfl rfl rfl (by decide) rfl ?_
  refine j_goto 63 dX12_steps_190 (by decide) ?_
  refine j_sub [1, 2, 3, 4, 5, 6, 7, 8, 9, 10, 0] rfl ?_
  exact H63 _ _ _ _ _ _ _ _ _ _ _  h
def fX12_steps_63 (k28 : Int32 → Int32 → Int32 → Int32 → Int32 → Int32 → Int32 → Int32 → JI → Option (JI)) : Nat → Int32 → Int32 → Int32 → Int32 → Int32 → Int32 → Int32 → Int32 → Int32 → Int32 → JI → Option (JI)
  | 0, _, _, _, _, _, _, _, _, _, _, _ => none
  | n + 1, l1, l3, l4, l5, l6, l7, l8, l9, l10, l11, I =>
    if (3 : Int32) ≤ l11 then (fX12_steps_193 k28 l1 l3 l4 l5 l6 l7 l8 l9 I) else (j_g (j_in l10 169) (if (jm_b01 (I 118 l10.toNatClampNeg)) = 0 then ((fX12_isUnseen l7 l3 l4 l9 l11 l5 I).bind (fun q1 => if q1.1 = 0 then ((fX12_steps_63 k28 n) l1 l3 l4 l5 l6 l7 l8 l9 l10 (l11 + (1 : Int32)) q1.2) else (j_g (j_in l10 169) (j_g (j_in l10 169) (if l7 = ((j_up (j_up q1.2 118 l10.toNatClampNeg (1 : Int32)) 115 l10.toNatClampNeg l1) 66 77) then (fX12_steps_137 k28 (fX12_steps_63 k28 n) l1 l3 l4 l5 l6 l7 l8 l9 l10 l11 (36 : Int32) l10 (j_up (j_up q1.2 118 l10.toNatClampNeg (1 : Int32)) 115 l10.toNatClampNeg l1)) else (fX12_steps_137 k28 (fX12_steps_63 k28 n) l1 l3 l4 l5 l6 l7 l8 l9 l10 l11 (0 : Int32) l10 (j_up (j_up q1.2 118 l10.toNatClampNeg (1 : Int32)) 115 l10.toNatClampNeg l1))))))) else ((fX12_steps_63 k28 n) l1 l3 l4 l5 l6 l7 l8 l9 l10 (l11 + (1 : Int32)) I)))
set_option maxHeartbeats 4000000 in
set_option maxRecDepth 100000 in
theorem kX12_steps_63 {E : JE} {k28 : Int32 → Int32 → Int32 → Int32 → Int32 → Int32 → Int32 → Int32 → JI → Option (JI)} {r : JI} {L : JL} {G : JG} {D : JG} {S : JS} (hL : Lay G S) (H28 : ∀ (l1 : Int32) (l3 : Int32) (l4 : Int32) (l5 : Int32) (l6 : Int32) (l7 : Int32) (l8 : Int32) (l9 : Int32) (I : JI), k28 l1 l3 l4 l5 l6 l7 l8 l9 I = some r → AtJ E xX12_steps (Zr E none r L G D S) ((S).length, jm_sl S) 8 28 [(0, .ref (E.1 + 66)), (1, .int l1), (3, .int l3), (4, .int l4), (5, .int l5), (6, .int l6), (7, .int l7), (8, .int l8), (9, .int l9)] [] I L G D S) : ∀ (n : Nat) (l1 : Int32) (l3 : Int32) (l4 : Int32) (l5 : Int32) (l6 : Int32) (l7 : Int32) (l8 : Int32) (l9 : Int32) (l10 : Int32) (l11 : Int32) (I : JI), fX12_steps_63 k28 n l1 l3 l4 l5 l6 l7 l8 l9 l10 l11 I = some r → AtJ E xX12_steps (Zr E none r L G D S) ((S).length, jm_sl S) 8 63 [(0, .ref (E.1 + 66)), (1, .int l1), (3, .int l3), (4, .int l4), (5, .int l5), (6, .int l6), (7, .int l7), (8, .int l8), (9, .int l9), (10, .int l10), (11, .int l11)] [] I L G D S := by
  intro n
  induction n with
  | zero => intro l1 l3 l4 l5 l6 l7 l8 l9 l10 l11 I  h; simp [fX12_steps_63] at h
  | succ n ih =>
    intro l1 l3 l4 l5 l6 l7 l8 l9 l10 l11 I  h
    rw [fX12_steps_63] at h
    refine j_iload 65 dX12_steps_63 rfl 10 rfl ?_
    refine j_iconst (v := (3 : Int32)) 66 dX12_steps_65 rfl (by decide) ?_
    refine j_icmp_ge 193 69 dX12_steps_66 (by decide) rfl (fun hc => ?_) (fun hc => ?_)
    · replace h := j_pos hc h
      refine j_sub [0, 1, 2, 3, 4, 5, 6, 7, 8] rfl ?_
      exact kX12_steps_193 hL   H28 _ _ _ _ _ _ _ _ _  h
    · replace h := j_neg hc h
      refine j_aload_n 70 dX12_steps_69 rfl rfl 0 rfl ?_
      refine j_getG 73 dX12_steps_70 rfl (sh_66 hL) cl12 (k := 75) (by decide) flX12_164 rfl (gs_66_75 hL) ?_
      refine j_iload 75 dX12_steps_73 rfl 9 rfl ?_
      obtain ⟨hg, h⟩ := j_gs h
      refine j_zald 76 dX12_steps_75 rfl (sh_118 hL) (j_inv hg) ?_
      refine j_if_ne 187 79 dX12_steps_76 (by decide) rfl (fun hc => ?_) (fun hc => ?_)
      · replace h := j_neg hc h
        refine j_iinc (v := (l11 + (1 : Int32))) (lv' := [(11, .int (l11 + (1 : Int32))), (0, .ref (E.1 + 66)), (1, .int l1), (3, .int l3), (4, .int l4), (5, .int l5), (6, .int l6), (7, .int l7), (8, .int l8), (9, .int l9), (10, .int l10)]) (q := 10) 190 dX12_steps_187 rfl rfl rfl (by decide) rfl ?_
        refine j_goto 63 dX12_steps_190 (by decide) ?_
        refine j_sub [1, 2, 3, 4, 5, 6, 7, 8, 9, 10, 0] rfl ?_
        exact ih _ _ _ _ _ _ _ _ _ _ _  h
      · replace h := j_pos hc h
        refine j_aload_n 80 dX12_steps_79 rfl rfl 0 rfl ?_
        refine j_iload 82 dX12_steps_80 rfl 6 rfl ?_
        refine j_iload_n 83 dX12_steps_82 rfl rfl 2 rfl ?_
        refine j_iload 85 dX12_steps_83 rfl 3 rfl ?_
        refine j_iload 87 dX12_steps_85 rfl 8 rfl ?_
        refine j_iload 89 dX12_steps_87 rfl 10 rfl ?_
        refine j_iload 91 dX12_steps_89 rfl 4 rfl ?_
        obtain ⟨q1, hq1, h⟩ := j_bs h
        refine j_callV (rest := []) (As := [.int l7, .int l3, .int l4, .int l9, .int l11, .int l5]) 94 dX12_steps_91 rfl jyX12_isUnseen (tcX12_isUnseen hL  hq1) (sh_66 hL) cl12 flX12_485 wm1982 wm78 (by decide) rfl rfl (Nat.le_of_ble_eq_true rfl) ?_
        refine j_if_ne 100 97 dX12_steps_94 (by decide) rfl (fun hc => ?_) (fun hc => ?_)
        · replace h := j_neg hc h
          refine j_aload_n 101 dX12_steps_100 rfl rfl 0 rfl ?_
          refine j_getG 104 dX12_steps_101 rfl (sh_66 hL) cl12 (k := 75) (by decide) flX12_164 rfl (gs_66_75 hL) ?_
          refine j_iload 106 dX12_steps_104 rfl 9 rfl ?_
          refine j_iconst (v := (1 : Int32)) 107 dX12_steps_106 rfl (by decide) ?_
          obtain ⟨hg, h⟩ := j_gs h
          refine j_zast 108 dX12_steps_107 rfl (sh_118 hL) (j_inv hg) j_b01_1 ?_
          refine j_aload_n 109 dX12_steps_108 rfl rfl 0 rfl ?_
          refine j_getG 112 dX12_steps_109 rfl (sh_66 hL) cl12 (k := 72) (by decide) flX12_155 rfl (gs_66_72 hL) ?_
          refine j_iload 114 dX12_steps_112 rfl 9 rfl ?_
          refine j_iload_n 115 dX12_steps_114 rfl rfl 1 rfl ?_
          obtain ⟨hg, h⟩ := j_gs h
          refine j_iast 116 dX12_steps_115 rfl (sh_115 hL) (j_inv hg) ?_
          refine j_aload_n 117 dX12_steps_116 rfl rfl 0 rfl ?_
          refine j_getG 120 dX12_steps_117 rfl (sh_66 hL) cl12 (k := 73) (by decide) flX12_158 rfl (gs_66_73 hL) ?_
          refine j_iload 122 dX12_steps_120 rfl 9 rfl ?_
          refine j_iload 124 dX12_steps_122 rfl 6 rfl ?_
          refine j_aload_n 125 dX12_steps_124 rfl rfl 0 rfl ?_
          refine j_getI 128 dX12_steps_125 rfl (sh_66 hL) cl12 (k := 77) (by decide) flX12_482 rfl ?_
          refine j_icmp_ne 136 131 dX12_steps_128 (by decide) rfl (fun hc => ?_) (fun hc => ?_)
          · replace h := j_neg hc h
            refine j_iconst (v := (0 : Int32)) 137 dX12_steps_136 rfl (by decide) ?_
            exact kX12_steps_137 hL   H28 ih _ _ _ _ _ _ _ _ _ _ _ _ _  h
          · replace h := j_pos hc h
            refine j_bipush (v := (36 : Int32)) 133 dX12_steps_131 rfl (by decide) ?_
            refine j_goto 137 dX12_steps_133 (by decide) ?_
            exact kX12_steps_137 hL   H28 ih _ _ _ _ _ _ _ _ _ _ _ _ _  h
        · replace h := j_pos hc h
          refine j_goto 187 dX12_steps_97 (by decide) ?_
          refine j_iinc (v := (l11 + (1 : Int32))) (lv' := [(11, .int (l11 + (1 : Int32))), (0, .ref (E.1 + 66)), (1, .int l1), (3, .int l3), (4, .int l4), (5, .int l5), (6, .int l6), (7, .int l7), (8, .int l8), (9, .int l9), (10, .int l10)]) (q := 10) 190 dX12_steps_187 rfl rfl rfl (by decide) rfl ?_
          refine j_goto 63 dX12_steps_190 (by decide) ?_
          refine j_sub [1, 2, 3, 4, 5, 6, 7, 8, 9, 10, 0] rfl ?_
          exact ih _ _ _ _ _ _ _ _ _ _ _  h
def fX12_steps_28 : Nat → Int32 → Int32 → Int32 → Int32 → Int32 → Int32 → Int32 → Int32 → JI → Option (JI)
  | 0, _, _, _, _, _, _, _, _, _ => none
  | n + 1, l1, l3, l4, l5, l6, l7, l8, l9, I =>
    if l8 < l9 then (some (I)) else (if l7 = (I 66 77) then (fX12_steps_63 (fX12_steps_28 n) 100000 l1 l3 l4 l5 l6 l7 l8 l9 (l1 - l9) (0 : Int32) I) else (fX12_steps_63 (fX12_steps_28 n) 100000 l1 l3 l4 l5 l6 l7 l8 l9 (l1 - ((13 : Int32) * l9)) (0 : Int32) I))
set_option maxHeartbeats 4000000 in
set_option maxRecDepth 100000 in
theorem kX12_steps_28 {E : JE} {r : JI} {L : JL} {G : JG} {D : JG} {S : JS} (hL : Lay G S) : ∀ (n : Nat) (l1 : Int32) (l3 : Int32) (l4 : Int32) (l5 : Int32) (l6 : Int32) (l7 : Int32) (l8 : Int32) (l9 : Int32) (I : JI), fX12_steps_28 n l1 l3 l4 l5 l6 l7 l8 l9 I = some r → AtJ E xX12_steps (Zr E none r L G D S) ((S).length, jm_sl S) 8 28 [(0, .ref (E.1 + 66)), (1, .int l1), (3, .int l3), (4, .int l4), (5, .int l5), (6, .int l6), (7, .int l7), (8, .int l8), (9, .int l9)] [] I L G D S := by
  intro n
  induction n with
  | zero => intro l1 l3 l4 l5 l6 l7 l8 l9 I  h; simp [fX12_steps_28] at h
  | succ n ih =>
    intro l1 l3 l4 l5 l6 l7 l8 l9 I  h
    rw [fX12_steps_28] at h
    refine j_iload 30 dX12_steps_28 rfl 8 rfl ?_
    refine j_iload 32 dX12_steps_30 rfl 7 rfl ?_
    refine j_icmp_gt 199 35 dX12_steps_32 (by decide) rfl (fun hc => ?_) (fun hc => ?_)
    · replace h := j_pos hc h
      cases h
      exact j_vret dX12_steps_199 rfl
    · replace h := j_neg hc h
      refine j_iload 37 dX12_steps_35 rfl 6 rfl ?_
      refine j_aload_n 38 dX12_steps_37 rfl rfl 0 rfl ?_
      refine j_getI 41 dX12_steps_38 rfl (sh_66 hL) cl12 (k := 77) (by decide) flX12_482 rfl ?_
      refine j_icmp_ne 51 44 dX12_steps_41 (by decide) rfl (fun hc => ?_) (fun hc => ?_)
      · replace h := j_neg hc h
        refine j_iload_n 52 dX12_steps_51 rfl rfl 1 rfl ?_
        refine j_bipush (v := (13 : Int32)) 54 dX12_steps_52 rfl (by decide) ?_
        refine j_iload 56 dX12_steps_54 rfl 8 rfl ?_
        refine j_imul 57 dX12_steps_56 rfl ?_
        refine j_isub 58 dX12_steps_57 rfl ?_
        refine j_istore (lv' := [(10, .int (l1 - ((13 : Int32) * l9))), (0, .ref (E.1 + 66)), (1, .int l1), (3, .int l3), (4, .int l4), (5, .int l5), (6, .int l6), (7, .int l7), (8, .int l8), (9, .int l9)]) 60 dX12_steps_58 rfl (by decide) rfl ?_
        refine j_iconst (v := (0 : Int32)) 61 dX12_steps_60 rfl (by decide) ?_
        refine j_istore (lv' := [(11, .int (0 : Int32)), (10, .int (l1 - ((13 : Int32) * l9))), (0, .ref (E.1 + 66)), (1, .int l1), (3, .int l3), (4, .int l4), (5, .int l5), (6, .int l6), (7, .int l7), (8, .int l8), (9, .int l9)]) 63 dX12_steps_61 rfl (by decide) rfl ?_
        refine j_sub [2, 3, 4, 5, 6, 7, 8, 9, 10, 1, 0] rfl ?_
        exact kX12_steps_63 hL   ih 100000 _ _ _ _ _ _ _ _ _ _ _  h
      · replace h := j_pos hc h
        refine j_iload_n 45 dX12_steps_44 rfl rfl 1 rfl ?_
        refine j_iload 47 dX12_steps_45 rfl 8 rfl ?_
        refine j_isub 48 dX12_steps_47 rfl ?_
        refine j_goto 58 dX12_steps_48 (by decide) ?_
        refine j_istore (lv' := [(10, .int (l1 - l9)), (0, .ref (E.1 + 66)), (1, .int l1), (3, .int l3), (4, .int l4), (5, .int l5), (6, .int l6), (7, .int l7), (8, .int l8), (9, .int l9)]) 60 dX12_steps_58 rfl (by decide) rfl ?_
        refine j_iconst (v := (0 : Int32)) 61 dX12_steps_60 rfl (by decide) ?_
        refine j_istore (lv' := [(11, .int (0 : Int32)), (10, .int (l1 - l9)), (0, .ref (E.1 + 66)), (1, .int l1), (3, .int l3), (4, .int l4), (5, .int l5), (6, .int l6), (7, .int l7), (8, .int l8), (9, .int l9)]) 63 dX12_steps_61 rfl (by decide) rfl ?_
        refine j_sub [2, 3, 4, 5, 6, 7, 8, 9, 10, 1, 0] rfl ?_
        exact kX12_steps_63 hL   ih 100000 _ _ _ _ _ _ _ _ _ _ _  h
def fX12_steps (l1 : Int32) (l2 : Int32) (l3 : Int32) (l4 : Int32) (l5 : Int32) (l6 : Int32) (I : JI) : Option (JI) :=
  if l2 = (I 66 77) then (fX12_steps_28 100000 l1 l3 l4 l5 l6 l2 (l1 - l1 / (13 : Int32) * (13 : Int32)) (1 : Int32) I) else (fX12_steps_28 100000 l1 l3 l4 l5 l6 l2 (l1 / (13 : Int32)) (1 : Int32) I)
set_option maxHeartbeats 4000000 in
set_option maxRecDepth 100000 in
theorem tcX12_steps {E : JE} {l1 : Int32} {l2 : Int32} {l3 : Int32} {l4 : Int32} {l5 : Int32} {l6 : Int32} {r : JI} {I : JI} {L : JL} {G D : JG} {S : JS} (hL : Lay G S) (h : fX12_steps l1 l2 l3 l4 l5 l6 I = some r) : CallJ E xX12_steps 8 [.ref (E.1 + 66), .int l1, .int l2, .int l3, .int l4, .int l5, .int l6] I L G D S none r L G D S := by
  unfold fX12_steps at h
  refine j_entry (by decide) (Nat.le_of_ble_eq_true rfl) ?_
  show AtJ E xX12_steps (Zr E none r L G D S) ((S).length, jm_sl S) 8 0 [(0, .ref (E.1 + 66)), (1, .int l1), (2, .int l2), (3, .int l3), (4, .int l4), (5, .int l5), (6, .int l6)] [] I L G D S
  refine j_iload_n 1 dX12_steps_0 rfl rfl 2 rfl ?_
  refine j_istore (lv' := [(7, .int l2), (0, .ref (E.1 + 66)), (1, .int l1), (2, .int l2), (3, .int l3), (4, .int l4), (5, .int l5), (6, .int l6)]) 3 dX12_steps_1 rfl (by decide) rfl ?_
  refine j_iload 5 dX12_steps_3 rfl 0 rfl ?_
  refine j_aload_n 6 dX12_steps_5 rfl rfl 1 rfl ?_
  refine j_getI 9 dX12_steps_6 rfl (sh_66 hL) cl12 (k := 77) (by decide) flX12_482 rfl ?_
  refine j_icmp_ne 19 12 dX12_steps_9 (by decide) rfl (fun hc => ?_) (fun hc => ?_)
  · replace h := j_neg hc h
    refine j_iload_n 20 dX12_steps_19 rfl rfl 2 rfl ?_
    refine j_bipush (v := (13 : Int32)) 22 dX12_steps_20 rfl (by decide) ?_
    refine j_idiv 23 dX12_steps_22 rfl (by decide) ?_
    refine j_istore (lv' := [(8, .int (l1 / (13 : Int32))), (7, .int l2), (0, .ref (E.1 + 66)), (1, .int l1), (2, .int l2), (3, .int l3), (4, .int l4), (5, .int l5), (6, .int l6)]) 25 dX12_steps_23 rfl (by decide) rfl ?_
    refine j_iconst (v := (1 : Int32)) 26 dX12_steps_25 rfl (by decide) ?_
    refine j_istore (lv' := [(9, .int (1 : Int32)), (8, .int (l1 / (13 : Int32))), (7, .int l2), (0, .ref (E.1 + 66)), (1, .int l1), (2, .int l2), (3, .int l3), (4, .int l4), (5, .int l5), (6, .int l6)]) 28 dX12_steps_26 rfl (by decide) rfl ?_
    refine j_sub [3, 4, 6, 7, 8, 9, 2, 1, 0] rfl ?_
    exact kX12_steps_28 hL    100000 _ _ _ _ _ _ _ _ _  h
  · replace h := j_pos hc h
    refine j_iload_n 13 dX12_steps_12 rfl rfl 2 rfl ?_
    refine j_bipush (v := (13 : Int32)) 15 dX12_steps_13 rfl (by decide) ?_
    refine j_irem 16 dX12_steps_15 rfl (by decide) ?_
    refine j_goto 23 dX12_steps_16 (by decide) ?_
    refine j_istore (lv' := [(8, .int (l1 - l1 / (13 : Int32) * (13 : Int32))), (7, .int l2), (0, .ref (E.1 + 66)), (1, .int l1), (2, .int l2), (3, .int l3), (4, .int l4), (5, .int l5), (6, .int l6)]) 25 dX12_steps_23 rfl (by decide) rfl ?_
    refine j_iconst (v := (1 : Int32)) 26 dX12_steps_25 rfl (by decide) ?_
    refine j_istore (lv' := [(9, .int (1 : Int32)), (8, .int (l1 - l1 / (13 : Int32) * (13 : Int32))), (7, .int l2), (0, .ref (E.1 + 66)), (1, .int l1), (2, .int l2), (3, .int l3), (4, .int l4), (5, .int l5), (6, .int l6)]) 28 dX12_steps_26 rfl (by decide) rfl ?_
    refine j_sub [3, 4, 6, 7, 8, 9, 2, 1, 0] rfl ?_
    exact kX12_steps_28 hL    100000 _ _ _ _ _ _ _ _ _  h
def fX12_seeks_314 (I : JI) : Option (Int32 × JI) :=
  if 0 ≤ (I 66 76) then (j_g (j_in (I 66 76) 169) (some ((I 117 (I 66 76).toNatClampNeg), I))) else (some ((-1 : Int32), I))
set_option maxHeartbeats 4000000 in
set_option maxRecDepth 100000 in
theorem kX12_seeks_314 {E : JE} {r : Int32 × JI} {L : JL} {G : JG} {D : JG} {S : JS} (hL : Lay G S) : ∀ (I : JI), fX12_seeks_314 I = some r → AtJ E xX12_seeks (Zr E (some (.int r.1)) r.2 L G D S) ((S).length, jm_sl S) 9 314 [(0, .ref (E.1 + 66))] [] I L G D S := by
  intro I  h
  unfold fX12_seeks_314 at h
  refine j_aload_n 315 dX12_seeks_314 rfl rfl 0 rfl ?_
  refine j_getI 318 dX12_seeks_315 rfl (sh_66 hL) cl12 (k := 76) (by decide) flX12_492 rfl ?_
  refine j_if_ge 325 321 dX12_seeks_318 (by decide) rfl (fun hc => ?_) (fun hc => ?_)
  · replace h := j_pos hc h
    refine j_aload_n 326 dX12_seeks_325 rfl rfl 0 rfl ?_
    refine j_getG 329 dX12_seeks_326 rfl (sh_66 hL) cl12 (k := 74) (by decide) flX12_161 rfl (gs_66_74 hL) ?_
    refine j_aload_n 330 dX12_seeks_329 rfl rfl 0 rfl ?_
    refine j_getI 333 dX12_seeks_330 rfl (sh_66 hL) cl12 (k := 76) (by decide) flX12_492 rfl ?_
    obtain ⟨hg, h⟩ := j_gs h
    refine j_iald 334 dX12_seeks_333 rfl (sh_117 hL) (j_inv hg) ?_
    cases h
    exact j_iret dX12_seeks_334 rfl
  · replace h := j_neg hc h
    refine j_iconst (v := (-1 : Int32)) 322 dX12_seeks_321 rfl (by decide) ?_
    refine j_goto 334 dX12_seeks_322 (by decide) ?_
    cases h
    exact j_iret dX12_seeks_334 rfl
def fX12_seeks_286 (l1 : Int32) (l2 : Int32) (l3 : Int32) (l5 : Int32) (l6 : Int32) (I : JI) : Option (Int32 × JI) :=
  (fX12_lies l1 l2 l3 l5 I).bind (fun q3 => if (q3 66 77) < 0 then (fX12_seeks_314 q3) else ((fX12_lies (q3 66 77) l2 l3 l6 q3).bind (fun q4 => fX12_seeks_314 q4)))
set_option maxHeartbeats 4000000 in
set_option maxRecDepth 100000 in
theorem kX12_seeks_286 {E : JE} {r : Int32 × JI} {L : JL} {G : JG} {D : JG} {S : JS} (hL : Lay G S) : ∀ (l1 : Int32) (l2 : Int32) (l3 : Int32) (l5 : Int32) (l6 : Int32) (I : JI), fX12_seeks_286 l1 l2 l3 l5 l6 I = some r → AtJ E xX12_seeks (Zr E (some (.int r.1)) r.2 L G D S) ((S).length, jm_sl S) 9 286 [(0, .ref (E.1 + 66)), (1, .int l1), (2, .int l2), (3, .int l3), (5, .int l5), (6, .int l6)] [] I L G D S := by
  intro l1 l2 l3 l5 l6 I  h
  unfold fX12_seeks_286 at h
  refine j_aload_n 287 dX12_seeks_286 rfl rfl 0 rfl ?_
  refine j_iload_n 288 dX12_seeks_287 rfl rfl 1 rfl ?_
  refine j_iload_n 289 dX12_seeks_288 rfl rfl 2 rfl ?_
  refine j_iload_n 290 dX12_seeks_289 rfl rfl 3 rfl ?_
  refine j_iload 292 dX12_seeks_290 rfl 4 rfl ?_
  obtain ⟨q3, hq3, h⟩ := j_bs h
  refine j_callV (rest := []) (As := [.int l1, .int l2, .int l3, .int l5]) 295 dX12_seeks_292 rfl jyX12_lies (tcX12_lies hL  hq3) (sh_66 hL) cl12 flX12_495 wm1974 wm76 (by decide) rfl rfl (Nat.le_of_ble_eq_true rfl) ?_
  refine j_aload_n 296 dX12_seeks_295 rfl rfl 0 rfl ?_
  refine j_getI 299 dX12_seeks_296 rfl (sh_66 hL) cl12 (k := 77) (by decide) flX12_482 rfl ?_
  refine j_if_lt 314 302 dX12_seeks_299 (by decide) rfl (fun hc => ?_) (fun hc => ?_)
  · replace h := j_pos hc h
    refine j_sub [0] rfl ?_
    exact kX12_seeks_314 hL    _  h
  · replace h := j_neg hc h
    refine j_aload_n 303 dX12_seeks_302 rfl rfl 0 rfl ?_
    refine j_aload_n 304 dX12_seeks_303 rfl rfl 0 rfl ?_
    refine j_getI 307 dX12_seeks_304 rfl (sh_66 hL) cl12 (k := 77) (by decide) flX12_482 rfl ?_
    refine j_iload_n 308 dX12_seeks_307 rfl rfl 2 rfl ?_
    refine j_iload_n 309 dX12_seeks_308 rfl rfl 3 rfl ?_
    refine j_iload 311 dX12_seeks_309 rfl 5 rfl ?_
    obtain ⟨q4, hq4, h⟩ := j_bs h
    refine j_callV (rest := []) (As := [.int (q3 66 77), .int l2, .int l3, .int l6]) 314 dX12_seeks_311 rfl jyX12_lies (tcX12_lies hL  hq4) (sh_66 hL) cl12 flX12_495 wm1974 wm76 (by decide) rfl rfl (Nat.le_of_ble_eq_true rfl) ?_
    refine j_sub [0] rfl ?_
    exact kX12_seeks_314 hL    _  h
def fX12_seeks_230 (k157 : Int32 → Int32 → Int32 → Int32 → Int32 → Int32 → Int32 → Int32 → JI → Option (Int32 × JI)) (l1 : Int32) (l2 : Int32) (l3 : Int32) (l4 : Int32) (l5 : Int32) (l6 : Int32) (l8 : Int32) (l9 : Int32) (l10 : Int32) (I : JI) : Option (Int32 × JI) :=
  (fX12_steps l10 l1 l2 l3 l4 l8 (j_up I 66 78 (0 : Int32))).bind (fun q5 => if (q5 66 77) < 0 then (k157 l1 l2 l3 l4 l5 l6 (l8 + (q5 66 78)) (l9 + (1 : Int32)) q5) else ((fX12_steps l10 (q5 66 77) l2 l3 l4 l8 q5).bind (fun q6 => k157 l1 l2 l3 l4 l5 l6 (l8 + (q6 66 78)) (l9 + (1 : Int32)) q6)))
set_option maxHeartbeats 4000000 in
set_option maxRecDepth 100000 in
theorem kX12_seeks_230 {E : JE} {k157 : Int32 → Int32 → Int32 → Int32 → Int32 → Int32 → Int32 → Int32 → JI → Option (Int32 × JI)} {r : Int32 × JI} {L : JL} {G : JG} {D : JG} {S : JS} (hL : Lay G S) (H157 : ∀ (l1 : Int32) (l2 : Int32) (l3 : Int32) (l4 : Int32) (l5 : Int32) (l6 : Int32) (l8 : Int32) (l9 : Int32) (I : JI), k157 l1 l2 l3 l4 l5 l6 l8 l9 I = some r → AtJ E xX12_seeks (Zr E (some (.int r.1)) r.2 L G D S) ((S).length, jm_sl S) 9 157 [(0, .ref (E.1 + 66)), (1, .int l1), (2, .int l2), (3, .int l3), (4, .int l4), (5, .int l5), (6, .int l6), (8, .int l8), (9, .int l9)] [] I L G D S) : ∀ (l1 : Int32) (l2 : Int32) (l3 : Int32) (l4 : Int32) (l5 : Int32) (l6 : Int32) (l8 : Int32) (l9 : Int32) (l10 : Int32) (I : JI), fX12_seeks_230 k157 l1 l2 l3 l4 l5 l6 l8 l9 l10 I = some r → AtJ E xX12_seeks (Zr E (some (.int r.1)) r.2 L G D S) ((S).length, jm_sl S) 9 230 [(0, .ref (E.1 + 66)), (1, .int l1), (2, .int l2), (3, .int l3), (4, .int l4), (5, .int l5), (6, .int l6), (8, .int l8), (9, .int l9), (10, .int l10)] [] I L G D S := by
  intro l1 l2 l3 l4 l5 l6 l8 l9 l10 I  h
  unfold fX12_seeks_230 at h
  refine j_aload_n 231 dX12_seeks_230 rfl rfl 0 rfl ?_
  refine j_iconst (v := (0 : Int32)) 232 dX12_seeks_231 rfl (by decide) ?_
  refine j_putI 235 dX12_seeks_232 rfl (sh_66 hL) cl12 (k := 78) (by decide) flX12_489 rfl rfl rfl ?_
  refine j_aload_n 236 dX12_seeks_235 rfl rfl 0 rfl ?_
  refine j_iload 238 dX12_seeks_236 rfl 9 rfl ?_
  refine j_iload_n 239 dX12_seeks_238 rfl rfl 1 rfl ?_
  refine j_iload_n 240 dX12_seeks_239 rfl rfl 2 rfl ?_
  refine j_iload_n 241 dX12_seeks_240 rfl rfl 3 rfl ?_
  refine j_iload 243 dX12_seeks_241 rfl 4 rfl ?_
  refine j_iload 245 dX12_seeks_243 rfl 7 rfl ?_
  obtain ⟨q5, hq5, h⟩ := j_bs h
  refine j_callV (rest := []) (As := [.int l10, .int l1, .int l2, .int l3, .int l4, .int l8]) 248 dX12_seeks_245 rfl jyX12_steps (tcX12_steps hL  hq5) (sh_66 hL) cl12 flX12_498 wm1978 wm77 (by decide) rfl rfl (Nat.le_of_ble_eq_true rfl) ?_
  refine j_aload_n 249 dX12_seeks_248 rfl rfl 0 rfl ?_
  refine j_getI 252 dX12_seeks_249 rfl (sh_66 hL) cl12 (k := 77) (by decide) flX12_482 rfl ?_
  refine j_if_lt 271 255 dX12_seeks_252 (by decide) rfl (fun hc => ?_) (fun hc => ?_)
  · replace h := j_pos hc h
    refine j_iload 273 dX12_seeks_271 rfl 7 rfl ?_
    refine j_aload_n 274 dX12_seeks_273 rfl rfl 0 rfl ?_
    refine j_getI 277 dX12_seeks_274 rfl (sh_66 hL) cl12 (k := 78) (by decide) flX12_489 rfl ?_
    refine j_iadd 278 dX12_seeks_277 rfl ?_
    refine j_istore (lv' := [(8, .int (l8 + (q5 66 78))), (0, .ref (E.1 + 66)), (1, .int l1), (2, .int l2), (3, .int l3), (4, .int l4), (5, .int l5), (6, .int l6), (9, .int l9), (10, .int l10)]) 280 dX12_seeks_278 rfl (by decide) rfl ?_
    refine j_iinc (v := (l9 + (1 : Int32))) (lv' := [(9, .int (l9 + (1 : Int32))), (8, .int (l8 + (q5 66 78))), (0, .ref (E.1 + 66)), (1, .int l1), (2, .int l2), (3, .int l3), (4, .int l4), (5, .int l5), (6, .int l6), (10, .int l10)]) (q := 8) 283 dX12_seeks_280 rfl rfl rfl (by decide) rfl ?_
    refine j_goto 157 dX12_seeks_283 (by decide) ?_
    refine j_sub [2, 3, 4, 5, 6, 7, 8, 1, 0] rfl ?_
    exact H157 _ _ _ _ _ _ _ _ _  h
  · replace h := j_neg hc h
    refine j_aload_n 256 dX12_seeks_255 rfl rfl 0 rfl ?_
    refine j_iload 258 dX12_seeks_256 rfl 9 rfl ?_
    refine j_aload_n 259 dX12_seeks_258 rfl rfl 0 rfl ?_
    refine j_getI 262 dX12_seeks_259 rfl (sh_66 hL) cl12 (k := 77) (by decide) flX12_482 rfl ?_
    refine j_iload_n 263 dX12_seeks_262 rfl rfl 2 rfl ?_
    refine j_iload_n 264 dX12_seeks_263 rfl rfl 3 rfl ?_
    refine j_iload 266 dX12_seeks_264 rfl 4 rfl ?_
    refine j_iload 268 dX12_seeks_266 rfl 7 rfl ?_
    obtain ⟨q6, hq6, h⟩ := j_bs h
    refine j_callV (rest := []) (As := [.int l10, .int (q5 66 77), .int l2, .int l3, .int l4, .int l8]) 271 dX12_seeks_268 rfl jyX12_steps (tcX12_steps hL  hq6) (sh_66 hL) cl12 flX12_498 wm1978 wm77 (by decide) rfl rfl (Nat.le_of_ble_eq_true rfl) ?_
    refine j_iload 273 dX12_seeks_271 rfl 7 rfl ?_
    refine j_aload_n 274 dX12_seeks_273 rfl rfl 0 rfl ?_
    refine j_getI 277 dX12_seeks_274 rfl (sh_66 hL) cl12 (k := 78) (by decide) flX12_489 rfl ?_
    refine j_iadd 278 dX12_seeks_277 rfl ?_
    refine j_istore (lv' := [(8, .int (l8 + (q6 66 78))), (0, .ref (E.1 + 66)), (1, .int l1), (2, .int l2), (3, .int l3), (4, .int l4), (5, .int l5), (6, .int l6), (9, .int l9), (10, .int l10)]) 280 dX12_seeks_278 rfl (by decide) rfl ?_
    refine j_iinc (v := (l9 + (1 : Int32))) (lv' := [(9, .int (l9 + (1 : Int32))), (8, .int (l8 + (q6 66 78))), (0, .ref (E.1 + 66)), (1, .int l1), (2, .int l2), (3, .int l3), (4, .int l4), (5, .int l5), (6, .int l6), (10, .int l10)]) (q := 8) 283 dX12_seeks_280 rfl rfl rfl (by decide) rfl ?_
    refine j_goto 157 dX12_seeks_283 (by decide) ?_
    refine j_sub [2, 3, 4, 5, 6, 7, 8, 1, 0] rfl ?_
    exact H157 _ _ _ _ _ _ _ _ _  h
def fX12_seeks_157 : Nat → Int32 → Int32 → Int32 → Int32 → Int32 → Int32 → Int32 → Int32 → JI → Option (Int32 × JI)
  | 0, _, _, _, _, _, _, _, _, _ => none
  | n + 1, l1, l2, l3, l4, l5, l6, l8, l9, I =>
    if l8 ≤ l9 then (fX12_seeks_286 l1 l2 l3 l5 l6 I) else (if 0 ≤ (I 66 76) then (fX12_seeks_286 l1 l2 l3 l5 l6 I) else (j_g (j_in l9 169) (if (13 : Int32) ≤ (I 114 l9.toNatClampNeg) then ((fX12_lies l1 l2 l3 ((I 114 l9.toNatClampNeg) / (13 : Int32)) I).bind (fun q1 => if (q1 66 77) < 0 then (fX12_seeks_230 (fX12_seeks_157 n) l1 l2 l3 l4 l5 l6 l8 l9 (I 114 l9.toNatClampNeg) q1) else ((fX12_lies (q1 66 77) l2 l3 ((I 114 l9.toNatClampNeg) - (I 114 l9.toNatClampNeg) / (13 : Int32) * (13 : Int32)) q1).bind (fun q2 => fX12_seeks_230 (fX12_seeks_157 n) l1 l2 l3 l4 l5 l6 l8 l9 (I 114 l9.toNatClampNeg) q2)))) else ((fX12_seeks_157 n) l1 l2 l3 l4 l5 l6 l8 (l9 + (1 : Int32)) (j_up I 66 76 (I 114 l9.toNatClampNeg))))))
set_option maxHeartbeats 4000000 in
set_option maxRecDepth 100000 in
theorem kX12_seeks_157 {E : JE} {r : Int32 × JI} {L : JL} {G : JG} {D : JG} {S : JS} (hL : Lay G S) : ∀ (n : Nat) (l1 : Int32) (l2 : Int32) (l3 : Int32) (l4 : Int32) (l5 : Int32) (l6 : Int32) (l8 : Int32) (l9 : Int32) (I : JI), fX12_seeks_157 n l1 l2 l3 l4 l5 l6 l8 l9 I = some r → AtJ E xX12_seeks (Zr E (some (.int r.1)) r.2 L G D S) ((S).length, jm_sl S) 9 157 [(0, .ref (E.1 + 66)), (1, .int l1), (2, .int l2), (3, .int l3), (4, .int l4), (5, .int l5), (6, .int l6), (8, .int l8), (9, .int l9)] [] I L G D S := by
  intro n
  induction n with
  | zero => intro l1 l2 l3 l4 l5 l6 l8 l9 I  h; simp [fX12_seeks_157] at h
  | succ n ih =>
    intro l1 l2 l3 l4 l5 l6 l8 l9 I  h
    rw [fX12_seeks_157] at h
    refine j_iload 159 dX12_seeks_157 rfl 8 rfl ?_
    refine j_iload 161 dX12_seeks_159 rfl 7 rfl ?_
    refine j_icmp_ge 286 164 dX12_seeks_161 (by decide) rfl (fun hc => ?_) (fun hc => ?_)
    · replace h := j_pos hc h
      refine j_sub [0, 1, 2, 3, 5, 6] rfl ?_
      exact kX12_seeks_286 hL    _ _ _ _ _ _  h
    · replace h := j_neg hc h
      refine j_aload_n 165 dX12_seeks_164 rfl rfl 0 rfl ?_
      refine j_getI 168 dX12_seeks_165 rfl (sh_66 hL) cl12 (k := 76) (by decide) flX12_492 rfl ?_
      refine j_if_ge 286 171 dX12_seeks_168 (by decide) rfl (fun hc => ?_) (fun hc => ?_)
      · replace h := j_pos hc h
        refine j_sub [0, 1, 2, 3, 5, 6] rfl ?_
        exact kX12_seeks_286 hL    _ _ _ _ _ _  h
      · replace h := j_neg hc h
        refine j_aload_n 172 dX12_seeks_171 rfl rfl 0 rfl ?_
        refine j_getG 175 dX12_seeks_172 rfl (sh_66 hL) cl12 (k := 71) (by decide) flX12_152 rfl (gs_66_71 hL) ?_
        refine j_iload 177 dX12_seeks_175 rfl 8 rfl ?_
        obtain ⟨hg, h⟩ := j_gs h
        refine j_iald 178 dX12_seeks_177 rfl (sh_114 hL) (j_inv hg) ?_
        refine j_istore (lv' := [(10, .int (I 114 l9.toNatClampNeg)), (0, .ref (E.1 + 66)), (1, .int l1), (2, .int l2), (3, .int l3), (4, .int l4), (5, .int l5), (6, .int l6), (8, .int l8), (9, .int l9)]) 180 dX12_seeks_178 rfl (by decide) rfl ?_
        refine j_iload 182 dX12_seeks_180 rfl 0 rfl ?_
        refine j_bipush (v := (13 : Int32)) 184 dX12_seeks_182 rfl (by decide) ?_
        refine j_icmp_ge 196 187 dX12_seeks_184 (by decide) rfl (fun hc => ?_) (fun hc => ?_)
        · replace h := j_pos hc h
          refine j_aload_n 197 dX12_seeks_196 rfl rfl 1 rfl ?_
          refine j_iload_n 198 dX12_seeks_197 rfl rfl 2 rfl ?_
          refine j_iload_n 199 dX12_seeks_198 rfl rfl 3 rfl ?_
          refine j_iload_n 200 dX12_seeks_199 rfl rfl 4 rfl ?_
          refine j_iload 202 dX12_seeks_200 rfl 0 rfl ?_
          refine j_bipush (v := (13 : Int32)) 204 dX12_seeks_202 rfl (by decide) ?_
          refine j_idiv 205 dX12_seeks_204 rfl (by decide) ?_
          obtain ⟨q1, hq1, h⟩ := j_bs h
          refine j_callV (rest := []) (As := [.int l1, .int l2, .int l3, .int ((I 114 l9.toNatClampNeg) / (13 : Int32))]) 208 dX12_seeks_205 rfl jyX12_lies (tcX12_lies hL  hq1) (sh_66 hL) cl12 flX12_495 wm1974 wm76 (by decide) rfl rfl (Nat.le_of_ble_eq_true rfl) ?_
          refine j_aload_n 209 dX12_seeks_208 rfl rfl 1 rfl ?_
          refine j_getI 212 dX12_seeks_209 rfl (sh_66 hL) cl12 (k := 77) (by decide) flX12_482 rfl ?_
          refine j_if_lt 230 215 dX12_seeks_212 (by decide) rfl (fun hc => ?_) (fun hc => ?_)
          · replace h := j_pos hc h
            refine j_sub [1, 2, 3, 4, 5, 6, 7, 8, 9, 0] rfl ?_
            exact kX12_seeks_230 hL   ih _ _ _ _ _ _ _ _ _ _  h
          · replace h := j_neg hc h
            refine j_aload_n 216 dX12_seeks_215 rfl rfl 1 rfl ?_
            refine j_aload_n 217 dX12_seeks_216 rfl rfl 1 rfl ?_
            refine j_getI 220 dX12_seeks_217 rfl (sh_66 hL) cl12 (k := 77) (by decide) flX12_482 rfl ?_
            refine j_iload_n 221 dX12_seeks_220 rfl rfl 3 rfl ?_
            refine j_iload_n 222 dX12_seeks_221 rfl rfl 4 rfl ?_
            refine j_iload 224 dX12_seeks_222 rfl 0 rfl ?_
            refine j_bipush (v := (13 : Int32)) 226 dX12_seeks_224 rfl (by decide) ?_
            refine j_irem 227 dX12_seeks_226 rfl (by decide) ?_
            obtain ⟨q2, hq2, h⟩ := j_bs h
            refine j_callV (rest := []) (As := [.int (q1 66 77), .int l2, .int l3, .int ((I 114 l9.toNatClampNeg) - (I 114 l9.toNatClampNeg) / (13 : Int32) * (13 : Int32))]) 230 dX12_seeks_227 rfl jyX12_lies (tcX12_lies hL  hq2) (sh_66 hL) cl12 flX12_495 wm1974 wm76 (by decide) rfl rfl (Nat.le_of_ble_eq_true rfl) ?_
            refine j_sub [1, 2, 3, 4, 5, 6, 7, 8, 9, 0] rfl ?_
            exact kX12_seeks_230 hL   ih _ _ _ _ _ _ _ _ _ _  h
        · replace h := j_neg hc h
          refine j_aload_n 188 dX12_seeks_187 rfl rfl 1 rfl ?_
          refine j_iload 190 dX12_seeks_188 rfl 0 rfl ?_
          refine j_putI 193 dX12_seeks_190 rfl (sh_66 hL) cl12 (k := 76) (by decide) flX12_492 rfl rfl rfl ?_
          refine j_goto 280 dX12_seeks_193 (by decide) ?_
          refine j_iinc (v := (l9 + (1 : Int32))) (lv' := [(9, .int (l9 + (1 : Int32))), (10, .int (I 114 l9.toNatClampNeg)), (0, .ref (E.1 + 66)), (1, .int l1), (2, .int l2), (3, .int l3), (4, .int l4), (5, .int l5), (6, .int l6), (8, .int l8)]) (q := 9) 283 dX12_seeks_280 rfl rfl rfl (by decide) rfl ?_
          refine j_goto 157 dX12_seeks_283 (by decide) ?_
          refine j_sub [2, 3, 4, 5, 6, 7, 8, 9, 0] rfl ?_
          exact ih _ _ _ _ _ _ _ _ _  h
def fX12_seeks_112 (l1 : Int32) (l2 : Int32) (l3 : Int32) (l4 : Int32) (l5 : Int32) (l6 : Int32) (I : JI) : Option (Int32 × JI) :=
  j_g (j_in (0 : Int32) 169) (j_g (j_in (((13 : Int32) * l5) + l6) 169) (j_g (j_in (((13 : Int32) * l5) + l6) 169) (fX12_seeks_157 100000 l1 l2 l3 l4 l5 l6 (1 : Int32) (0 : Int32) (j_up (j_up (j_up (j_up I 114 (0 : Int32).toNatClampNeg (((13 : Int32) * l5) + l6)) 118 (((13 : Int32) * l5) + l6).toNatClampNeg (1 : Int32)) 117 (((13 : Int32) * l5) + l6).toNatClampNeg (0 : Int32)) 66 76 (-1 : Int32)))))
set_option maxHeartbeats 4000000 in
set_option maxRecDepth 100000 in
theorem kX12_seeks_112 {E : JE} {r : Int32 × JI} {L : JL} {G : JG} {D : JG} {S : JS} (hL : Lay G S) : ∀ (l1 : Int32) (l2 : Int32) (l3 : Int32) (l4 : Int32) (l5 : Int32) (l6 : Int32) (I : JI), fX12_seeks_112 l1 l2 l3 l4 l5 l6 I = some r → AtJ E xX12_seeks (Zr E (some (.int r.1)) r.2 L G D S) ((S).length, jm_sl S) 9 112 [(0, .ref (E.1 + 66)), (1, .int l1), (2, .int l2), (3, .int l3), (4, .int l4), (5, .int l5), (6, .int l6)] [] I L G D S := by
  intro l1 l2 l3 l4 l5 l6 I  h
  unfold fX12_seeks_112 at h
  refine j_bipush (v := (13 : Int32)) 114 dX12_seeks_112 rfl (by decide) ?_
  refine j_iload 116 dX12_seeks_114 rfl 5 rfl ?_
  refine j_imul 117 dX12_seeks_116 rfl ?_
  refine j_iload 119 dX12_seeks_117 rfl 6 rfl ?_
  refine j_iadd 120 dX12_seeks_119 rfl ?_
  refine j_istore (lv' := [(7, .int (((13 : Int32) * l5) + l6)), (0, .ref (E.1 + 66)), (1, .int l1), (2, .int l2), (3, .int l3), (4, .int l4), (5, .int l5), (6, .int l6)]) 122 dX12_seeks_120 rfl (by decide) rfl ?_
  refine j_aload_n 123 dX12_seeks_122 rfl rfl 1 rfl ?_
  refine j_getG 126 dX12_seeks_123 rfl (sh_66 hL) cl12 (k := 71) (by decide) flX12_152 rfl (gs_66_71 hL) ?_
  refine j_iconst (v := (0 : Int32)) 127 dX12_seeks_126 rfl (by decide) ?_
  refine j_iload 129 dX12_seeks_127 rfl 0 rfl ?_
  obtain ⟨hg, h⟩ := j_gs h
  refine j_iast 130 dX12_seeks_129 rfl (sh_114 hL) (j_inv hg) ?_
  refine j_aload_n 131 dX12_seeks_130 rfl rfl 1 rfl ?_
  refine j_getG 134 dX12_seeks_131 rfl (sh_66 hL) cl12 (k := 75) (by decide) flX12_164 rfl (gs_66_75 hL) ?_
  refine j_iload 136 dX12_seeks_134 rfl 0 rfl ?_
  refine j_iconst (v := (1 : Int32)) 137 dX12_seeks_136 rfl (by decide) ?_
  obtain ⟨hg, h⟩ := j_gs h
  refine j_zast 138 dX12_seeks_137 rfl (sh_118 hL) (j_inv hg) j_b01_1 ?_
  refine j_aload_n 139 dX12_seeks_138 rfl rfl 1 rfl ?_
  refine j_getG 142 dX12_seeks_139 rfl (sh_66 hL) cl12 (k := 74) (by decide) flX12_161 rfl (gs_66_74 hL) ?_
  refine j_iload 144 dX12_seeks_142 rfl 0 rfl ?_
  refine j_iconst (v := (0 : Int32)) 145 dX12_seeks_144 rfl (by decide) ?_
  obtain ⟨hg, h⟩ := j_gs h
  refine j_iast 146 dX12_seeks_145 rfl (sh_117 hL) (j_inv hg) ?_
  refine j_iconst (v := (1 : Int32)) 147 dX12_seeks_146 rfl (by decide) ?_
  refine j_istore (lv' := [(8, .int (1 : Int32)), (7, .int (((13 : Int32) * l5) + l6)), (0, .ref (E.1 + 66)), (1, .int l1), (2, .int l2), (3, .int l3), (4, .int l4), (5, .int l5), (6, .int l6)]) 149 dX12_seeks_147 rfl (by decide) rfl ?_
  refine j_aload_n 150 dX12_seeks_149 rfl rfl 2 rfl ?_
  refine j_iconst (v := (-1 : Int32)) 151 dX12_seeks_150 rfl (by decide) ?_
  refine j_putI 154 dX12_seeks_151 rfl (sh_66 hL) cl12 (k := 76) (by decide) flX12_492 rfl rfl rfl ?_
  refine j_iconst (v := (0 : Int32)) 155 dX12_seeks_154 rfl (by decide) ?_
  refine j_istore (lv' := [(9, .int (0 : Int32)), (8, .int (1 : Int32)), (7, .int (((13 : Int32) * l5) + l6)), (0, .ref (E.1 + 66)), (1, .int l1), (2, .int l2), (3, .int l3), (4, .int l4), (5, .int l5), (6, .int l6)]) 157 dX12_seeks_155 rfl (by decide) rfl ?_
  refine j_sub [3, 4, 5, 6, 7, 8, 9, 1, 0] rfl ?_
  exact kX12_seeks_157 hL    100000 _ _ _ _ _ _ _ _ _  h
def fX12_seeks_90 : Nat → Int32 → Int32 → Int32 → Int32 → Int32 → Int32 → Int32 → JI → Option (Int32 × JI)
  | 0, _, _, _, _, _, _, _, _ => none
  | n + 1, l1, l2, l3, l4, l5, l6, l7, I =>
    if (169 : Int32) ≤ l7 then (fX12_seeks_112 l1 l2 l3 l4 l5 l6 I) else (j_g (j_in l7 169) ((fX12_seeks_90 n) l1 l2 l3 l4 l5 l6 (l7 + (1 : Int32)) (j_up I 118 l7.toNatClampNeg (0 : Int32))))
set_option maxHeartbeats 4000000 in
set_option maxRecDepth 100000 in
theorem kX12_seeks_90 {E : JE} {r : Int32 × JI} {L : JL} {G : JG} {D : JG} {S : JS} (hL : Lay G S) : ∀ (n : Nat) (l1 : Int32) (l2 : Int32) (l3 : Int32) (l4 : Int32) (l5 : Int32) (l6 : Int32) (l7 : Int32) (I : JI), fX12_seeks_90 n l1 l2 l3 l4 l5 l6 l7 I = some r → AtJ E xX12_seeks (Zr E (some (.int r.1)) r.2 L G D S) ((S).length, jm_sl S) 9 90 [(0, .ref (E.1 + 66)), (1, .int l1), (2, .int l2), (3, .int l3), (4, .int l4), (5, .int l5), (6, .int l6), (7, .int l7)] [] I L G D S := by
  intro n
  induction n with
  | zero => intro l1 l2 l3 l4 l5 l6 l7 I  h; simp [fX12_seeks_90] at h
  | succ n ih =>
    intro l1 l2 l3 l4 l5 l6 l7 I  h
    rw [fX12_seeks_90] at h
    refine j_iload 92 dX12_seeks_90 rfl 7 rfl ?_
    refine j_sipush (v := (169 : Int32)) 95 dX12_seeks_92 rfl (by decide) ?_
    refine j_icmp_ge 112 98 dX12_seeks_95 (by decide) rfl (fun hc => ?_) (fun hc => ?_)
    · replace h := j_pos hc h
      refine j_sub [0, 1, 2, 3, 4, 5, 6] rfl ?_
      exact kX12_seeks_112 hL    _ _ _ _ _ _ _  h
    · replace h := j_neg hc h
      refine j_aload_n 99 dX12_seeks_98 rfl rfl 0 rfl ?_
      refine j_getG 102 dX12_seeks_99 rfl (sh_66 hL) cl12 (k := 75) (by decide) flX12_164 rfl (gs_66_75 hL) ?_
      refine j_iload 104 dX12_seeks_102 rfl 7 rfl ?_
      refine j_iconst (v := (0 : Int32)) 105 dX12_seeks_104 rfl (by decide) ?_
      obtain ⟨hg, h⟩ := j_gs h
      refine j_zast 106 dX12_seeks_105 rfl (sh_118 hL) (j_inv hg) j_b01_0 ?_
      refine j_iinc (v := (l7 + (1 : Int32))) (lv' := [(7, .int (l7 + (1 : Int32))), (0, .ref (E.1 + 66)), (1, .int l1), (2, .int l2), (3, .int l3), (4, .int l4), (5, .int l5), (6, .int l6)]) (q := 7) 109 dX12_seeks_106 rfl rfl rfl (by decide) rfl ?_
      refine j_goto 90 dX12_seeks_109 (by decide) ?_
      refine j_sub [1, 2, 3, 4, 5, 6, 7, 0] rfl ?_
      exact ih _ _ _ _ _ _ _ _  h
def fX12_seeks_47 (l1 : Int32) (l2 : Int32) (l3 : Int32) (l4 : Int32) (I : JI) : Option (Int32 × JI) :=
  j_g (j_in (((16 : Int32) * l1) + l2) 192) (if 0 ≤ (I 66 77) then (j_g (j_in (((16 : Int32) * (I 66 77)) + l2) 192) (fX12_seeks_90 100000 l1 l2 l3 l4 (I 68 (((16 : Int32) * l1) + l2).toNatClampNeg) (I 68 (((16 : Int32) * (I 66 77)) + l2).toNatClampNeg) (0 : Int32) I)) else (fX12_seeks_90 100000 l1 l2 l3 l4 (I 68 (((16 : Int32) * l1) + l2).toNatClampNeg) (0 : Int32) (0 : Int32) I))
set_option maxHeartbeats 4000000 in
set_option maxRecDepth 100000 in
theorem kX12_seeks_47 {E : JE} {r : Int32 × JI} {L : JL} {G : JG} {D : JG} {S : JS} (hL : Lay G S) : ∀ (l1 : Int32) (l2 : Int32) (l3 : Int32) (l4 : Int32) (I : JI), fX12_seeks_47 l1 l2 l3 l4 I = some r → AtJ E xX12_seeks (Zr E (some (.int r.1)) r.2 L G D S) ((S).length, jm_sl S) 9 47 [(0, .ref (E.1 + 66)), (1, .int l1), (2, .int l2), (3, .int l3), (4, .int l4)] [] I L G D S := by
  intro l1 l2 l3 l4 I  h
  unfold fX12_seeks_47 at h
  refine j_aload_n 48 dX12_seeks_47 rfl rfl 0 rfl ?_
  refine j_getG 51 dX12_seeks_48 rfl (sh_66 hL) cl12 (k := 2) (by decide) flX12_13 rfl (gs_66_2 hL) ?_
  refine j_bipush (v := (16 : Int32)) 53 dX12_seeks_51 rfl (by decide) ?_
  refine j_iload_n 54 dX12_seeks_53 rfl rfl 1 rfl ?_
  refine j_imul 55 dX12_seeks_54 rfl ?_
  refine j_iload_n 56 dX12_seeks_55 rfl rfl 2 rfl ?_
  refine j_iadd 57 dX12_seeks_56 rfl ?_
  obtain ⟨hg, h⟩ := j_gs h
  refine j_iald 58 dX12_seeks_57 rfl (sh_68 hL) (j_inv hg) ?_
  refine j_istore (lv' := [(5, .int (I 68 (((16 : Int32) * l1) + l2).toNatClampNeg)), (0, .ref (E.1 + 66)), (1, .int l1), (2, .int l2), (3, .int l3), (4, .int l4)]) 60 dX12_seeks_58 rfl (by decide) rfl ?_
  refine j_aload_n 61 dX12_seeks_60 rfl rfl 1 rfl ?_
  refine j_getI 64 dX12_seeks_61 rfl (sh_66 hL) cl12 (k := 77) (by decide) flX12_482 rfl ?_
  refine j_if_ge 71 67 dX12_seeks_64 (by decide) rfl (fun hc => ?_) (fun hc => ?_)
  · replace h := j_pos hc h
    refine j_aload_n 72 dX12_seeks_71 rfl rfl 1 rfl ?_
    refine j_getG 75 dX12_seeks_72 rfl (sh_66 hL) cl12 (k := 2) (by decide) flX12_13 rfl (gs_66_2 hL) ?_
    refine j_bipush (v := (16 : Int32)) 77 dX12_seeks_75 rfl (by decide) ?_
    refine j_aload_n 78 dX12_seeks_77 rfl rfl 1 rfl ?_
    refine j_getI 81 dX12_seeks_78 rfl (sh_66 hL) cl12 (k := 77) (by decide) flX12_482 rfl ?_
    refine j_imul 82 dX12_seeks_81 rfl ?_
    refine j_iload_n 83 dX12_seeks_82 rfl rfl 3 rfl ?_
    refine j_iadd 84 dX12_seeks_83 rfl ?_
    obtain ⟨hg, h⟩ := j_gs h
    refine j_iald 85 dX12_seeks_84 rfl (sh_68 hL) (j_inv hg) ?_
    refine j_istore (lv' := [(6, .int (I 68 (((16 : Int32) * (I 66 77)) + l2).toNatClampNeg)), (5, .int (I 68 (((16 : Int32) * l1) + l2).toNatClampNeg)), (0, .ref (E.1 + 66)), (1, .int l1), (2, .int l2), (3, .int l3), (4, .int l4)]) 87 dX12_seeks_85 rfl (by decide) rfl ?_
    refine j_iconst (v := (0 : Int32)) 88 dX12_seeks_87 rfl (by decide) ?_
    refine j_istore (lv' := [(7, .int (0 : Int32)), (6, .int (I 68 (((16 : Int32) * (I 66 77)) + l2).toNatClampNeg)), (5, .int (I 68 (((16 : Int32) * l1) + l2).toNatClampNeg)), (0, .ref (E.1 + 66)), (1, .int l1), (2, .int l2), (3, .int l3), (4, .int l4)]) 90 dX12_seeks_88 rfl (by decide) rfl ?_
    refine j_sub [3, 4, 5, 6, 7, 2, 1, 0] rfl ?_
    exact kX12_seeks_90 hL    100000 _ _ _ _ _ _ _ _  h
  · replace h := j_neg hc h
    refine j_iconst (v := (0 : Int32)) 68 dX12_seeks_67 rfl (by decide) ?_
    refine j_goto 85 dX12_seeks_68 (by decide) ?_
    refine j_istore (lv' := [(6, .int (0 : Int32)), (5, .int (I 68 (((16 : Int32) * l1) + l2).toNatClampNeg)), (0, .ref (E.1 + 66)), (1, .int l1), (2, .int l2), (3, .int l3), (4, .int l4)]) 87 dX12_seeks_85 rfl (by decide) rfl ?_
    refine j_iconst (v := (0 : Int32)) 88 dX12_seeks_87 rfl (by decide) ?_
    refine j_istore (lv' := [(7, .int (0 : Int32)), (6, .int (0 : Int32)), (5, .int (I 68 (((16 : Int32) * l1) + l2).toNatClampNeg)), (0, .ref (E.1 + 66)), (1, .int l1), (2, .int l2), (3, .int l3), (4, .int l4)]) 90 dX12_seeks_88 rfl (by decide) rfl ?_
    refine j_sub [3, 4, 5, 6, 7, 2, 1, 0] rfl ?_
    exact kX12_seeks_90 hL    100000 _ _ _ _ _ _ _ _  h
def fX12_seeks_9 : Nat → Int32 → Int32 → Int32 → Int32 → Int32 → JI → Option (Int32 × JI)
  | 0, _, _, _, _, _, _ => none
  | n + 1, l1, l2, l3, l4, l5, I =>
    if l5 < 0 then (fX12_seeks_47 l1 l2 l3 l4 I) else (if l5 = l1 then ((fX12_seeks_9 n) l1 l2 l3 l4 (l5 + (-1 : Int32)) I) else (j_g (j_in (((16 : Int32) * l5) + l2) 192) (if (I 68 (((16 : Int32) * l5) + l2).toNatClampNeg) ≤ 0 then ((fX12_seeks_9 n) l1 l2 l3 l4 (l5 + (-1 : Int32)) I) else ((fX12_seeks_9 n) l1 l2 l3 l4 (l5 + (-1 : Int32)) (j_up I 66 77 l5)))))
set_option maxHeartbeats 4000000 in
set_option maxRecDepth 100000 in
theorem kX12_seeks_9 {E : JE} {r : Int32 × JI} {L : JL} {G : JG} {D : JG} {S : JS} (hL : Lay G S) : ∀ (n : Nat) (l1 : Int32) (l2 : Int32) (l3 : Int32) (l4 : Int32) (l5 : Int32) (I : JI), fX12_seeks_9 n l1 l2 l3 l4 l5 I = some r → AtJ E xX12_seeks (Zr E (some (.int r.1)) r.2 L G D S) ((S).length, jm_sl S) 9 9 [(0, .ref (E.1 + 66)), (1, .int l1), (2, .int l2), (3, .int l3), (4, .int l4), (5, .int l5)] [] I L G D S := by
  intro n
  induction n with
  | zero => intro l1 l2 l3 l4 l5 I  h; simp [fX12_seeks_9] at h
  | succ n ih =>
    intro l1 l2 l3 l4 l5 I  h
    rw [fX12_seeks_9] at h
    refine j_iload 11 dX12_seeks_9 rfl 5 rfl ?_
    refine j_if_lt 47 14 dX12_seeks_11 (by decide) rfl (fun hc => ?_) (fun hc => ?_)
    · replace h := j_pos hc h
      refine j_sub [0, 1, 2, 3, 4] rfl ?_
      exact kX12_seeks_47 hL    _ _ _ _ _  h
    · replace h := j_neg hc h
      refine j_iload 16 dX12_seeks_14 rfl 5 rfl ?_
      refine j_iload_n 17 dX12_seeks_16 rfl rfl 1 rfl ?_
      refine j_icmp_eq 41 20 dX12_seeks_17 (by decide) rfl (fun hc => ?_) (fun hc => ?_)
      · replace h := j_pos hc h
        refine j_iinc (v := (l5 + (-1 : Int32))) (lv' := [(5, .int (l5 + (-1 : Int32))), (0, .ref (E.1 + 66)), (1, .int l1), (2, .int l2), (3, .int l3), (4, .int l4)]) (q := 5) 44 dX12_seeks_41 rfl rfl rfl (by decide) rfl ?_
        refine j_goto 9 dX12_seeks_44 (by decide) ?_
        refine j_sub [1, 2, 3, 4, 5, 0] rfl ?_
        exact ih _ _ _ _ _ _  h
      · replace h := j_neg hc h
        refine j_aload_n 21 dX12_seeks_20 rfl rfl 0 rfl ?_
        refine j_getG 24 dX12_seeks_21 rfl (sh_66 hL) cl12 (k := 2) (by decide) flX12_13 rfl (gs_66_2 hL) ?_
        refine j_bipush (v := (16 : Int32)) 26 dX12_seeks_24 rfl (by decide) ?_
        refine j_iload 28 dX12_seeks_26 rfl 5 rfl ?_
        refine j_imul 29 dX12_seeks_28 rfl ?_
        refine j_iload_n 30 dX12_seeks_29 rfl rfl 2 rfl ?_
        refine j_iadd 31 dX12_seeks_30 rfl ?_
        obtain ⟨hg, h⟩ := j_gs h
        refine j_iald 32 dX12_seeks_31 rfl (sh_68 hL) (j_inv hg) ?_
        refine j_if_le 41 35 dX12_seeks_32 (by decide) rfl (fun hc => ?_) (fun hc => ?_)
        · replace h := j_pos hc h
          refine j_iinc (v := (l5 + (-1 : Int32))) (lv' := [(5, .int (l5 + (-1 : Int32))), (0, .ref (E.1 + 66)), (1, .int l1), (2, .int l2), (3, .int l3), (4, .int l4)]) (q := 5) 44 dX12_seeks_41 rfl rfl rfl (by decide) rfl ?_
          refine j_goto 9 dX12_seeks_44 (by decide) ?_
          refine j_sub [1, 2, 3, 4, 5, 0] rfl ?_
          exact ih _ _ _ _ _ _  h
        · replace h := j_neg hc h
          refine j_aload_n 36 dX12_seeks_35 rfl rfl 0 rfl ?_
          refine j_iload 38 dX12_seeks_36 rfl 5 rfl ?_
          refine j_putI 41 dX12_seeks_38 rfl (sh_66 hL) cl12 (k := 77) (by decide) flX12_482 rfl rfl rfl ?_
          refine j_iinc (v := (l5 + (-1 : Int32))) (lv' := [(5, .int (l5 + (-1 : Int32))), (0, .ref (E.1 + 66)), (1, .int l1), (2, .int l2), (3, .int l3), (4, .int l4)]) (q := 5) 44 dX12_seeks_41 rfl rfl rfl (by decide) rfl ?_
          refine j_goto 9 dX12_seeks_44 (by decide) ?_
          refine j_sub [1, 2, 3, 4, 5, 0] rfl ?_
          exact ih _ _ _ _ _ _  h
def fX12_seeks (l1 : Int32) (l2 : Int32) (l3 : Int32) (l4 : Int32) (I : JI) : Option (Int32 × JI) :=
  fX12_seeks_9 100000 l1 l2 l3 l4 (11 : Int32) (j_up I 66 77 (-1 : Int32))
set_option maxHeartbeats 4000000 in
set_option maxRecDepth 100000 in
theorem tcX12_seeks {E : JE} {l1 : Int32} {l2 : Int32} {l3 : Int32} {l4 : Int32} {r : Int32 × JI} {I : JI} {L : JL} {G D : JG} {S : JS} (hL : Lay G S) (h : fX12_seeks l1 l2 l3 l4 I = some r) : CallJ E xX12_seeks 9 [.ref (E.1 + 66), .int l1, .int l2, .int l3, .int l4] I L G D S (some (.int r.1)) r.2 L G D S := by
  unfold fX12_seeks at h
  refine j_entry (by decide) (Nat.le_of_ble_eq_true rfl) ?_
  show AtJ E xX12_seeks (Zr E (some (.int r.1)) r.2 L G D S) ((S).length, jm_sl S) 9 0 [(0, .ref (E.1 + 66)), (1, .int l1), (2, .int l2), (3, .int l3), (4, .int l4)] [] I L G D S
  refine j_aload_n 1 dX12_seeks_0 rfl rfl 0 rfl ?_
  refine j_iconst (v := (-1 : Int32)) 2 dX12_seeks_1 rfl (by decide) ?_
  refine j_putI 5 dX12_seeks_2 rfl (sh_66 hL) cl12 (k := 77) (by decide) flX12_482 rfl rfl rfl ?_
  refine j_bipush (v := (11 : Int32)) 7 dX12_seeks_5 rfl (by decide) ?_
  refine j_istore (lv' := [(5, .int (11 : Int32)), (0, .ref (E.1 + 66)), (1, .int l1), (2, .int l2), (3, .int l3), (4, .int l4)]) 9 dX12_seeks_7 rfl (by decide) rfl ?_
  refine j_sub [1, 2, 3, 4, 5, 0] rfl ?_
  exact kX12_seeks_9 hL    100000 _ _ _ _ _ _  h
