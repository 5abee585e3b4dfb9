def fX12_sly (l1 : Int32) (l2 : Int32) (l3 : Int32) (l4 : Int32) (I : JI) : Option (Int32 × JI) :=
  (fX12_isSly l1 l2 l3 l4 (j_up I 66 0 (0 : Int32))).bind (fun q1 => if q1 = 0 then (some ((-1 : Int32), (j_up I 66 0 (0 : Int32)))) else ((fX12_seeks l1 l2 l3 l4 (j_up (j_up I 66 0 (0 : Int32)) 66 50 (0 : Int32))).bind (fun q2 => some (q2.1, q2.2))))
set_option maxHeartbeats 4000000 in
set_option maxRecDepth 100000 in
theorem tcX12_sly {E : JE} {l1 : Int32} {l2 : Int32} {l3 : Int32} {l4 : Int32} {r : Int32 × JI} {I : JI} {L : JL} {G D : JG} {S : JS} (hL : Lay G S) (h : fX12_sly l1 l2 l3 l4 I = some r) : CallJ E xX12_sly 10 [.ref (E.1 + 66), .int l1, .int l2, .int l3, .int l4] I L G D S (some (.int r.1)) r.2 L G D S := by
  unfold fX12_sly at h
  refine j_entry (by decide) (Nat.le_of_ble_eq_true rfl) ?_
  show AtJ E xX12_sly (Zr E (some (.int r.1)) r.2 L G D S) ((S).length, jm_sl S) 10 0 [(0, .ref (E.1 + 66)), (1, .int l1), (2, .int l2), (3, .int l3), (4, .int l4)] [] I L G D S
  refine j_aload_n 1 dX12_sly_0 rfl rfl 0 rfl ?_
  refine j_iconst (v := (0 : Int32)) 2 dX12_sly_1 rfl (by decide) ?_
  refine j_putI 5 dX12_sly_2 rfl (sh_66 hL) cl12 (k := 0) (by decide) flX12_218 rfl rfl rfl ?_
  refine j_aload_n 6 dX12_sly_5 rfl rfl 0 rfl ?_
  refine j_iload_n 7 dX12_sly_6 rfl rfl 1 rfl ?_
  refine j_iload_n 8 dX12_sly_7 rfl rfl 2 rfl ?_
  refine j_iload_n 9 dX12_sly_8 rfl rfl 3 rfl ?_
  refine j_iload 11 dX12_sly_9 rfl 4 rfl ?_
  obtain ⟨q1, hq1, h⟩ := j_bs h
  refine j_callV (rest := []) (As := [.int l1, .int l2, .int l3, .int l4]) 14 dX12_sly_11 rfl jyX12_isSly (tcX12_isSly hL  hq1) (sh_66 hL) cl12 flX12_502 wm1966 wm74 (by decide) rfl rfl (Nat.le_of_ble_eq_true rfl) ?_
  refine j_if_ne 19 17 dX12_sly_14 (by decide) rfl (fun hc => ?_) (fun hc => ?_)
  · replace h := j_neg hc h
    refine j_aload_n 20 dX12_sly_19 rfl rfl 0 rfl ?_
    refine j_iconst (v := (0 : Int32)) 21 dX12_sly_20 rfl (by decide) ?_
    refine j_putI 24 dX12_sly_21 rfl (sh_66 hL) cl12 (k := 50) (by decide) flX12_434 rfl rfl rfl ?_
    refine j_aload_n 25 dX12_sly_24 rfl rfl 0 rfl ?_
    refine j_iload_n 26 dX12_sly_25 rfl rfl 1 rfl ?_
    refine j_iload_n 27 dX12_sly_26 rfl rfl 2 rfl ?_
    refine j_iload_n 28 dX12_sly_27 rfl rfl 3 rfl ?_
    refine j_iload 30 dX12_sly_28 rfl 4 rfl ?_
    obtain ⟨q2, hq2, h⟩ := j_bs h
    refine j_callV (rest := []) (As := [.int l1, .int l2, .int l3, .int l4]) 33 dX12_sly_30 rfl jyX12_seeks (tcX12_seeks hL  hq2) (sh_66 hL) cl12 flX12_506 wm1970 wm75 (by decide) rfl rfl (Nat.le_of_ble_eq_true rfl) ?_
    cases h
    exact j_iret dX12_sly_33 rfl
  · replace h := j_pos hc h
    refine j_iconst (v := (-1 : Int32)) 18 dX12_sly_17 rfl (by decide) ?_
    cases h
    exact j_iret dX12_sly_18 rfl
def fX12_slyRow_93 (l1 : Int32) (l6 : Int32) (l8 : Int32) (I : JI) : Option (Int32 × JI) :=
  j_g (j_in l8 169) (if l6 = 0 then (if (36 : Int32) ≤ (I 116 l8.toNatClampNeg) then (some ((I 66 77), I)) else (some (l1, I))) else (if l6 = (1 : Int32) then (some (((((I 116 l8.toNatClampNeg) - (I 116 l8.toNatClampNeg) / (36 : Int32) * (36 : Int32)) / (3 : Int32)) + (1 : Int32)), I)) else (some (((I 116 l8.toNatClampNeg) - (I 116 l8.toNatClampNeg) / (3 : Int32) * (3 : Int32)), I))))
set_option maxHeartbeats 4000000 in
set_option maxRecDepth 100000 in
theorem kX12_slyRow_93 {E : JE} {r : Int32 × JI} {L : JL} {G : JG} {D : JG} {S : JS} (hL : Lay G S) : ∀ (l1 : Int32) (l6 : Int32) (l8 : Int32) (I : JI), fX12_slyRow_93 l1 l6 l8 I = some r → AtJ E xX12_slyRow (Zr E (some (.int r.1)) r.2 L G D S) ((S).length, jm_sl S) 10 93 [(0, .ref (E.1 + 66)), (1, .int l1), (6, .int l6), (8, .int l8)] [] I L G D S := by
  intro l1 l6 l8 I  h
  unfold fX12_slyRow_93 at h
  refine j_aload_n 94 dX12_slyRow_93 rfl rfl 0 rfl ?_
  refine j_getG 97 dX12_slyRow_94 rfl (sh_66 hL) cl12 (k := 73) (by decide) flX12_158 rfl (gs_66_73 hL) ?_
  refine j_iload 99 dX12_slyRow_97 rfl 3 rfl ?_
  obtain ⟨hg, h⟩ := j_gs h
  refine j_iald 100 dX12_slyRow_99 rfl (sh_116 hL) (j_inv hg) ?_
  refine j_istore (lv' := [(9, .int (I 116 l8.toNatClampNeg)), (0, .ref (E.1 + 66)), (1, .int l1), (6, .int l6), (8, .int l8)]) 102 dX12_slyRow_100 rfl (by decide) rfl ?_
  refine j_iload 104 dX12_slyRow_102 rfl 3 rfl ?_
  refine j_if_ne 125 107 dX12_slyRow_104 (by decide) rfl (fun hc => ?_) (fun hc => ?_)
  · replace h := j_neg hc h
    refine j_iload 127 dX12_slyRow_125 rfl 3 rfl ?_
    refine j_iconst (v := (1 : Int32)) 128 dX12_slyRow_127 rfl (by decide) ?_
    refine j_icmp_ne 143 131 dX12_slyRow_128 (by decide) rfl (fun hc => ?_) (fun hc => ?_)
    · replace h := j_neg hc h
      refine j_iload 145 dX12_slyRow_143 rfl 0 rfl ?_
      refine j_iconst (v := (3 : Int32)) 146 dX12_slyRow_145 rfl (by decide) ?_
      refine j_irem 147 dX12_slyRow_146 rfl (by decide) ?_
      cases h
      exact j_iret dX12_slyRow_147 rfl
    · replace h := j_pos hc h
      refine j_iload 133 dX12_slyRow_131 rfl 0 rfl ?_
      refine j_bipush (v := (36 : Int32)) 135 dX12_slyRow_133 rfl (by decide) ?_
      refine j_irem 136 dX12_slyRow_135 rfl (by decide) ?_
      refine j_iconst (v := (3 : Int32)) 137 dX12_slyRow_136 rfl (by decide) ?_
      refine j_idiv 138 dX12_slyRow_137 rfl (by decide) ?_
      refine j_iconst (v := (1 : Int32)) 139 dX12_slyRow_138 rfl (by decide) ?_
      refine j_iadd 140 dX12_slyRow_139 rfl ?_
      refine j_goto 147 dX12_slyRow_140 (by decide) ?_
      cases h
      exact j_iret dX12_slyRow_147 rfl
  · replace h := j_pos hc h
    refine j_iload 109 dX12_slyRow_107 rfl 0 rfl ?_
    refine j_bipush (v := (36 : Int32)) 111 dX12_slyRow_109 rfl (by decide) ?_
    refine j_icmp_ge 118 114 dX12_slyRow_111 (by decide) rfl (fun hc => ?_) (fun hc => ?_)
    · replace h := j_pos hc h
      refine j_aload_n 119 dX12_slyRow_118 rfl rfl 1 rfl ?_
      refine j_getI 122 dX12_slyRow_119 rfl (sh_66 hL) cl12 (k := 77) (by decide) flX12_482 rfl ?_
      refine j_goto 147 dX12_slyRow_122 (by decide) ?_
      cases h
      exact j_iret dX12_slyRow_147 rfl
    · replace h := j_neg hc h
      refine j_iload_n 115 dX12_slyRow_114 rfl rfl 2 rfl ?_
      refine j_goto 147 dX12_slyRow_115 (by decide) ?_
      cases h
      exact j_iret dX12_slyRow_147 rfl
def fX12_slyRow_71 : Nat → Int32 → Int32 → Int32 → Int32 → Int32 → JI → Option (Int32 × JI)
  | 0, _, _, _, _, _, _ => none
  | n + 1, l1, l5, l6, l8, l9, I =>
    if l9 ≤ l5 then (fX12_slyRow_93 l1 l6 l8 I) else (j_g (j_in l8 169) ((fX12_slyRow_71 n) l1 l5 l6 (I 115 l8.toNatClampNeg) (l9 + (-1 : Int32)) I))
set_option maxHeartbeats 4000000 in
set_option maxRecDepth 100000 in
theorem kX12_slyRow_71 {E : JE} {r : Int32 × JI} {L : JL} {G : JG} {D : JG} {S : JS} (hL : Lay G S) : ∀ (n : Nat) (l1 : Int32) (l5 : Int32) (l6 : Int32) (l8 : Int32) (l9 : Int32) (I : JI), fX12_slyRow_71 n l1 l5 l6 l8 l9 I = some r → AtJ E xX12_slyRow (Zr E (some (.int r.1)) r.2 L G D S) ((S).length, jm_sl S) 10 71 [(0, .ref (E.1 + 66)), (1, .int l1), (5, .int l5), (6, .int l6), (8, .int l8), (9, .int l9)] [] I L G D S := by
  intro n
  induction n with
  | zero => intro l1 l5 l6 l8 l9 I  h; simp [fX12_slyRow_71] at h
  | succ n ih =>
    intro l1 l5 l6 l8 l9 I  h
    rw [fX12_slyRow_71] at h
    refine j_iload 73 dX12_slyRow_71 rfl 5 rfl ?_
    refine j_iload 75 dX12_slyRow_73 rfl 2 rfl ?_
    refine j_icmp_le 93 78 dX12_slyRow_75 (by decide) rfl (fun hc => ?_) (fun hc => ?_)
    · replace h := j_pos hc h
      refine j_sub [0, 1, 3, 4] rfl ?_
      exact kX12_slyRow_93 hL    _ _ _ _  h
    · replace h := j_neg hc h
      refine j_aload_n 79 dX12_slyRow_78 rfl rfl 0 rfl ?_
      refine j_getG 82 dX12_slyRow_79 rfl (sh_66 hL) cl12 (k := 72) (by decide) flX12_155 rfl (gs_66_72 hL) ?_
      refine j_iload 84 dX12_slyRow_82 rfl 4 rfl ?_
      obtain ⟨hg, h⟩ := j_gs h
      refine j_iald 85 dX12_slyRow_84 rfl (sh_115 hL) (j_inv hg) ?_
      refine j_istore (lv' := [(8, .int (I 115 l8.toNatClampNeg)), (0, .ref (E.1 + 66)), (1, .int l1), (5, .int l5), (6, .int l6), (9, .int l9)]) 87 dX12_slyRow_85 rfl (by decide) rfl ?_
      refine j_iinc (v := (l9 + (-1 : Int32))) (lv' := [(9, .int (l9 + (-1 : Int32))), (8, .int (I 115 l8.toNatClampNeg)), (0, .ref (E.1 + 66)), (1, .int l1), (5, .int l5), (6, .int l6)]) (q := 5) 90 dX12_slyRow_87 rfl rfl rfl (by decide) rfl ?_
      refine j_goto 71 dX12_slyRow_90 (by decide) ?_
      refine j_sub [2, 3, 4, 5, 1, 0] rfl ?_
      exact ih _ _ _ _ _ _  h
def fX12_slyRow (l1 : Int32) (l2 : Int32) (l3 : Int32) (l4 : Int32) (l5 : Int32) (l6 : Int32) (I : JI) : Option (Int32 × JI) :=
  (fX12_isSly l1 l2 l3 l4 (j_up I 66 0 (0 : Int32))).bind (fun q1 => if q1 = 0 then (some ((-1 : Int32), (j_up I 66 0 (0 : Int32)))) else ((fX12_within l6 (0 : Int32) (2 : Int32)).bind (fun q2 => if q2 = 0 then (some ((-1 : Int32), (j_up I 66 0 (0 : Int32)))) else ((fX12_seeks l1 l2 l3 l4 (j_up (j_up I 66 0 (0 : Int32)) 66 50 (0 : Int32))).bind (fun q3 => if l5 < 0 then (some ((-1 : Int32), q3.2)) else (if l5 < q3.1 then (fX12_slyRow_71 100000 l1 l5 l6 (q3.2 66 76) (q3.1 - (1 : Int32)) q3.2) else (some ((-1 : Int32), q3.2))))))))
set_option maxHeartbeats 4000000 in
set_option maxRecDepth 100000 in
theorem tcX12_slyRow {E : JE} {l1 : Int32} {l2 : Int32} {l3 : Int32} {l4 : Int32} {l5 : Int32} {l6 : Int32} {r : Int32 × JI} {I : JI} {L : JL} {G D : JG} {S : JS} (hL : Lay G S) (h : fX12_slyRow l1 l2 l3 l4 l5 l6 I = some r) : CallJ E xX12_slyRow 10 [.ref (E.1 + 66), .int l1, .int l2, .int l3, .int l4, .int l5, .int l6] I L G D S (some (.int r.1)) r.2 L G D S := by
  unfold fX12_slyRow at h
  refine j_entry (by decide) (Nat.le_of_ble_eq_true rfl) ?_
  show AtJ E xX12_slyRow (Zr E (some (.int r.1)) r.2 L G D S) ((S).length, jm_sl S) 10 0 [(0, .ref (E.1 + 66)), (1, .int l1), (2, .int l2), (3, .int l3), (4, .int l4), (5, .int l5), (6, .int l6)] [] I L G D S
  refine j_aload_n 1 dX12_slyRow_0 rfl rfl 0 rfl ?_
  refine j_iconst (v := (0 : Int32)) 2 dX12_slyRow_1 rfl (by decide) ?_
  refine j_putI 5 dX12_slyRow_2 rfl (sh_66 hL) cl12 (k := 0) (by decide) flX12_218 rfl rfl rfl ?_
  refine j_aload_n 6 dX12_slyRow_5 rfl rfl 0 rfl ?_
  refine j_iload_n 7 dX12_slyRow_6 rfl rfl 1 rfl ?_
  refine j_iload_n 8 dX12_slyRow_7 rfl rfl 2 rfl ?_
  refine j_iload_n 9 dX12_slyRow_8 rfl rfl 3 rfl ?_
  refine j_iload 11 dX12_slyRow_9 rfl 4 rfl ?_
  obtain ⟨q1, hq1, h⟩ := j_bs h
  refine j_callV (rest := []) (As := [.int l1, .int l2, .int l3, .int l4]) 14 dX12_slyRow_11 rfl jyX12_isSly (tcX12_isSly hL  hq1) (sh_66 hL) cl12 flX12_502 wm1966 wm74 (by decide) rfl rfl (Nat.le_of_ble_eq_true rfl) ?_
  refine j_if_eq 27 17 dX12_slyRow_14 (by decide) rfl (fun hc => ?_) (fun hc => ?_)
  · replace h := j_pos hc h
    refine j_iconst (v := (-1 : Int32)) 28 dX12_slyRow_27 rfl (by decide) ?_
    cases h
    exact j_iret dX12_slyRow_28 rfl
  · replace h := j_neg hc h
    refine j_iload 19 dX12_slyRow_17 rfl 6 rfl ?_
    refine j_iconst (v := (0 : Int32)) 20 dX12_slyRow_19 rfl (by decide) ?_
    refine j_iconst (v := (2 : Int32)) 21 dX12_slyRow_20 rfl (by decide) ?_
    obtain ⟨q2, hq2, h⟩ := j_bs h
    refine j_callS (rest := []) (As := [.int l6, .int (0 : Int32), .int (2 : Int32)]) 24 dX12_slyRow_21 rfl jyX12_within (tcX12_within   hq2) flX12_222 wm1697 (by decide) rfl rfl (Nat.le_of_ble_eq_true rfl) ?_
    refine j_if_ne 29 27 dX12_slyRow_24 (by decide) rfl (fun hc => ?_) (fun hc => ?_)
    · replace h := j_neg hc h
      refine j_aload_n 30 dX12_slyRow_29 rfl rfl 0 rfl ?_
      refine j_iconst (v := (0 : Int32)) 31 dX12_slyRow_30 rfl (by decide) ?_
      refine j_putI 34 dX12_slyRow_31 rfl (sh_66 hL) cl12 (k := 50) (by decide) flX12_434 rfl rfl rfl ?_
      refine j_aload_n 35 dX12_slyRow_34 rfl rfl 0 rfl ?_
      refine j_iload_n 36 dX12_slyRow_35 rfl rfl 1 rfl ?_
      refine j_iload_n 37 dX12_slyRow_36 rfl rfl 2 rfl ?_
      refine j_iload_n 38 dX12_slyRow_37 rfl rfl 3 rfl ?_
      refine j_iload 40 dX12_slyRow_38 rfl 4 rfl ?_
      obtain ⟨q3, hq3, h⟩ := j_bs h
      refine j_callV (rest := []) (As := [.int l1, .int l2, .int l3, .int l4]) 43 dX12_slyRow_40 rfl jyX12_seeks (tcX12_seeks hL  hq3) (sh_66 hL) cl12 flX12_506 wm1970 wm75 (by decide) rfl rfl (Nat.le_of_ble_eq_true rfl) ?_
      refine j_istore (lv' := [(7, .int q3.1), (0, .ref (E.1 + 66)), (1, .int l1), (2, .int l2), (3, .int l3), (4, .int l4), (5, .int l5), (6, .int l6)]) 45 dX12_slyRow_43 rfl (by decide) rfl ?_
      refine j_iload 47 dX12_slyRow_45 rfl 6 rfl ?_
      refine j_if_lt 57 50 dX12_slyRow_47 (by decide) rfl (fun hc => ?_) (fun hc => ?_)
      · replace h := j_pos hc h
        refine j_iconst (v := (-1 : Int32)) 58 dX12_slyRow_57 rfl (by decide) ?_
        cases h
        exact j_iret dX12_slyRow_58 rfl
      · replace h := j_neg hc h
        refine j_iload 52 dX12_slyRow_50 rfl 6 rfl ?_
        refine j_iload 54 dX12_slyRow_52 rfl 0 rfl ?_
        refine j_icmp_lt 59 57 dX12_slyRow_54 (by decide) rfl (fun hc => ?_) (fun hc => ?_)
        · replace h := j_pos hc h
          refine j_aload_n 60 dX12_slyRow_59 rfl rfl 1 rfl ?_
          refine j_getI 63 dX12_slyRow_60 rfl (sh_66 hL) cl12 (k := 76) (by decide) flX12_492 rfl ?_
          refine j_istore (lv' := [(8, .int (q3.2 66 76)), (7, .int q3.1), (0, .ref (E.1 + 66)), (1, .int l1), (2, .int l2), (3, .int l3), (4, .int l4), (5, .int l5), (6, .int l6)]) 65 dX12_slyRow_63 rfl (by decide) rfl ?_
          refine j_iload 67 dX12_slyRow_65 rfl 1 rfl ?_
          refine j_iconst (v := (1 : Int32)) 68 dX12_slyRow_67 rfl (by decide) ?_
          refine j_isub 69 dX12_slyRow_68 rfl ?_
          refine j_istore (lv' := [(9, .int (q3.1 - (1 : Int32))), (8, .int (q3.2 66 76)), (7, .int q3.1), (0, .ref (E.1 + 66)), (1, .int l1), (2, .int l2), (3, .int l3), (4, .int l4), (5, .int l5), (6, .int l6)]) 71 dX12_slyRow_69 rfl (by decide) rfl ?_
          refine j_sub [3, 4, 8, 9, 1, 0] rfl ?_
          exact kX12_slyRow_71 hL    100000 _ _ _ _ _ _  h
        · replace h := j_neg hc h
          refine j_iconst (v := (-1 : Int32)) 58 dX12_slyRow_57 rfl (by decide) ?_
          cases h
          exact j_iret dX12_slyRow_58 rfl
    · replace h := j_pos hc h
      refine j_iconst (v := (-1 : Int32)) 28 dX12_slyRow_27 rfl (by decide) ?_
      cases h
      exact j_iret dX12_slyRow_28 rfl
def fX12_bits_4 : Nat → Int32 → Int32 → Int32 → Option (Int32)
  | 0, _, _, _ => none
  | n + 1, l0, l1, l2 =>
    if (12 : Int32) ≤ l2 then (some (l1)) else ((fX12_bits_4 n) l0 (l1 + ((l0 >>> (l2 &&& 31)) &&& (1 : Int32))) (l2 + (1 : Int32)))
set_option maxHeartbeats 4000000 in
set_option maxRecDepth 100000 in
theorem kX12_bits_4 {E : JE} {r : Int32} {I : JI} {L : JL} {G : JG} {D : JG} {S : JS}  : ∀ (n : Nat) (l0 : Int32) (l1 : Int32) (l2 : Int32) , fX12_bits_4 n l0 l1 l2 = some r → AtJ E xX12_bits (Zr E (some (.int r)) I L G D S) ((S).length, jm_sl S) 1 4 [(0, .int l0), (1, .int l1), (2, .int l2)] [] I L G D S := by
  intro n
  induction n with
  | zero => intro l0 l1 l2  h; simp [fX12_bits_4] at h
  | succ n ih =>
    intro l0 l1 l2  h
    rw [fX12_bits_4] at h
    refine j_iload_n 5 dX12_bits_4 rfl rfl 2 rfl ?_
    refine j_bipush (v := (12 : Int32)) 7 dX12_bits_5 rfl (by decide) ?_
    refine j_icmp_ge 24 10 dX12_bits_7 (by decide) rfl (fun hc => ?_) (fun hc => ?_)
    · replace h := j_pos hc h
      refine j_iload_n 25 dX12_bits_24 rfl rfl 1 rfl ?_
      cases h
      exact j_iret dX12_bits_25 rfl
    · replace h := j_neg hc h
      refine j_iload_n 11 dX12_bits_10 rfl rfl 1 rfl ?_
      refine j_iload_n 12 dX12_bits_11 rfl rfl 0 rfl ?_
      refine j_iload_n 13 dX12_bits_12 rfl rfl 2 rfl ?_
      refine j_ishr 14 dX12_bits_13 rfl ?_
      refine j_iconst (v := (1 : Int32)) 15 dX12_bits_14 rfl (by decide) ?_
      refine j_iand 16 dX12_bits_15 rfl ?_
      refine j_iadd 17 dX12_bits_16 rfl ?_
      refine j_istore_n (lv' := [(1, .int (l1 + ((l0 >>> (l2 &&& 31)) &&& (1 : Int32)))), (0, .int l0), (2, .int l2)]) 18 dX12_bits_17 rfl rfl (by decide) rfl ?_
      refine j_iinc (v := (l2 + (1 : Int32))) (lv' := [(2, .int (l2 + (1 : Int32))), (1, .int (l1 + ((l0 >>> (l2 &&& 31)) &&& (1 : Int32)))), (0, .int l0)]) (q := 2) 21 dX12_bits_18 rfl rfl rfl (by decide) rfl ?_
      refine j_goto 4 dX12_bits_21 (by decide) ?_
      refine j_sub [2, 1, 0] rfl ?_
      exact ih _ _ _  h
def fX12_bits (l0 : Int32)  : Option (Int32) :=
  fX12_bits_4 100000 l0 (0 : Int32) (0 : Int32)
set_option maxHeartbeats 4000000 in
set_option maxRecDepth 100000 in
theorem tcX12_bits {E : JE} {l0 : Int32} {r : Int32} {I : JI} {L : JL} {G D : JG} {S : JS} (h : fX12_bits l0 = some r) : CallJ E xX12_bits 1 [.int l0] I L G D S (some (.int r)) I L G D S := by
  unfold fX12_bits at h
  refine j_entry (by decide) (Nat.le_of_ble_eq_true rfl) ?_
  show AtJ E xX12_bits (Zr E (some (.int r)) I L G D S) ((S).length, jm_sl S) 1 0 [(0, .int l0)] [] I L G D S
  refine j_iconst (v := (0 : Int32)) 1 dX12_bits_0 rfl (by decide) ?_
  refine j_istore_n (lv' := [(1, .int (0 : Int32)), (0, .int l0)]) 2 dX12_bits_1 rfl rfl (by decide) rfl ?_
  refine j_iconst (v := (0 : Int32)) 3 dX12_bits_2 rfl (by decide) ?_
  refine j_istore_n (lv' := [(2, .int (0 : Int32)), (1, .int (0 : Int32)), (0, .int l0)]) 4 dX12_bits_3 rfl rfl (by decide) rfl ?_
  refine j_sub [2, 1, 0] rfl ?_
  exact kX12_bits_4     100000 _ _ _  h
def fX12_holderOf_2 : Nat → Int32 → Int32 → JI → Option (Int32)
  | 0, _, _, _ => none
  | n + 1, l1, l2, I =>
    if (16 : Int32) ≤ l2 then (some ((-1 : Int32))) else (j_g (j_in (((16 : Int32) * l1) + l2) 192) (if (I 68 (((16 : Int32) * l1) + l2).toNatClampNeg) = (12 : Int32) then (some (l2)) else ((fX12_holderOf_2 n) l1 (l2 + (1 : Int32)) I)))
set_option maxHeartbeats 4000000 in
set_option maxRecDepth 100000 in
theorem kX12_holderOf_2 {E : JE} {r : Int32} {L : JL} {G : JG} {D : JG} {S : JS} (hL : Lay G S) : ∀ (n : Nat) (l1 : Int32) (l2 : Int32) (I : JI), fX12_holderOf_2 n l1 l2 I = some r → AtJ E xX12_holderOf (Zr E (some (.int r)) I L G D S) ((S).length, jm_sl S) 1 2 [(0, .ref (E.1 + 66)), (1, .int l1), (2, .int l2)] [] I L G D S := by
  intro n
  induction n with
  | zero => intro l1 l2 I  h; simp [fX12_holderOf_2] at h
  | succ n ih =>
    intro l1 l2 I  h
    rw [fX12_holderOf_2] at h
    refine j_iload_n 3 dX12_holderOf_2 rfl rfl 2 rfl ?_
    refine j_bipush (v := (16 : Int32)) 5 dX12_holderOf_3 rfl (by decide) ?_
    refine j_icmp_ge 32 8 dX12_holderOf_5 (by decide) rfl (fun hc => ?_) (fun hc => ?_)
    · replace h := j_pos hc h
      refine j_iconst (v := (-1 : Int32)) 33 dX12_holderOf_32 rfl (by decide) ?_
      cases h
      exact j_iret dX12_holderOf_33 rfl
    · replace h := j_neg hc h
      refine j_aload_n 9 dX12_holderOf_8 rfl rfl 0 rfl ?_
      refine j_getG 12 dX12_holderOf_9 rfl (sh_66 hL) cl12 (k := 2) (by decide) flX12_13 rfl (gs_66_2 hL) ?_
      refine j_bipush (v := (16 : Int32)) 14 dX12_holderOf_12 rfl (by decide) ?_
      refine j_iload_n 15 dX12_holderOf_14 rfl rfl 1 rfl ?_
      refine j_imul 16 dX12_holderOf_15 rfl ?_
      refine j_iload_n 17 dX12_holderOf_16 rfl rfl 2 rfl ?_
      refine j_iadd 18 dX12_holderOf_17 rfl ?_
      obtain ⟨hg, h⟩ := j_gs h
      refine j_iald 19 dX12_holderOf_18 rfl (sh_68 hL) (j_inv hg) ?_
      refine j_bipush (v := (12 : Int32)) 21 dX12_holderOf_19 rfl (by decide) ?_
      refine j_icmp_ne 26 24 dX12_holderOf_21 (by decide) rfl (fun hc => ?_) (fun hc => ?_)
      · replace h := j_neg hc h
        refine j_iinc (v := (l2 + (1 : Int32))) (lv' := [(2, .int (l2 + (1 : Int32))), (0, .ref (E.1 + 66)), (1, .int l1)]) (q := 2) 29 dX12_holderOf_26 rfl rfl rfl (by decide) rfl ?_
        refine j_goto 2 dX12_holderOf_29 (by decide) ?_
        refine j_sub [1, 2, 0] rfl ?_
        exact ih _ _ _  h
      · replace h := j_pos hc h
        refine j_iload_n 25 dX12_holderOf_24 rfl rfl 2 rfl ?_
        cases h
        exact j_iret dX12_holderOf_25 rfl
def fX12_holderOf (l1 : Int32) (I : JI) : Option (Int32) :=
  fX12_holderOf_2 100000 l1 (0 : Int32) I
set_option maxHeartbeats 4000000 in
set_option maxRecDepth 100000 in
theorem tcX12_holderOf {E : JE} {l1 : Int32} {r : Int32} {I : JI} {L : JL} {G D : JG} {S : JS} (hL : Lay G S) (h : fX12_holderOf l1 I = some r) : CallJ E xX12_holderOf 1 [.ref (E.1 + 66), .int l1] I L G D S (some (.int r)) I L G D S := by
  unfold fX12_holderOf at h
  refine j_entry (by decide) (Nat.le_of_ble_eq_true rfl) ?_
  show AtJ E xX12_holderOf (Zr E (some (.int r)) I L G D S) ((S).length, jm_sl S) 1 0 [(0, .ref (E.1 + 66)), (1, .int l1)] [] I L G D S
  refine j_iconst (v := (0 : Int32)) 1 dX12_holderOf_0 rfl (by decide) ?_
  refine j_istore_n (lv' := [(2, .int (0 : Int32)), (0, .ref (E.1 + 66)), (1, .int l1)]) 2 dX12_holderOf_1 rfl rfl (by decide) rfl ?_
  refine j_sub [1, 2, 0] rfl ?_
  exact kX12_holderOf_2 hL    100000 _ _ _  h
def fX12_whoCares_4 : Nat → Int32 → Int32 → JI → Option (Int32)
  | 0, _, _, _ => none
  | n + 1, l1, l2, I =>
    if (16 : Int32) ≤ l2 then (some (l1)) else (j_g (j_in l2 16) (if (jm_b01 (I 73 l2.toNatClampNeg)) = 0 then ((fX12_whoCares_4 n) (l1 ||| (0 : Int32)) (l2 + (1 : Int32)) I) else ((fX12_whoCares_4 n) (l1 ||| ((1 : Int32) <<< (l2 &&& 31))) (l2 + (1 : Int32)) I)))
set_option maxHeartbeats 4000000 in
set_option maxRecDepth 100000 in
theorem kX12_whoCares_4 {E : JE} {r : Int32} {L : JL} {G : JG} {D : JG} {S : JS} (hL : Lay G S) : ∀ (n : Nat) (l1 : Int32) (l2 : Int32) (I : JI), fX12_whoCares_4 n l1 l2 I = some r → AtJ E xX12_whoCares (Zr E (some (.int r)) I L G D S) ((S).length, jm_sl S) 1 4 [(0, .ref (E.1 + 66)), (1, .int l1), (2, .int l2)] [] I L G D S := by
  intro n
  induction n with
  | zero => intro l1 l2 I  h; simp [fX12_whoCares_4] at h
  | succ n ih =>
    intro l1 l2 I  h
    rw [fX12_whoCares_4] at h
    refine j_iload_n 5 dX12_whoCares_4 rfl rfl 2 rfl ?_
    refine j_bipush (v := (16 : Int32)) 7 dX12_whoCares_5 rfl (by decide) ?_
    refine j_icmp_ge 35 10 dX12_whoCares_7 (by decide) rfl (fun hc => ?_) (fun hc => ?_)
    · replace h := j_pos hc h
      refine j_iload_n 36 dX12_whoCares_35 rfl rfl 1 rfl ?_
      cases h
      exact j_iret dX12_whoCares_36 rfl
    · replace h := j_neg hc h
      refine j_iload_n 11 dX12_whoCares_10 rfl rfl 1 rfl ?_
      refine j_aload_n 12 dX12_whoCares_11 rfl rfl 0 rfl ?_
      refine j_getG 15 dX12_whoCares_12 rfl (sh_66 hL) cl12 (k := 7) (by decide) flX12_29 rfl (gs_66_7 hL) ?_
      refine j_iload_n 16 dX12_whoCares_15 rfl rfl 2 rfl ?_
      obtain ⟨hg, h⟩ := j_gs h
      refine j_zald 17 dX12_whoCares_16 rfl (sh_73 hL) (j_inv hg) ?_
      refine j_if_eq 26 20 dX12_whoCares_17 (by decide) rfl (fun hc => ?_) (fun hc => ?_)
      · replace h := j_pos hc h
        refine j_iconst (v := (0 : Int32)) 27 dX12_whoCares_26 rfl (by decide) ?_
        refine j_ior 28 dX12_whoCares_27 rfl ?_
        refine j_istore_n (lv' := [(1, .int (l1 ||| (0 : Int32))), (0, .ref (E.1 + 66)), (2, .int l2)]) 29 dX12_whoCares_28 rfl rfl (by decide) rfl ?_
        refine j_iinc (v := (l2 + (1 : Int32))) (lv' := [(2, .int (l2 + (1 : Int32))), (1, .int (l1 ||| (0 : Int32))), (0, .ref (E.1 + 66))]) (q := 2) 32 dX12_whoCares_29 rfl rfl rfl (by decide) rfl ?_
        refine j_goto 4 dX12_whoCares_32 (by decide) ?_
        refine j_sub [2, 1, 0] rfl ?_
        exact ih _ _ _  h
      · replace h := j_neg hc h
        refine j_iconst (v := (1 : Int32)) 21 dX12_whoCares_20 rfl (by decide) ?_
        refine j_iload_n 22 dX12_whoCares_21 rfl rfl 2 rfl ?_
        refine j_ishl 23 dX12_whoCares_22 rfl ?_
        refine j_goto 27 dX12_whoCares_23 (by decide) ?_
        refine j_ior 28 dX12_whoCares_27 rfl ?_
        refine j_istore_n (lv' := [(1, .int (l1 ||| ((1 : Int32) <<< (l2 &&& 31)))), (0, .ref (E.1 + 66)), (2, .int l2)]) 29 dX12_whoCares_28 rfl rfl (by decide) rfl ?_
        refine j_iinc (v := (l2 + (1 : Int32))) (lv' := [(2, .int (l2 + (1 : Int32))), (1, .int (l1 ||| ((1 : Int32) <<< (l2 &&& 31)))), (0, .ref (E.1 + 66))]) (q := 2) 32 dX12_whoCares_29 rfl rfl rfl (by decide) rfl ?_
        refine j_goto 4 dX12_whoCares_32 (by decide) ?_
        refine j_sub [2, 1, 0] rfl ?_
        exact ih _ _ _  h
def fX12_whoCares (I : JI) : Option (Int32) :=
  fX12_whoCares_4 100000 (0 : Int32) (0 : Int32) I
set_option maxHeartbeats 4000000 in
set_option maxRecDepth 100000 in
theorem tcX12_whoCares {E : JE} {r : Int32} {I : JI} {L : JL} {G D : JG} {S : JS} (hL : Lay G S) (h : fX12_whoCares I = some r) : CallJ E xX12_whoCares 1 [.ref (E.1 + 66)] I L G D S (some (.int r)) I L G D S := by
  unfold fX12_whoCares at h
  refine j_entry (by decide) (Nat.le_of_ble_eq_true rfl) ?_
  show AtJ E xX12_whoCares (Zr E (some (.int r)) I L G D S) ((S).length, jm_sl S) 1 0 [(0, .ref (E.1 + 66))] [] I L G D S
  refine j_iconst (v := (0 : Int32)) 1 dX12_whoCares_0 rfl (by decide) ?_
  refine j_istore_n (lv' := [(1, .int (0 : Int32)), (0, .ref (E.1 + 66))]) 2 dX12_whoCares_1 rfl rfl (by decide) rfl ?_
  refine j_iconst (v := (0 : Int32)) 3 dX12_whoCares_2 rfl (by decide) ?_
  refine j_istore_n (lv' := [(2, .int (0 : Int32)), (1, .int (0 : Int32)), (0, .ref (E.1 + 66))]) 4 dX12_whoCares_3 rfl rfl (by decide) rfl ?_
  refine j_sub [2, 1, 0] rfl ?_
  exact kX12_whoCares_4 hL    100000 _ _ _  h
def fX12_isGot_23 (k3 : Int32 → Int32 → Int32 → Int32 → Int32 → JI → Option (Int32 × JI)) (l1 : Int32) (l2 : Int32) (l3 : Int32) (l4 : Int32) (l5 : Int32) (s0 : Int32) (I : JI) : Option (Int32 × JI) :=
  j_g (j_in l1 12) ((fX12_lays l1 (I 120 l1.toNatClampNeg) l2 (12 : Int32) l5 s0 s0 I).bind (fun q1 => (fX12_comers q1).bind (fun q2 => if (q2.1 &&& l4) = 0 then (some ((1 : Int32), q2.2)) else (k3 l1 l2 l3 l4 (l5 + (1 : Int32)) q2.2))))
set_option maxHeartbeats 4000000 in
set_option maxRecDepth 100000 in
theorem kX12_isGot_23 {E : JE} {k3 : Int32 → Int32 → Int32 → Int32 → Int32 → JI → Option (Int32 × JI)} {r : Int32 × JI} {L : JL} {G : JG} {D : JG} {S : JS} (hL : Lay G S) (H3 : ∀ (l1 : Int32) (l2 : Int32) (l3 : Int32) (l4 : Int32) (l5 : Int32) (I : JI), k3 l1 l2 l3 l4 l5 I = some r → AtJ E xX12_isGot (Zr E (some (.int r.1)) r.2 L G D S) ((S).length, jm_sl S) 7 3 [(0, .ref (E.1 + 66)), (1, .int l1), (2, .int l2), (3, .int l3), (4, .int l4), (5, .int l5)] [] I L G D S) : ∀ (l1 : Int32) (l2 : Int32) (l3 : Int32) (l4 : Int32) (l5 : Int32) (s0 : Int32) (I : JI), fX12_isGot_23 k3 l1 l2 l3 l4 l5 s0 I = some r → AtJ E xX12_isGot (Zr E (some (.int r.1)) r.2 L G D S) ((S).length, jm_sl S) 7 23 [(0, .ref (E.1 + 66)), (1, .int l1), (2, .int l2), (3, .int l3), (4, .int l4), (5, .int l5)] [.int s0] I L G D S := by
  intro l1 l2 l3 l4 l5 s0 I  h
  unfold fX12_isGot_23 at h
  refine j_istore (lv' := [(6, .int s0), (0, .ref (E.1 + 66)), (1, .int l1), (2, .int l2), (3, .int l3), (4, .int l4), (5, .int l5)]) 25 dX12_isGot_23 rfl (by decide) rfl ?_
  refine j_aload_n 26 dX12_isGot_25 rfl rfl 1 rfl ?_
  refine j_iload_n 27 dX12_isGot_26 rfl rfl 2 rfl ?_
  refine j_aload_n 28 dX12_isGot_27 rfl rfl 1 rfl ?_
  refine j_getG 31 dX12_isGot_28 rfl (sh_66 hL) cl12 (k := 80) (by decide) flX12_170 rfl (gs_66_80 hL) ?_
  refine j_iload_n 32 dX12_isGot_31 rfl rfl 2 rfl ?_
  obtain ⟨hg, h⟩ := j_gs h
  refine j_iald 33 dX12_isGot_32 rfl (sh_120 hL) (j_inv hg) ?_
  refine j_iload_n 34 dX12_isGot_33 rfl rfl 3 rfl ?_
  refine j_bipush (v := (12 : Int32)) 36 dX12_isGot_34 rfl (by decide) ?_
  refine j_iload 38 dX12_isGot_36 rfl 6 rfl ?_
  refine j_iload 40 dX12_isGot_38 rfl 0 rfl ?_
  refine j_iload 42 dX12_isGot_40 rfl 0 rfl ?_
  obtain ⟨q1, hq1, h⟩ := j_bs h
  refine j_callV (rest := []) (As := [.int l1, .int (I 120 l1.toNatClampNeg), .int l2, .int (12 : Int32), .int l5, .int s0, .int s0]) 45 dX12_isGot_42 rfl jyX12_lays (tcX12_lays hL  hq1) (sh_66 hL) cl12 flX12_463 wm1858 wm58 (by decide) rfl rfl (Nat.le_of_ble_eq_true rfl) ?_
  refine j_aload_n 46 dX12_isGot_45 rfl rfl 1 rfl ?_
  obtain ⟨q2, hq2, h⟩ := j_bs h
  refine j_callV (rest := []) (As := []) 49 dX12_isGot_46 rfl jyX12_comers (tcX12_comers hL  hq2) (sh_66 hL) cl12 flX12_467 wm1906 wm69 (by decide) rfl rfl (Nat.le_of_ble_eq_true rfl) ?_
  refine j_iload 51 dX12_isGot_49 rfl 5 rfl ?_
  refine j_iand 52 dX12_isGot_51 rfl ?_
  refine j_if_ne 57 55 dX12_isGot_52 (by decide) rfl (fun hc => ?_) (fun hc => ?_)
  · replace h := j_neg hc h
    refine j_iinc (v := (l5 + (1 : Int32))) (lv' := [(5, .int (l5 + (1 : Int32))), (6, .int s0), (0, .ref (E.1 + 66)), (1, .int l1), (2, .int l2), (3, .int l3), (4, .int l4)]) (q := 6) 60 dX12_isGot_57 rfl rfl rfl (by decide) rfl ?_
    refine j_goto 3 dX12_isGot_60 (by decide) ?_
    refine j_sub [2, 3, 4, 5, 6, 0] rfl ?_
    exact H3 _ _ _ _ _ _  h
  · replace h := j_pos hc h
    refine j_iconst (v := (1 : Int32)) 56 dX12_isGot_55 rfl (by decide) ?_
    cases h
    exact j_zret dX12_isGot_56 rfl j_b01_1
def fX12_isGot_3 : Nat → Int32 → Int32 → Int32 → Int32 → Int32 → JI → Option (Int32 × JI)
  | 0, _, _, _, _, _, _ => none
  | n + 1, l1, l2, l3, l4, l5, I =>
    if (3 : Int32) ≤ l5 then (some ((0 : Int32), I)) else (if l5 = (1 : Int32) then (fX12_isGot_23 (fX12_isGot_3 n) l1 l2 l3 l4 l5 (0 : Int32) I) else (fX12_isGot_23 (fX12_isGot_3 n) l1 l2 l3 l4 l5 ((12 : Int32) * l3) I))
set_option maxHeartbeats 4000000 in
set_option maxRecDepth 100000 in
theorem kX12_isGot_3 {E : JE} {r : Int32 × JI} {L : JL} {G : JG} {D : JG} {S : JS} (hL : Lay G S) : ∀ (n : Nat) (l1 : Int32) (l2 : Int32) (l3 : Int32) (l4 : Int32) (l5 : Int32) (I : JI), fX12_isGot_3 n l1 l2 l3 l4 l5 I = some r → AtJ E xX12_isGot (Zr E (some (.int r.1)) r.2 L G D S) ((S).length, jm_sl S) 7 3 [(0, .ref (E.1 + 66)), (1, .int l1), (2, .int l2), (3, .int l3), (4, .int l4), (5, .int l5)] [] I L G D S := by
  intro n
  induction n with
  | zero => intro l1 l2 l3 l4 l5 I  h; simp [fX12_isGot_3] at h
  | succ n ih =>
    intro l1 l2 l3 l4 l5 I  h
    rw [fX12_isGot_3] at h
    refine j_iload 5 dX12_isGot_3 rfl 5 rfl ?_
    refine j_iconst (v := (3 : Int32)) 6 dX12_isGot_5 rfl (by decide) ?_
    refine j_icmp_ge 63 9 dX12_isGot_6 (by decide) rfl (fun hc => ?_) (fun hc => ?_)
    · replace h := j_pos hc h
      refine j_iconst (v := (0 : Int32)) 64 dX12_isGot_63 rfl (by decide) ?_
      cases h
      exact j_zret dX12_isGot_64 rfl j_b01_0
    · replace h := j_neg hc h
      refine j_iload 11 dX12_isGot_9 rfl 5 rfl ?_
      refine j_iconst (v := (1 : Int32)) 12 dX12_isGot_11 rfl (by decide) ?_
      refine j_icmp_ne 19 15 dX12_isGot_12 (by decide) rfl (fun hc => ?_) (fun hc => ?_)
      · replace h := j_neg hc h
        refine j_bipush (v := (12 : Int32)) 21 dX12_isGot_19 rfl (by decide) ?_
        refine j_iload_n 22 dX12_isGot_21 rfl rfl 3 rfl ?_
        refine j_imul 23 dX12_isGot_22 rfl ?_
        exact kX12_isGot_23 hL   ih _ _ _ _ _ _ _  h
      · replace h := j_pos hc h
        refine j_iconst (v := (0 : Int32)) 16 dX12_isGot_15 rfl (by decide) ?_
        refine j_goto 23 dX12_isGot_16 (by decide) ?_
        exact kX12_isGot_23 hL   ih _ _ _ _ _ _ _  h
def fX12_isGot (l1 : Int32) (l2 : Int32) (l3 : Int32) (l4 : Int32) (I : JI) : Option (Int32 × JI) :=
  fX12_isGot_3 100000 l1 l2 l3 l4 (0 : Int32) I
set_option maxHeartbeats 4000000 in
set_option maxRecDepth 100000 in
theorem tcX12_isGot {E : JE} {l1 : Int32} {l2 : Int32} {l3 : Int32} {l4 : Int32} {r : Int32 × JI} {I : JI} {L : JL} {G D : JG} {S : JS} (hL : Lay G S) (h : fX12_isGot l1 l2 l3 l4 I = some r) : CallJ E xX12_isGot 7 [.ref (E.1 + 66), .int l1, .int l2, .int l3, .int l4] I L G D S (some (.int r.1)) r.2 L G D S := by
  unfold fX12_isGot at h
  refine j_entry (by decide) (Nat.le_of_ble_eq_true rfl) ?_
  show AtJ E xX12_isGot (Zr E (some (.int r.1)) r.2 L G D S) ((S).length, jm_sl S) 7 0 [(0, .ref (E.1 + 66)), (1, .int l1), (2, .int l2), (3, .int l3), (4, .int l4)] [] I L G D S
  refine j_iconst (v := (0 : Int32)) 1 dX12_isGot_0 rfl (by decide) ?_
  refine j_istore (lv' := [(5, .int (0 : Int32)), (0, .ref (E.1 + 66)), (1, .int l1), (2, .int l2), (3, .int l3), (4, .int l4)]) 3 dX12_isGot_1 rfl (by decide) rfl ?_
  refine j_sub [1, 2, 3, 4, 5, 0] rfl ?_
  exact kX12_isGot_3 hL    100000 _ _ _ _ _ _  h
def fX12_goesFar_322 (k94 : Int32 → Int32 → Int32 → Int32 → Int32 → Int32 → JI → Option (Int32 × JI)) (l1 : Int32) (l2 : Int32) (l3 : Int32) (l4 : Int32) (l5 : Int32) (l6 : Int32) (I : JI) : Option (Int32 × JI) :=
  k94 l1 l2 l3 l4 l5 (l6 + (1 : Int32)) I
set_option maxHeartbeats 4000000 in
set_option maxRecDepth 100000 in
theorem kX12_goesFar_322 {E : JE} {k94 : Int32 → Int32 → Int32 → Int32 → Int32 → Int32 → JI → Option (Int32 × JI)} {r : Int32 × JI} {L : JL} {G : JG} {D : JG} {S : JS} (hL : Lay G S) (H94 : ∀ (l1 : Int32) (l2 : Int32) (l3 : Int32) (l4 : Int32) (l5 : Int32) (l6 : Int32) (I : JI), k94 l1 l2 l3 l4 l5 l6 I = some r → AtJ E xX12_goesFar (Zr E (some (.int r.1)) r.2 L G D S) ((S).length, jm_sl S) 8 94 [(0, .ref (E.1 + 66)), (1, .int l1), (2, .int l2), (3, .int l3), (4, .int l4), (5, .int l5), (6, .int l6)] [] I L G D S) : ∀ (l1 : Int32) (l2 : Int32) (l3 : Int32) (l4 : Int32) (l5 : Int32) (l6 : Int32) (I : JI), fX12_goesFar_322 k94 l1 l2 l3 l4 l5 l6 I = some r → AtJ E xX12_goesFar (Zr E (some (.int r.1)) r.2 L G D S) ((S).length, jm_sl S) 8 322 [(0, .ref (E.1 + 66)), (1, .int l1), (2, .int l2), (3, .int l3), (4, .int l4), (5, .int l5), (6, .int l6)] [] I L G D S := by
  intro l1 l2 l3 l4 l5 l6 I  h
  unfold fX12_goesFar_322 at h
  refine j_iinc (v := (l6 + (1 : Int32))) (lv' := [(6, .int (l6 + (1 : Int32))), (0, .ref (E.1 + 66)), (1, .int l1), (2, .int l2), (3, .int l3), (4, .int l4), (5, .int l5)]) (q := 6) 325 dX12_goesFar_322 rfl rfl rfl (by decide) rfl ?_
  refine j_goto 94 dX12_goesFar_325 (by decide) ?_
  refine j_sub [1, 2, 3, 4, 5, 6, 0] rfl ?_
  exact H94 _ _ _ _ _ _ _  h
def fX12_goesFar_282 (k94 : Int32 → Int32 → Int32 → Int32 → Int32 → Int32 → JI → Option (Int32 × JI)) : Nat → Int32 → Int32 → Int32 → Int32 → Int32 → Int32 → Int32 → JI → Option (Int32 × JI)
  | 0, _, _, _, _, _, _, _, _ => none
  | n + 1, l1, l2, l3, l4, l5, l6, l7, I =>
    if (12 : Int32) ≤ l7 then (fX12_goesFar_322 k94 l1 l2 l3 l4 l5 l6 I) else (if ((l6 >>> (l7 &&& 31)) &&& (1 : Int32)) = (1 : Int32) then (j_g (j_in l7 12) ((fX12_moves l7 l1 (I 120 l7.toNatClampNeg) (12 : Int32) I).bind (fun q9 => (fX12_goesFar_282 k94 n) l1 l2 l3 l4 l5 l6 (l7 + (1 : Int32)) q9))) else ((fX12_goesFar_282 k94 n) l1 l2 l3 l4 l5 l6 (l7 + (1 : Int32)) I))
set_option maxHeartbeats 4000000 in
set_option maxRecDepth 100000 in
theorem kX12_goesFar_282 {E : JE} {k94 : Int32 → Int32 → Int32 → Int32 → Int32 → Int32 → JI → Option (Int32 × JI)} {r : Int32 × JI} {L : JL} {G : JG} {D : JG} {S : JS} (hL : Lay G S) (H94 : ∀ (l1 : Int32) (l2 : Int32) (l3 : Int32) (l4 : Int32) (l5 : Int32) (l6 : Int32) (I : JI), k94 l1 l2 l3 l4 l5 l6 I = some r → AtJ E xX12_goesFar (Zr E (some (.int r.1)) r.2 L G D S) ((S).length, jm_sl S) 8 94 [(0, .ref (E.1 + 66)), (1, .int l1), (2, .int l2), (3, .int l3), (4, .int l4), (5, .int l5), (6, .int l6)] [] I L G D S) : ∀ (n : Nat) (l1 : Int32) (l2 : Int32) (l3 : Int32) (l4 : Int32) (l5 : Int32) (l6 : Int32) (l7 : Int32) (I : JI), fX12_goesFar_282 k94 n l1 l2 l3 l4 l5 l6 l7 I = some r → AtJ E xX12_goesFar (Zr E (some (.int r.1)) r.2 L G D S) ((S).length, jm_sl S) 8 282 [(0, .ref (E.1 + 66)), (1, .int l1), (2, .int l2), (3, .int l3), (4, .int l4), (5, .int l5), (6, .int l6), (7, .int l7)] [] I L G D S := by
  intro n
  induction n with
  | zero => intro l1 l2 l3 l4 l5 l6 l7 I  h; simp [fX12_goesFar_282] at h
  | succ n ih =>
    intro l1 l2 l3 l4 l5 l6 l7 I  h
    rw [fX12_goesFar_282] at h
    refine j_iload 284 dX12_goesFar_282 rfl 7 rfl ?_
    refine j_bipush (v := (12 : Int32)) 286 dX12_goesFar_284 rfl (by decide) ?_
    refine j_icmp_ge 322 289 dX12_goesFar_286 (by decide) rfl (fun hc => ?_) (fun hc => ?_)
    · replace h := j_pos hc h
      refine j_sub [0, 1, 2, 3, 4, 5, 6] rfl ?_
      exact kX12_goesFar_322 hL   H94 _ _ _ _ _ _ _  h
    · replace h := j_neg hc h
      refine j_iload 291 dX12_goesFar_289 rfl 6 rfl ?_
      refine j_iload 293 dX12_goesFar_291 rfl 7 rfl ?_
      refine j_ishr 294 dX12_goesFar_293 rfl ?_
      refine j_iconst (v := (1 : Int32)) 295 dX12_goesFar_294 rfl (by decide) ?_
      refine j_iand 296 dX12_goesFar_295 rfl ?_
      refine j_iconst (v := (1 : Int32)) 297 dX12_goesFar_296 rfl (by decide) ?_
      refine j_icmp_ne 316 300 dX12_goesFar_297 (by decide) rfl (fun hc => ?_) (fun hc => ?_)
      · replace h := j_neg hc h
        refine j_iinc (v := (l7 + (1 : Int32))) (lv' := [(7, .int (l7 + (1 : Int32))), (0, .ref (E.1 + 66)), (1, .int l1), (2, .int l2), (3, .int l3), (4, .int l4), (5, .int l5), (6, .int l6)]) (q := 7) 319 dX12_goesFar_316 rfl rfl rfl (by decide) rfl ?_
        refine j_goto 282 dX12_goesFar_319 (by decide) ?_
        refine j_sub [1, 2, 3, 4, 5, 6, 7, 0] rfl ?_
        exact ih _ _ _ _ _ _ _ _  h
      · replace h := j_pos hc h
        refine j_aload_n 301 dX12_goesFar_300 rfl rfl 0 rfl ?_
        refine j_iload 303 dX12_goesFar_301 rfl 7 rfl ?_
        refine j_iload_n 304 dX12_goesFar_303 rfl rfl 1 rfl ?_
        refine j_aload_n 305 dX12_goesFar_304 rfl rfl 0 rfl ?_
        refine j_getG 308 dX12_goesFar_305 rfl (sh_66 hL) cl12 (k := 80) (by decide) flX12_170 rfl (gs_66_80 hL) ?_
        refine j_iload 310 dX12_goesFar_308 rfl 7 rfl ?_
        obtain ⟨hg, h⟩ := j_gs h
        refine j_iald 311 dX12_goesFar_310 rfl (sh_120 hL) (j_inv hg) ?_
        refine j_bipush (v := (12 : Int32)) 313 dX12_goesFar_311 rfl (by decide) ?_
        obtain ⟨q9, hq9, h⟩ := j_bs h
        refine j_callV (rest := []) (As := [.int l7, .int l1, .int (I 120 l7.toNatClampNeg), .int (12 : Int32)]) 316 dX12_goesFar_313 rfl jyX12_moves (tcX12_moves hL  hq9) (sh_66 hL) cl12 flX12_233 wm1712 wm41 (by decide) rfl rfl (Nat.le_of_ble_eq_true rfl) ?_
        refine j_iinc (v := (l7 + (1 : Int32))) (lv' := [(7, .int (l7 + (1 : Int32))), (0, .ref (E.1 + 66)), (1, .int l1), (2, .int l2), (3, .int l3), (4, .int l4), (5, .int l5), (6, .int l6)]) (q := 7) 319 dX12_goesFar_316 rfl rfl rfl (by decide) rfl ?_
        refine j_goto 282 dX12_goesFar_319 (by decide) ?_
        refine j_sub [1, 2, 3, 4, 5, 6, 7, 0] rfl ?_
        exact ih _ _ _ _ _ _ _ _  h
def fX12_goesFar_279 (k94 : Int32 → Int32 → Int32 → Int32 → Int32 → Int32 → JI → Option (Int32 × JI)) (l1 : Int32) (l2 : Int32) (l3 : Int32) (l4 : Int32) (l5 : Int32) (l6 : Int32) (I : JI) : Option (Int32 × JI) :=
  fX12_goesFar_282 k94 100000 l1 l2 l3 l4 l5 l6 (0 : Int32) I
set_option maxHeartbeats 4000000 in
set_option maxRecDepth 100000 in
theorem kX12_goesFar_279 {E : JE} {k94 : Int32 → Int32 → Int32 → Int32 → Int32 → Int32 → JI → Option (Int32 × JI)} {r : Int32 × JI} {L : JL} {G : JG} {D : JG} {S : JS} (hL : Lay G S) (H94 : ∀ (l1 : Int32) (l2 : Int32) (l3 : Int32) (l4 : Int32) (l5 : Int32) (l6 : Int32) (I : JI), k94 l1 l2 l3 l4 l5 l6 I = some r → AtJ E xX12_goesFar (Zr E (some (.int r.1)) r.2 L G D S) ((S).length, jm_sl S) 8 94 [(0, .ref (E.1 + 66)), (1, .int l1), (2, .int l2), (3, .int l3), (4, .int l4), (5, .int l5), (6, .int l6)] [] I L G D S) : ∀ (l1 : Int32) (l2 : Int32) (l3 : Int32) (l4 : Int32) (l5 : Int32) (l6 : Int32) (I : JI), fX12_goesFar_279 k94 l1 l2 l3 l4 l5 l6 I = some r → AtJ E xX12_goesFar (Zr E (some (.int r.1)) r.2 L G D S) ((S).length, jm_sl S) 8 279 [(0, .ref (E.1 + 66)), (1, .int l1), (2, .int l2), (3, .int l3), (4, .int l4), (5, .int l5), (6, .int l6)] [] I L G D S := by
  intro l1 l2 l3 l4 l5 l6 I  h
  unfold fX12_goesFar_279 at h
  refine j_iconst (v := (0 : Int32)) 280 dX12_goesFar_279 rfl (by decide) ?_
  refine j_istore (lv' := [(7, .int (0 : Int32)), (0, .ref (E.1 + 66)), (1, .int l1), (2, .int l2), (3, .int l3), (4, .int l4), (5, .int l5), (6, .int l6)]) 282 dX12_goesFar_280 rfl (by decide) rfl ?_
  refine j_sub [1, 2, 3, 4, 5, 6, 7, 0] rfl ?_
  exact kX12_goesFar_282 hL   H94 100000 _ _ _ _ _ _ _ _  h
def fX12_goesFar_190 (k94 : Int32 → Int32 → Int32 → Int32 → Int32 → Int32 → JI → Option (Int32 × JI)) : Nat → Int32 → Int32 → Int32 → Int32 → Int32 → Int32 → Int32 → JI → Option (Int32 × JI)
  | 0, _, _, _, _, _, _, _, _ => none
  | n + 1, l1, l2, l3, l4, l5, l6, l7, I =>
    if (12 : Int32) ≤ l7 then (fX12_goesFar_279 k94 l1 l2 l3 l4 l5 l6 I) else (if ((l6 >>> (l7 &&& 31)) &&& (1 : Int32)) = (1 : Int32) then ((fX12_goesFar_190 k94 n) l1 l2 l3 l4 l5 l6 (l7 + (1 : Int32)) I) else (j_g (j_in l7 12) (if (I 120 l7.toNatClampNeg) < 0 then ((fX12_goesFar_190 k94 n) l1 l2 l3 l4 l5 l6 (l7 + (1 : Int32)) I) else (j_g (j_in l7 12) (if (I 120 l7.toNatClampNeg) = l1 then ((fX12_goesFar_190 k94 n) l1 l2 l3 l4 l5 l6 (l7 + (1 : Int32)) I) else (j_g (j_in (l6 ||| ((1 : Int32) <<< (l7 &&& 31))) 4096) (if (jm_b01 (I 119 (l6 ||| ((1 : Int32) <<< (l7 &&& 31))).toNatClampNeg)) = 0 then ((fX12_isGot l7 l1 l3 l4 I).bind (fun q8 => if q8.1 = 0 then ((fX12_goesFar_190 k94 n) l1 l2 l3 l4 l5 l6 (l7 + (1 : Int32)) q8.2) else (j_g (j_in (l6 ||| ((1 : Int32) <<< (l7 &&& 31))) 4096) ((fX12_goesFar_190 k94 n) l1 l2 l3 l4 l5 l6 (l7 + (1 : Int32)) (j_up q8.2 119 (l6 ||| ((1 : Int32) <<< (l7 &&& 31))).toNatClampNeg (1 : Int32)))))) else ((fX12_goesFar_190 k94 n) l1 l2 l3 l4 l5 l6 (l7 + (1 : Int32)) I))))))))
set_option maxHeartbeats 4000000 in
set_option maxRecDepth 100000 in
theorem kX12_goesFar_190 {E : JE} {k94 : Int32 → Int32 → Int32 → Int32 → Int32 → Int32 → JI → Option (Int32 × JI)} {r : Int32 × JI} {L : JL} {G : JG} {D : JG} {S : JS} (hL : Lay G S) (H94 : ∀ (l1 : Int32) (l2 : Int32) (l3 : Int32) (l4 : Int32) (l5 : Int32) (l6 : Int32) (I : JI), k94 l1 l2 l3 l4 l5 l6 I = some r → AtJ E xX12_goesFar (Zr E (some (.int r.1)) r.2 L G D S) ((S).length, jm_sl S) 8 94 [(0, .ref (E.1 + 66)), (1, .int l1), (2, .int l2), (3, .int l3), (4, .int l4), (5, .int l5), (6, .int l6)] [] I L G D S) : ∀ (n : Nat) (l1 : Int32) (l2 : Int32) (l3 : Int32) (l4 : Int32) (l5 : Int32) (l6 : Int32) (l7 : Int32) (I : JI), fX12_goesFar_190 k94 n l1 l2 l3 l4 l5 l6 l7 I = some r → AtJ E xX12_goesFar (Zr E (some (.int r.1)) r.2 L G D S) ((S).length, jm_sl S) 8 190 [(0, .ref (E.1 + 66)), (1, .int l1), (2, .int l2), (3, .int l3), (4, .int l4), (5, .int l5), (6, .int l6), (7, .int l7)] [] I L G D S := by
  intro n
  induction n with
  | zero => intro l1 l2 l3 l4 l5 l6 l7 I  h; simp [fX12_goesFar_190] at h
  | succ n ih =>
    intro l1 l2 l3 l4 l5 l6 l7 I  h
    rw [fX12_goesFar_190] at h
    refine j_iload 192 dX12_goesFar_190 rfl 7 rfl ?_
    refine j_bipush (v := (12 : Int32)) 194 dX12_goesFar_192 rfl (by decide) ?_
    refine j_icmp_ge 279 197 dX12_goesFar_194 (by decide) rfl (fun hc => ?_) (fun hc => ?_)
    · replace h := j_pos hc h
      refine j_sub [0, 1, 2, 3, 4, 5, 6] rfl ?_
      exact kX12_goesFar_279 hL   H94 _ _ _ _ _ _ _  h
    · replace h := j_neg hc h
      refine j_iload 199 dX12_goesFar_197 rfl 6 rfl ?_
      refine j_iload 201 dX12_goesFar_199 rfl 7 rfl ?_
      refine j_ishr 202 dX12_goesFar_201 rfl ?_
      refine j_iconst (v := (1 : Int32)) 203 dX12_goesFar_202 rfl (by decide) ?_
      refine j_iand 204 dX12_goesFar_203 rfl ?_
      refine j_iconst (v := (1 : Int32)) 205 dX12_goesFar_204 rfl (by decide) ?_
      refine j_icmp_eq 273 208 dX12_goesFar_205 (by decide) rfl (fun hc => ?_) (fun hc => ?_)
      · replace h := j_pos hc h
        refine j_iinc (v := (l7 + (1 : Int32))) (lv' := [(7, .int (l7 + (1 : Int32))), (0, .ref (E.1 + 66)), (1, .int l1), (2, .int l2), (3, .int l3), (4, .int l4), (5, .int l5), (6, .int l6)]) (q := 7) 276 dX12_goesFar_273 rfl rfl rfl (by decide) rfl ?_
        refine j_goto 190 dX12_goesFar_276 (by decide) ?_
        refine j_sub [1, 2, 3, 4, 5, 6, 7, 0] rfl ?_
        exact ih _ _ _ _ _ _ _ _  h
      · replace h := j_neg hc h
        refine j_aload_n 209 dX12_goesFar_208 rfl rfl 0 rfl ?_
        refine j_getG 212 dX12_goesFar_209 rfl (sh_66 hL) cl12 (k := 80) (by decide) flX12_170 rfl (gs_66_80 hL) ?_
        refine j_iload 214 dX12_goesFar_212 rfl 7 rfl ?_
        obtain ⟨hg, h⟩ := j_gs h
        refine j_iald 215 dX12_goesFar_214 rfl (sh_120 hL) (j_inv hg) ?_
        refine j_if_lt 273 218 dX12_goesFar_215 (by decide) rfl (fun hc => ?_) (fun hc => ?_)
        · replace h := j_pos hc h
          refine j_iinc (v := (l7 + (1 : Int32))) (lv' := [(7, .int (l7 + (1 : Int32))), (0, .ref (E.1 + 66)), (1, .int l1), (2, .int l2), (3, .int l3), (4, .int l4), (5, .int l5), (6, .int l6)]) (q := 7) 276 dX12_goesFar_273 rfl rfl rfl (by decide) rfl ?_
          refine j_goto 190 dX12_goesFar_276 (by decide) ?_
          refine j_sub [1, 2, 3, 4, 5, 6, 7, 0] rfl ?_
          exact ih _ _ _ _ _ _ _ _  h
        · replace h := j_neg hc h
          refine j_aload_n 219 dX12_goesFar_218 rfl rfl 0 rfl ?_
          refine j_getG 222 dX12_goesFar_219 rfl (sh_66 hL) cl12 (k := 80) (by decide) flX12_170 rfl (gs_66_80 hL) ?_
          refine j_iload 224 dX12_goesFar_222 rfl 7 rfl ?_
          obtain ⟨hg, h⟩ := j_gs h
          refine j_iald 225 dX12_goesFar_224 rfl (sh_120 hL) (j_inv hg) ?_
          refine j_iload_n 226 dX12_goesFar_225 rfl rfl 1 rfl ?_
          refine j_icmp_ne 232 229 dX12_goesFar_226 (by decide) rfl (fun hc => ?_) (fun hc => ?_)
          · replace h := j_neg hc h
            refine j_aload_n 233 dX12_goesFar_232 rfl rfl 0 rfl ?_
            refine j_getG 236 dX12_goesFar_233 rfl (sh_66 hL) cl12 (k := 79) (by decide) flX12_167 rfl (gs_66_79 hL) ?_
            refine j_iload 238 dX12_goesFar_236 rfl 6 rfl ?_
            refine j_iconst (v := (1 : Int32)) 239 dX12_goesFar_238 rfl (by decide) ?_
            refine j_iload 241 dX12_goesFar_239 rfl 7 rfl ?_
            refine j_ishl 242 dX12_goesFar_241 rfl ?_
            refine j_ior 243 dX12_goesFar_242 rfl ?_
            obtain ⟨hg, h⟩ := j_gs h
            refine j_zald 244 dX12_goesFar_243 rfl (sh_119 hL) (j_inv hg) ?_
            refine j_if_ne 273 247 dX12_goesFar_244 (by decide) rfl (fun hc => ?_) (fun hc => ?_)
            · replace h := j_neg hc h
              refine j_iinc (v := (l7 + (1 : Int32))) (lv' := [(7, .int (l7 + (1 : Int32))), (0, .ref (E.1 + 66)), (1, .int l1), (2, .int l2), (3, .int l3), (4, .int l4), (5, .int l5), (6, .int l6)]) (q := 7) 276 dX12_goesFar_273 rfl rfl rfl (by decide) rfl ?_
              refine j_goto 190 dX12_goesFar_276 (by decide) ?_
              refine j_sub [1, 2, 3, 4, 5, 6, 7, 0] rfl ?_
              exact ih _ _ _ _ _ _ _ _  h
            · replace h := j_pos hc h
              refine j_aload_n 248 dX12_goesFar_247 rfl rfl 0 rfl ?_
              refine j_iload 250 dX12_goesFar_248 rfl 7 rfl ?_
              refine j_iload_n 251 dX12_goesFar_250 rfl rfl 1 rfl ?_
              refine j_iload_n 252 dX12_goesFar_251 rfl rfl 3 rfl ?_
              refine j_iload 254 dX12_goesFar_252 rfl 4 rfl ?_
              obtain ⟨q8, hq8, h⟩ := j_bs h
              refine j_callV (rest := []) (As := [.int l7, .int l1, .int l3, .int l4]) 257 dX12_goesFar_254 rfl jyX12_isGot (tcX12_isGot hL  hq8) (sh_66 hL) cl12 flX12_518 wm2009 wm82 (by decide) rfl rfl (Nat.le_of_ble_eq_true rfl) ?_
              refine j_if_eq 273 260 dX12_goesFar_257 (by decide) rfl (fun hc => ?_) (fun hc => ?_)
              · replace h := j_pos hc h
                refine j_iinc (v := (l7 + (1 : Int32))) (lv' := [(7, .int (l7 + (1 : Int32))), (0, .ref (E.1 + 66)), (1, .int l1), (2, .int l2), (3, .int l3), (4, .int l4), (5, .int l5), (6, .int l6)]) (q := 7) 276 dX12_goesFar_273 rfl rfl rfl (by decide) rfl ?_
                refine j_goto 190 dX12_goesFar_276 (by decide) ?_
                refine j_sub [1, 2, 3, 4, 5, 6, 7, 0] rfl ?_
                exact ih _ _ _ _ _ _ _ _  h
              · replace h := j_neg hc h
                refine j_aload_n 261 dX12_goesFar_260 rfl rfl 0 rfl ?_
                refine j_getG 264 dX12_goesFar_261 rfl (sh_66 hL) cl12 (k := 79) (by decide) flX12_167 rfl (gs_66_79 hL) ?_
                refine j_iload 266 dX12_goesFar_264 rfl 6 rfl ?_
                refine j_iconst (v := (1 : Int32)) 267 dX12_goesFar_266 rfl (by decide) ?_
                refine j_iload 269 dX12_goesFar_267 rfl 7 rfl ?_
                refine j_ishl 270 dX12_goesFar_269 rfl ?_
                refine j_ior 271 dX12_goesFar_270 rfl ?_
                refine j_iconst (v := (1 : Int32)) 272 dX12_goesFar_271 rfl (by decide) ?_
                obtain ⟨hg, h⟩ := j_gs h
                refine j_zast 273 dX12_goesFar_272 rfl (sh_119 hL) (j_inv hg) j_b01_1 ?_
                refine j_iinc (v := (l7 + (1 : Int32))) (lv' := [(7, .int (l7 + (1 : Int32))), (0, .ref (E.1 + 66)), (1, .int l1), (2, .int l2), (3, .int l3), (4, .int l4), (5, .int l5), (6, .int l6)]) (q := 7) 276 dX12_goesFar_273 rfl rfl rfl (by decide) rfl ?_
                refine j_goto 190 dX12_goesFar_276 (by decide) ?_
                refine j_sub [1, 2, 3, 4, 5, 6, 7, 0] rfl ?_
                exact ih _ _ _ _ _ _ _ _  h
          · replace h := j_pos hc h
            refine j_goto 273 dX12_goesFar_229 (by decide) ?_
            refine j_iinc (v := (l7 + (1 : Int32))) (lv' := [(7, .int (l7 + (1 : Int32))), (0, .ref (E.1 + 66)), (1, .int l1), (2, .int l2), (3, .int l3), (4, .int l4), (5, .int l5), (6, .int l6)]) (q := 7) 276 dX12_goesFar_273 rfl rfl rfl (by decide) rfl ?_
            refine j_goto 190 dX12_goesFar_276 (by decide) ?_
            refine j_sub [1, 2, 3, 4, 5, 6, 7, 0] rfl ?_
            exact ih _ _ _ _ _ _ _ _  h
def fX12_goesFar_187 (k94 : Int32 → Int32 → Int32 → Int32 → Int32 → Int32 → JI → Option (Int32 × JI)) (l1 : Int32) (l2 : Int32) (l3 : Int32) (l4 : Int32) (l5 : Int32) (l6 : Int32) (I : JI) : Option (Int32 × JI) :=
  fX12_goesFar_190 k94 100000 l1 l2 l3 l4 l5 l6 (0 : Int32) I
set_option maxHeartbeats 4000000 in
set_option maxRecDepth 100000 in
theorem kX12_goesFar_187 {E : JE} {k94 : Int32 → Int32 → Int32 → Int32 → Int32 → Int32 → JI → Option (Int32 × JI)} {r : Int32 × JI} {L : JL} {G : JG} {D : JG} {S : JS} (hL : Lay G S) (H94 : ∀ (l1 : Int32) (l2 : Int32) (l3 : Int32) (l4 : Int32) (l5 : Int32) (l6 : Int32) (I : JI), k94 l1 l2 l3 l4 l5 l6 I = some r → AtJ E xX12_goesFar (Zr E (some (.int r.1)) r.2 L G D S) ((S).length, jm_sl S) 8 94 [(0, .ref (E.1 + 66)), (1, .int l1), (2, .int l2), (3, .int l3), (4, .int l4), (5, .int l5), (6, .int l6)] [] I L G D S) : ∀ (l1 : Int32) (l2 : Int32) (l3 : Int32) (l4 : Int32) (l5 : Int32) (l6 : Int32) (I : JI), fX12_goesFar_187 k94 l1 l2 l3 l4 l5 l6 I = some r → AtJ E xX12_goesFar (Zr E (some (.int r.1)) r.2 L G D S) ((S).length, jm_sl S) 8 187 [(0, .ref (E.1 + 66)), (1, .int l1), (2, .int l2), (3, .int l3), (4, .int l4), (5, .int l5), (6, .int l6)] [] I L G D S := by
  intro l1 l2 l3 l4 l5 l6 I  h
  unfold fX12_goesFar_187 at h
  refine j_iconst (v := (0 : Int32)) 188 dX12_goesFar_187 rfl (by decide) ?_
  refine j_istore (lv' := [(7, .int (0 : Int32)), (0, .ref (E.1 + 66)), (1, .int l1), (2, .int l2), (3, .int l3), (4, .int l4), (5, .int l5), (6, .int l6)]) 190 dX12_goesFar_188 rfl (by decide) rfl ?_
  refine j_sub [1, 2, 3, 4, 5, 6, 7, 0] rfl ?_
  exact kX12_goesFar_190 hL   H94 100000 _ _ _ _ _ _ _ _  h
def fX12_goesFar_147 (k94 : Int32 → Int32 → Int32 → Int32 → Int32 → Int32 → JI → Option (Int32 × JI)) : Nat → Int32 → Int32 → Int32 → Int32 → Int32 → Int32 → Int32 → JI → Option (Int32 × JI)
  | 0, _, _, _, _, _, _, _, _ => none
  | n + 1, l1, l2, l3, l4, l5, l6, l7, I =>
    if (12 : Int32) ≤ l7 then (fX12_goesFar_187 k94 l1 l2 l3 l4 l5 l6 I) else (if ((l6 >>> (l7 &&& 31)) &&& (1 : Int32)) = (1 : Int32) then (j_g (j_in l7 12) ((fX12_moves l7 (I 120 l7.toNatClampNeg) l1 (12 : Int32) I).bind (fun q7 => (fX12_goesFar_147 k94 n) l1 l2 l3 l4 l5 l6 (l7 + (1 : Int32)) q7))) else ((fX12_goesFar_147 k94 n) l1 l2 l3 l4 l5 l6 (l7 + (1 : Int32)) I))
set_option maxHeartbeats 4000000 in
set_option maxRecDepth 100000 in
theorem kX12_goesFar_147 {E : JE} {k94 : Int32 → Int32 → Int32 → Int32 → Int32 → Int32 → JI → Option (Int32 × JI)} {r : Int32 × JI} {L : JL} {G : JG} {D : JG} {S : JS} (hL : Lay G S) (H94 : ∀ (l1 : Int32) (l2 : Int32) (l3 : Int32) (l4 : Int32) (l5 : Int32) (l6 : Int32) (I : JI), k94 l1 l2 l3 l4 l5 l6 I = some r → AtJ E xX12_goesFar (Zr E (some (.int r.1)) r.2 L G D S) ((S).length, jm_sl S) 8 94 [(0, .ref (E.1 + 66)), (1, .int l1), (2, .int l2), (3, .int l3), (4, .int l4), (5, .int l5), (6, .int l6)] [] I L G D S) : ∀ (n : Nat) (l1 : Int32) (l2 : Int32) (l3 : Int32) (l4 : Int32) (l5 : Int32) (l6 : Int32) (l7 : Int32) (I : JI), fX12_goesFar_147 k94 n l1 l2 l3 l4 l5 l6 l7 I = some r → AtJ E xX12_goesFar (Zr E (some (.int r.1)) r.2 L G D S) ((S).length, jm_sl S) 8 147 [(0, .ref (E.1 + 66)), (1, .int l1), (2, .int l2), (3, .int l3), (4, .int l4), (5, .int l5), (6, .int l6), (7, .int l7)] [] I L G D S := by
  intro n
  induction n with
  | zero => intro l1 l2 l3 l4 l5 l6 l7 I  h; simp [fX12_goesFar_147] at h
  | succ n ih =>
    intro l1 l2 l3 l4 l5 l6 l7 I  h
    rw [fX12_goesFar_147] at h
    refine j_iload 149 dX12_goesFar_147 rfl 7 rfl ?_
    refine j_bipush (v := (12 : Int32)) 151 dX12_goesFar_149 rfl (by decide) ?_
    refine j_icmp_ge 187 154 dX12_goesFar_151 (by decide) rfl (fun hc => ?_) (fun hc => ?_)
    · replace h := j_pos hc h
      refine j_sub [0, 1, 2, 3, 4, 5, 6] rfl ?_
      exact kX12_goesFar_187 hL   H94 _ _ _ _ _ _ _  h
    · replace h := j_neg hc h
      refine j_iload 156 dX12_goesFar_154 rfl 6 rfl ?_
      refine j_iload 158 dX12_goesFar_156 rfl 7 rfl ?_
      refine j_ishr 159 dX12_goesFar_158 rfl ?_
      refine j_iconst (v := (1 : Int32)) 160 dX12_goesFar_159 rfl (by decide) ?_
      refine j_iand 161 dX12_goesFar_160 rfl ?_
      refine j_iconst (v := (1 : Int32)) 162 dX12_goesFar_161 rfl (by decide) ?_
      refine j_icmp_ne 181 165 dX12_goesFar_162 (by decide) rfl (fun hc => ?_) (fun hc => ?_)
      · replace h := j_neg hc h
        refine j_iinc (v := (l7 + (1 : Int32))) (lv' := [(7, .int (l7 + (1 : Int32))), (0, .ref (E.1 + 66)), (1, .int l1), (2, .int l2), (3, .int l3), (4, .int l4), (5, .int l5), (6, .int l6)]) (q := 7) 184 dX12_goesFar_181 rfl rfl rfl (by decide) rfl ?_
        refine j_goto 147 dX12_goesFar_184 (by decide) ?_
        refine j_sub [1, 2, 3, 4, 5, 6, 7, 0] rfl ?_
        exact ih _ _ _ _ _ _ _ _  h
      · replace h := j_pos hc h
        refine j_aload_n 166 dX12_goesFar_165 rfl rfl 0 rfl ?_
        refine j_iload 168 dX12_goesFar_166 rfl 7 rfl ?_
        refine j_aload_n 169 dX12_goesFar_168 rfl rfl 0 rfl ?_
        refine j_getG 172 dX12_goesFar_169 rfl (sh_66 hL) cl12 (k := 80) (by decide) flX12_170 rfl (gs_66_80 hL) ?_
        refine j_iload 174 dX12_goesFar_172 rfl 7 rfl ?_
        obtain ⟨hg, h⟩ := j_gs h
        refine j_iald 175 dX12_goesFar_174 rfl (sh_120 hL) (j_inv hg) ?_
        refine j_iload_n 176 dX12_goesFar_175 rfl rfl 1 rfl ?_
        refine j_bipush (v := (12 : Int32)) 178 dX12_goesFar_176 rfl (by decide) ?_
        obtain ⟨q7, hq7, h⟩ := j_bs h
        refine j_callV (rest := []) (As := [.int l7, .int (I 120 l7.toNatClampNeg), .int l1, .int (12 : Int32)]) 181 dX12_goesFar_178 rfl jyX12_moves (tcX12_moves hL  hq7) (sh_66 hL) cl12 flX12_233 wm1712 wm41 (by decide) rfl rfl (Nat.le_of_ble_eq_true rfl) ?_
        refine j_iinc (v := (l7 + (1 : Int32))) (lv' := [(7, .int (l7 + (1 : Int32))), (0, .ref (E.1 + 66)), (1, .int l1), (2, .int l2), (3, .int l3), (4, .int l4), (5, .int l5), (6, .int l6)]) (q := 7) 184 dX12_goesFar_181 rfl rfl rfl (by decide) rfl ?_
        refine j_goto 147 dX12_goesFar_184 (by decide) ?_
        refine j_sub [1, 2, 3, 4, 5, 6, 7, 0] rfl ?_
        exact ih _ _ _ _ _ _ _ _  h
def fX12_goesFar_94 : Nat → Int32 → Int32 → Int32 → Int32 → Int32 → Int32 → JI → Option (Int32 × JI)
  | 0, _, _, _, _, _, _, _ => none
  | n + 1, l1, l2, l3, l4, l5, l6, I =>
    if (4096 : Int32) ≤ l6 then (some (l5, I)) else (j_g (j_in l6 4096) (if (jm_b01 (I 119 l6.toNatClampNeg)) = 0 then (fX12_goesFar_322 (fX12_goesFar_94 n) l1 l2 l3 l4 l5 l6 I) else ((fX12_bits l6).bind (fun q3 => (fX12_bits l5).bind (fun q4 => if q3 ≤ q4 then ((fX12_bits l6).bind (fun q5 => if q5 = l2 then (fX12_goesFar_322 (fX12_goesFar_94 n) l1 l2 l3 l4 l5 l6 I) else (fX12_goesFar_147 (fX12_goesFar_94 n) 100000 l1 l2 l3 l4 l5 l6 (0 : Int32) I))) else ((fX12_bits l6).bind (fun q6 => if q6 = l2 then (fX12_goesFar_322 (fX12_goesFar_94 n) l1 l2 l3 l4 l6 l6 I) else (fX12_goesFar_147 (fX12_goesFar_94 n) 100000 l1 l2 l3 l4 l6 l6 (0 : Int32) I))))))))
set_option maxHeartbeats 4000000 in
set_option maxRecDepth 100000 in
theorem kX12_goesFar_94 {E : JE} {r : Int32 × JI} {L : JL} {G : JG} {D : JG} {S : JS} (hL : Lay G S) : ∀ (n : Nat) (l1 : Int32) (l2 : Int32) (l3 : Int32) (l4 : Int32) (l5 : Int32) (l6 : Int32) (I : JI), fX12_goesFar_94 n l1 l2 l3 l4 l5 l6 I = some r → AtJ E xX12_goesFar (Zr E (some (.int r.1)) r.2 L G D S) ((S).length, jm_sl S) 8 94 [(0, .ref (E.1 + 66)), (1, .int l1), (2, .int l2), (3, .int l3), (4, .int l4), (5, .int l5), (6, .int l6)] [] I L G D S := by
  intro n
  induction n with
  | zero => intro l1 l2 l3 l4 l5 l6 I  h; simp [fX12_goesFar_94] at h
  | succ n ih =>
    intro l1 l2 l3 l4 l5 l6 I  h
    rw [fX12_goesFar_94] at h
    refine j_iload 96 dX12_goesFar_94 rfl 6 rfl ?_
    refine j_sipush (v := (4096 : Int32)) 99 dX12_goesFar_96 rfl (by decide) ?_
    refine j_icmp_ge 328 102 dX12_goesFar_99 (by decide) rfl (fun hc => ?_) (fun hc => ?_)
    · replace h := j_pos hc h
      refine j_iload 330 dX12_goesFar_328 rfl 5 rfl ?_
      cases h
      exact j_iret dX12_goesFar_330 rfl
    · replace h := j_neg hc h
      refine j_aload_n 103 dX12_goesFar_102 rfl rfl 0 rfl ?_
      refine j_getG 106 dX12_goesFar_103 rfl (sh_66 hL) cl12 (k := 79) (by decide) flX12_167 rfl (gs_66_79 hL) ?_
      refine j_iload 108 dX12_goesFar_106 rfl 6 rfl ?_
      obtain ⟨hg, h⟩ := j_gs h
      refine j_zald 109 dX12_goesFar_108 rfl (sh_119 hL) (j_inv hg) ?_
      refine j_if_ne 115 112 dX12_goesFar_109 (by decide) rfl (fun hc => ?_) (fun hc => ?_)
      · replace h := j_neg hc h
        refine j_iload 117 dX12_goesFar_115 rfl 6 rfl ?_
        obtain ⟨q3, hq3, h⟩ := j_bs h
        refine j_callS (rest := []) (As := [.int l6]) 120 dX12_goesFar_117 rfl jyX12_bits (tcX12_bits   hq3) flX12_515 wm2005 (by decide) rfl rfl (Nat.le_of_ble_eq_true rfl) ?_
        refine j_iload 122 dX12_goesFar_120 rfl 5 rfl ?_
        obtain ⟨q4, hq4, h⟩ := j_bs h
        refine j_callS (rest := [.int q3]) (As := [.int l5]) 125 dX12_goesFar_122 rfl jyX12_bits (tcX12_bits   hq4) flX12_515 wm2005 (by decide) rfl rfl (Nat.le_of_ble_eq_true rfl) ?_
        refine j_icmp_le 132 128 dX12_goesFar_125 (by decide) rfl (fun hc => ?_) (fun hc => ?_)
        · replace h := j_pos hc h
          refine j_iload 134 dX12_goesFar_132 rfl 6 rfl ?_
          obtain ⟨q5, hq5, h⟩ := j_bs h
          refine j_callS (rest := []) (As := [.int l6]) 137 dX12_goesFar_134 rfl jyX12_bits (tcX12_bits   hq5) flX12_515 wm2005 (by decide) rfl rfl (Nat.le_of_ble_eq_true rfl) ?_
          refine j_iload_n 138 dX12_goesFar_137 rfl rfl 2 rfl ?_
          refine j_icmp_ne 144 141 dX12_goesFar_138 (by decide) rfl (fun hc => ?_) (fun hc => ?_)
          · replace h := j_neg hc h
            refine j_iconst (v := (0 : Int32)) 145 dX12_goesFar_144 rfl (by decide) ?_
            refine j_istore (lv' := [(7, .int (0 : Int32)), (0, .ref (E.1 + 66)), (1, .int l1), (2, .int l2), (3, .int l3), (4, .int l4), (5, .int l5), (6, .int l6)]) 147 dX12_goesFar_145 rfl (by decide) rfl ?_
            refine j_sub [1, 2, 3, 4, 5, 6, 7, 0] rfl ?_
            exact kX12_goesFar_147 hL   ih 100000 _ _ _ _ _ _ _ _  h
          · replace h := j_pos hc h
            refine j_goto 322 dX12_goesFar_141 (by decide) ?_
            exact kX12_goesFar_322 hL   ih _ _ _ _ _ _ _  h
        · replace h := j_neg hc h
          refine j_iload 130 dX12_goesFar_128 rfl 6 rfl ?_
          refine j_istore (lv' := [(5, .int l6), (0, .ref (E.1 + 66)), (1, .int l1), (2, .int l2), (3, .int l3), (4, .int l4), (6, .int l6)]) 132 dX12_goesFar_130 rfl (by decide) rfl ?_
          refine j_iload 134 dX12_goesFar_132 rfl 6 rfl ?_
          obtain ⟨q6, hq6, h⟩ := j_bs h
          refine j_callS (rest := []) (As := [.int l6]) 137 dX12_goesFar_134 rfl jyX12_bits (tcX12_bits   hq6) flX12_515 wm2005 (by decide) rfl rfl (Nat.le_of_ble_eq_true rfl) ?_
          refine j_iload_n 138 dX12_goesFar_137 rfl rfl 3 rfl ?_
          refine j_icmp_ne 144 141 dX12_goesFar_138 (by decide) rfl (fun hc => ?_) (fun hc => ?_)
          · replace h := j_neg hc h
            refine j_iconst (v := (0 : Int32)) 145 dX12_goesFar_144 rfl (by decide) ?_
            refine j_istore (lv' := [(7, .int (0 : Int32)), (5, .int l6), (0, .ref (E.1 + 66)), (1, .int l1), (2, .int l2), (3, .int l3), (4, .int l4), (6, .int l6)]) 147 dX12_goesFar_145 rfl (by decide) rfl ?_
            refine j_sub [2, 3, 4, 5, 6, 1, 7, 0] rfl ?_
            exact kX12_goesFar_147 hL   ih 100000 _ _ _ _ _ _ _ _  h
          · replace h := j_pos hc h
            refine j_goto 322 dX12_goesFar_141 (by decide) ?_
            refine j_sub [1, 2, 3, 4, 5, 0, 6] rfl ?_
            exact kX12_goesFar_322 hL   ih _ _ _ _ _ _ _  h
      · replace h := j_pos hc h
        refine j_goto 322 dX12_goesFar_112 (by decide) ?_
        exact kX12_goesFar_322 hL   ih _ _ _ _ _ _ _  h
def fX12_goesFar_88 (l1 : Int32) (l2 : Int32) (l3 : Int32) (l4 : Int32) (I : JI) : Option (Int32 × JI) :=
  fX12_goesFar_94 100000 l1 l2 l3 l4 (0 : Int32) (0 : Int32) I
set_option maxHeartbeats 4000000 in
set_option maxRecDepth 100000 in
theorem kX12_goesFar_88 {E : JE} {r : Int32 × JI} {L : JL} {G : JG} {D : JG} {S : JS} (hL : Lay G S) : ∀ (l1 : Int32) (l2 : Int32) (l3 : Int32) (l4 : Int32) (I : JI), fX12_goesFar_88 l1 l2 l3 l4 I = some r → AtJ E xX12_goesFar (Zr E (some (.int r.1)) r.2 L G D S) ((S).length, jm_sl S) 8 88 [(0, .ref (E.1 + 66)), (1, .int l1), (2, .int l2), (3, .int l3), (4, .int l4)] [] I L G D S := by
  intro l1 l2 l3 l4 I  h
  unfold fX12_goesFar_88 at h
  refine j_iconst (v := (0 : Int32)) 89 dX12_goesFar_88 rfl (by decide) ?_
  refine j_istore (lv' := [(5, .int (0 : Int32)), (0, .ref (E.1 + 66)), (1, .int l1), (2, .int l2), (3, .int l3), (4, .int l4)]) 91 dX12_goesFar_89 rfl (by decide) rfl ?_
  refine j_iconst (v := (0 : Int32)) 92 dX12_goesFar_91 rfl (by decide) ?_
  refine j_istore (lv' := [(6, .int (0 : Int32)), (5, .int (0 : Int32)), (0, .ref (E.1 + 66)), (1, .int l1), (2, .int l2), (3, .int l3), (4, .int l4)]) 94 dX12_goesFar_92 rfl (by decide) rfl ?_
  refine j_sub [2, 3, 4, 5, 6, 1, 0] rfl ?_
  exact kX12_goesFar_94 hL    100000 _ _ _ _ _ _ _  h
def fX12_goesFar_57 : Nat → Int32 → Int32 → Int32 → Int32 → Int32 → JI → Option (Int32 × JI)
  | 0, _, _, _, _, _, _ => none
  | n + 1, l1, l2, l3, l4, l5, I =>
    if (4096 : Int32) ≤ l5 then (fX12_goesFar_88 l1 l2 l3 l4 I) else (if l5 = 0 then (j_g (j_in l5 4096) ((fX12_goesFar_57 n) l1 l2 l3 l4 (l5 + (1 : Int32)) (j_up I 119 l5.toNatClampNeg (1 : Int32)))) else (j_g (j_in l5 4096) ((fX12_goesFar_57 n) l1 l2 l3 l4 (l5 + (1 : Int32)) (j_up I 119 l5.toNatClampNeg (0 : Int32)))))
set_option maxHeartbeats 4000000 in
set_option maxRecDepth 100000 in
theorem kX12_goesFar_57 {E : JE} {r : Int32 × JI} {L : JL} {G : JG} {D : JG} {S : JS} (hL : Lay G S) : ∀ (n : Nat) (l1 : Int32) (l2 : Int32) (l3 : Int32) (l4 : Int32) (l5 : Int32) (I : JI), fX12_goesFar_57 n l1 l2 l3 l4 l5 I = some r → AtJ E xX12_goesFar (Zr E (some (.int r.1)) r.2 L G D S) ((S).length, jm_sl S) 8 57 [(0, .ref (E.1 + 66)), (1, .int l1), (2, .int l2), (3, .int l3), (4, .int l4), (5, .int l5)] [] I L G D S := by
  intro n
  induction n with
  | zero => intro l1 l2 l3 l4 l5 I  h; simp [fX12_goesFar_57] at h
  | succ n ih =>
    intro l1 l2 l3 l4 l5 I  h
    rw [fX12_goesFar_57] at h
    refine j_iload 59 dX12_goesFar_57 rfl 5 rfl ?_
    refine j_sipush (v := (4096 : Int32)) 62 dX12_goesFar_59 rfl (by decide) ?_
    refine j_icmp_ge 88 65 dX12_goesFar_62 (by decide) rfl (fun hc => ?_) (fun hc => ?_)
    · replace h := j_pos hc h
      refine j_sub [0, 1, 2, 3, 4] rfl ?_
      exact kX12_goesFar_88 hL    _ _ _ _ _  h
    · replace h := j_neg hc h
      refine j_aload_n 66 dX12_goesFar_65 rfl rfl 0 rfl ?_
      refine j_getG 69 dX12_goesFar_66 rfl (sh_66 hL) cl12 (k := 79) (by decide) flX12_167 rfl (gs_66_79 hL) ?_
      refine j_iload 71 dX12_goesFar_69 rfl 5 rfl ?_
      refine j_iload 73 dX12_goesFar_71 rfl 5 rfl ?_
      refine j_if_ne 80 76 dX12_goesFar_73 (by decide) rfl (fun hc => ?_) (fun hc => ?_)
      · replace h := j_neg hc h
        refine j_iconst (v := (0 : Int32)) 81 dX12_goesFar_80 rfl (by decide) ?_
        obtain ⟨hg, h⟩ := j_gs h
        refine j_zast 82 dX12_goesFar_81 rfl (sh_119 hL) (j_inv hg) j_b01_0 ?_
        refine j_iinc (v := (l5 + (1 : Int32))) (lv' := [(5, .int (l5 + (1 : Int32))), (0, .ref (E.1 + 66)), (1, .int l1), (2, .int l2), (3, .int l3), (4, .int l4)]) (q := 5) 85 dX12_goesFar_82 rfl rfl rfl (by decide) rfl ?_
        refine j_goto 57 dX12_goesFar_85 (by decide) ?_
        refine j_sub [1, 2, 3, 4, 5, 0] rfl ?_
        exact ih _ _ _ _ _ _  h
      · replace h := j_pos hc h
        refine j_iconst (v := (1 : Int32)) 77 dX12_goesFar_76 rfl (by decide) ?_
        refine j_goto 81 dX12_goesFar_77 (by decide) ?_
        obtain ⟨hg, h⟩ := j_gs h
        refine j_zast 82 dX12_goesFar_81 rfl (sh_119 hL) (j_inv hg) j_b01_1 ?_
        refine j_iinc (v := (l5 + (1 : Int32))) (lv' := [(5, .int (l5 + (1 : Int32))), (0, .ref (E.1 + 66)), (1, .int l1), (2, .int l2), (3, .int l3), (4, .int l4)]) (q := 5) 85 dX12_goesFar_82 rfl rfl rfl (by decide) rfl ?_
        refine j_goto 57 dX12_goesFar_85 (by decide) ?_
        refine j_sub [1, 2, 3, 4, 5, 0] rfl ?_
        exact ih _ _ _ _ _ _  h
def fX12_goesFar_54 (l1 : Int32) (l2 : Int32) (l3 : Int32) (l4 : Int32) (I : JI) : Option (Int32 × JI) :=
  fX12_goesFar_57 100000 l1 l2 l3 l4 (0 : Int32) I
set_option maxHeartbeats 4000000 in
set_option maxRecDepth 100000 in
theorem kX12_goesFar_54 {E : JE} {r : Int32 × JI} {L : JL} {G : JG} {D : JG} {S : JS} (hL : Lay G S) : ∀ (l1 : Int32) (l2 : Int32) (l3 : Int32) (l4 : Int32) (I : JI), fX12_goesFar_54 l1 l2 l3 l4 I = some r → AtJ E xX12_goesFar (Zr E (some (.int r.1)) r.2 L G D S) ((S).length, jm_sl S) 8 54 [(0, .ref (E.1 + 66)), (1, .int l1), (2, .int l2), (3, .int l3), (4, .int l4)] [] I L G D S := by
  intro l1 l2 l3 l4 I  h
  unfold fX12_goesFar_54 at h
  refine j_iconst (v := (0 : Int32)) 55 dX12_goesFar_54 rfl (by decide) ?_
  refine j_istore (lv' := [(5, .int (0 : Int32)), (0, .ref (E.1 + 66)), (1, .int l1), (2, .int l2), (3, .int l3), (4, .int l4)]) 57 dX12_goesFar_55 rfl (by decide) rfl ?_
  refine j_sub [1, 2, 3, 4, 5, 0] rfl ?_
  exact kX12_goesFar_57 hL    100000 _ _ _ _ _ _  h
def fX12_goesFar_14 : Nat → Int32 → Int32 → Int32 → Int32 → Int32 → JI → Option (Int32 × JI)
  | 0, _, _, _, _, _, _ => none
  | n + 1, l1, l2, l3, l4, l5, I =>
    if (12 : Int32) ≤ l5 then (fX12_goesFar_54 l1 l2 l3 l4 I) else (j_g (j_in l5 12) (if (jm_b01 (I 67 l5.toNatClampNeg)) = 0 then (j_g (j_in l5 12) ((fX12_goesFar_14 n) l1 l2 l3 l4 (l5 + (1 : Int32)) (j_up I 120 l5.toNatClampNeg (-1 : Int32)))) else ((fX12_holderOf l5 I).bind (fun q2 => j_g (j_in l5 12) ((fX12_goesFar_14 n) l1 l2 l3 l4 (l5 + (1 : Int32)) (j_up I 120 l5.toNatClampNeg q2))))))
set_option maxHeartbeats 4000000 in
set_option maxRecDepth 100000 in
theorem kX12_goesFar_14 {E : JE} {r : Int32 × JI} {L : JL} {G : JG} {D : JG} {S : JS} (hL : Lay G S) : ∀ (n : Nat) (l1 : Int32) (l2 : Int32) (l3 : Int32) (l4 : Int32) (l5 : Int32) (I : JI), fX12_goesFar_14 n l1 l2 l3 l4 l5 I = some r → AtJ E xX12_goesFar (Zr E (some (.int r.1)) r.2 L G D S) ((S).length, jm_sl S) 8 14 [(0, .ref (E.1 + 66)), (1, .int l1), (2, .int l2), (3, .int l3), (4, .int l4), (5, .int l5)] [] I L G D S := by
  intro n
  induction n with
  | zero => intro l1 l2 l3 l4 l5 I  h; simp [fX12_goesFar_14] at h
  | succ n ih =>
    intro l1 l2 l3 l4 l5 I  h
    rw [fX12_goesFar_14] at h
    refine j_iload 16 dX12_goesFar_14 rfl 5 rfl ?_
    refine j_bipush (v := (12 : Int32)) 18 dX12_goesFar_16 rfl (by decide) ?_
    refine j_icmp_ge 54 21 dX12_goesFar_18 (by decide) rfl (fun hc => ?_) (fun hc => ?_)
    · replace h := j_pos hc h
      refine j_sub [0, 1, 2, 3, 4] rfl ?_
      exact kX12_goesFar_54 hL    _ _ _ _ _  h
    · replace h := j_neg hc h
      refine j_aload_n 22 dX12_goesFar_21 rfl rfl 0 rfl ?_
      refine j_getG 25 dX12_goesFar_22 rfl (sh_66 hL) cl12 (k := 80) (by decide) flX12_170 rfl (gs_66_80 hL) ?_
      refine j_iload 27 dX12_goesFar_25 rfl 5 rfl ?_
      refine j_aload_n 28 dX12_goesFar_27 rfl rfl 0 rfl ?_
      refine j_getG 31 dX12_goesFar_28 rfl (sh_66 hL) cl12 (k := 1) (by decide) flX12_7 rfl (gs_66_1 hL) ?_
      refine j_iload 33 dX12_goesFar_31 rfl 5 rfl ?_
      obtain ⟨hg, h⟩ := j_gs h
      refine j_zald 34 dX12_goesFar_33 rfl (sh_67 hL) (j_inv hg) ?_
      refine j_if_eq 46 37 dX12_goesFar_34 (by decide) rfl (fun hc => ?_) (fun hc => ?_)
      · replace h := j_pos hc h
        refine j_iconst (v := (-1 : Int32)) 47 dX12_goesFar_46 rfl (by decide) ?_
        obtain ⟨hg, h⟩ := j_gs h
        refine j_iast 48 dX12_goesFar_47 rfl (sh_120 hL) (j_inv hg) ?_
        refine j_iinc (v := (l5 + (1 : Int32))) (lv' := [(5, .int (l5 + (1 : Int32))), (0, .ref (E.1 + 66)), (1, .int l1), (2, .int l2), (3, .int l3), (4, .int l4)]) (q := 5) 51 dX12_goesFar_48 rfl rfl rfl (by decide) rfl ?_
        refine j_goto 14 dX12_goesFar_51 (by decide) ?_
        refine j_sub [1, 2, 3, 4, 5, 0] rfl ?_
        exact ih _ _ _ _ _ _  h
      · replace h := j_neg hc h
        refine j_aload_n 38 dX12_goesFar_37 rfl rfl 0 rfl ?_
        refine j_iload 40 dX12_goesFar_38 rfl 5 rfl ?_
        obtain ⟨q2, hq2, h⟩ := j_bs h
        refine j_callV (rest := [.int l5, .ref (E.1 + 120)]) (As := [.int l5]) 43 dX12_goesFar_40 rfl jyX12_holderOf (tcX12_holderOf hL  hq2) (sh_66 hL) cl12 flX12_512 wm2002 wm81 (by decide) rfl rfl (Nat.le_of_ble_eq_true rfl) ?_
        refine j_goto 47 dX12_goesFar_43 (by decide) ?_
        obtain ⟨hg, h⟩ := j_gs h
        refine j_iast 48 dX12_goesFar_47 rfl (sh_120 hL) (j_inv hg) ?_
        refine j_iinc (v := (l5 + (1 : Int32))) (lv' := [(5, .int (l5 + (1 : Int32))), (0, .ref (E.1 + 66)), (1, .int l1), (2, .int l2), (3, .int l3), (4, .int l4)]) (q := 5) 51 dX12_goesFar_48 rfl rfl rfl (by decide) rfl ?_
        refine j_goto 14 dX12_goesFar_51 (by decide) ?_
        refine j_sub [1, 2, 3, 4, 5, 0] rfl ?_
        exact ih _ _ _ _ _ _  h
def fX12_goesFar (l1 : Int32) (l2 : Int32) (l3 : Int32) (I : JI) : Option (Int32 × JI) :=
  (fX12_whoCares I).bind (fun q1 => fX12_goesFar_14 100000 l1 l2 l3 q1 (0 : Int32) (j_up I 66 50 (0 : Int32)))
set_option maxHeartbeats 4000000 in
set_option maxRecDepth 100000 in
theorem tcX12_goesFar {E : JE} {l1 : Int32} {l2 : Int32} {l3 : Int32} {r : Int32 × JI} {I : JI} {L : JL} {G D : JG} {S : JS} (hL : Lay G S) (h : fX12_goesFar l1 l2 l3 I = some r) : CallJ E xX12_goesFar 8 [.ref (E.1 + 66), .int l1, .int l2, .int l3] I L G D S (some (.int r.1)) r.2 L G D S := by
  unfold fX12_goesFar at h
  refine j_entry (by decide) (Nat.le_of_ble_eq_true rfl) ?_
  show AtJ E xX12_goesFar (Zr E (some (.int r.1)) r.2 L G D S) ((S).length, jm_sl S) 8 0 [(0, .ref (E.1 + 66)), (1, .int l1), (2, .int l2), (3, .int l3)] [] I L G D S
  refine j_aload_n 1 dX12_goesFar_0 rfl rfl 0 rfl ?_
  obtain ⟨q1, hq1, h⟩ := j_bs h
  refine j_callV (rest := []) (As := []) 4 dX12_goesFar_1 rfl jyX12_whoCares (tcX12_whoCares hL  hq1) (sh_66 hL) cl12 flX12_509 wm1998 wm80 (by decide) rfl rfl (Nat.le_of_ble_eq_true rfl) ?_
  refine j_istore (lv' := [(4, .int q1), (0, .ref (E.1 + 66)), (1, .int l1), (2, .int l2), (3, .int l3)]) 6 dX12_goesFar_4 rfl (by decide) rfl ?_
  refine j_aload_n 7 dX12_goesFar_6 rfl rfl 1 rfl ?_
  refine j_iconst (v := (0 : Int32)) 8 dX12_goesFar_7 rfl (by decide) ?_
  refine j_putI 11 dX12_goesFar_8 rfl (sh_66 hL) cl12 (k := 50) (by decide) flX12_434 rfl rfl rfl ?_
  refine j_iconst (v := (0 : Int32)) 12 dX12_goesFar_11 rfl (by decide) ?_
  refine j_istore (lv' := [(5, .int (0 : Int32)), (4, .int q1), (0, .ref (E.1 + 66)), (1, .int l1), (2, .int l2), (3, .int l3)]) 14 dX12_goesFar_12 rfl (by decide) rfl ?_
  refine j_sub [2, 3, 4, 5, 1, 0] rfl ?_
  exact kX12_goesFar_14 hL    100000 _ _ _ _ _ _  h
def fX12_far_102 (l4 : Int32) (l5 : Int32) (I : JI) : Option (Int32 × JI) :=
  if l4 = 0 then ((fX12_bits l5).bind (fun q7 => some (q7, I))) else (some (l5, I))
set_option maxHeartbeats 4000000 in
set_option maxRecDepth 100000 in
theorem kX12_far_102 {E : JE} {r : Int32 × JI} {L : JL} {G : JG} {D : JG} {S : JS} (hL : Lay G S) : ∀ (l4 : Int32) (l5 : Int32) (I : JI), fX12_far_102 l4 l5 I = some r → AtJ E xX12_far (Zr E (some (.int r.1)) r.2 L G D S) ((S).length, jm_sl S) 9 102 [(4, .int l4), (5, .int l5)] [] I L G D S := by
  intro l4 l5 I  h
  unfold fX12_far_102 at h
  refine j_iload 104 dX12_far_102 rfl 0 rfl ?_
  refine j_if_ne 115 107 dX12_far_104 (by decide) rfl (fun hc => ?_) (fun hc => ?_)
  · replace h := j_neg hc h
    refine j_iload 117 dX12_far_115 rfl 1 rfl ?_
    cases h
    exact j_iret dX12_far_117 rfl
  · replace h := j_pos hc h
    refine j_iload 109 dX12_far_107 rfl 1 rfl ?_
    obtain ⟨q7, hq7, h⟩ := j_bs h
    refine j_callS (rest := []) (As := [.int l5]) 112 dX12_far_109 rfl jyX12_bits (tcX12_bits   hq7) flX12_515 wm2005 (by decide) rfl rfl (Nat.le_of_ble_eq_true rfl) ?_
    refine j_goto 117 dX12_far_112 (by decide) ?_
    cases h
    exact j_iret dX12_far_117 rfl
def fX12_far_69 : Nat → Int32 → Int32 → Int32 → Int32 → JI → Option (Int32 × JI)
  | 0, _, _, _, _, _ => none
  | n + 1, l1, l4, l5, l6, I =>
    if (12 : Int32) ≤ l6 then (fX12_far_102 l4 l5 I) else (j_g (j_in l6 12) (if (I 120 l6.toNatClampNeg) = l1 then ((fX12_far_69 n) l1 l4 (l5 ||| ((1 : Int32) <<< (l6 &&& 31))) (l6 + (1 : Int32)) I) else ((fX12_far_69 n) l1 l4 l5 (l6 + (1 : Int32)) I)))
set_option maxHeartbeats 4000000 in
set_option maxRecDepth 100000 in
theorem kX12_far_69 {E : JE} {r : Int32 × JI} {L : JL} {G : JG} {D : JG} {S : JS} (hL : Lay G S) : ∀ (n : Nat) (l1 : Int32) (l4 : Int32) (l5 : Int32) (l6 : Int32) (I : JI), fX12_far_69 n l1 l4 l5 l6 I = some r → AtJ E xX12_far (Zr E (some (.int r.1)) r.2 L G D S) ((S).length, jm_sl S) 9 69 [(0, .ref (E.1 + 66)), (1, .int l1), (4, .int l4), (5, .int l5), (6, .int l6)] [] I L G D S := by
  intro n
  induction n with
  | zero => intro l1 l4 l5 l6 I  h; simp [fX12_far_69] at h
  | succ n ih =>
    intro l1 l4 l5 l6 I  h
    rw [fX12_far_69] at h
    refine j_iload 71 dX12_far_69 rfl 4 rfl ?_
    refine j_bipush (v := (12 : Int32)) 73 dX12_far_71 rfl (by decide) ?_
    refine j_icmp_ge 102 76 dX12_far_73 (by decide) rfl (fun hc => ?_) (fun hc => ?_)
    · replace h := j_pos hc h
      refine j_sub [2, 3] rfl ?_
      exact kX12_far_102 hL    _ _ _  h
    · replace h := j_neg hc h
      refine j_aload_n 77 dX12_far_76 rfl rfl 0 rfl ?_
      refine j_getG 80 dX12_far_77 rfl (sh_66 hL) cl12 (k := 80) (by decide) flX12_170 rfl (gs_66_80 hL) ?_
      refine j_iload 82 dX12_far_80 rfl 4 rfl ?_
      obtain ⟨hg, h⟩ := j_gs h
      refine j_iald 83 dX12_far_82 rfl (sh_120 hL) (j_inv hg) ?_
      refine j_iload_n 84 dX12_far_83 rfl rfl 1 rfl ?_
      refine j_icmp_ne 96 87 dX12_far_84 (by decide) rfl (fun hc => ?_) (fun hc => ?_)
      · replace h := j_neg hc h
        refine j_iinc (v := (l6 + (1 : Int32))) (lv' := [(6, .int (l6 + (1 : Int32))), (0, .ref (E.1 + 66)), (1, .int l1), (4, .int l4), (5, .int l5)]) (q := 4) 99 dX12_far_96 rfl rfl rfl (by decide) rfl ?_
        refine j_goto 69 dX12_far_99 (by decide) ?_
        refine j_sub [1, 2, 3, 4, 0] rfl ?_
        exact ih _ _ _ _ _  h
      · replace h := j_pos hc h
        refine j_iload 89 dX12_far_87 rfl 3 rfl ?_
        refine j_iconst (v := (1 : Int32)) 90 dX12_far_89 rfl (by decide) ?_
        refine j_iload 92 dX12_far_90 rfl 4 rfl ?_
        refine j_ishl 93 dX12_far_92 rfl ?_
        refine j_ior 94 dX12_far_93 rfl ?_
        refine j_istore (lv' := [(5, .int (l5 ||| ((1 : Int32) <<< (l6 &&& 31)))), (0, .ref (E.1 + 66)), (1, .int l1), (4, .int l4), (6, .int l6)]) 96 dX12_far_94 rfl (by decide) rfl ?_
        refine j_iinc (v := (l6 + (1 : Int32))) (lv' := [(6, .int (l6 + (1 : Int32))), (5, .int (l5 ||| ((1 : Int32) <<< (l6 &&& 31)))), (0, .ref (E.1 + 66)), (1, .int l1), (4, .int l4)]) (q := 4) 99 dX12_far_96 rfl rfl rfl (by decide) rfl ?_
        refine j_goto 69 dX12_far_99 (by decide) ?_
        refine j_sub [2, 3, 4, 1, 0] rfl ?_
        exact ih _ _ _ _ _  h
def fX12_far (l1 : Int32) (l2 : Int32) (l3 : Int32) (l4 : Int32) (I : JI) : Option (Int32 × JI) :=
  (fX12_isPerson l1).bind (fun q1 => if q1 = 0 then (some ((-1 : Int32), (j_up I 66 0 (0 : Int32)))) else ((fX12_within l2 (1 : Int32) (9 : Int32)).bind (fun q2 => if q2 = 0 then (some ((-1 : Int32), (j_up I 66 0 (0 : Int32)))) else ((fX12_within l3 (0 : Int32) (800 : Int32)).bind (fun q3 => if q3 = 0 then (some ((-1 : Int32), (j_up I 66 0 (0 : Int32)))) else ((fX12_within l4 (0 : Int32) (2 : Int32)).bind (fun q4 => if q4 = 0 then (some ((-1 : Int32), (j_up I 66 0 (0 : Int32)))) else ((fX12_goesFar l1 l2 l3 (j_up I 66 0 (0 : Int32))).bind (fun q5 => if l4 = (1 : Int32) then ((fX12_bits q5.1).bind (fun q6 => some (q6, q5.2))) else (fX12_far_69 100000 l1 l4 q5.1 (0 : Int32) q5.2))))))))))
set_option maxHeartbeats 4000000 in
set_option maxRecDepth 100000 in
theorem tcX12_far {E : JE} {l1 : Int32} {l2 : Int32} {l3 : Int32} {l4 : Int32} {r : Int32 × JI} {I : JI} {L : JL} {G D : JG} {S : JS} (hL : Lay G S) (h : fX12_far l1 l2 l3 l4 I = some r) : CallJ E xX12_far 9 [.ref (E.1 + 66), .int l1, .int l2, .int l3, .int l4] I L G D S (some (.int r.1)) r.2 L G D S := by
  unfold fX12_far at h
  refine j_entry (by decide) (Nat.le_of_ble_eq_true rfl) ?_
  show AtJ E xX12_far (Zr E (some (.int r.1)) r.2 L G D S) ((S).length, jm_sl S) 9 0 [(0, .ref (E.1 + 66)), (1, .int l1), (2, .int l2), (3, .int l3), (4, .int l4)] [] I L G D S
  refine j_aload_n 1 dX12_far_0 rfl rfl 0 rfl ?_
  refine j_iconst (v := (0 : Int32)) 2 dX12_far_1 rfl (by decide) ?_
  refine j_putI 5 dX12_far_2 rfl (sh_66 hL) cl12 (k := 0) (by decide) flX12_218 rfl rfl rfl ?_
  refine j_iload_n 6 dX12_far_5 rfl rfl 1 rfl ?_
  obtain ⟨q1, hq1, h⟩ := j_bs h
  refine j_callS (rest := []) (As := [.int l1]) 9 dX12_far_6 rfl jyX12_isPerson (tcX12_isPerson   hq1) flX12_226 wm1700 (by decide) rfl rfl (Nat.le_of_ble_eq_true rfl) ?_
  refine j_if_eq 43 12 dX12_far_9 (by decide) rfl (fun hc => ?_) (fun hc => ?_)
  · replace h := j_pos hc h
    refine j_iconst (v := (-1 : Int32)) 44 dX12_far_43 rfl (by decide) ?_
    cases h
    exact j_iret dX12_far_44 rfl
  · replace h := j_neg hc h
    refine j_iload_n 13 dX12_far_12 rfl rfl 2 rfl ?_
    refine j_iconst (v := (1 : Int32)) 14 dX12_far_13 rfl (by decide) ?_
    refine j_bipush (v := (9 : Int32)) 16 dX12_far_14 rfl (by decide) ?_
    obtain ⟨q2, hq2, h⟩ := j_bs h
    refine j_callS (rest := []) (As := [.int l2, .int (1 : Int32), .int (9 : Int32)]) 19 dX12_far_16 rfl jyX12_within (tcX12_within   hq2) flX12_222 wm1697 (by decide) rfl rfl (Nat.le_of_ble_eq_true rfl) ?_
    refine j_if_eq 43 22 dX12_far_19 (by decide) rfl (fun hc => ?_) (fun hc => ?_)
    · replace h := j_pos hc h
      refine j_iconst (v := (-1 : Int32)) 44 dX12_far_43 rfl (by decide) ?_
      cases h
      exact j_iret dX12_far_44 rfl
    · replace h := j_neg hc h
      refine j_iload_n 23 dX12_far_22 rfl rfl 3 rfl ?_
      refine j_iconst (v := (0 : Int32)) 24 dX12_far_23 rfl (by decide) ?_
      refine j_sipush (v := (800 : Int32)) 27 dX12_far_24 rfl (by decide) ?_
      obtain ⟨q3, hq3, h⟩ := j_bs h
      refine j_callS (rest := []) (As := [.int l3, .int (0 : Int32), .int (800 : Int32)]) 30 dX12_far_27 rfl jyX12_within (tcX12_within   hq3) flX12_222 wm1697 (by decide) rfl rfl (Nat.le_of_ble_eq_true rfl) ?_
      refine j_if_eq 43 33 dX12_far_30 (by decide) rfl (fun hc => ?_) (fun hc => ?_)
      · replace h := j_pos hc h
        refine j_iconst (v := (-1 : Int32)) 44 dX12_far_43 rfl (by decide) ?_
        cases h
        exact j_iret dX12_far_44 rfl
      · replace h := j_neg hc h
        refine j_iload 35 dX12_far_33 rfl 4 rfl ?_
        refine j_iconst (v := (0 : Int32)) 36 dX12_far_35 rfl (by decide) ?_
        refine j_iconst (v := (2 : Int32)) 37 dX12_far_36 rfl (by decide) ?_
        obtain ⟨q4, hq4, h⟩ := j_bs h
        refine j_callS (rest := []) (As := [.int l4, .int (0 : Int32), .int (2 : Int32)]) 40 dX12_far_37 rfl jyX12_within (tcX12_within   hq4) flX12_222 wm1697 (by decide) rfl rfl (Nat.le_of_ble_eq_true rfl) ?_
        refine j_if_ne 45 43 dX12_far_40 (by decide) rfl (fun hc => ?_) (fun hc => ?_)
        · replace h := j_neg hc h
          refine j_aload_n 46 dX12_far_45 rfl rfl 0 rfl ?_
          refine j_iload_n 47 dX12_far_46 rfl rfl 1 rfl ?_
          refine j_iload_n 48 dX12_far_47 rfl rfl 2 rfl ?_
          refine j_iload_n 49 dX12_far_48 rfl rfl 3 rfl ?_
          obtain ⟨q5, hq5, h⟩ := j_bs h
          refine j_callV (rest := []) (As := [.int l1, .int l2, .int l3]) 52 dX12_far_49 rfl jyX12_goesFar (tcX12_goesFar hL  hq5) (sh_66 hL) cl12 flX12_521 wm1994 wm79 (by decide) rfl rfl (Nat.le_of_ble_eq_true rfl) ?_
          refine j_istore (lv' := [(5, .int q5.1), (0, .ref (E.1 + 66)), (1, .int l1), (2, .int l2), (3, .int l3), (4, .int l4)]) 54 dX12_far_52 rfl (by decide) rfl ?_
          refine j_iload 56 dX12_far_54 rfl 5 rfl ?_
          refine j_iconst (v := (1 : Int32)) 57 dX12_far_56 rfl (by decide) ?_
          refine j_icmp_ne 66 60 dX12_far_57 (by decide) rfl (fun hc => ?_) (fun hc => ?_)
          · replace h := j_neg hc h
            refine j_iconst (v := (0 : Int32)) 67 dX12_far_66 rfl (by decide) ?_
            refine j_istore (lv' := [(6, .int (0 : Int32)), (5, .int q5.1), (0, .ref (E.1 + 66)), (1, .int l1), (2, .int l2), (3, .int l3), (4, .int l4)]) 69 dX12_far_67 rfl (by decide) rfl ?_
            refine j_sub [2, 3, 6, 1, 0] rfl ?_
            exact kX12_far_69 hL    100000 _ _ _ _ _  h
          · replace h := j_pos hc h
            refine j_iload 62 dX12_far_60 rfl 0 rfl ?_
            obtain ⟨q6, hq6, h⟩ := j_bs h
            refine j_callS (rest := []) (As := [.int q5.1]) 65 dX12_far_62 rfl jyX12_bits (tcX12_bits   hq6) flX12_515 wm2005 (by decide) rfl rfl (Nat.le_of_ble_eq_true rfl) ?_
            cases h
            exact j_iret dX12_far_65 rfl
        · replace h := j_pos hc h
          refine j_iconst (v := (-1 : Int32)) 44 dX12_far_43 rfl (by decide) ?_
          cases h
          exact j_iret dX12_far_44 rfl
def fX12_honest (l1 : Int32) (l2 : Int32) (l3 : Int32) (l4 : Int32) (l5 : Int32) (l6 : Int32) (I : JI) : Option (Int32 × JI) :=
  (fX12_isPassing l1 l2 l3 l4 l5 l6 l6 (j_up I 66 0 (0 : Int32))).bind (fun q1 => if q1 = 0 then (some ((0 : Int32), (j_up I 66 0 (0 : Int32)))) else (if ((j_up I 66 0 (0 : Int32)) 66 81) = (6 : Int32) then (some ((0 : Int32), (j_up I 66 0 (0 : Int32)))) else (j_g (j_in ((j_up I 66 0 (0 : Int32)) 66 81) 6) (j_g (j_in ((j_up (j_up I 66 0 (0 : Int32)) 121 ((j_up I 66 0 (0 : Int32)) 66 81).toNatClampNeg l1) 66 81) 6) (j_g (j_in ((j_up (j_up (j_up I 66 0 (0 : Int32)) 121 ((j_up I 66 0 (0 : Int32)) 66 81).toNatClampNeg l1) 122 ((j_up (j_up I 66 0 (0 : Int32)) 121 ((j_up I 66 0 (0 : Int32)) 66 81).toNatClampNeg l1) 66 81).toNatClampNeg l2) 66 81) 6) (j_g (j_in ((j_up (j_up (j_up (j_up I 66 0 (0 : Int32)) 121 ((j_up I 66 0 (0 : Int32)) 66 81).toNatClampNeg l1) 122 ((j_up (j_up I 66 0 (0 : Int32)) 121 ((j_up I 66 0 (0 : Int32)) 66 81).toNatClampNeg l1) 66 81).toNatClampNeg l2) 123 ((j_up (j_up (j_up I 66 0 (0 : Int32)) 121 ((j_up I 66 0 (0 : Int32)) 66 81).toNatClampNeg l1) 122 ((j_up (j_up I 66 0 (0 : Int32)) 121 ((j_up I 66 0 (0 : Int32)) 66 81).toNatClampNeg l1) 66 81).toNatClampNeg l2) 66 81).toNatClampNeg l3) 66 81) 6) (j_g (j_in ((j_up (j_up (j_up (j_up (j_up I 66 0 (0 : Int32)) 121 ((j_up I 66 0 (0 : Int32)) 66 81).toNatClampNeg l1) 122 ((j_up (j_up I 66 0 (0 : Int32)) 121 ((j_up I 66 0 (0 : Int32)) 66 81).toNatClampNeg l1) 66 81).toNatClampNeg l2) 123 ((j_up (j_up (j_up I 66 0 (0 : Int32)) 121 ((j_up I 66 0 (0 : Int32)) 66 81).toNatClampNeg l1) 122 ((j_up (j_up I 66 0 (0 : Int32)) 121 ((j_up I 66 0 (0 : Int32)) 66 81).toNatClampNeg l1) 66 81).toNatClampNeg l2) 66 81).toNatClampNeg l3) 124 ((j_up (j_up (j_up (j_up I 66 0 (0 : Int32)) 121 ((j_up I 66 0 (0 : Int32)) 66 81).toNatClampNeg l1) 122 ((j_up (j_up I 66 0 (0 : Int32)) 121 ((j_up I 66 0 (0 : Int32)) 66 81).toNatClampNeg l1) 66 81).toNatClampNeg l2) 123 ((j_up (j_up (j_up I 66 0 (0 : Int32)) 121 ((j_up I 66 0 (0 : Int32)) 66 81).toNatClampNeg l1) 122 ((j_up (j_up I 66 0 (0 : Int32)) 121 ((j_up I 66 0 (0 : Int32)) 66 81).toNatClampNeg l1) 66 81).toNatClampNeg l2) 66 81).toNatClampNeg l3) 66 81).toNatClampNeg l4) 66 81) 6) (j_g (j_in ((j_up (j_up (j_up (j_up (j_up (j_up I 66 0 (0 : Int32)) 121 ((j_up I 66 0 (0 : Int32)) 66 81).toNatClampNeg l1) 122 ((j_up (j_up I 66 0 (0 : Int32)) 121 ((j_up I 66 0 (0 : Int32)) 66 81).toNatClampNeg l1) 66 81).toNatClampNeg l2) 123 ((j_up (j_up (j_up I 66 0 (0 : Int32)) 121 ((j_up I 66 0 (0 : Int32)) 66 81).toNatClampNeg l1) 122 ((j_up (j_up I 66 0 (0 : Int32)) 121 ((j_up I 66 0 (0 : Int32)) 66 81).toNatClampNeg l1) 66 81).toNatClampNeg l2) 66 81).toNatClampNeg l3) 124 ((j_up (j_up (j_up (j_up I 66 0 (0 : Int32)) 121 ((j_up I 66 0 (0 : Int32)) 66 81).toNatClampNeg l1) 122 ((j_up (j_up I 66 0 (0 : Int32)) 121 ((j_up I 66 0 (0 : Int32)) 66 81).toNatClampNeg l1) 66 81).toNatClampNeg l2) 123 ((j_up (j_up (j_up I 66 0 (0 : Int32)) 121 ((j_up I 66 0 (0 : Int32)) 66 81).toNatClampNeg l1) 122 ((j_up (j_up I 66 0 (0 : Int32)) 121 ((j_up I 66 0 (0 : Int32)) 66 81).toNatClampNeg l1) 66 81).toNatClampNeg l2) 66 81).toNatClampNeg l3) 66 81).toNatClampNeg l4) 125 ((j_up (j_up (j_up (j_up (j_up I 66 0 (0 : Int32)) 121 ((j_up I 66 0 (0 : Int32)) 66 81).toNatClampNeg l1) 122 ((j_up (j_up I 66 0 (0 : Int32)) 121 ((j_up I 66 0 (0 : Int32)) 66 81).toNatClampNeg l1) 66 81).toNatClampNeg l2) 123 ((j_up (j_up (j_up I 66 0 (0 : Int32)) 121 ((j_up I 66 0 (0 : Int32)) 66 81).toNatClampNeg l1) 122 ((j_up (j_up I 66 0 (0 : Int32)) 121 ((j_up I 66 0 (0 : Int32)) 66 81).toNatClampNeg l1) 66 81).toNatClampNeg l2) 66 81).toNatClampNeg l3) 124 ((j_up (j_up (j_up (j_up I 66 0 (0 : Int32)) 121 ((j_up I 66 0 (0 : Int32)) 66 81).toNatClampNeg l1) 122 ((j_up (j_up I 66 0 (0 : Int32)) 121 ((j_up I 66 0 (0 : Int32)) 66 81).toNatClampNeg l1) 66 81).toNatClampNeg l2) 123 ((j_up (j_up (j_up I 66 0 (0 : Int32)) 121 ((j_up I 66 0 (0 : Int32)) 66 81).toNatClampNeg l1) 122 ((j_up (j_up I 66 0 (0 : Int32)) 121 ((j_up I 66 0 (0 : Int32)) 66 81).toNatClampNeg l1) 66 81).toNatClampNeg l2) 66 81).toNatClampNeg l3) 66 81).toNatClampNeg l4) 66 81).toNatClampNeg l5) 66 81) 6) (some ((1 : Int32), (j_up (j_up (j_up (j_up (j_up (j_up (j_up (j_up I 66 0 (0 : Int32)) 121 ((j_up I 66 0 (0 : Int32)) 66 81).toNatClampNeg l1) 122 ((j_up (j_up I 66 0 (0 : Int32)) 121 ((j_up I 66 0 (0 : Int32)) 66 81).toNatClampNeg l1) 66 81).toNatClampNeg l2) 123 ((j_up (j_up (j_up I 66 0 (0 : Int32)) 121 ((j_up I 66 0 (0 : Int32)) 66 81).toNatClampNeg l1) 122 ((j_up (j_up I 66 0 (0 : Int32)) 121 ((j_up I 66 0 (0 : Int32)) 66 81).toNatClampNeg l1) 66 81).toNatClampNeg l2) 66 81).toNatClampNeg l3) 124 ((j_up (j_up (j_up (j_up I 66 0 (0 : Int32)) 121 ((j_up I 66 0 (0 : Int32)) 66 81).toNatClampNeg l1) 122 ((j_up (j_up I 66 0 (0 : Int32)) 121 ((j_up I 66 0 (0 : Int32)) 66 81).toNatClampNeg l1) 66 81).toNatClampNeg l2) 123 ((j_up (j_up (j_up I 66 0 (0 : Int32)) 121 ((j_up I 66 0 (0 : Int32)) 66 81).toNatClampNeg l1) 122 ((j_up (j_up I 66 0 (0 : Int32)) 121 ((j_up I 66 0 (0 : Int32)) 66 81).toNatClampNeg l1) 66 81).toNatClampNeg l2) 66 81).toNatClampNeg l3) 66 81).toNatClampNeg l4) 125 ((j_up (j_up (j_up (j_up (j_up I 66 0 (0 : Int32)) 121 ((j_up I 66 0 (0 : Int32)) 66 81).toNatClampNeg l1) 122 ((j_up (j_up I 66 0 (0 : Int32)) 121 ((j_up I 66 0 (0 : Int32)) 66 81).toNatClampNeg l1) 66 81).toNatClampNeg l2) 123 ((j_up (j_up (j_up I 66 0 (0 : Int32)) 121 ((j_up I 66 0 (0 : Int32)) 66 81).toNatClampNeg l1) 122 ((j_up (j_up I 66 0 (0 : Int32)) 121 ((j_up I 66 0 (0 : Int32)) 66 81).toNatClampNeg l1) 66 81).toNatClampNeg l2) 66 81).toNatClampNeg l3) 124 ((j_up (j_up (j_up (j_up I 66 0 (0 : Int32)) 121 ((j_up I 66 0 (0 : Int32)) 66 81).toNatClampNeg l1) 122 ((j_up (j_up I 66 0 (0 : Int32)) 121 ((j_up I 66 0 (0 : Int32)) 66 81).toNatClampNeg l1) 66 81).toNatClampNeg l2) 123 ((j_up (j_up (j_up I 66 0 (0 : Int32)) 121 ((j_up I 66 0 (0 : Int32)) 66 81).toNatClampNeg l1) 122 ((j_up (j_up I 66 0 (0 : Int32)) 121 ((j_up I 66 0 (0 : Int32)) 66 81).toNatClampNeg l1) 66 81).toNatClampNeg l2) 66 81).toNatClampNeg l3) 66 81).toNatClampNeg l4) 66 81).toNatClampNeg l5) 126 ((j_up (j_up (j_up (j_up (j_up (j_up I 66 0 (0 : Int32)) 121 ((j_up I 66 0 (0 : Int32)) 66 81).toNatClampNeg l1) 122 ((j_up (j_up I 66 0 (0 : Int32)) 121 ((j_up I 66 0 (0 : Int32)) 66 81).toNatClampNeg l1) 66 81).toNatClampNeg l2) 123 ((j_up (j_up (j_up I 66 0 (0 : Int32)) 121 ((j_up I 66 0 (0 : Int32)) 66 81).toNatClampNeg l1) 122 ((j_up (j_up I 66 0 (0 : Int32)) 121 ((j_up I 66 0 (0 : Int32)) 66 81).toNatClampNeg l1) 66 81).toNatClampNeg l2) 66 81).toNatClampNeg l3) 124 ((j_up (j_up (j_up (j_up I 66 0 (0 : Int32)) 121 ((j_up I 66 0 (0 : Int32)) 66 81).toNatClampNeg l1) 122 ((j_up (j_up I 66 0 (0 : Int32)) 121 ((j_up I 66 0 (0 : Int32)) 66 81).toNatClampNeg l1) 66 81).toNatClampNeg l2) 123 ((j_up (j_up (j_up I 66 0 (0 : Int32)) 121 ((j_up I 66 0 (0 : Int32)) 66 81).toNatClampNeg l1) 122 ((j_up (j_up I 66 0 (0 : Int32)) 121 ((j_up I 66 0 (0 : Int32)) 66 81).toNatClampNeg l1) 66 81).toNatClampNeg l2) 66 81).toNatClampNeg l3) 66 81).toNatClampNeg l4) 125 ((j_up (j_up (j_up (j_up (j_up I 66 0 (0 : Int32)) 121 ((j_up I 66 0 (0 : Int32)) 66 81).toNatClampNeg l1) 122 ((j_up (j_up I 66 0 (0 : Int32)) 121 ((j_up I 66 0 (0 : Int32)) 66 81).toNatClampNeg l1) 66 81).toNatClampNeg l2) 123 ((j_up (j_up (j_up I 66 0 (0 : Int32)) 121 ((j_up I 66 0 (0 : Int32)) 66 81).toNatClampNeg l1) 122 ((j_up (j_up I 66 0 (0 : Int32)) 121 ((j_up I 66 0 (0 : Int32)) 66 81).toNatClampNeg l1) 66 81).toNatClampNeg l2) 66 81).toNatClampNeg l3) 124 ((j_up (j_up (j_up (j_up I 66 0 (0 : Int32)) 121 ((j_up I 66 0 (0 : Int32)) 66 81).toNatClampNeg l1) 122 ((j_up (j_up I 66 0 (0 : Int32)) 121 ((j_up I 66 0 (0 : Int32)) 66 81).toNatClampNeg l1) 66 81).toNatClampNeg l2) 123 ((j_up (j_up (j_up I 66 0 (0 : Int32)) 121 ((j_up I 66 0 (0 : Int32)) 66 81).toNatClampNeg l1) 122 ((j_up (j_up I 66 0 (0 : Int32)) 121 ((j_up I 66 0 (0 : Int32)) 66 81).toNatClampNeg l1) 66 81).toNatClampNeg l2) 66 81).toNatClampNeg l3) 66 81).toNatClampNeg l4) 66 81).toNatClampNeg l5) 66 81).toNatClampNeg l6) 66 81 (((j_up (j_up (j_up (j_up (j_up (j_up (j_up I 66 0 (0 : Int32)) 121 ((j_up I 66 0 (0 : Int32)) 66 81).toNatClampNeg l1) 122 ((j_up (j_up I 66 0 (0 : Int32)) 121 ((j_up I 66 0 (0 : Int32)) 66 81).toNatClampNeg l1) 66 81).toNatClampNeg l2) 123 ((j_up (j_up (j_up I 66 0 (0 : Int32)) 121 ((j_up I 66 0 (0 : Int32)) 66 81).toNatClampNeg l1) 122 ((j_up (j_up I 66 0 (0 : Int32)) 121 ((j_up I 66 0 (0 : Int32)) 66 81).toNatClampNeg l1) 66 81).toNatClampNeg l2) 66 81).toNatClampNeg l3) 124 ((j_up (j_up (j_up (j_up I 66 0 (0 : Int32)) 121 ((j_up I 66 0 (0 : Int32)) 66 81).toNatClampNeg l1) 122 ((j_up (j_up I 66 0 (0 : Int32)) 121 ((j_up I 66 0 (0 : Int32)) 66 81).toNatClampNeg l1) 66 81).toNatClampNeg l2) 123 ((j_up (j_up (j_up I 66 0 (0 : Int32)) 121 ((j_up I 66 0 (0 : Int32)) 66 81).toNatClampNeg l1) 122 ((j_up (j_up I 66 0 (0 : Int32)) 121 ((j_up I 66 0 (0 : Int32)) 66 81).toNatClampNeg l1) 66 81).toNatClampNeg l2) 66 81).toNatClampNeg l3) 66 81).toNatClampNeg l4) 125 ((j_up (j_up (j_up (j_up (j_up I 66 0 (0 : Int32)) 121 ((j_up I 66 0 (0 : Int32)) 66 81).toNatClampNeg l1) 122 ((j_up (j_up I 66 0 (0 : Int32)) 121 ((j_up I 66 0 (0 : Int32)) 66 81).toNatClampNeg l1) 66 81).toNatClampNeg l2) 123 ((j_up (j_up (j_up I 66 0 (0 : Int32)) 121 ((j_up I 66 0 (0 : Int32)) 66 81).toNatClampNeg l1) 122 ((j_up (j_up I 66 0 (0 : Int32)) 121 ((j_up I 66 0 (0 : Int32)) 66 81).toNatClampNeg l1) 66 81).toNatClampNeg l2) 66 81).toNatClampNeg l3) 124 ((j_up (j_up (j_up (j_up I 66 0 (0 : Int32)) 121 ((j_up I 66 0 (0 : Int32)) 66 81).toNatClampNeg l1) 122 ((j_up (j_up I 66 0 (0 : Int32)) 121 ((j_up I 66 0 (0 : Int32)) 66 81).toNatClampNeg l1) 66 81).toNatClampNeg l2) 123 ((j_up (j_up (j_up I 66 0 (0 : Int32)) 121 ((j_up I 66 0 (0 : Int32)) 66 81).toNatClampNeg l1) 122 ((j_up (j_up I 66 0 (0 : Int32)) 121 ((j_up I 66 0 (0 : Int32)) 66 81).toNatClampNeg l1) 66 81).toNatClampNeg l2) 66 81).toNatClampNeg l3) 66 81).toNatClampNeg l4) 66 81).toNatClampNeg l5) 126 ((j_up (j_up (j_up (j_up (j_up (j_up I 66 0 (0 : Int32)) 121 ((j_up I 66 0 (0 : Int32)) 66 81).toNatClampNeg l1) 122 ((j_up (j_up I 66 0 (0 : Int32)) 121 ((j_up I 66 0 (0 : Int32)) 66 81).toNatClampNeg l1) 66 81).toNatClampNeg l2) 123 ((j_up (j_up (j_up I 66 0 (0 : Int32)) 121 ((j_up I 66 0 (0 : Int32)) 66 81).toNatClampNeg l1) 122 ((j_up (j_up I 66 0 (0 : Int32)) 121 ((j_up I 66 0 (0 : Int32)) 66 81).toNatClampNeg l1) 66 81).toNatClampNeg l2) 66 81).toNatClampNeg l3) 124 ((j_up (j_up (j_up (j_up I 66 0 (0 : Int32)) 121 ((j_up I 66 0 (0 : Int32)) 66 81).toNatClampNeg l1) 122 ((j_up (j_up I 66 0 (0 : Int32)) 121 ((j_up I 66 0 (0 : Int32)) 66 81).toNatClampNeg l1) 66 81).toNatClampNeg l2) 123 ((j_up (j_up (j_up I 66 0 (0 : Int32)) 121 ((j_up I 66 0 (0 : Int32)) 66 81).toNatClampNeg l1) 122 ((j_up (j_up I 66 0 (0 : Int32)) 121 ((j_up I 66 0 (0 : Int32)) 66 81).toNatClampNeg l1) 66 81).toNatClampNeg l2) 66 81).toNatClampNeg l3) 66 81).toNatClampNeg l4) 125 ((j_up (j_up (j_up (j_up (j_up I 66 0 (0 : Int32)) 121 ((j_up I 66 0 (0 : Int32)) 66 81).toNatClampNeg l1) 122 ((j_up (j_up I 66 0 (0 : Int32)) 121 ((j_up I 66 0 (0 : Int32)) 66 81).toNatClampNeg l1) 66 81).toNatClampNeg l2) 123 ((j_up (j_up (j_up I 66 0 (0 : Int32)) 121 ((j_up I 66 0 (0 : Int32)) 66 81).toNatClampNeg l1) 122 ((j_up (j_up I 66 0 (0 : Int32)) 121 ((j_up I 66 0 (0 : Int32)) 66 81).toNatClampNeg l1) 66 81).toNatClampNeg l2) 66 81).toNatClampNeg l3) 124 ((j_up (j_up (j_up (j_up I 66 0 (0 : Int32)) 121 ((j_up I 66 0 (0 : Int32)) 66 81).toNatClampNeg l1) 122 ((j_up (j_up I 66 0 (0 : Int32)) 121 ((j_up I 66 0 (0 : Int32)) 66 81).toNatClampNeg l1) 66 81).toNatClampNeg l2) 123 ((j_up (j_up (j_up I 66 0 (0 : Int32)) 121 ((j_up I 66 0 (0 : Int32)) 66 81).toNatClampNeg l1) 122 ((j_up (j_up I 66 0 (0 : Int32)) 121 ((j_up I 66 0 (0 : Int32)) 66 81).toNatClampNeg l1) 66 81).toNatClampNeg l2) 66 81).toNatClampNeg l3) 66 81).toNatClampNeg l4) 66 81).toNatClampNeg l5) 66 81).toNatClampNeg l6) 66 81) + (1 : Int32)))))))))))))
set_option maxHeartbeats 4000000 in
set_option maxRecDepth 100000 in
theorem tcX12_honest {E : JE} {l1 : Int32} {l2 : Int32} {l3 : Int32} {l4 : Int32} {l5 : Int32} {l6 : Int32} {r : Int32 × JI} {I : JI} {L : JL} {G D : JG} {S : JS} (hL : Lay G S) (h : fX12_honest l1 l2 l3 l4 l5 l6 I = some r) : CallJ E xX12_honest 4 [.ref (E.1 + 66), .int l1, .int l2, .int l3, .int l4, .int l5, .int l6] I L G D S (some (.int r.1)) r.2 L G D S := by
  unfold fX12_honest at h
  refine j_entry (by decide) (Nat.le_of_ble_eq_true rfl) ?_
  show AtJ E xX12_honest (Zr E (some (.int r.1)) r.2 L G D S) ((S).length, jm_sl S) 4 0 [(0, .ref (E.1 + 66)), (1, .int l1), (2, .int l2), (3, .int l3), (4, .int l4), (5, .int l5), (6, .int l6)] [] I L G D S
  refine j_aload_n 1 dX12_honest_0 rfl rfl 0 rfl ?_
  refine j_iconst (v := (0 : Int32)) 2 dX12_honest_1 rfl (by decide) ?_
  refine j_putI 5 dX12_honest_2 rfl (sh_66 hL) cl12 (k := 0) (by decide) flX12_218 rfl rfl rfl ?_
  refine j_aload_n 6 dX12_honest_5 rfl rfl 0 rfl ?_
  refine j_iload_n 7 dX12_honest_6 rfl rfl 1 rfl ?_
  refine j_iload_n 8 dX12_honest_7 rfl rfl 2 rfl ?_
  refine j_iload_n 9 dX12_honest_8 rfl rfl 3 rfl ?_
  refine j_iload 11 dX12_honest_9 rfl 4 rfl ?_
  refine j_iload 13 dX12_honest_11 rfl 5 rfl ?_
  refine j_iload 15 dX12_honest_13 rfl 6 rfl ?_
  refine j_iload 17 dX12_honest_15 rfl 6 rfl ?_
  obtain ⟨q1, hq1, h⟩ := j_bs h
  refine j_callV (rest := []) (As := [.int l1, .int l2, .int l3, .int l4, .int l5, .int l6, .int l6]) 20 dX12_honest_17 rfl jyX12_isPassing (tcX12_isPassing hL  hq1) (sh_66 hL) cl12 flX12_456 wm1854 wm57 (by decide) rfl rfl (Nat.le_of_ble_eq_true rfl) ?_
  refine j_if_eq 32 23 dX12_honest_20 (by decide) rfl (fun hc => ?_) (fun hc => ?_)
  · replace h := j_pos hc h
    refine j_iconst (v := (0 : Int32)) 33 dX12_honest_32 rfl (by decide) ?_
    cases h
    exact j_zret dX12_honest_33 rfl j_b01_0
  · replace h := j_neg hc h
    refine j_aload_n 24 dX12_honest_23 rfl rfl 0 rfl ?_
    refine j_getI 27 dX12_honest_24 rfl (sh_66 hL) cl12 (k := 81) (by decide) flX12_525 rfl ?_
    refine j_bipush (v := (6 : Int32)) 29 dX12_honest_27 rfl (by decide) ?_
    refine j_icmp_ne 34 32 dX12_honest_29 (by decide) rfl (fun hc => ?_) (fun hc => ?_)
    · replace h := j_neg hc h
      refine j_aload_n 35 dX12_honest_34 rfl rfl 0 rfl ?_
      refine j_getG 38 dX12_honest_35 rfl (sh_66 hL) cl12 (k := 82) (by decide) flX12_173 rfl (gs_66_82 hL) ?_
      refine j_aload_n 39 dX12_honest_38 rfl rfl 0 rfl ?_
      refine j_getI 42 dX12_honest_39 rfl (sh_66 hL) cl12 (k := 81) (by decide) flX12_525 rfl ?_
      refine j_iload_n 43 dX12_honest_42 rfl rfl 1 rfl ?_
      obtain ⟨hg, h⟩ := j_gs h
      refine j_iast 44 dX12_honest_43 rfl (sh_121 hL) (j_inv hg) ?_
      refine j_aload_n 45 dX12_honest_44 rfl rfl 0 rfl ?_
      refine j_getG 48 dX12_honest_45 rfl (sh_66 hL) cl12 (k := 83) (by decide) flX12_176 rfl (gs_66_83 hL) ?_
      refine j_aload_n 49 dX12_honest_48 rfl rfl 0 rfl ?_
      refine j_getI 52 dX12_honest_49 rfl (sh_66 hL) cl12 (k := 81) (by decide) flX12_525 rfl ?_
      refine j_iload_n 53 dX12_honest_52 rfl rfl 2 rfl ?_
      obtain ⟨hg, h⟩ := j_gs h
      refine j_iast 54 dX12_honest_53 rfl (sh_122 hL) (j_inv hg) ?_
      refine j_aload_n 55 dX12_honest_54 rfl rfl 0 rfl ?_
      refine j_getG 58 dX12_honest_55 rfl (sh_66 hL) cl12 (k := 84) (by decide) flX12_179 rfl (gs_66_84 hL) ?_
      refine j_aload_n 59 dX12_honest_58 rfl rfl 0 rfl ?_
      refine j_getI 62 dX12_honest_59 rfl (sh_66 hL) cl12 (k := 81) (by decide) flX12_525 rfl ?_
      refine j_iload_n 63 dX12_honest_62 rfl rfl 3 rfl ?_
      obtain ⟨hg, h⟩ := j_gs h
      refine j_iast 64 dX12_honest_63 rfl (sh_123 hL) (j_inv hg) ?_
      refine j_aload_n 65 dX12_honest_64 rfl rfl 0 rfl ?_
      refine j_getG 68 dX12_honest_65 rfl (sh_66 hL) cl12 (k := 85) (by decide) flX12_182 rfl (gs_66_85 hL) ?_
      refine j_aload_n 69 dX12_honest_68 rfl rfl 0 rfl ?_
      refine j_getI 72 dX12_honest_69 rfl (sh_66 hL) cl12 (k := 81) (by decide) flX12_525 rfl ?_
      refine j_iload 74 dX12_honest_72 rfl 4 rfl ?_
      obtain ⟨hg, h⟩ := j_gs h
      refine j_iast 75 dX12_honest_74 rfl (sh_124 hL) (j_inv hg) ?_
      refine j_aload_n 76 dX12_honest_75 rfl rfl 0 rfl ?_
      refine j_getG 79 dX12_honest_76 rfl (sh_66 hL) cl12 (k := 86) (by decide) flX12_185 rfl (gs_66_86 hL) ?_
      refine j_aload_n 80 dX12_honest_79 rfl rfl 0 rfl ?_
      refine j_getI 83 dX12_honest_80 rfl (sh_66 hL) cl12 (k := 81) (by decide) flX12_525 rfl ?_
      refine j_iload 85 dX12_honest_83 rfl 5 rfl ?_
      obtain ⟨hg, h⟩ := j_gs h
      refine j_iast 86 dX12_honest_85 rfl (sh_125 hL) (j_inv hg) ?_
      refine j_aload_n 87 dX12_honest_86 rfl rfl 0 rfl ?_
      refine j_getG 90 dX12_honest_87 rfl (sh_66 hL) cl12 (k := 87) (by decide) flX12_188 rfl (gs_66_87 hL) ?_
      refine j_aload_n 91 dX12_honest_90 rfl rfl 0 rfl ?_
      refine j_getI 94 dX12_honest_91 rfl (sh_66 hL) cl12 (k := 81) (by decide) flX12_525 rfl ?_
      refine j_iload 96 dX12_honest_94 rfl 6 rfl ?_
      obtain ⟨hg, h⟩ := j_gs h
      refine j_iast 97 dX12_honest_96 rfl (sh_126 hL) (j_inv hg) ?_
      refine j_aload_n 98 dX12_honest_97 rfl rfl 0 rfl ?_
      refine j_dup 99 dX12_honest_98 rfl rfl ?_
      refine j_getI 102 dX12_honest_99 rfl (sh_66 hL) cl12 (k := 81) (by decide) flX12_525 rfl ?_
      refine j_iconst (v := (1 : Int32)) 103 dX12_honest_102 rfl (by decide) ?_
      refine j_iadd 104 dX12_honest_103 rfl ?_
      refine j_putI 107 dX12_honest_104 rfl (sh_66 hL) cl12 (k := 81) (by decide) flX12_525 rfl rfl rfl ?_
      refine j_iconst (v := (1 : Int32)) 108 dX12_honest_107 rfl (by decide) ?_
      cases h
      exact j_zret dX12_honest_108 rfl j_b01_1
    · replace h := j_pos hc h
      refine j_iconst (v := (0 : Int32)) 33 dX12_honest_32 rfl (by decide) ?_
      cases h
      exact j_zret dX12_honest_33 rfl j_b01_0
def fX12_maybes_4 : Nat → Int32 → Int32 → JI → Option (Int32)
  | 0, _, _, _ => none
  | n + 1, l1, l2, I =>
    if (I 66 18) ≤ l2 then (some (l1)) else (j_g (j_in l2 36) (if (jm_b01 (I 76 l2.toNatClampNeg)) = 0 then ((fX12_maybes_4 n) (l1 + (0 : Int32)) (l2 + (1 : Int32)) I) else ((fX12_maybes_4 n) (l1 + (1 : Int32)) (l2 + (1 : Int32)) I)))
set_option maxHeartbeats 4000000 in
set_option maxRecDepth 100000 in
theorem kX12_maybes_4 {E : JE} {r : Int32} {L : JL} {G : JG} {D : JG} {S : JS} (hL : Lay G S) : ∀ (n : Nat) (l1 : Int32) (l2 : Int32) (I : JI), fX12_maybes_4 n l1 l2 I = some r → AtJ E xX12_maybes (Zr E (some (.int r)) I L G D S) ((S).length, jm_sl S) 1 4 [(0, .ref (E.1 + 66)), (1, .int l1), (2, .int l2)] [] I L G D S := by
  intro n
  induction n with
  | zero => intro l1 l2 I  h; simp [fX12_maybes_4] at h
  | succ n ih =>
    intro l1 l2 I  h
    rw [fX12_maybes_4] at h
    refine j_iload_n 5 dX12_maybes_4 rfl rfl 2 rfl ?_
    refine j_aload_n 6 dX12_maybes_5 rfl rfl 0 rfl ?_
    refine j_getI 9 dX12_maybes_6 rfl (sh_66 hL) cl12 (k := 18) (by decide) flX12_398 rfl ?_
    refine j_icmp_ge 35 12 dX12_maybes_9 (by decide) rfl (fun hc => ?_) (fun hc => ?_)
    · replace h := j_pos hc h
      refine j_iload_n 36 dX12_maybes_35 rfl rfl 1 rfl ?_
      cases h
      exact j_iret dX12_maybes_36 rfl
    · replace h := j_neg hc h
      refine j_iload_n 13 dX12_maybes_12 rfl rfl 1 rfl ?_
      refine j_aload_n 14 dX12_maybes_13 rfl rfl 0 rfl ?_
      refine j_getG 17 dX12_maybes_14 rfl (sh_66 hL) cl12 (k := 20) (by decide) flX12_38 rfl (gs_66_20 hL) ?_
      refine j_iload_n 18 dX12_maybes_17 rfl rfl 2 rfl ?_
      obtain ⟨hg, h⟩ := j_gs h
      refine j_zald 19 dX12_maybes_18 rfl (sh_76 hL) (j_inv hg) ?_
      refine j_if_eq 26 22 dX12_maybes_19 (by decide) rfl (fun hc => ?_) (fun hc => ?_)
      · replace h := j_pos hc h
        refine j_iconst (v := (0 : Int32)) 27 dX12_maybes_26 rfl (by decide) ?_
        refine j_iadd 28 dX12_maybes_27 rfl ?_
        refine j_istore_n (lv' := [(1, .int (l1 + (0 : Int32))), (0, .ref (E.1 + 66)), (2, .int l2)]) 29 dX12_maybes_28 rfl rfl (by decide) rfl ?_
        refine j_iinc (v := (l2 + (1 : Int32))) (lv' := [(2, .int (l2 + (1 : Int32))), (1, .int (l1 + (0 : Int32))), (0, .ref (E.1 + 66))]) (q := 2) 32 dX12_maybes_29 rfl rfl rfl (by decide) rfl ?_
        refine j_goto 4 dX12_maybes_32 (by decide) ?_
        refine j_sub [2, 1, 0] rfl ?_
        exact ih _ _ _  h
      · replace h := j_neg hc h
        refine j_iconst (v := (1 : Int32)) 23 dX12_maybes_22 rfl (by decide) ?_
        refine j_goto 27 dX12_maybes_23 (by decide) ?_
        refine j_iadd 28 dX12_maybes_27 rfl ?_
        refine j_istore_n (lv' := [(1, .int (l1 + (1 : Int32))), (0, .ref (E.1 + 66)), (2, .int l2)]) 29 dX12_maybes_28 rfl rfl (by decide) rfl ?_
        refine j_iinc (v := (l2 + (1 : Int32))) (lv' := [(2, .int (l2 + (1 : Int32))), (1, .int (l1 + (1 : Int32))), (0, .ref (E.1 + 66))]) (q := 2) 32 dX12_maybes_29 rfl rfl rfl (by decide) rfl ?_
        refine j_goto 4 dX12_maybes_32 (by decide) ?_
        refine j_sub [2, 1, 0] rfl ?_
        exact ih _ _ _  h
def fX12_maybes (I : JI) : Option (Int32) :=
  fX12_maybes_4 100000 (0 : Int32) (0 : Int32) I
set_option maxHeartbeats 4000000 in
set_option maxRecDepth 100000 in
theorem tcX12_maybes {E : JE} {r : Int32} {I : JI} {L : JL} {G D : JG} {S : JS} (hL : Lay G S) (h : fX12_maybes I = some r) : CallJ E xX12_maybes 1 [.ref (E.1 + 66)] I L G D S (some (.int r)) I L G D S := by
  unfold fX12_maybes at h
  refine j_entry (by decide) (Nat.le_of_ble_eq_true rfl) ?_
  show AtJ E xX12_maybes (Zr E (some (.int r)) I L G D S) ((S).length, jm_sl S) 1 0 [(0, .ref (E.1 + 66))] [] I L G D S
  refine j_iconst (v := (0 : Int32)) 1 dX12_maybes_0 rfl (by decide) ?_
  refine j_istore_n (lv' := [(1, .int (0 : Int32)), (0, .ref (E.1 + 66))]) 2 dX12_maybes_1 rfl rfl (by decide) rfl ?_
  refine j_iconst (v := (0 : Int32)) 3 dX12_maybes_2 rfl (by decide) ?_
  refine j_istore_n (lv' := [(2, .int (0 : Int32)), (1, .int (0 : Int32)), (0, .ref (E.1 + 66))]) 4 dX12_maybes_3 rfl rfl (by decide) rfl ?_
  refine j_sub [2, 1, 0] rfl ?_
  exact kX12_maybes_4 hL    100000 _ _ _  h
def fX12_does_121 (l2 : Int32) (l3 : Int32) (l4 : Int32) (l5 : Int32) (I : JI) : Option (Int32 × JI) :=
  (fX12_seeks l2 l3 l4 l5 I).bind (fun q3 => if 0 ≤ q3.1 then (some ((0 : Int32), q3.2)) else (some ((1 : Int32), q3.2)))
set_option maxHeartbeats 4000000 in
set_option maxRecDepth 100000 in
theorem kX12_does_121 {E : JE} {r : Int32 × JI} {L : JL} {G : JG} {D : JG} {S : JS} (hL : Lay G S) : ∀ (l2 : Int32) (l3 : Int32) (l4 : Int32) (l5 : Int32) (I : JI), fX12_does_121 l2 l3 l4 l5 I = some r → AtJ E xX12_does (Zr E (some (.int r.1)) r.2 L G D S) ((S).length, jm_sl S) 10 121 [(0, .ref (E.1 + 66)), (2, .int l2), (3, .int l3), (4, .int l4), (5, .int l5)] [] I L G D S := by
  intro l2 l3 l4 l5 I  h
  unfold fX12_does_121 at h
  refine j_aload_n 122 dX12_does_121 rfl rfl 0 rfl ?_
  refine j_iload_n 123 dX12_does_122 rfl rfl 1 rfl ?_
  refine j_iload_n 124 dX12_does_123 rfl rfl 2 rfl ?_
  refine j_iload 126 dX12_does_124 rfl 3 rfl ?_
  refine j_iload 128 dX12_does_126 rfl 4 rfl ?_
  obtain ⟨q3, hq3, h⟩ := j_bs h
  refine j_callV (rest := []) (As := [.int l2, .int l3, .int l4, .int l5]) 131 dX12_does_128 rfl jyX12_seeks (tcX12_seeks hL  hq3) (sh_66 hL) cl12 flX12_506 wm1970 wm75 (by decide) rfl rfl (Nat.le_of_ble_eq_true rfl) ?_
  refine j_if_ge 138 134 dX12_does_131 (by decide) rfl (fun hc => ?_) (fun hc => ?_)
  · replace h := j_pos hc h
    refine j_iconst (v := (0 : Int32)) 139 dX12_does_138 rfl (by decide) ?_
    cases h
    exact j_zret dX12_does_139 rfl j_b01_0
  · replace h := j_neg hc h
    refine j_iconst (v := (1 : Int32)) 135 dX12_does_134 rfl (by decide) ?_
    refine j_goto 139 dX12_does_135 (by decide) ?_
    cases h
    exact j_zret dX12_does_139 rfl j_b01_1
def fX12_does_8 : Nat → Int32 → Int32 → Int32 → Int32 → Int32 → JI → Option (Int32 × JI)
  | 0, _, _, _, _, _, _ => none
  | n + 1, l2, l3, l4, l5, l6, I =>
    if (I 66 81) ≤ l6 then (fX12_does_121 l2 l3 l4 l5 I) else (j_g (j_in l6 6) (j_g (j_in l6 6) (j_g (j_in (((16 : Int32) * (I 121 l6.toNatClampNeg)) + (I 122 l6.toNatClampNeg)) 192) (j_g (j_in l6 6) (if (I 124 l6.toNatClampNeg) ≤ (I 68 (((16 : Int32) * (I 121 l6.toNatClampNeg)) + (I 122 l6.toNatClampNeg)).toNatClampNeg) then (j_g (j_in l6 6) (j_g (j_in l6 6) (j_g (j_in l6 6) (j_g (j_in l6 6) (j_g (j_in l6 6) (j_g (j_in l6 6) (j_g (j_in l6 6) ((fX12_lays (I 121 l6.toNatClampNeg) (I 122 l6.toNatClampNeg) (I 123 l6.toNatClampNeg) (I 124 l6.toNatClampNeg) (I 125 l6.toNatClampNeg) (I 126 l6.toNatClampNeg) (I 126 l6.toNatClampNeg) I).bind (fun q1 => (fX12_comers q1).bind (fun q2 => if q2.1 = 0 then ((fX12_does_8 n) l2 l3 l4 l5 (l6 + (1 : Int32)) q2.2) else (some ((0 : Int32), q2.2)))))))))))) else ((fX12_does_8 n) l2 l3 l4 l5 (l6 + (1 : Int32)) I))))))
set_option maxHeartbeats 4000000 in
set_option maxRecDepth 100000 in
theorem kX12_does_8 {E : JE} {r : Int32 × JI} {L : JL} {G : JG} {D : JG} {S : JS} (hL : Lay G S) : ∀ (n : Nat) (l2 : Int32) (l3 : Int32) (l4 : Int32) (l5 : Int32) (l6 : Int32) (I : JI), fX12_does_8 n l2 l3 l4 l5 l6 I = some r → AtJ E xX12_does (Zr E (some (.int r.1)) r.2 L G D S) ((S).length, jm_sl S) 10 8 [(0, .ref (E.1 + 66)), (2, .int l2), (3, .int l3), (4, .int l4), (5, .int l5), (6, .int l6)] [] I L G D S := by
  intro n
  induction n with
  | zero => intro l2 l3 l4 l5 l6 I  h; simp [fX12_does_8] at h
  | succ n ih =>
    intro l2 l3 l4 l5 l6 I  h
    rw [fX12_does_8] at h
    refine j_iload 10 dX12_does_8 rfl 5 rfl ?_
    refine j_aload_n 11 dX12_does_10 rfl rfl 0 rfl ?_
    refine j_getI 14 dX12_does_11 rfl (sh_66 hL) cl12 (k := 81) (by decide) flX12_525 rfl ?_
    refine j_icmp_ge 121 17 dX12_does_14 (by decide) rfl (fun hc => ?_) (fun hc => ?_)
    · replace h := j_pos hc h
      refine j_sub [0, 1, 2, 3, 4] rfl ?_
      exact kX12_does_121 hL    _ _ _ _ _  h
    · replace h := j_neg hc h
      refine j_aload_n 18 dX12_does_17 rfl rfl 0 rfl ?_
      refine j_getG 21 dX12_does_18 rfl (sh_66 hL) cl12 (k := 2) (by decide) flX12_13 rfl (gs_66_2 hL) ?_
      refine j_bipush (v := (16 : Int32)) 23 dX12_does_21 rfl (by decide) ?_
      refine j_aload_n 24 dX12_does_23 rfl rfl 0 rfl ?_
      refine j_getG 27 dX12_does_24 rfl (sh_66 hL) cl12 (k := 82) (by decide) flX12_173 rfl (gs_66_82 hL) ?_
      refine j_iload 29 dX12_does_27 rfl 5 rfl ?_
      obtain ⟨hg, h⟩ := j_gs h
      refine j_iald 30 dX12_does_29 rfl (sh_121 hL) (j_inv hg) ?_
      refine j_imul 31 dX12_does_30 rfl ?_
      refine j_aload_n 32 dX12_does_31 rfl rfl 0 rfl ?_
      refine j_getG 35 dX12_does_32 rfl (sh_66 hL) cl12 (k := 83) (by decide) flX12_176 rfl (gs_66_83 hL) ?_
      refine j_iload 37 dX12_does_35 rfl 5 rfl ?_
      obtain ⟨hg, h⟩ := j_gs h
      refine j_iald 38 dX12_does_37 rfl (sh_122 hL) (j_inv hg) ?_
      refine j_iadd 39 dX12_does_38 rfl ?_
      obtain ⟨hg, h⟩ := j_gs h
      refine j_iald 40 dX12_does_39 rfl (sh_68 hL) (j_inv hg) ?_
      refine j_aload_n 41 dX12_does_40 rfl rfl 0 rfl ?_
      refine j_getG 44 dX12_does_41 rfl (sh_66 hL) cl12 (k := 85) (by decide) flX12_182 rfl (gs_66_85 hL) ?_
      refine j_iload 46 dX12_does_44 rfl 5 rfl ?_
      obtain ⟨hg, h⟩ := j_gs h
      refine j_iald 47 dX12_does_46 rfl (sh_124 hL) (j_inv hg) ?_
      refine j_icmp_ge 53 50 dX12_does_47 (by decide) rfl (fun hc => ?_) (fun hc => ?_)
      · replace h := j_pos hc h
        refine j_aload_n 54 dX12_does_53 rfl rfl 0 rfl ?_
        refine j_aload_n 55 dX12_does_54 rfl rfl 0 rfl ?_
        refine j_getG 58 dX12_does_55 rfl (sh_66 hL) cl12 (k := 82) (by decide) flX12_173 rfl (gs_66_82 hL) ?_
        refine j_iload 60 dX12_does_58 rfl 5 rfl ?_
        obtain ⟨hg, h⟩ := j_gs h
        refine j_iald 61 dX12_does_60 rfl (sh_121 hL) (j_inv hg) ?_
        refine j_aload_n 62 dX12_does_61 rfl rfl 0 rfl ?_
        refine j_getG 65 dX12_does_62 rfl (sh_66 hL) cl12 (k := 83) (by decide) flX12_176 rfl (gs_66_83 hL) ?_
        refine j_iload 67 dX12_does_65 rfl 5 rfl ?_
        obtain ⟨hg, h⟩ := j_gs h
        refine j_iald 68 dX12_does_67 rfl (sh_122 hL) (j_inv hg) ?_
        refine j_aload_n 69 dX12_does_68 rfl rfl 0 rfl ?_
        refine j_getG 72 dX12_does_69 rfl (sh_66 hL) cl12 (k := 84) (by decide) flX12_179 rfl (gs_66_84 hL) ?_
        refine j_iload 74 dX12_does_72 rfl 5 rfl ?_
        obtain ⟨hg, h⟩ := j_gs h
        refine j_iald 75 dX12_does_74 rfl (sh_123 hL) (j_inv hg) ?_
        refine j_aload_n 76 dX12_does_75 rfl rfl 0 rfl ?_
        refine j_getG 79 dX12_does_76 rfl (sh_66 hL) cl12 (k := 85) (by decide) flX12_182 rfl (gs_66_85 hL) ?_
        refine j_iload 81 dX12_does_79 rfl 5 rfl ?_
        obtain ⟨hg, h⟩ := j_gs h
        refine j_iald 82 dX12_does_81 rfl (sh_124 hL) (j_inv hg) ?_
        refine j_aload_n 83 dX12_does_82 rfl rfl 0 rfl ?_
        refine j_getG 86 dX12_does_83 rfl (sh_66 hL) cl12 (k := 86) (by decide) flX12_185 rfl (gs_66_86 hL) ?_
        refine j_iload 88 dX12_does_86 rfl 5 rfl ?_
        obtain ⟨hg, h⟩ := j_gs h
        refine j_iald 89 dX12_does_88 rfl (sh_125 hL) (j_inv hg) ?_
        refine j_aload_n 90 dX12_does_89 rfl rfl 0 rfl ?_
        refine j_getG 93 dX12_does_90 rfl (sh_66 hL) cl12 (k := 87) (by decide) flX12_188 rfl (gs_66_87 hL) ?_
        refine j_iload 95 dX12_does_93 rfl 5 rfl ?_
        obtain ⟨hg, h⟩ := j_gs h
        refine j_iald 96 dX12_does_95 rfl (sh_126 hL) (j_inv hg) ?_
        refine j_aload_n 97 dX12_does_96 rfl rfl 0 rfl ?_
        refine j_getG 100 dX12_does_97 rfl (sh_66 hL) cl12 (k := 87) (by decide) flX12_188 rfl (gs_66_87 hL) ?_
        refine j_iload 102 dX12_does_100 rfl 5 rfl ?_
        obtain ⟨hg, h⟩ := j_gs h
        refine j_iald 103 dX12_does_102 rfl (sh_126 hL) (j_inv hg) ?_
        obtain ⟨q1, hq1, h⟩ := j_bs h
        refine j_callV (rest := []) (As := [.int (I 121 l6.toNatClampNeg), .int (I 122 l6.toNatClampNeg), .int (I 123 l6.toNatClampNeg), .int (I 124 l6.toNatClampNeg), .int (I 125 l6.toNatClampNeg), .int (I 126 l6.toNatClampNeg), .int (I 126 l6.toNatClampNeg)]) 106 dX12_does_103 rfl jyX12_lays (tcX12_lays hL  hq1) (sh_66 hL) cl12 flX12_463 wm1858 wm58 (by decide) rfl rfl (Nat.le_of_ble_eq_true rfl) ?_
        refine j_aload_n 107 dX12_does_106 rfl rfl 0 rfl ?_
        obtain ⟨q2, hq2, h⟩ := j_bs h
        refine j_callV (rest := []) (As := []) 110 dX12_does_107 rfl jyX12_comers (tcX12_comers hL  hq2) (sh_66 hL) cl12 flX12_467 wm1906 wm69 (by decide) rfl rfl (Nat.le_of_ble_eq_true rfl) ?_
        refine j_if_eq 115 113 dX12_does_110 (by decide) rfl (fun hc => ?_) (fun hc => ?_)
        · replace h := j_pos hc h
          refine j_iinc (v := (l6 + (1 : Int32))) (lv' := [(6, .int (l6 + (1 : Int32))), (0, .ref (E.1 + 66)), (2, .int l2), (3, .int l3), (4, .int l4), (5, .int l5)]) (q := 5) 118 dX12_does_115 rfl rfl rfl (by decide) rfl ?_
          refine j_goto 8 dX12_does_118 (by decide) ?_
          refine j_sub [1, 2, 3, 4, 5, 0] rfl ?_
          exact ih _ _ _ _ _ _  h
        · replace h := j_neg hc h
          refine j_iconst (v := (0 : Int32)) 114 dX12_does_113 rfl (by decide) ?_
          cases h
          exact j_zret dX12_does_114 rfl j_b01_0
      · replace h := j_neg hc h
        refine j_goto 115 dX12_does_50 (by decide) ?_
        refine j_iinc (v := (l6 + (1 : Int32))) (lv' := [(6, .int (l6 + (1 : Int32))), (0, .ref (E.1 + 66)), (2, .int l2), (3, .int l3), (4, .int l4), (5, .int l5)]) (q := 5) 118 dX12_does_115 rfl rfl rfl (by decide) rfl ?_
        refine j_goto 8 dX12_does_118 (by decide) ?_
        refine j_sub [1, 2, 3, 4, 5, 0] rfl ?_
        exact ih _ _ _ _ _ _  h
def fX12_does (l1 : Int32) (l2 : Int32) (l3 : Int32) (l4 : Int32) (l5 : Int32) (I : JI) : Option (Int32 × JI) :=
  fX12_does_8 100000 l2 l3 l4 l5 (0 : Int32) (j_up I 66 50 l1)
set_option maxHeartbeats 4000000 in
set_option maxRecDepth 100000 in
theorem tcX12_does {E : JE} {l1 : Int32} {l2 : Int32} {l3 : Int32} {l4 : Int32} {l5 : Int32} {r : Int32 × JI} {I : JI} {L : JL} {G D : JG} {S : JS} (hL : Lay G S) (h : fX12_does l1 l2 l3 l4 l5 I = some r) : CallJ E xX12_does 10 [.ref (E.1 + 66), .int l1, .int l2, .int l3, .int l4, .int l5] I L G D S (some (.int r.1)) r.2 L G D S := by
  unfold fX12_does at h
  refine j_entry (by decide) (Nat.le_of_ble_eq_true rfl) ?_
  show AtJ E xX12_does (Zr E (some (.int r.1)) r.2 L G D S) ((S).length, jm_sl S) 10 0 [(0, .ref (E.1 + 66)), (1, .int l1), (2, .int l2), (3, .int l3), (4, .int l4), (5, .int l5)] [] I L G D S
  refine j_aload_n 1 dX12_does_0 rfl rfl 0 rfl ?_
  refine j_iload_n 2 dX12_does_1 rfl rfl 1 rfl ?_
  refine j_putI 5 dX12_does_2 rfl (sh_66 hL) cl12 (k := 50) (by decide) flX12_434 rfl rfl rfl ?_
  refine j_iconst (v := (0 : Int32)) 6 dX12_does_5 rfl (by decide) ?_
  refine j_istore (lv' := [(6, .int (0 : Int32)), (0, .ref (E.1 + 66)), (1, .int l1), (2, .int l2), (3, .int l3), (4, .int l4), (5, .int l5)]) 8 dX12_does_6 rfl (by decide) rfl ?_
  refine j_sub [1, 3, 4, 5, 6, 0] rfl ?_
  exact kX12_does_8 hL    100000 _ _ _ _ _ _  h
def fX12_mended_100 (k40 : Int32 → Int32 → Int32 → Int32 → Int32 → Int32 → Int32 → JI → Option (Int32 × JI)) (l1 : Int32) (l2 : Int32) (l3 : Int32) (l4 : Int32) (l5 : Int32) (l6 : Int32) (l7 : Int32) (I : JI) : Option (Int32 × JI) :=
  k40 l1 l2 l3 l4 l5 l6 (l7 + (1 : Int32)) I
set_option maxHeartbeats 4000000 in
set_option maxRecDepth 100000 in
theorem kX12_mended_100 {E : JE} {k40 : Int32 → Int32 → Int32 → Int32 → Int32 → Int32 → Int32 → JI → Option (Int32 × JI)} {r : Int32 × JI} {L : JL} {G : JG} {D : JG} {S : JS} (hL : Lay G S) (H40 : ∀ (l1 : Int32) (l2 : Int32) (l3 : Int32) (l4 : Int32) (l5 : Int32) (l6 : Int32) (l7 : Int32) (I : JI), k40 l1 l2 l3 l4 l5 l6 l7 I = some r → AtJ E xX12_mended (Zr E (some (.int r.1)) r.2 L G D S) ((S).length, jm_sl S) 11 40 [(0, .ref (E.1 + 66)), (1, .int l1), (2, .int l2), (3, .int l3), (4, .int l4), (5, .int l5), (6, .int l6), (7, .int l7)] [] I L G D S) : ∀ (l1 : Int32) (l2 : Int32) (l3 : Int32) (l4 : Int32) (l5 : Int32) (l6 : Int32) (l7 : Int32) (I : JI), fX12_mended_100 k40 l1 l2 l3 l4 l5 l6 l7 I = some r → AtJ E xX12_mended (Zr E (some (.int r.1)) r.2 L G D S) ((S).length, jm_sl S) 11 100 [(0, .ref (E.1 + 66)), (1, .int l1), (2, .int l2), (3, .int l3), (4, .int l4), (5, .int l5), (6, .int l6), (7, .int l7)] [] I L G D S := by
  intro l1 l2 l3 l4 l5 l6 l7 I  h
  unfold fX12_mended_100 at h
  refine j_iinc (v := (l7 + (1 : Int32))) (lv' := [(7, .int (l7 + (1 : Int32))), (0, .ref (E.1 + 66)), (1, .int l1), (2, .int l2), (3, .int l3), (4, .int l4), (5, .int l5), (6, .int l6)]) (q := 7) 103 dX12_mended_100 rfl rfl rfl (by decide) rfl ?_
  refine j_goto 40 dX12_mended_103 (by decide) ?_
  refine j_sub [1, 2, 3, 4, 5, 6, 7, 0] rfl ?_
  exact H40 _ _ _ _ _ _ _ _  h
def fX12_mended_81 (l5 : Int32) (l7 : Int32) (l8 : Int32) (I : JI) : Option (Int32 × JI) :=
  if l5 = 0 then (some (l7, I)) else (some (l8, I))
set_option maxHeartbeats 4000000 in
set_option maxRecDepth 100000 in
theorem kX12_mended_81 {E : JE} {r : Int32 × JI} {L : JL} {G : JG} {D : JG} {S : JS} (hL : Lay G S) : ∀ (l5 : Int32) (l7 : Int32) (l8 : Int32) (I : JI), fX12_mended_81 l5 l7 l8 I = some r → AtJ E xX12_mended (Zr E (some (.int r.1)) r.2 L G D S) ((S).length, jm_sl S) 11 81 [(5, .int l5), (7, .int l7), (8, .int l8)] [] I L G D S := by
  intro l5 l7 l8 I  h
  unfold fX12_mended_81 at h
  refine j_iload 83 dX12_mended_81 rfl 0 rfl ?_
  refine j_if_ne 91 86 dX12_mended_83 (by decide) rfl (fun hc => ?_) (fun hc => ?_)
  · replace h := j_neg hc h
    refine j_iload 93 dX12_mended_91 rfl 2 rfl ?_
    cases h
    exact j_iret dX12_mended_93 rfl
  · replace h := j_pos hc h
    refine j_iload 88 dX12_mended_86 rfl 1 rfl ?_
    refine j_goto 93 dX12_mended_88 (by decide) ?_
    cases h
    exact j_iret dX12_mended_93 rfl
def fX12_mended_50 (k40 : Int32 → Int32 → Int32 → Int32 → Int32 → Int32 → Int32 → JI → Option (Int32 × JI)) : Nat → Int32 → Int32 → Int32 → Int32 → Int32 → Int32 → Int32 → Int32 → JI → Option (Int32 × JI)
  | 0, _, _, _, _, _, _, _, _, _ => none
  | n + 1, l1, l2, l3, l4, l5, l6, l7, l8, I =>
    if l6 ≤ l8 then (fX12_mended_100 k40 l1 l2 l3 l4 l5 l6 l7 I) else ((fX12_bits l8).bind (fun q4 => if q4 = l7 then ((fX12_does l8 l1 l2 l3 l4 I).bind (fun q5 => if q5.1 = 0 then ((fX12_mended_50 k40 n) l1 l2 l3 l4 l5 l6 l7 (l8 + (1 : Int32)) q5.2) else (fX12_mended_81 l5 l7 l8 q5.2))) else ((fX12_mended_50 k40 n) l1 l2 l3 l4 l5 l6 l7 (l8 + (1 : Int32)) I)))
set_option maxHeartbeats 4000000 in
set_option maxRecDepth 100000 in
theorem kX12_mended_50 {E : JE} {k40 : Int32 → Int32 → Int32 → Int32 → Int32 → Int32 → Int32 → JI → Option (Int32 × JI)} {r : Int32 × JI} {L : JL} {G : JG} {D : JG} {S : JS} (hL : Lay G S) (H40 : ∀ (l1 : Int32) (l2 : Int32) (l3 : Int32) (l4 : Int32) (l5 : Int32) (l6 : Int32) (l7 : Int32) (I : JI), k40 l1 l2 l3 l4 l5 l6 l7 I = some r → AtJ E xX12_mended (Zr E (some (.int r.1)) r.2 L G D S) ((S).length, jm_sl S) 11 40 [(0, .ref (E.1 + 66)), (1, .int l1), (2, .int l2), (3, .int l3), (4, .int l4), (5, .int l5), (6, .int l6), (7, .int l7)] [] I L G D S) : ∀ (n : Nat) (l1 : Int32) (l2 : Int32) (l3 : Int32) (l4 : Int32) (l5 : Int32) (l6 : Int32) (l7 : Int32) (l8 : Int32) (I : JI), fX12_mended_50 k40 n l1 l2 l3 l4 l5 l6 l7 l8 I = some r → AtJ E xX12_mended (Zr E (some (.int r.1)) r.2 L G D S) ((S).length, jm_sl S) 11 50 [(0, .ref (E.1 + 66)), (1, .int l1), (2, .int l2), (3, .int l3), (4, .int l4), (5, .int l5), (6, .int l6), (7, .int l7), (8, .int l8)] [] I L G D S := by
  intro n
  induction n with
  | zero => intro l1 l2 l3 l4 l5 l6 l7 l8 I  h; simp [fX12_mended_50] at h
  | succ n ih =>
    intro l1 l2 l3 l4 l5 l6 l7 l8 I  h
    rw [fX12_mended_50] at h
    refine j_iload 52 dX12_mended_50 rfl 8 rfl ?_
    refine j_iload 54 dX12_mended_52 rfl 6 rfl ?_
    refine j_icmp_ge 100 57 dX12_mended_54 (by decide) rfl (fun hc => ?_) (fun hc => ?_)
    · replace h := j_pos hc h
      refine j_sub [0, 1, 2, 3, 4, 5, 6, 7] rfl ?_
      exact kX12_mended_100 hL   H40 _ _ _ _ _ _ _ _  h
    · replace h := j_neg hc h
      refine j_iload 59 dX12_mended_57 rfl 8 rfl ?_
      obtain ⟨q4, hq4, h⟩ := j_bs h
      refine j_callS (rest := []) (As := [.int l8]) 62 dX12_mended_59 rfl jyX12_bits (tcX12_bits   hq4) flX12_515 wm2005 (by decide) rfl rfl (Nat.le_of_ble_eq_true rfl) ?_
      refine j_iload 64 dX12_mended_62 rfl 7 rfl ?_
      refine j_icmp_ne 94 67 dX12_mended_64 (by decide) rfl (fun hc => ?_) (fun hc => ?_)
      · replace h := j_neg hc h
        refine j_iinc (v := (l8 + (1 : Int32))) (lv' := [(8, .int (l8 + (1 : Int32))), (0, .ref (E.1 + 66)), (1, .int l1), (2, .int l2), (3, .int l3), (4, .int l4), (5, .int l5), (6, .int l6), (7, .int l7)]) (q := 8) 97 dX12_mended_94 rfl rfl rfl (by decide) rfl ?_
        refine j_goto 50 dX12_mended_97 (by decide) ?_
        refine j_sub [1, 2, 3, 4, 5, 6, 7, 8, 0] rfl ?_
        exact ih _ _ _ _ _ _ _ _ _  h
      · replace h := j_pos hc h
        refine j_aload_n 68 dX12_mended_67 rfl rfl 0 rfl ?_
        refine j_iload 70 dX12_mended_68 rfl 8 rfl ?_
        refine j_iload_n 71 dX12_mended_70 rfl rfl 1 rfl ?_
        refine j_iload_n 72 dX12_mended_71 rfl rfl 2 rfl ?_
        refine j_iload_n 73 dX12_mended_72 rfl rfl 3 rfl ?_
        refine j_iload 75 dX12_mended_73 rfl 4 rfl ?_
        obtain ⟨q5, hq5, h⟩ := j_bs h
        refine j_callV (rest := []) (As := [.int l8, .int l1, .int l2, .int l3, .int l4]) 78 dX12_mended_75 rfl jyX12_does (tcX12_does hL  hq5) (sh_66 hL) cl12 flX12_531 wm2025 wm84 (by decide) rfl rfl (Nat.le_of_ble_eq_true rfl) ?_
        refine j_if_eq 94 81 dX12_mended_78 (by decide) rfl (fun hc => ?_) (fun hc => ?_)
        · replace h := j_pos hc h
          refine j_iinc (v := (l8 + (1 : Int32))) (lv' := [(8, .int (l8 + (1 : Int32))), (0, .ref (E.1 + 66)), (1, .int l1), (2, .int l2), (3, .int l3), (4, .int l4), (5, .int l5), (6, .int l6), (7, .int l7)]) (q := 8) 97 dX12_mended_94 rfl rfl rfl (by decide) rfl ?_
          refine j_goto 50 dX12_mended_97 (by decide) ?_
          refine j_sub [1, 2, 3, 4, 5, 6, 7, 8, 0] rfl ?_
          exact ih _ _ _ _ _ _ _ _ _  h
        · replace h := j_neg hc h
          refine j_sub [5, 7, 8] rfl ?_
          exact kX12_mended_81 hL    _ _ _ _  h
def fX12_mended_40 : Nat → Int32 → Int32 → Int32 → Int32 → Int32 → Int32 → Int32 → JI → Option (Int32 × JI)
  | 0, _, _, _, _, _, _, _, _ => none
  | n + 1, l1, l2, l3, l4, l5, l6, l7, I =>
    if (7 : Int32) ≤ l7 then (some ((-1 : Int32), I)) else (fX12_mended_50 (fX12_mended_40 n) 100000 l1 l2 l3 l4 l5 l6 l7 (0 : Int32) I)
set_option maxHeartbeats 4000000 in
set_option maxRecDepth 100000 in
theorem kX12_mended_40 {E : JE} {r : Int32 × JI} {L : JL} {G : JG} {D : JG} {S : JS} (hL : Lay G S) : ∀ (n : Nat) (l1 : Int32) (l2 : Int32) (l3 : Int32) (l4 : Int32) (l5 : Int32) (l6 : Int32) (l7 : Int32) (I : JI), fX12_mended_40 n l1 l2 l3 l4 l5 l6 l7 I = some r → AtJ E xX12_mended (Zr E (some (.int r.1)) r.2 L G D S) ((S).length, jm_sl S) 11 40 [(0, .ref (E.1 + 66)), (1, .int l1), (2, .int l2), (3, .int l3), (4, .int l4), (5, .int l5), (6, .int l6), (7, .int l7)] [] I L G D S := by
  intro n
  induction n with
  | zero => intro l1 l2 l3 l4 l5 l6 l7 I  h; simp [fX12_mended_40] at h
  | succ n ih =>
    intro l1 l2 l3 l4 l5 l6 l7 I  h
    rw [fX12_mended_40] at h
    refine j_iload 42 dX12_mended_40 rfl 7 rfl ?_
    refine j_bipush (v := (7 : Int32)) 44 dX12_mended_42 rfl (by decide) ?_
    refine j_icmp_ge 106 47 dX12_mended_44 (by decide) rfl (fun hc => ?_) (fun hc => ?_)
    · replace h := j_pos hc h
      refine j_iconst (v := (-1 : Int32)) 107 dX12_mended_106 rfl (by decide) ?_
      cases h
      exact j_iret dX12_mended_107 rfl
    · replace h := j_neg hc h
      refine j_iconst (v := (0 : Int32)) 48 dX12_mended_47 rfl (by decide) ?_
      refine j_istore (lv' := [(8, .int (0 : Int32)), (0, .ref (E.1 + 66)), (1, .int l1), (2, .int l2), (3, .int l3), (4, .int l4), (5, .int l5), (6, .int l6), (7, .int l7)]) 50 dX12_mended_48 rfl (by decide) rfl ?_
      refine j_sub [1, 2, 3, 4, 5, 6, 7, 8, 0] rfl ?_
      exact kX12_mended_50 hL   ih 100000 _ _ _ _ _ _ _ _ _  h
def fX12_mended (l1 : Int32) (l2 : Int32) (l3 : Int32) (l4 : Int32) (l5 : Int32) (I : JI) : Option (Int32 × JI) :=
  (fX12_isSly l1 l2 l3 l4 (j_up I 66 0 (0 : Int32))).bind (fun q1 => if q1 = 0 then (some ((-1 : Int32), (j_up I 66 0 (0 : Int32)))) else ((fX12_within l5 (0 : Int32) (1 : Int32)).bind (fun q2 => if q2 = 0 then (some ((-1 : Int32), (j_up I 66 0 (0 : Int32)))) else ((fX12_maybes (j_up I 66 0 (0 : Int32))).bind (fun q3 => fX12_mended_40 100000 l1 l2 l3 l4 l5 ((1 : Int32) <<< (q3 &&& 31)) (0 : Int32) (j_up I 66 0 (0 : Int32)))))))
set_option maxHeartbeats 4000000 in
set_option maxRecDepth 100000 in
theorem tcX12_mended {E : JE} {l1 : Int32} {l2 : Int32} {l3 : Int32} {l4 : Int32} {l5 : Int32} {r : Int32 × JI} {I : JI} {L : JL} {G D : JG} {S : JS} (hL : Lay G S) (h : fX12_mended l1 l2 l3 l4 l5 I = some r) : CallJ E xX12_mended 11 [.ref (E.1 + 66), .int l1, .int l2, .int l3, .int l4, .int l5] I L G D S (some (.int r.1)) r.2 L G D S := by
  unfold fX12_mended at h
  refine j_entry (by decide) (Nat.le_of_ble_eq_true rfl) ?_
  show AtJ E xX12_mended (Zr E (some (.int r.1)) r.2 L G D S) ((S).length, jm_sl S) 11 0 [(0, .ref (E.1 + 66)), (1, .int l1), (2, .int l2), (3, .int l3), (4, .int l4), (5, .int l5)] [] I L G D S
  refine j_aload_n 1 dX12_mended_0 rfl rfl 0 rfl ?_
  refine j_iconst (v := (0 : Int32)) 2 dX12_mended_1 rfl (by decide) ?_
  refine j_putI 5 dX12_mended_2 rfl (sh_66 hL) cl12 (k := 0) (by decide) flX12_218 rfl rfl rfl ?_
  refine j_aload_n 6 dX12_mended_5 rfl rfl 0 rfl ?_
  refine j_iload_n 7 dX12_mended_6 rfl rfl 1 rfl ?_
  refine j_iload_n 8 dX12_mended_7 rfl rfl 2 rfl ?_
  refine j_iload_n 9 dX12_mended_8 rfl rfl 3 rfl ?_
  refine j_iload 11 dX12_mended_9 rfl 4 rfl ?_
  obtain ⟨q1, hq1, h⟩ := j_bs h
  refine j_callV (rest := []) (As := [.int l1, .int l2, .int l3, .int l4]) 14 dX12_mended_11 rfl jyX12_isSly (tcX12_isSly hL  hq1) (sh_66 hL) cl12 flX12_502 wm1966 wm74 (by decide) rfl rfl (Nat.le_of_ble_eq_true rfl) ?_
  refine j_if_eq 27 17 dX12_mended_14 (by decide) rfl (fun hc => ?_) (fun hc => ?_)
  · replace h := j_pos hc h
    refine j_iconst (v := (-1 : Int32)) 28 dX12_mended_27 rfl (by decide) ?_
    cases h
    exact j_iret dX12_mended_28 rfl
  · replace h := j_neg hc h
    refine j_iload 19 dX12_mended_17 rfl 5 rfl ?_
    refine j_iconst (v := (0 : Int32)) 20 dX12_mended_19 rfl (by decide) ?_
    refine j_iconst (v := (1 : Int32)) 21 dX12_mended_20 rfl (by decide) ?_
    obtain ⟨q2, hq2, h⟩ := j_bs h
    refine j_callS (rest := []) (As := [.int l5, .int (0 : Int32), .int (1 : Int32)]) 24 dX12_mended_21 rfl jyX12_within (tcX12_within   hq2) flX12_222 wm1697 (by decide) rfl rfl (Nat.le_of_ble_eq_true rfl) ?_
    refine j_if_ne 29 27 dX12_mended_24 (by decide) rfl (fun hc => ?_) (fun hc => ?_)
    · replace h := j_neg hc h
      refine j_iconst (v := (1 : Int32)) 30 dX12_mended_29 rfl (by decide) ?_
      refine j_aload_n 31 dX12_mended_30 rfl rfl 0 rfl ?_
      obtain ⟨q3, hq3, h⟩ := j_bs h
      refine j_callV (rest := [.int (1 : Int32)]) (As := []) 34 dX12_mended_31 rfl jyX12_maybes (tcX12_maybes hL  hq3) (sh_66 hL) cl12 flX12_528 wm2021 wm83 (by decide) rfl rfl (Nat.le_of_ble_eq_true rfl) ?_
      refine j_ishl 35 dX12_mended_34 rfl ?_
      refine j_istore (lv' := [(6, .int ((1 : Int32) <<< (q3 &&& 31))), (0, .ref (E.1 + 66)), (1, .int l1), (2, .int l2), (3, .int l3), (4, .int l4), (5, .int l5)]) 37 dX12_mended_35 rfl (by decide) rfl ?_
      refine j_iconst (v := (0 : Int32)) 38 dX12_mended_37 rfl (by decide) ?_
      refine j_istore (lv' := [(7, .int (0 : Int32)), (6, .int ((1 : Int32) <<< (q3 &&& 31))), (0, .ref (E.1 + 66)), (1, .int l1), (2, .int l2), (3, .int l3), (4, .int l4), (5, .int l5)]) 40 dX12_mended_38 rfl (by decide) rfl ?_
      refine j_sub [2, 3, 4, 5, 6, 7, 1, 0] rfl ?_
      exact kX12_mended_40 hL    100000 _ _ _ _ _ _ _ _  h
    · replace h := j_pos hc h
      refine j_iconst (v := (-1 : Int32)) 28 dX12_mended_27 rfl (by decide) ?_
      cases h
      exact j_iret dX12_mended_28 rfl
def fX12_keeps_157 : Nat → Int32 → Int32 → JI → Option (JI)
  | 0, _, _, _ => none
  | n + 1, l1, l2, I =>
    if (40 : Int32) ≤ l2 then (some (I)) else (j_g (j_in l2 40) (j_g (j_in (((40 : Int32) * l1) + l2) 160) (j_g (j_in l2 40) (j_g (j_in (((40 : Int32) * l1) + l2) 160) ((fX12_keeps_157 n) l1 (l2 + (1 : Int32)) (j_up (j_up I 134 (((40 : Int32) * l1) + l2).toNatClampNeg (I 106 l2.toNatClampNeg)) 135 (((40 : Int32) * l1) + l2).toNatClampNeg ((j_up I 134 (((40 : Int32) * l1) + l2).toNatClampNeg (I 106 l2.toNatClampNeg)) 102 l2.toNatClampNeg)))))))
set_option maxHeartbeats 4000000 in
set_option maxRecDepth 100000 in
theorem kX12_keeps_157 {E : JE} {r : JI} {L : JL} {G : JG} {D : JG} {S : JS} (hL : Lay G S) : ∀ (n : Nat) (l1 : Int32) (l2 : Int32) (I : JI), fX12_keeps_157 n l1 l2 I = some r → AtJ E xX12_keeps (Zr E none r L G D S) ((S).length, jm_sl S) 1 157 [(0, .ref (E.1 + 66)), (1, .int l1), (2, .int l2)] [] I L G D S := by
  intro n
  induction n with
  | zero => intro l1 l2 I  h; simp [fX12_keeps_157] at h
  | succ n ih =>
    intro l1 l2 I  h
    rw [fX12_keeps_157] at h
    refine j_iload_n 158 dX12_keeps_157 rfl rfl 2 rfl ?_
    refine j_bipush (v := (40 : Int32)) 160 dX12_keeps_158 rfl (by decide) ?_
    refine j_icmp_ge 203 163 dX12_keeps_160 (by decide) rfl (fun hc => ?_) (fun hc => ?_)
    · replace h := j_pos hc h
      cases h
      exact j_vret dX12_keeps_203 rfl
    · replace h := j_neg hc h
      refine j_aload_n 164 dX12_keeps_163 rfl rfl 0 rfl ?_
      refine j_getG 167 dX12_keeps_164 rfl (sh_66 hL) cl12 (k := 96) (by decide) flX12_212 rfl (gs_66_96 hL) ?_
      refine j_bipush (v := (40 : Int32)) 169 dX12_keeps_167 rfl (by decide) ?_
      refine j_iload_n 170 dX12_keeps_169 rfl rfl 1 rfl ?_
      refine j_imul 171 dX12_keeps_170 rfl ?_
      refine j_iload_n 172 dX12_keeps_171 rfl rfl 2 rfl ?_
      refine j_iadd 173 dX12_keeps_172 rfl ?_
      refine j_aload_n 174 dX12_keeps_173 rfl rfl 0 rfl ?_
      refine j_getG 177 dX12_keeps_174 rfl (sh_66 hL) cl12 (k := 63) (by decide) flX12_128 rfl (gs_66_63 hL) ?_
      refine j_iload_n 178 dX12_keeps_177 rfl rfl 2 rfl ?_
      obtain ⟨hg, h⟩ := j_gs h
      refine j_iald 179 dX12_keeps_178 rfl (sh_106 hL) (j_inv hg) ?_
      obtain ⟨hg, h⟩ := j_gs h
      refine j_iast 180 dX12_keeps_179 rfl (sh_134 hL) (j_inv hg) ?_
      refine j_aload_n 181 dX12_keeps_180 rfl rfl 0 rfl ?_
      refine j_getG 184 dX12_keeps_181 rfl (sh_66 hL) cl12 (k := 97) (by decide) flX12_215 rfl (gs_66_97 hL) ?_
      refine j_bipush (v := (40 : Int32)) 186 dX12_keeps_184 rfl (by decide) ?_
      refine j_iload_n 187 dX12_keeps_186 rfl rfl 1 rfl ?_
      refine j_imul 188 dX12_keeps_187 rfl ?_
      refine j_iload_n 189 dX12_keeps_188 rfl rfl 2 rfl ?_
      refine j_iadd 190 dX12_keeps_189 rfl ?_
      refine j_aload_n 191 dX12_keeps_190 rfl rfl 0 rfl ?_
      refine j_getG 194 dX12_keeps_191 rfl (sh_66 hL) cl12 (k := 59) (by decide) flX12_116 rfl (gs_66_59 hL) ?_
      refine j_iload_n 195 dX12_keeps_194 rfl rfl 2 rfl ?_
      obtain ⟨hg, h⟩ := j_gs h
      refine j_iald 196 dX12_keeps_195 rfl (sh_102 hL) (j_inv hg) ?_
      obtain ⟨hg, h⟩ := j_gs h
      refine j_iast 197 dX12_keeps_196 rfl (sh_135 hL) (j_inv hg) ?_
      refine j_iinc (v := (l2 + (1 : Int32))) (lv' := [(2, .int (l2 + (1 : Int32))), (0, .ref (E.1 + 66)), (1, .int l1)]) (q := 2) 200 dX12_keeps_197 rfl rfl rfl (by decide) rfl ?_
      refine j_goto 157 dX12_keeps_200 (by decide) ?_
      refine j_sub [1, 2, 0] rfl ?_
      exact ih _ _ _  h
def fX12_keeps_155 (l1 : Int32) (I : JI) : Option (JI) :=
  fX12_keeps_157 100000 l1 (0 : Int32) I
set_option maxHeartbeats 4000000 in
set_option maxRecDepth 100000 in
theorem kX12_keeps_155 {E : JE} {r : JI} {L : JL} {G : JG} {D : JG} {S : JS} (hL : Lay G S) : ∀ (l1 : Int32) (I : JI), fX12_keeps_155 l1 I = some r → AtJ E xX12_keeps (Zr E none r L G D S) ((S).length, jm_sl S) 1 155 [(0, .ref (E.1 + 66)), (1, .int l1)] [] I L G D S := by
  intro l1 I  h
  unfold fX12_keeps_155 at h
  refine j_iconst (v := (0 : Int32)) 156 dX12_keeps_155 rfl (by decide) ?_
  refine j_istore_n (lv' := [(2, .int (0 : Int32)), (0, .ref (E.1 + 66)), (1, .int l1)]) 157 dX12_keeps_156 rfl rfl (by decide) rfl ?_
  refine j_sub [1, 2, 0] rfl ?_
  exact kX12_keeps_157 hL    100000 _ _ _  h
def fX12_keeps_106 : Nat → Int32 → Int32 → JI → Option (JI)
  | 0, _, _, _ => none
  | n + 1, l1, l2, I =>
    if (640 : Int32) ≤ l2 then (fX12_keeps_155 l1 I) else (j_g (j_in l2 640) (j_g (j_in (((640 : Int32) * l1) + l2) 2560) (j_g (j_in l2 640) (j_g (j_in (((640 : Int32) * l1) + l2) 2560) ((fX12_keeps_106 n) l1 (l2 + (1 : Int32)) (j_up (j_up I 132 (((640 : Int32) * l1) + l2).toNatClampNeg (I 112 l2.toNatClampNeg)) 133 (((640 : Int32) * l1) + l2).toNatClampNeg (jm_b01 ((j_up I 132 (((640 : Int32) * l1) + l2).toNatClampNeg (I 112 l2.toNatClampNeg)) 113 l2.toNatClampNeg))))))))
set_option maxHeartbeats 4000000 in
set_option maxRecDepth 100000 in
theorem kX12_keeps_106 {E : JE} {r : JI} {L : JL} {G : JG} {D : JG} {S : JS} (hL : Lay G S) : ∀ (n : Nat) (l1 : Int32) (l2 : Int32) (I : JI), fX12_keeps_106 n l1 l2 I = some r → AtJ E xX12_keeps (Zr E none r L G D S) ((S).length, jm_sl S) 1 106 [(0, .ref (E.1 + 66)), (1, .int l1), (2, .int l2)] [] I L G D S := by
  intro n
  induction n with
  | zero => intro l1 l2 I  h; simp [fX12_keeps_106] at h
  | succ n ih =>
    intro l1 l2 I  h
    rw [fX12_keeps_106] at h
    refine j_iload_n 107 dX12_keeps_106 rfl rfl 2 rfl ?_
    refine j_sipush (v := (640 : Int32)) 110 dX12_keeps_107 rfl (by decide) ?_
    refine j_icmp_ge 155 113 dX12_keeps_110 (by decide) rfl (fun hc => ?_) (fun hc => ?_)
    · replace h := j_pos hc h
      refine j_sub [0, 1] rfl ?_
      exact kX12_keeps_155 hL    _ _  h
    · replace h := j_neg hc h
      refine j_aload_n 114 dX12_keeps_113 rfl rfl 0 rfl ?_
      refine j_getG 117 dX12_keeps_114 rfl (sh_66 hL) cl12 (k := 94) (by decide) flX12_206 rfl (gs_66_94 hL) ?_
      refine j_sipush (v := (640 : Int32)) 120 dX12_keeps_117 rfl (by decide) ?_
      refine j_iload_n 121 dX12_keeps_120 rfl rfl 1 rfl ?_
      refine j_imul 122 dX12_keeps_121 rfl ?_
      refine j_iload_n 123 dX12_keeps_122 rfl rfl 2 rfl ?_
      refine j_iadd 124 dX12_keeps_123 rfl ?_
      refine j_aload_n 125 dX12_keeps_124 rfl rfl 0 rfl ?_
      refine j_getG 128 dX12_keeps_125 rfl (sh_66 hL) cl12 (k := 69) (by decide) flX12_146 rfl (gs_66_69 hL) ?_
      refine j_iload_n 129 dX12_keeps_128 rfl rfl 2 rfl ?_
      obtain ⟨hg, h⟩ := j_gs h
      refine j_iald 130 dX12_keeps_129 rfl (sh_112 hL) (j_inv hg) ?_
      obtain ⟨hg, h⟩ := j_gs h
      refine j_iast 131 dX12_keeps_130 rfl (sh_132 hL) (j_inv hg) ?_
      refine j_aload_n 132 dX12_keeps_131 rfl rfl 0 rfl ?_
      refine j_getG 135 dX12_keeps_132 rfl (sh_66 hL) cl12 (k := 95) (by decide) flX12_209 rfl (gs_66_95 hL) ?_
      refine j_sipush (v := (640 : Int32)) 138 dX12_keeps_135 rfl (by decide) ?_
      refine j_iload_n 139 dX12_keeps_138 rfl rfl 1 rfl ?_
      refine j_imul 140 dX12_keeps_139 rfl ?_
      refine j_iload_n 141 dX12_keeps_140 rfl rfl 2 rfl ?_
      refine j_iadd 142 dX12_keeps_141 rfl ?_
      refine j_aload_n 143 dX12_keeps_142 rfl rfl 0 rfl ?_
      refine j_getG 146 dX12_keeps_143 rfl (sh_66 hL) cl12 (k := 70) (by decide) flX12_149 rfl (gs_66_70 hL) ?_
      refine j_iload_n 147 dX12_keeps_146 rfl rfl 2 rfl ?_
      obtain ⟨hg, h⟩ := j_gs h
      refine j_zald 148 dX12_keeps_147 rfl (sh_113 hL) (j_inv hg) ?_
      obtain ⟨hg, h⟩ := j_gs h
      refine j_zast 149 dX12_keeps_148 rfl (sh_133 hL) (j_inv hg) (jm_b01_idem _) ?_
      refine j_iinc (v := (l2 + (1 : Int32))) (lv' := [(2, .int (l2 + (1 : Int32))), (0, .ref (E.1 + 66)), (1, .int l1)]) (q := 2) 152 dX12_keeps_149 rfl rfl rfl (by decide) rfl ?_
      refine j_goto 106 dX12_keeps_152 (by decide) ?_
      refine j_sub [1, 2, 0] rfl ?_
      exact ih _ _ _  h
def fX12_keeps_84 (l1 : Int32) (I : JI) : Option (JI) :=
  j_g (j_in l1 4) (j_g (j_in l1 4) (fX12_keeps_106 100000 l1 (0 : Int32) (j_up (j_up I 130 l1.toNatClampNeg (I 66 8)) 131 l1.toNatClampNeg ((j_up I 130 l1.toNatClampNeg (I 66 8)) 66 52))))
set_option maxHeartbeats 4000000 in
set_option maxRecDepth 100000 in
theorem kX12_keeps_84 {E : JE} {r : JI} {L : JL} {G : JG} {D : JG} {S : JS} (hL : Lay G S) : ∀ (l1 : Int32) (I : JI), fX12_keeps_84 l1 I = some r → AtJ E xX12_keeps (Zr E none r L G D S) ((S).length, jm_sl S) 1 84 [(0, .ref (E.1 + 66)), (1, .int l1)] [] I L G D S := by
  intro l1 I  h
  unfold fX12_keeps_84 at h
  refine j_aload_n 85 dX12_keeps_84 rfl rfl 0 rfl ?_
  refine j_getG 88 dX12_keeps_85 rfl (sh_66 hL) cl12 (k := 92) (by decide) flX12_200 rfl (gs_66_92 hL) ?_
  refine j_iload_n 89 dX12_keeps_88 rfl rfl 1 rfl ?_
  refine j_aload_n 90 dX12_keeps_89 rfl rfl 0 rfl ?_
  refine j_getI 93 dX12_keeps_90 rfl (sh_66 hL) cl12 (k := 8) (by decide) flX12_237 rfl ?_
  obtain ⟨hg, h⟩ := j_gs h
  refine j_iast 94 dX12_keeps_93 rfl (sh_130 hL) (j_inv hg) ?_
  refine j_aload_n 95 dX12_keeps_94 rfl rfl 0 rfl ?_
  refine j_getG 98 dX12_keeps_95 rfl (sh_66 hL) cl12 (k := 93) (by decide) flX12_203 rfl (gs_66_93 hL) ?_
  refine j_iload_n 99 dX12_keeps_98 rfl rfl 1 rfl ?_
  refine j_aload_n 100 dX12_keeps_99 rfl rfl 0 rfl ?_
  refine j_getI 103 dX12_keeps_100 rfl (sh_66 hL) cl12 (k := 52) (by decide) flX12_460 rfl ?_
  obtain ⟨hg, h⟩ := j_gs h
  refine j_iast 104 dX12_keeps_103 rfl (sh_131 hL) (j_inv hg) ?_
  refine j_iconst (v := (0 : Int32)) 105 dX12_keeps_104 rfl (by decide) ?_
  refine j_istore_n (lv' := [(2, .int (0 : Int32)), (0, .ref (E.1 + 66)), (1, .int l1)]) 106 dX12_keeps_105 rfl rfl (by decide) rfl ?_
  refine j_sub [1, 2, 0] rfl ?_
  exact kX12_keeps_106 hL    100000 _ _ _  h
def fX12_keeps_53 : Nat → Int32 → Int32 → JI → Option (JI)
  | 0, _, _, _ => none
  | n + 1, l1, l2, I =>
    if (192 : Int32) ≤ l2 then (fX12_keeps_84 l1 I) else (j_g (j_in l2 192) (j_g (j_in (((192 : Int32) * l1) + l2) 768) ((fX12_keeps_53 n) l1 (l2 + (1 : Int32)) (j_up I 129 (((192 : Int32) * l1) + l2).toNatClampNeg (I 68 l2.toNatClampNeg)))))
set_option maxHeartbeats 4000000 in
set_option maxRecDepth 100000 in
theorem kX12_keeps_53 {E : JE} {r : JI} {L : JL} {G : JG} {D : JG} {S : JS} (hL : Lay G S) : ∀ (n : Nat) (l1 : Int32) (l2 : Int32) (I : JI), fX12_keeps_53 n l1 l2 I = some r → AtJ E xX12_keeps (Zr E none r L G D S) ((S).length, jm_sl S) 1 53 [(0, .ref (E.1 + 66)), (1, .int l1), (2, .int l2)] [] I L G D S := by
  intro n
  induction n with
  | zero => intro l1 l2 I  h; simp [fX12_keeps_53] at h
  | succ n ih =>
    intro l1 l2 I  h
    rw [fX12_keeps_53] at h
    refine j_iload_n 54 dX12_keeps_53 rfl rfl 2 rfl ?_
    refine j_sipush (v := (192 : Int32)) 57 dX12_keeps_54 rfl (by decide) ?_
    refine j_icmp_ge 84 60 dX12_keeps_57 (by decide) rfl (fun hc => ?_) (fun hc => ?_)
    · replace h := j_pos hc h
      refine j_sub [0, 1] rfl ?_
      exact kX12_keeps_84 hL    _ _  h
    · replace h := j_neg hc h
      refine j_aload_n 61 dX12_keeps_60 rfl rfl 0 rfl ?_
      refine j_getG 64 dX12_keeps_61 rfl (sh_66 hL) cl12 (k := 91) (by decide) flX12_197 rfl (gs_66_91 hL) ?_
      refine j_sipush (v := (192 : Int32)) 67 dX12_keeps_64 rfl (by decide) ?_
      refine j_iload_n 68 dX12_keeps_67 rfl rfl 1 rfl ?_
      refine j_imul 69 dX12_keeps_68 rfl ?_
      refine j_iload_n 70 dX12_keeps_69 rfl rfl 2 rfl ?_
      refine j_iadd 71 dX12_keeps_70 rfl ?_
      refine j_aload_n 72 dX12_keeps_71 rfl rfl 0 rfl ?_
      refine j_getG 75 dX12_keeps_72 rfl (sh_66 hL) cl12 (k := 2) (by decide) flX12_13 rfl (gs_66_2 hL) ?_
      refine j_iload_n 76 dX12_keeps_75 rfl rfl 2 rfl ?_
      obtain ⟨hg, h⟩ := j_gs h
      refine j_iald 77 dX12_keeps_76 rfl (sh_68 hL) (j_inv hg) ?_
      obtain ⟨hg, h⟩ := j_gs h
      refine j_iast 78 dX12_keeps_77 rfl (sh_129 hL) (j_inv hg) ?_
      refine j_iinc (v := (l2 + (1 : Int32))) (lv' := [(2, .int (l2 + (1 : Int32))), (0, .ref (E.1 + 66)), (1, .int l1)]) (q := 2) 81 dX12_keeps_78 rfl rfl rfl (by decide) rfl ?_
      refine j_goto 53 dX12_keeps_81 (by decide) ?_
      refine j_sub [1, 2, 0] rfl ?_
      exact ih _ _ _  h
def fX12_keeps_51 (l1 : Int32) (I : JI) : Option (JI) :=
  fX12_keeps_53 100000 l1 (0 : Int32) I
set_option maxHeartbeats 4000000 in
set_option maxRecDepth 100000 in
theorem kX12_keeps_51 {E : JE} {r : JI} {L : JL} {G : JG} {D : JG} {S : JS} (hL : Lay G S) : ∀ (l1 : Int32) (I : JI), fX12_keeps_51 l1 I = some r → AtJ E xX12_keeps (Zr E none r L G D S) ((S).length, jm_sl S) 1 51 [(0, .ref (E.1 + 66)), (1, .int l1)] [] I L G D S := by
  intro l1 I  h
  unfold fX12_keeps_51 at h
  refine j_iconst (v := (0 : Int32)) 52 dX12_keeps_51 rfl (by decide) ?_
  refine j_istore_n (lv' := [(2, .int (0 : Int32)), (0, .ref (E.1 + 66)), (1, .int l1)]) 53 dX12_keeps_52 rfl rfl (by decide) rfl ?_
  refine j_sub [1, 2, 0] rfl ?_
  exact kX12_keeps_53 hL    100000 _ _ _  h
def fX12_keeps_22 : Nat → Int32 → Int32 → JI → Option (JI)
  | 0, _, _, _ => none
  | n + 1, l1, l2, I =>
    if (12 : Int32) ≤ l2 then (fX12_keeps_51 l1 I) else (j_g (j_in l2 12) (j_g (j_in (((12 : Int32) * l1) + l2) 48) ((fX12_keeps_22 n) l1 (l2 + (1 : Int32)) (j_up I 128 (((12 : Int32) * l1) + l2).toNatClampNeg (jm_b01 (I 67 l2.toNatClampNeg))))))
set_option maxHeartbeats 4000000 in
set_option maxRecDepth 100000 in
theorem kX12_keeps_22 {E : JE} {r : JI} {L : JL} {G : JG} {D : JG} {S : JS} (hL : Lay G S) : ∀ (n : Nat) (l1 : Int32) (l2 : Int32) (I : JI), fX12_keeps_22 n l1 l2 I = some r → AtJ E xX12_keeps (Zr E none r L G D S) ((S).length, jm_sl S) 1 22 [(0, .ref (E.1 + 66)), (1, .int l1), (2, .int l2)] [] I L G D S := by
  intro n
  induction n with
  | zero => intro l1 l2 I  h; simp [fX12_keeps_22] at h
  | succ n ih =>
    intro l1 l2 I  h
    rw [fX12_keeps_22] at h
    refine j_iload_n 23 dX12_keeps_22 rfl rfl 2 rfl ?_
    refine j_bipush (v := (12 : Int32)) 25 dX12_keeps_23 rfl (by decide) ?_
    refine j_icmp_ge 51 28 dX12_keeps_25 (by decide) rfl (fun hc => ?_) (fun hc => ?_)
    · replace h := j_pos hc h
      refine j_sub [0, 1] rfl ?_
      exact kX12_keeps_51 hL    _ _  h
    · replace h := j_neg hc h
      refine j_aload_n 29 dX12_keeps_28 rfl rfl 0 rfl ?_
      refine j_getG 32 dX12_keeps_29 rfl (sh_66 hL) cl12 (k := 90) (by decide) flX12_194 rfl (gs_66_90 hL) ?_
      refine j_bipush (v := (12 : Int32)) 34 dX12_keeps_32 rfl (by decide) ?_
      refine j_iload_n 35 dX12_keeps_34 rfl rfl 1 rfl ?_
      refine j_imul 36 dX12_keeps_35 rfl ?_
      refine j_iload_n 37 dX12_keeps_36 rfl rfl 2 rfl ?_
      refine j_iadd 38 dX12_keeps_37 rfl ?_
      refine j_aload_n 39 dX12_keeps_38 rfl rfl 0 rfl ?_
      refine j_getG 42 dX12_keeps_39 rfl (sh_66 hL) cl12 (k := 1) (by decide) flX12_7 rfl (gs_66_1 hL) ?_
      refine j_iload_n 43 dX12_keeps_42 rfl rfl 2 rfl ?_
      obtain ⟨hg, h⟩ := j_gs h
      refine j_zald 44 dX12_keeps_43 rfl (sh_67 hL) (j_inv hg) ?_
      obtain ⟨hg, h⟩ := j_gs h
      refine j_zast 45 dX12_keeps_44 rfl (sh_128 hL) (j_inv hg) (jm_b01_idem _) ?_
      refine j_iinc (v := (l2 + (1 : Int32))) (lv' := [(2, .int (l2 + (1 : Int32))), (0, .ref (E.1 + 66)), (1, .int l1)]) (q := 2) 48 dX12_keeps_45 rfl rfl rfl (by decide) rfl ?_
      refine j_goto 22 dX12_keeps_48 (by decide) ?_
      refine j_sub [1, 2, 0] rfl ?_
      exact ih _ _ _  h
def fX12_keeps (l1 : Int32) (I : JI) : Option (JI) :=
  j_g (j_in l1 4) (fX12_keeps_22 100000 l1 (0 : Int32) (j_up (j_up I 66 88 ((I 66 88) + (1 : Int32))) 127 l1.toNatClampNeg ((j_up I 66 88 ((I 66 88) + (1 : Int32))) 66 88)))
set_option maxHeartbeats 4000000 in
set_option maxRecDepth 100000 in
theorem tcX12_keeps {E : JE} {l1 : Int32} {r : JI} {I : JI} {L : JL} {G D : JG} {S : JS} (hL : Lay G S) (h : fX12_keeps l1 I = some r) : CallJ E xX12_keeps 1 [.ref (E.1 + 66), .int l1] I L G D S none r L G D S := by
  unfold fX12_keeps at h
  refine j_entry (by decide) (Nat.le_of_ble_eq_true rfl) ?_
  show AtJ E xX12_keeps (Zr E none r L G D S) ((S).length, jm_sl S) 1 0 [(0, .ref (E.1 + 66)), (1, .int l1)] [] I L G D S
  refine j_aload_n 1 dX12_keeps_0 rfl rfl 0 rfl ?_
  refine j_dup 2 dX12_keeps_1 rfl rfl ?_
  refine j_getI 5 dX12_keeps_2 rfl (sh_66 hL) cl12 (k := 88) (by decide) flX12_535 rfl ?_
  refine j_iconst (v := (1 : Int32)) 6 dX12_keeps_5 rfl (by decide) ?_
  refine j_iadd 7 dX12_keeps_6 rfl ?_
  refine j_putI 10 dX12_keeps_7 rfl (sh_66 hL) cl12 (k := 88) (by decide) flX12_535 rfl rfl rfl ?_
  refine j_aload_n 11 dX12_keeps_10 rfl rfl 0 rfl ?_
  refine j_getG 14 dX12_keeps_11 rfl (sh_66 hL) cl12 (k := 89) (by decide) flX12_191 rfl (gs_66_89 hL) ?_
  refine j_iload_n 15 dX12_keeps_14 rfl rfl 1 rfl ?_
  refine j_aload_n 16 dX12_keeps_15 rfl rfl 0 rfl ?_
  refine j_getI 19 dX12_keeps_16 rfl (sh_66 hL) cl12 (k := 88) (by decide) flX12_535 rfl ?_
  obtain ⟨hg, h⟩ := j_gs h
  refine j_iast 20 dX12_keeps_19 rfl (sh_127 hL) (j_inv hg) ?_
  refine j_iconst (v := (0 : Int32)) 21 dX12_keeps_20 rfl (by decide) ?_
  refine j_istore_n (lv' := [(2, .int (0 : Int32)), (0, .ref (E.1 + 66)), (1, .int l1)]) 22 dX12_keeps_21 rfl rfl (by decide) rfl ?_
  refine j_sub [1, 2, 0] rfl ?_
  exact kX12_keeps_22 hL    100000 _ _ _  h
def fX12_takesBack_171 : Nat → Int32 → Int32 → JI → Option (JI)
  | 0, _, _, _ => none
  | n + 1, l1, l2, I =>
    if (4 : Int32) ≤ l2 then (some (I)) else (j_g (j_in l2 4) (j_g (j_in l1 4) (if (I 127 l2.toNatClampNeg) ≤ (I 127 l1.toNatClampNeg) then ((fX12_takesBack_171 n) l1 (l2 + (1 : Int32)) I) else (j_g (j_in l2 4) ((fX12_takesBack_171 n) l1 (l2 + (1 : Int32)) (j_up I 127 l2.toNatClampNeg (0 : Int32)))))))
set_option maxHeartbeats 4000000 in
set_option maxRecDepth 100000 in
theorem kX12_takesBack_171 {E : JE} {r : JI} {L : JL} {G : JG} {D : JG} {S : JS} (hL : Lay G S) : ∀ (n : Nat) (l1 : Int32) (l2 : Int32) (I : JI), fX12_takesBack_171 n l1 l2 I = some r → AtJ E xX12_takesBack (Zr E none r L G D S) ((S).length, jm_sl S) 1 171 [(0, .ref (E.1 + 66)), (1, .int l1), (2, .int l2)] [] I L G D S := by
  intro n
  induction n with
  | zero => intro l1 l2 I  h; simp [fX12_takesBack_171] at h
  | succ n ih =>
    intro l1 l2 I  h
    rw [fX12_takesBack_171] at h
    refine j_iload_n 172 dX12_takesBack_171 rfl rfl 2 rfl ?_
    refine j_iconst (v := (4 : Int32)) 173 dX12_takesBack_172 rfl (by decide) ?_
    refine j_icmp_ge 204 176 dX12_takesBack_173 (by decide) rfl (fun hc => ?_) (fun hc => ?_)
    · replace h := j_pos hc h
      cases h
      exact j_vret dX12_takesBack_204 rfl
    · replace h := j_neg hc h
      refine j_aload_n 177 dX12_takesBack_176 rfl rfl 0 rfl ?_
      refine j_getG 180 dX12_takesBack_177 rfl (sh_66 hL) cl12 (k := 89) (by decide) flX12_191 rfl (gs_66_89 hL) ?_
      refine j_iload_n 181 dX12_takesBack_180 rfl rfl 2 rfl ?_
      obtain ⟨hg, h⟩ := j_gs h
      refine j_iald 182 dX12_takesBack_181 rfl (sh_127 hL) (j_inv hg) ?_
      refine j_aload_n 183 dX12_takesBack_182 rfl rfl 0 rfl ?_
      refine j_getG 186 dX12_takesBack_183 rfl (sh_66 hL) cl12 (k := 89) (by decide) flX12_191 rfl (gs_66_89 hL) ?_
      refine j_iload_n 187 dX12_takesBack_186 rfl rfl 1 rfl ?_
      obtain ⟨hg, h⟩ := j_gs h
      refine j_iald 188 dX12_takesBack_187 rfl (sh_127 hL) (j_inv hg) ?_
      refine j_icmp_le 198 191 dX12_takesBack_188 (by decide) rfl (fun hc => ?_) (fun hc => ?_)
      · replace h := j_pos hc h
        refine j_iinc (v := (l2 + (1 : Int32))) (lv' := [(2, .int (l2 + (1 : Int32))), (0, .ref (E.1 + 66)), (1, .int l1)]) (q := 2) 201 dX12_takesBack_198 rfl rfl rfl (by decide) rfl ?_
        refine j_goto 171 dX12_takesBack_201 (by decide) ?_
        refine j_sub [1, 2, 0] rfl ?_
        exact ih _ _ _  h
      · replace h := j_neg hc h
        refine j_aload_n 192 dX12_takesBack_191 rfl rfl 0 rfl ?_
        refine j_getG 195 dX12_takesBack_192 rfl (sh_66 hL) cl12 (k := 89) (by decide) flX12_191 rfl (gs_66_89 hL) ?_
        refine j_iload_n 196 dX12_takesBack_195 rfl rfl 2 rfl ?_
        refine j_iconst (v := (0 : Int32)) 197 dX12_takesBack_196 rfl (by decide) ?_
        obtain ⟨hg, h⟩ := j_gs h
        refine j_iast 198 dX12_takesBack_197 rfl (sh_127 hL) (j_inv hg) ?_
        refine j_iinc (v := (l2 + (1 : Int32))) (lv' := [(2, .int (l2 + (1 : Int32))), (0, .ref (E.1 + 66)), (1, .int l1)]) (q := 2) 201 dX12_takesBack_198 rfl rfl rfl (by decide) rfl ?_
        refine j_goto 171 dX12_takesBack_201 (by decide) ?_
        refine j_sub [1, 2, 0] rfl ?_
        exact ih _ _ _  h
def fX12_takesBack_169 (l1 : Int32) (I : JI) : Option (JI) :=
  fX12_takesBack_171 100000 l1 (0 : Int32) I
set_option maxHeartbeats 4000000 in
set_option maxRecDepth 100000 in
theorem kX12_takesBack_169 {E : JE} {r : JI} {L : JL} {G : JG} {D : JG} {S : JS} (hL : Lay G S) : ∀ (l1 : Int32) (I : JI), fX12_takesBack_169 l1 I = some r → AtJ E xX12_takesBack (Zr E none r L G D S) ((S).length, jm_sl S) 1 169 [(0, .ref (E.1 + 66)), (1, .int l1)] [] I L G D S := by
  intro l1 I  h
  unfold fX12_takesBack_169 at h
  refine j_iconst (v := (0 : Int32)) 170 dX12_takesBack_169 rfl (by decide) ?_
  refine j_istore_n (lv' := [(2, .int (0 : Int32)), (0, .ref (E.1 + 66)), (1, .int l1)]) 171 dX12_takesBack_170 rfl rfl (by decide) rfl ?_
  refine j_sub [1, 2, 0] rfl ?_
  exact kX12_takesBack_171 hL    100000 _ _ _  h
def fX12_takesBack_123 : Nat → Int32 → Int32 → JI → Option (JI)
  | 0, _, _, _ => none
  | n + 1, l1, l2, I =>
    if (40 : Int32) ≤ l2 then (fX12_takesBack_169 l1 I) else (j_g (j_in (((40 : Int32) * l1) + l2) 160) (j_g (j_in l2 40) (j_g (j_in (((40 : Int32) * l1) + l2) 160) (j_g (j_in l2 40) ((fX12_takesBack_123 n) l1 (l2 + (1 : Int32)) (j_up (j_up I 106 l2.toNatClampNeg (I 134 (((40 : Int32) * l1) + l2).toNatClampNeg)) 102 l2.toNatClampNeg ((j_up I 106 l2.toNatClampNeg (I 134 (((40 : Int32) * l1) + l2).toNatClampNeg)) 135 (((40 : Int32) * l1) + l2).toNatClampNeg)))))))
set_option maxHeartbeats 4000000 in
set_option maxRecDepth 100000 in
theorem kX12_takesBack_123 {E : JE} {r : JI} {L : JL} {G : JG} {D : JG} {S : JS} (hL : Lay G S) : ∀ (n : Nat) (l1 : Int32) (l2 : Int32) (I : JI), fX12_takesBack_123 n l1 l2 I = some r → AtJ E xX12_takesBack (Zr E none r L G D S) ((S).length, jm_sl S) 1 123 [(0, .ref (E.1 + 66)), (1, .int l1), (2, .int l2)] [] I L G D S := by
  intro n
  induction n with
  | zero => intro l1 l2 I  h; simp [fX12_takesBack_123] at h
  | succ n ih =>
    intro l1 l2 I  h
    rw [fX12_takesBack_123] at h
    refine j_iload_n 124 dX12_takesBack_123 rfl rfl 2 rfl ?_
    refine j_bipush (v := (40 : Int32)) 126 dX12_takesBack_124 rfl (by decide) ?_
    refine j_icmp_ge 169 129 dX12_takesBack_126 (by decide) rfl (fun hc => ?_) (fun hc => ?_)
    · replace h := j_pos hc h
      refine j_sub [0, 1] rfl ?_
      exact kX12_takesBack_169 hL    _ _  h
    · replace h := j_neg hc h
      refine j_aload_n 130 dX12_takesBack_129 rfl rfl 0 rfl ?_
      refine j_getG 133 dX12_takesBack_130 rfl (sh_66 hL) cl12 (k := 63) (by decide) flX12_128 rfl (gs_66_63 hL) ?_
      refine j_iload_n 134 dX12_takesBack_133 rfl rfl 2 rfl ?_
      refine j_aload_n 135 dX12_takesBack_134 rfl rfl 0 rfl ?_
      refine j_getG 138 dX12_takesBack_135 rfl (sh_66 hL) cl12 (k := 96) (by decide) flX12_212 rfl (gs_66_96 hL) ?_
      refine j_bipush (v := (40 : Int32)) 140 dX12_takesBack_138 rfl (by decide) ?_
      refine j_iload_n 141 dX12_takesBack_140 rfl rfl 1 rfl ?_
      refine j_imul 142 dX12_takesBack_141 rfl ?_
      refine j_iload_n 143 dX12_takesBack_142 rfl rfl 2 rfl ?_
      refine j_iadd 144 dX12_takesBack_143 rfl ?_
      obtain ⟨hg, h⟩ := j_gs h
      refine j_iald 145 dX12_takesBack_144 rfl (sh_134 hL) (j_inv hg) ?_
      obtain ⟨hg, h⟩ := j_gs h
      refine j_iast 146 dX12_takesBack_145 rfl (sh_106 hL) (j_inv hg) ?_
      refine j_aload_n 147 dX12_takesBack_146 rfl rfl 0 rfl ?_
      refine j_getG 150 dX12_takesBack_147 rfl (sh_66 hL) cl12 (k := 59) (by decide) flX12_116 rfl (gs_66_59 hL) ?_
      refine j_iload_n 151 dX12_takesBack_150 rfl rfl 2 rfl ?_
      refine j_aload_n 152 dX12_takesBack_151 rfl rfl 0 rfl ?_
      refine j_getG 155 dX12_takesBack_152 rfl (sh_66 hL) cl12 (k := 97) (by decide) flX12_215 rfl (gs_66_97 hL) ?_
      refine j_bipush (v := (40 : Int32)) 157 dX12_takesBack_155 rfl (by decide) ?_
      refine j_iload_n 158 dX12_takesBack_157 rfl rfl 1 rfl ?_
      refine j_imul 159 dX12_takesBack_158 rfl ?_
      refine j_iload_n 160 dX12_takesBack_159 rfl rfl 2 rfl ?_
      refine j_iadd 161 dX12_takesBack_160 rfl ?_
      obtain ⟨hg, h⟩ := j_gs h
      refine j_iald 162 dX12_takesBack_161 rfl (sh_135 hL) (j_inv hg) ?_
      obtain ⟨hg, h⟩ := j_gs h
      refine j_iast 163 dX12_takesBack_162 rfl (sh_102 hL) (j_inv hg) ?_
      refine j_iinc (v := (l2 + (1 : Int32))) (lv' := [(2, .int (l2 + (1 : Int32))), (0, .ref (E.1 + 66)), (1, .int l1)]) (q := 2) 166 dX12_takesBack_163 rfl rfl rfl (by decide) rfl ?_
      refine j_goto 123 dX12_takesBack_166 (by decide) ?_
      refine j_sub [1, 2, 0] rfl ?_
      exact ih _ _ _  h
def fX12_takesBack_121 (l1 : Int32) (I : JI) : Option (JI) :=
  fX12_takesBack_123 100000 l1 (0 : Int32) I
set_option maxHeartbeats 4000000 in
set_option maxRecDepth 100000 in
theorem kX12_takesBack_121 {E : JE} {r : JI} {L : JL} {G : JG} {D : JG} {S : JS} (hL : Lay G S) : ∀ (l1 : Int32) (I : JI), fX12_takesBack_121 l1 I = some r → AtJ E xX12_takesBack (Zr E none r L G D S) ((S).length, jm_sl S) 1 121 [(0, .ref (E.1 + 66)), (1, .int l1)] [] I L G D S := by
  intro l1 I  h
  unfold fX12_takesBack_121 at h
  refine j_iconst (v := (0 : Int32)) 122 dX12_takesBack_121 rfl (by decide) ?_
  refine j_istore_n (lv' := [(2, .int (0 : Int32)), (0, .ref (E.1 + 66)), (1, .int l1)]) 123 dX12_takesBack_122 rfl rfl (by decide) rfl ?_
  refine j_sub [1, 2, 0] rfl ?_
  exact kX12_takesBack_123 hL    100000 _ _ _  h
def fX12_takesBack_72 : Nat → Int32 → Int32 → JI → Option (JI)
  | 0, _, _, _ => none
  | n + 1, l1, l2, I =>
    if (640 : Int32) ≤ l2 then (fX12_takesBack_121 l1 I) else (j_g (j_in (((640 : Int32) * l1) + l2) 2560) (j_g (j_in l2 640) (j_g (j_in (((640 : Int32) * l1) + l2) 2560) (j_g (j_in l2 640) ((fX12_takesBack_72 n) l1 (l2 + (1 : Int32)) (j_up (j_up I 112 l2.toNatClampNeg (I 132 (((640 : Int32) * l1) + l2).toNatClampNeg)) 113 l2.toNatClampNeg (jm_b01 ((j_up I 112 l2.toNatClampNeg (I 132 (((640 : Int32) * l1) + l2).toNatClampNeg)) 133 (((640 : Int32) * l1) + l2).toNatClampNeg))))))))
set_option maxHeartbeats 4000000 in
set_option maxRecDepth 100000 in
theorem kX12_takesBack_72 {E : JE} {r : JI} {L : JL} {G : JG} {D : JG} {S : JS} (hL : Lay G S) : ∀ (n : Nat) (l1 : Int32) (l2 : Int32) (I : JI), fX12_takesBack_72 n l1 l2 I = some r → AtJ E xX12_takesBack (Zr E none r L G D S) ((S).length, jm_sl S) 1 72 [(0, .ref (E.1 + 66)), (1, .int l1), (2, .int l2)] [] I L G D S := by
  intro n
  induction n with
  | zero => intro l1 l2 I  h; simp [fX12_takesBack_72] at h
  | succ n ih =>
    intro l1 l2 I  h
    rw [fX12_takesBack_72] at h
    refine j_iload_n 73 dX12_takesBack_72 rfl rfl 2 rfl ?_
    refine j_sipush (v := (640 : Int32)) 76 dX12_takesBack_73 rfl (by decide) ?_
    refine j_icmp_ge 121 79 dX12_takesBack_76 (by decide) rfl (fun hc => ?_) (fun hc => ?_)
    · replace h := j_pos hc h
      refine j_sub [0, 1] rfl ?_
      exact kX12_takesBack_121 hL    _ _  h
    · replace h := j_neg hc h
      refine j_aload_n 80 dX12_takesBack_79 rfl rfl 0 rfl ?_
      refine j_getG 83 dX12_takesBack_80 rfl (sh_66 hL) cl12 (k := 69) (by decide) flX12_146 rfl (gs_66_69 hL) ?_
      refine j_iload_n 84 dX12_takesBack_83 rfl rfl 2 rfl ?_
      refine j_aload_n 85 dX12_takesBack_84 rfl rfl 0 rfl ?_
      refine j_getG 88 dX12_takesBack_85 rfl (sh_66 hL) cl12 (k := 94) (by decide) flX12_206 rfl (gs_66_94 hL) ?_
      refine j_sipush (v := (640 : Int32)) 91 dX12_takesBack_88 rfl (by decide) ?_
      refine j_iload_n 92 dX12_takesBack_91 rfl rfl 1 rfl ?_
      refine j_imul 93 dX12_takesBack_92 rfl ?_
      refine j_iload_n 94 dX12_takesBack_93 rfl rfl 2 rfl ?_
      refine j_iadd 95 dX12_takesBack_94 rfl ?_
      obtain ⟨hg, h⟩ := j_gs h
      refine j_iald 96 dX12_takesBack_95 rfl (sh_132 hL) (j_inv hg) ?_
      obtain ⟨hg, h⟩ := j_gs h
      refine j_iast 97 dX12_takesBack_96 rfl (sh_112 hL) (j_inv hg) ?_
      refine j_aload_n 98 dX12_takesBack_97 rfl rfl 0 rfl ?_
      refine j_getG 101 dX12_takesBack_98 rfl (sh_66 hL) cl12 (k := 70) (by decide) flX12_149 rfl (gs_66_70 hL) ?_
      refine j_iload_n 102 dX12_takesBack_101 rfl rfl 2 rfl ?_
      refine j_aload_n 103 dX12_takesBack_102 rfl rfl 0 rfl ?_
      refine j_getG 106 dX12_takesBack_103 rfl (sh_66 hL) cl12 (k := 95) (by decide) flX12_209 rfl (gs_66_95 hL) ?_
      refine j_sipush (v := (640 : Int32)) 109 dX12_takesBack_106 rfl (by decide) ?_
      refine j_iload_n 110 dX12_takesBack_109 rfl rfl 1 rfl ?_
      refine j_imul 111 dX12_takesBack_110 rfl ?_
      refine j_iload_n 112 dX12_takesBack_111 rfl rfl 2 rfl ?_
      refine j_iadd 113 dX12_takesBack_112 rfl ?_
      obtain ⟨hg, h⟩ := j_gs h
      refine j_zald 114 dX12_takesBack_113 rfl (sh_133 hL) (j_inv hg) ?_
      obtain ⟨hg, h⟩ := j_gs h
      refine j_zast 115 dX12_takesBack_114 rfl (sh_113 hL) (j_inv hg) (jm_b01_idem _) ?_
      refine j_iinc (v := (l2 + (1 : Int32))) (lv' := [(2, .int (l2 + (1 : Int32))), (0, .ref (E.1 + 66)), (1, .int l1)]) (q := 2) 118 dX12_takesBack_115 rfl rfl rfl (by decide) rfl ?_
      refine j_goto 72 dX12_takesBack_118 (by decide) ?_
      refine j_sub [1, 2, 0] rfl ?_
      exact ih _ _ _  h
def fX12_takesBack_50 (l1 : Int32) (I : JI) : Option (JI) :=
  j_g (j_in l1 4) (j_g (j_in l1 4) (fX12_takesBack_72 100000 l1 (0 : Int32) (j_up (j_up I 66 8 (I 130 l1.toNatClampNeg)) 66 52 ((j_up I 66 8 (I 130 l1.toNatClampNeg)) 131 l1.toNatClampNeg))))
set_option maxHeartbeats 4000000 in
set_option maxRecDepth 100000 in
theorem kX12_takesBack_50 {E : JE} {r : JI} {L : JL} {G : JG} {D : JG} {S : JS} (hL : Lay G S) : ∀ (l1 : Int32) (I : JI), fX12_takesBack_50 l1 I = some r → AtJ E xX12_takesBack (Zr E none r L G D S) ((S).length, jm_sl S) 1 50 [(0, .ref (E.1 + 66)), (1, .int l1)] [] I L G D S := by
  intro l1 I  h
  unfold fX12_takesBack_50 at h
  refine j_aload_n 51 dX12_takesBack_50 rfl rfl 0 rfl ?_
  refine j_aload_n 52 dX12_takesBack_51 rfl rfl 0 rfl ?_
  refine j_getG 55 dX12_takesBack_52 rfl (sh_66 hL) cl12 (k := 92) (by decide) flX12_200 rfl (gs_66_92 hL) ?_
  refine j_iload_n 56 dX12_takesBack_55 rfl rfl 1 rfl ?_
  obtain ⟨hg, h⟩ := j_gs h
  refine j_iald 57 dX12_takesBack_56 rfl (sh_130 hL) (j_inv hg) ?_
  refine j_putI 60 dX12_takesBack_57 rfl (sh_66 hL) cl12 (k := 8) (by decide) flX12_237 rfl rfl rfl ?_
  refine j_aload_n 61 dX12_takesBack_60 rfl rfl 0 rfl ?_
  refine j_aload_n 62 dX12_takesBack_61 rfl rfl 0 rfl ?_
  refine j_getG 65 dX12_takesBack_62 rfl (sh_66 hL) cl12 (k := 93) (by decide) flX12_203 rfl (gs_66_93 hL) ?_
  refine j_iload_n 66 dX12_takesBack_65 rfl rfl 1 rfl ?_
  obtain ⟨hg, h⟩ := j_gs h
  refine j_iald 67 dX12_takesBack_66 rfl (sh_131 hL) (j_inv hg) ?_
  refine j_putI 70 dX12_takesBack_67 rfl (sh_66 hL) cl12 (k := 52) (by decide) flX12_460 rfl rfl rfl ?_
  refine j_iconst (v := (0 : Int32)) 71 dX12_takesBack_70 rfl (by decide) ?_
  refine j_istore_n (lv' := [(2, .int (0 : Int32)), (0, .ref (E.1 + 66)), (1, .int l1)]) 72 dX12_takesBack_71 rfl rfl (by decide) rfl ?_
  refine j_sub [1, 2, 0] rfl ?_
  exact kX12_takesBack_72 hL    100000 _ _ _  h
def fX12_takesBack_2 : Nat → Int32 → Int32 → JI → Option (JI)
  | 0, _, _, _ => none
  | n + 1, l1, l2, I =>
    if (192 : Int32) ≤ l2 then (fX12_takesBack_50 l1 I) else (j_g (j_in (((12 : Int32) * l1) + (l2 / (16 : Int32))) 48) (if (jm_b01 (I 128 (((12 : Int32) * l1) + (l2 / (16 : Int32))).toNatClampNeg)) = 0 then ((fX12_takesBack_2 n) l1 (l2 + (1 : Int32)) I) else (j_g (j_in (((192 : Int32) * l1) + l2) 768) (j_g (j_in l2 192) ((fX12_takesBack_2 n) l1 (l2 + (1 : Int32)) (j_up I 68 l2.toNatClampNeg (I 129 (((192 : Int32) * l1) + l2).toNatClampNeg)))))))
set_option maxHeartbeats 4000000 in
set_option maxRecDepth 100000 in
theorem kX12_takesBack_2 {E : JE} {r : JI} {L : JL} {G : JG} {D : JG} {S : JS} (hL : Lay G S) : ∀ (n : Nat) (l1 : Int32) (l2 : Int32) (I : JI), fX12_takesBack_2 n l1 l2 I = some r → AtJ E xX12_takesBack (Zr E none r L G D S) ((S).length, jm_sl S) 1 2 [(0, .ref (E.1 + 66)), (1, .int l1), (2, .int l2)] [] I L G D S := by
  intro n
  induction n with
  | zero => intro l1 l2 I  h; simp [fX12_takesBack_2] at h
  | succ n ih =>
    intro l1 l2 I  h
    rw [fX12_takesBack_2] at h
    refine j_iload_n 3 dX12_takesBack_2 rfl rfl 2 rfl ?_
    refine j_sipush (v := (192 : Int32)) 6 dX12_takesBack_3 rfl (by decide) ?_
    refine j_icmp_ge 50 9 dX12_takesBack_6 (by decide) rfl (fun hc => ?_) (fun hc => ?_)
    · replace h := j_pos hc h
      refine j_sub [0, 1] rfl ?_
      exact kX12_takesBack_50 hL    _ _  h
    · replace h := j_neg hc h
      refine j_aload_n 10 dX12_takesBack_9 rfl rfl 0 rfl ?_
      refine j_getG 13 dX12_takesBack_10 rfl (sh_66 hL) cl12 (k := 90) (by decide) flX12_194 rfl (gs_66_90 hL) ?_
      refine j_bipush (v := (12 : Int32)) 15 dX12_takesBack_13 rfl (by decide) ?_
      refine j_iload_n 16 dX12_takesBack_15 rfl rfl 1 rfl ?_
      refine j_imul 17 dX12_takesBack_16 rfl ?_
      refine j_iload_n 18 dX12_takesBack_17 rfl rfl 2 rfl ?_
      refine j_bipush (v := (16 : Int32)) 20 dX12_takesBack_18 rfl (by decide) ?_
      refine j_idiv 21 dX12_takesBack_20 rfl (by decide) ?_
      refine j_iadd 22 dX12_takesBack_21 rfl ?_
      obtain ⟨hg, h⟩ := j_gs h
      refine j_zald 23 dX12_takesBack_22 rfl (sh_128 hL) (j_inv hg) ?_
      refine j_if_eq 44 26 dX12_takesBack_23 (by decide) rfl (fun hc => ?_) (fun hc => ?_)
      · replace h := j_pos hc h
        refine j_iinc (v := (l2 + (1 : Int32))) (lv' := [(2, .int (l2 + (1 : Int32))), (0, .ref (E.1 + 66)), (1, .int l1)]) (q := 2) 47 dX12_takesBack_44 rfl rfl rfl (by decide) rfl ?_
        refine j_goto 2 dX12_takesBack_47 (by decide) ?_
        refine j_sub [1, 2, 0] rfl ?_
        exact ih _ _ _  h
      · replace h := j_neg hc h
        refine j_aload_n 27 dX12_takesBack_26 rfl rfl 0 rfl ?_
        refine j_getG 30 dX12_takesBack_27 rfl (sh_66 hL) cl12 (k := 2) (by decide) flX12_13 rfl (gs_66_2 hL) ?_
        refine j_iload_n 31 dX12_takesBack_30 rfl rfl 2 rfl ?_
        refine j_aload_n 32 dX12_takesBack_31 rfl rfl 0 rfl ?_
        refine j_getG 35 dX12_takesBack_32 rfl (sh_66 hL) cl12 (k := 91) (by decide) flX12_197 rfl (gs_66_91 hL) ?_
        refine j_sipush (v := (192 : Int32)) 38 dX12_takesBack_35 rfl (by decide) ?_
        refine j_iload_n 39 dX12_takesBack_38 rfl rfl 1 rfl ?_
        refine j_imul 40 dX12_takesBack_39 rfl ?_
        refine j_iload_n 41 dX12_takesBack_40 rfl rfl 2 rfl ?_
        refine j_iadd 42 dX12_takesBack_41 rfl ?_
        obtain ⟨hg, h⟩ := j_gs h
        refine j_iald 43 dX12_takesBack_42 rfl (sh_129 hL) (j_inv hg) ?_
        obtain ⟨hg, h⟩ := j_gs h
        refine j_iast 44 dX12_takesBack_43 rfl (sh_68 hL) (j_inv hg) ?_
        refine j_iinc (v := (l2 + (1 : Int32))) (lv' := [(2, .int (l2 + (1 : Int32))), (0, .ref (E.1 + 66)), (1, .int l1)]) (q := 2) 47 dX12_takesBack_44 rfl rfl rfl (by decide) rfl ?_
        refine j_goto 2 dX12_takesBack_47 (by decide) ?_
        refine j_sub [1, 2, 0] rfl ?_
        exact ih _ _ _  h
def fX12_takesBack (l1 : Int32) (I : JI) : Option (JI) :=
  fX12_takesBack_2 100000 l1 (0 : Int32) I
set_option maxHeartbeats 4000000 in
set_option maxRecDepth 100000 in
theorem tcX12_takesBack {E : JE} {l1 : Int32} {r : JI} {I : JI} {L : JL} {G D : JG} {S : JS} (hL : Lay G S) (h : fX12_takesBack l1 I = some r) : CallJ E xX12_takesBack 1 [.ref (E.1 + 66), .int l1] I L G D S none r L G D S := by
  unfold fX12_takesBack at h
  refine j_entry (by decide) (Nat.le_of_ble_eq_true rfl) ?_
  show AtJ E xX12_takesBack (Zr E none r L G D S) ((S).length, jm_sl S) 1 0 [(0, .ref (E.1 + 66)), (1, .int l1)] [] I L G D S
  refine j_iconst (v := (0 : Int32)) 1 dX12_takesBack_0 rfl (by decide) ?_
  refine j_istore_n (lv' := [(2, .int (0 : Int32)), (0, .ref (E.1 + 66)), (1, .int l1)]) 2 dX12_takesBack_1 rfl rfl (by decide) rfl ?_
  refine j_sub [1, 2, 0] rfl ?_
  exact kX12_takesBack_2 hL    100000 _ _ _  h
