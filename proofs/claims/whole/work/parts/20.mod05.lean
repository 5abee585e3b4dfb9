def fX12_mark_29 (l1 : Int32) (l2 : Int32) (I : JI) : Option (Int32 × JI) :=
  if l2 = 0 then ((fX12_keeps l1 I).bind (fun q2 => some ((1 : Int32), q2))) else ((fX12_takesBack l1 I).bind (fun q3 => some ((1 : Int32), q3)))
set_option maxHeartbeats 4000000 in
set_option maxRecDepth 100000 in
theorem kX12_mark_29 {E : JE} {r : Int32 × JI} {L : JL} {G : JG} {D : JG} {S : JS} (hL : Lay G S) : ∀ (l1 : Int32) (l2 : Int32) (I : JI), fX12_mark_29 l1 l2 I = some r → AtJ E xX12_mark (Zr E (some (.int r.1)) r.2 L G D S) ((S).length, jm_sl S) 2 29 [(0, .ref (E.1 + 66)), (1, .int l1), (2, .int l2)] [] I L G D S := by
  intro l1 l2 I  h
  unfold fX12_mark_29 at h
  refine j_iload_n 30 dX12_mark_29 rfl rfl 2 rfl ?_
  refine j_if_eq 41 33 dX12_mark_30 (by decide) rfl (fun hc => ?_) (fun hc => ?_)
  · replace h := j_pos hc h
    refine j_aload_n 42 dX12_mark_41 rfl rfl 0 rfl ?_
    refine j_iload_n 43 dX12_mark_42 rfl rfl 1 rfl ?_
    obtain ⟨q2, hq2, h⟩ := j_bs h
    refine j_callV (rest := []) (As := [.int l1]) 46 dX12_mark_43 rfl jyX12_keeps (tcX12_keeps hL  hq2) (sh_66 hL) cl12 flX12_541 wm2037 wm86 (by decide) rfl rfl (Nat.le_of_ble_eq_true rfl) ?_
    refine j_iconst (v := (1 : Int32)) 47 dX12_mark_46 rfl (by decide) ?_
    cases h
    exact j_zret dX12_mark_47 rfl j_b01_1
  · replace h := j_neg hc h
    refine j_aload_n 34 dX12_mark_33 rfl rfl 0 rfl ?_
    refine j_iload_n 35 dX12_mark_34 rfl rfl 1 rfl ?_
    obtain ⟨q3, hq3, h⟩ := j_bs h
    refine j_callV (rest := []) (As := [.int l1]) 38 dX12_mark_35 rfl jyX12_takesBack (tcX12_takesBack hL  hq3) (sh_66 hL) cl12 flX12_538 wm2033 wm85 (by decide) rfl rfl (Nat.le_of_ble_eq_true rfl) ?_
    refine j_goto 46 dX12_mark_38 (by decide) ?_
    refine j_iconst (v := (1 : Int32)) 47 dX12_mark_46 rfl (by decide) ?_
    cases h
    exact j_zret dX12_mark_47 rfl j_b01_1
def fX12_mark (l1 : Int32) (l2 : Int32) (I : JI) : Option (Int32 × JI) :=
  (fX12_within l1 (0 : Int32) (3 : Int32)).bind (fun q1 => if q1 = 0 then (some ((0 : Int32), (j_up I 66 0 (0 : Int32)))) else (if l2 = 0 then (fX12_mark_29 l1 l2 (j_up I 66 0 (0 : Int32))) else (j_g (j_in l1 4) (if ((j_up I 66 0 (0 : Int32)) 127 l1.toNatClampNeg) = 0 then (some ((0 : Int32), (j_up I 66 0 (0 : Int32)))) else (fX12_mark_29 l1 l2 (j_up I 66 0 (0 : Int32)))))))
set_option maxHeartbeats 4000000 in
set_option maxRecDepth 100000 in
theorem tcX12_mark {E : JE} {l1 : Int32} {l2 : Int32} {r : Int32 × JI} {I : JI} {L : JL} {G D : JG} {S : JS} (hL : Lay G S) (h : fX12_mark l1 l2 I = some r) : CallJ E xX12_mark 2 [.ref (E.1 + 66), .int l1, .int l2] I L G D S (some (.int r.1)) r.2 L G D S := by
  unfold fX12_mark at h
  refine j_entry (by decide) (Nat.le_of_ble_eq_true rfl) ?_
  show AtJ E xX12_mark (Zr E (some (.int r.1)) r.2 L G D S) ((S).length, jm_sl S) 2 0 [(0, .ref (E.1 + 66)), (1, .int l1), (2, .int l2)] [] I L G D S
  refine j_aload_n 1 dX12_mark_0 rfl rfl 0 rfl ?_
  refine j_iconst (v := (0 : Int32)) 2 dX12_mark_1 rfl (by decide) ?_
  refine j_putI 5 dX12_mark_2 rfl (sh_66 hL) cl12 (k := 0) (by decide) flX12_218 rfl rfl rfl ?_
  refine j_iload_n 6 dX12_mark_5 rfl rfl 1 rfl ?_
  refine j_iconst (v := (0 : Int32)) 7 dX12_mark_6 rfl (by decide) ?_
  refine j_iconst (v := (3 : Int32)) 8 dX12_mark_7 rfl (by decide) ?_
  obtain ⟨q1, hq1, h⟩ := j_bs h
  refine j_callS (rest := []) (As := [.int l1, .int (0 : Int32), .int (3 : Int32)]) 11 dX12_mark_8 rfl jyX12_within (tcX12_within   hq1) flX12_222 wm1697 (by decide) rfl rfl (Nat.le_of_ble_eq_true rfl) ?_
  refine j_if_eq 27 14 dX12_mark_11 (by decide) rfl (fun hc => ?_) (fun hc => ?_)
  · replace h := j_pos hc h
    refine j_iconst (v := (0 : Int32)) 28 dX12_mark_27 rfl (by decide) ?_
    cases h
    exact j_zret dX12_mark_28 rfl j_b01_0
  · replace h := j_neg hc h
    refine j_iload_n 15 dX12_mark_14 rfl rfl 2 rfl ?_
    refine j_if_eq 29 18 dX12_mark_15 (by decide) rfl (fun hc => ?_) (fun hc => ?_)
    · replace h := j_pos hc h
      exact kX12_mark_29 hL    _ _ _  h
    · replace h := j_neg hc h
      refine j_aload_n 19 dX12_mark_18 rfl rfl 0 rfl ?_
      refine j_getG 22 dX12_mark_19 rfl (sh_66 hL) cl12 (k := 89) (by decide) flX12_191 rfl (gs_66_89 hL) ?_
      refine j_iload_n 23 dX12_mark_22 rfl rfl 1 rfl ?_
      obtain ⟨hg, h⟩ := j_gs h
      refine j_iald 24 dX12_mark_23 rfl (sh_127 hL) (j_inv hg) ?_
      refine j_if_ne 29 27 dX12_mark_24 (by decide) rfl (fun hc => ?_) (fun hc => ?_)
      · replace h := j_neg hc h
        exact kX12_mark_29 hL    _ _ _  h
      · replace h := j_pos hc h
        refine j_iconst (v := (0 : Int32)) 28 dX12_mark_27 rfl (by decide) ?_
        cases h
        exact j_zret dX12_mark_28 rfl j_b01_0
def fX12_count_92 (l1 : Int32) (l2 : Int32) (I : JI) : Option (Int32 × JI) :=
  if l1 = 0 then (some (l2, I)) else (if l1 = (3 : Int32) then (some (l2, I)) else (if l1 = (1 : Int32) then (some ((I 66 8), I)) else (if l1 = (2 : Int32) then (some ((I 66 52), I)) else (if l1 = (4 : Int32) then ((fX12_maybes I).bind (fun q3 => some (((I 66 18) - q3), I))) else (if l1 = (5 : Int32) then ((fX12_maybes I).bind (fun q2 => some (q2, I))) else (if l1 = (6 : Int32) then (some ((I 66 81), I)) else (some ((I 66 9), I))))))))
set_option maxHeartbeats 4000000 in
set_option maxRecDepth 100000 in
theorem kX12_count_92 {E : JE} {r : Int32 × JI} {L : JL} {G : JG} {D : JG} {S : JS} (hL : Lay G S) : ∀ (l1 : Int32) (l2 : Int32) (I : JI), fX12_count_92 l1 l2 I = some r → AtJ E xX12_count (Zr E (some (.int r.1)) r.2 L G D S) ((S).length, jm_sl S) 2 92 [(0, .ref (E.1 + 66)), (1, .int l1), (2, .int l2)] [] I L G D S := by
  intro l1 l2 I  h
  unfold fX12_count_92 at h
  refine j_iload_n 93 dX12_count_92 rfl rfl 1 rfl ?_
  refine j_if_eq 101 96 dX12_count_93 (by decide) rfl (fun hc => ?_) (fun hc => ?_)
  · replace h := j_pos hc h
    refine j_iload_n 102 dX12_count_101 rfl rfl 2 rfl ?_
    cases h
    exact j_iret dX12_count_102 rfl
  · replace h := j_neg hc h
    refine j_iload_n 97 dX12_count_96 rfl rfl 1 rfl ?_
    refine j_iconst (v := (3 : Int32)) 98 dX12_count_97 rfl (by decide) ?_
    refine j_icmp_ne 103 101 dX12_count_98 (by decide) rfl (fun hc => ?_) (fun hc => ?_)
    · replace h := j_neg hc h
      refine j_iload_n 104 dX12_count_103 rfl rfl 1 rfl ?_
      refine j_iconst (v := (1 : Int32)) 105 dX12_count_104 rfl (by decide) ?_
      refine j_icmp_ne 115 108 dX12_count_105 (by decide) rfl (fun hc => ?_) (fun hc => ?_)
      · replace h := j_neg hc h
        refine j_iload_n 116 dX12_count_115 rfl rfl 1 rfl ?_
        refine j_iconst (v := (2 : Int32)) 117 dX12_count_116 rfl (by decide) ?_
        refine j_icmp_ne 127 120 dX12_count_117 (by decide) rfl (fun hc => ?_) (fun hc => ?_)
        · replace h := j_neg hc h
          refine j_iload_n 128 dX12_count_127 rfl rfl 1 rfl ?_
          refine j_iconst (v := (4 : Int32)) 129 dX12_count_128 rfl (by decide) ?_
          refine j_icmp_ne 144 132 dX12_count_129 (by decide) rfl (fun hc => ?_) (fun hc => ?_)
          · replace h := j_neg hc h
            refine j_iload_n 145 dX12_count_144 rfl rfl 1 rfl ?_
            refine j_iconst (v := (5 : Int32)) 146 dX12_count_145 rfl (by decide) ?_
            refine j_icmp_ne 156 149 dX12_count_146 (by decide) rfl (fun hc => ?_) (fun hc => ?_)
            · replace h := j_neg hc h
              refine j_iload_n 157 dX12_count_156 rfl rfl 1 rfl ?_
              refine j_bipush (v := (6 : Int32)) 159 dX12_count_157 rfl (by decide) ?_
              refine j_icmp_ne 169 162 dX12_count_159 (by decide) rfl (fun hc => ?_) (fun hc => ?_)
              · replace h := j_neg hc h
                refine j_aload_n 170 dX12_count_169 rfl rfl 0 rfl ?_
                refine j_getI 173 dX12_count_170 rfl (sh_66 hL) cl12 (k := 9) (by decide) flX12_249 rfl ?_
                cases h
                exact j_iret dX12_count_173 rfl
              · replace h := j_pos hc h
                refine j_aload_n 163 dX12_count_162 rfl rfl 0 rfl ?_
                refine j_getI 166 dX12_count_163 rfl (sh_66 hL) cl12 (k := 81) (by decide) flX12_525 rfl ?_
                refine j_goto 173 dX12_count_166 (by decide) ?_
                cases h
                exact j_iret dX12_count_173 rfl
            · replace h := j_pos hc h
              refine j_aload_n 150 dX12_count_149 rfl rfl 0 rfl ?_
              obtain ⟨q2, hq2, h⟩ := j_bs h
              refine j_callV (rest := []) (As := []) 153 dX12_count_150 rfl jyX12_maybes (tcX12_maybes hL  hq2) (sh_66 hL) cl12 flX12_528 wm2021 wm83 (by decide) rfl rfl (Nat.le_of_ble_eq_true rfl) ?_
              refine j_goto 173 dX12_count_153 (by decide) ?_
              cases h
              exact j_iret dX12_count_173 rfl
          · replace h := j_pos hc h
            refine j_aload_n 133 dX12_count_132 rfl rfl 0 rfl ?_
            refine j_getI 136 dX12_count_133 rfl (sh_66 hL) cl12 (k := 18) (by decide) flX12_398 rfl ?_
            refine j_aload_n 137 dX12_count_136 rfl rfl 0 rfl ?_
            obtain ⟨q3, hq3, h⟩ := j_bs h
            refine j_callV (rest := [.int (I 66 18)]) (As := []) 140 dX12_count_137 rfl jyX12_maybes (tcX12_maybes hL  hq3) (sh_66 hL) cl12 flX12_528 wm2021 wm83 (by decide) rfl rfl (Nat.le_of_ble_eq_true rfl) ?_
            refine j_isub 141 dX12_count_140 rfl ?_
            refine j_goto 173 dX12_count_141 (by decide) ?_
            cases h
            exact j_iret dX12_count_173 rfl
        · replace h := j_pos hc h
          refine j_aload_n 121 dX12_count_120 rfl rfl 0 rfl ?_
          refine j_getI 124 dX12_count_121 rfl (sh_66 hL) cl12 (k := 52) (by decide) flX12_460 rfl ?_
          refine j_goto 173 dX12_count_124 (by decide) ?_
          cases h
          exact j_iret dX12_count_173 rfl
      · replace h := j_pos hc h
        refine j_aload_n 109 dX12_count_108 rfl rfl 0 rfl ?_
        refine j_getI 112 dX12_count_109 rfl (sh_66 hL) cl12 (k := 8) (by decide) flX12_237 rfl ?_
        refine j_goto 173 dX12_count_112 (by decide) ?_
        cases h
        exact j_iret dX12_count_173 rfl
    · replace h := j_pos hc h
      refine j_iload_n 102 dX12_count_101 rfl rfl 2 rfl ?_
      cases h
      exact j_iret dX12_count_102 rfl
def fX12_count_61 : Nat → Int32 → Int32 → Int32 → JI → Option (Int32 × JI)
  | 0, _, _, _, _ => none
  | n + 1, l1, l2, l3, I =>
    if (I 66 52) ≤ l3 then (fX12_count_92 l1 l2 I) else (j_g (j_in l3 40) (if (I 106 l3.toNatClampNeg) < 0 then ((fX12_count_61 n) l1 (l2 + (0 : Int32)) (l3 + (1 : Int32)) I) else ((fX12_count_61 n) l1 (l2 + (1 : Int32)) (l3 + (1 : Int32)) I)))
set_option maxHeartbeats 4000000 in
set_option maxRecDepth 100000 in
theorem kX12_count_61 {E : JE} {r : Int32 × JI} {L : JL} {G : JG} {D : JG} {S : JS} (hL : Lay G S) : ∀ (n : Nat) (l1 : Int32) (l2 : Int32) (l3 : Int32) (I : JI), fX12_count_61 n l1 l2 l3 I = some r → AtJ E xX12_count (Zr E (some (.int r.1)) r.2 L G D S) ((S).length, jm_sl S) 2 61 [(0, .ref (E.1 + 66)), (1, .int l1), (2, .int l2), (3, .int l3)] [] I L G D S := by
  intro n
  induction n with
  | zero => intro l1 l2 l3 I  h; simp [fX12_count_61] at h
  | succ n ih =>
    intro l1 l2 l3 I  h
    rw [fX12_count_61] at h
    refine j_iload_n 62 dX12_count_61 rfl rfl 3 rfl ?_
    refine j_aload_n 63 dX12_count_62 rfl rfl 0 rfl ?_
    refine j_getI 66 dX12_count_63 rfl (sh_66 hL) cl12 (k := 52) (by decide) flX12_460 rfl ?_
    refine j_icmp_ge 92 69 dX12_count_66 (by decide) rfl (fun hc => ?_) (fun hc => ?_)
    · replace h := j_pos hc h
      refine j_sub [0, 1, 2] rfl ?_
      exact kX12_count_92 hL    _ _ _  h
    · replace h := j_neg hc h
      refine j_iload_n 70 dX12_count_69 rfl rfl 2 rfl ?_
      refine j_aload_n 71 dX12_count_70 rfl rfl 0 rfl ?_
      refine j_getG 74 dX12_count_71 rfl (sh_66 hL) cl12 (k := 63) (by decide) flX12_128 rfl (gs_66_63 hL) ?_
      refine j_iload_n 75 dX12_count_74 rfl rfl 3 rfl ?_
      obtain ⟨hg, h⟩ := j_gs h
      refine j_iald 76 dX12_count_75 rfl (sh_106 hL) (j_inv hg) ?_
      refine j_if_lt 83 79 dX12_count_76 (by decide) rfl (fun hc => ?_) (fun hc => ?_)
      · replace h := j_pos hc h
        refine j_iconst (v := (0 : Int32)) 84 dX12_count_83 rfl (by decide) ?_
        refine j_iadd 85 dX12_count_84 rfl ?_
        refine j_istore_n (lv' := [(2, .int (l2 + (0 : Int32))), (0, .ref (E.1 + 66)), (1, .int l1), (3, .int l3)]) 86 dX12_count_85 rfl rfl (by decide) rfl ?_
        refine j_iinc (v := (l3 + (1 : Int32))) (lv' := [(3, .int (l3 + (1 : Int32))), (2, .int (l2 + (0 : Int32))), (0, .ref (E.1 + 66)), (1, .int l1)]) (q := 3) 89 dX12_count_86 rfl rfl rfl (by decide) rfl ?_
        refine j_goto 61 dX12_count_89 (by decide) ?_
        refine j_sub [2, 3, 1, 0] rfl ?_
        exact ih _ _ _ _  h
      · replace h := j_neg hc h
        refine j_iconst (v := (1 : Int32)) 80 dX12_count_79 rfl (by decide) ?_
        refine j_goto 84 dX12_count_80 (by decide) ?_
        refine j_iadd 85 dX12_count_84 rfl ?_
        refine j_istore_n (lv' := [(2, .int (l2 + (1 : Int32))), (0, .ref (E.1 + 66)), (1, .int l1), (3, .int l3)]) 86 dX12_count_85 rfl rfl (by decide) rfl ?_
        refine j_iinc (v := (l3 + (1 : Int32))) (lv' := [(3, .int (l3 + (1 : Int32))), (2, .int (l2 + (1 : Int32))), (0, .ref (E.1 + 66)), (1, .int l1)]) (q := 3) 89 dX12_count_86 rfl rfl rfl (by decide) rfl ?_
        refine j_goto 61 dX12_count_89 (by decide) ?_
        refine j_sub [2, 3, 1, 0] rfl ?_
        exact ih _ _ _ _  h
def fX12_count_54 (l1 : Int32) (l2 : Int32) (I : JI) : Option (Int32 × JI) :=
  if l1 = (3 : Int32) then (fX12_count_61 100000 l1 l2 (0 : Int32) I) else (fX12_count_92 l1 l2 I)
set_option maxHeartbeats 4000000 in
set_option maxRecDepth 100000 in
theorem kX12_count_54 {E : JE} {r : Int32 × JI} {L : JL} {G : JG} {D : JG} {S : JS} (hL : Lay G S) : ∀ (l1 : Int32) (l2 : Int32) (I : JI), fX12_count_54 l1 l2 I = some r → AtJ E xX12_count (Zr E (some (.int r.1)) r.2 L G D S) ((S).length, jm_sl S) 2 54 [(0, .ref (E.1 + 66)), (1, .int l1), (2, .int l2)] [] I L G D S := by
  intro l1 l2 I  h
  unfold fX12_count_54 at h
  refine j_iload_n 55 dX12_count_54 rfl rfl 1 rfl ?_
  refine j_iconst (v := (3 : Int32)) 56 dX12_count_55 rfl (by decide) ?_
  refine j_icmp_ne 92 59 dX12_count_56 (by decide) rfl (fun hc => ?_) (fun hc => ?_)
  · replace h := j_neg hc h
    exact kX12_count_92 hL    _ _ _  h
  · replace h := j_pos hc h
    refine j_iconst (v := (0 : Int32)) 60 dX12_count_59 rfl (by decide) ?_
    refine j_istore_n (lv' := [(3, .int (0 : Int32)), (0, .ref (E.1 + 66)), (1, .int l1), (2, .int l2)]) 61 dX12_count_60 rfl rfl (by decide) rfl ?_
    refine j_sub [1, 2, 3, 0] rfl ?_
    exact kX12_count_61 hL    100000 _ _ _ _  h
def fX12_count_25 : Nat → Int32 → Int32 → Int32 → JI → Option (Int32 × JI)
  | 0, _, _, _, _ => none
  | n + 1, l1, l2, l3, I =>
    if (12 : Int32) ≤ l3 then (fX12_count_54 l1 l2 I) else (j_g (j_in l3 12) (if (jm_b01 (I 67 l3.toNatClampNeg)) = 0 then ((fX12_count_25 n) l1 (l2 + (0 : Int32)) (l3 + (1 : Int32)) I) else ((fX12_count_25 n) l1 (l2 + (1 : Int32)) (l3 + (1 : Int32)) I)))
set_option maxHeartbeats 4000000 in
set_option maxRecDepth 100000 in
theorem kX12_count_25 {E : JE} {r : Int32 × JI} {L : JL} {G : JG} {D : JG} {S : JS} (hL : Lay G S) : ∀ (n : Nat) (l1 : Int32) (l2 : Int32) (l3 : Int32) (I : JI), fX12_count_25 n l1 l2 l3 I = some r → AtJ E xX12_count (Zr E (some (.int r.1)) r.2 L G D S) ((S).length, jm_sl S) 2 25 [(0, .ref (E.1 + 66)), (1, .int l1), (2, .int l2), (3, .int l3)] [] I L G D S := by
  intro n
  induction n with
  | zero => intro l1 l2 l3 I  h; simp [fX12_count_25] at h
  | succ n ih =>
    intro l1 l2 l3 I  h
    rw [fX12_count_25] at h
    refine j_iload_n 26 dX12_count_25 rfl rfl 3 rfl ?_
    refine j_bipush (v := (12 : Int32)) 28 dX12_count_26 rfl (by decide) ?_
    refine j_icmp_ge 54 31 dX12_count_28 (by decide) rfl (fun hc => ?_) (fun hc => ?_)
    · replace h := j_pos hc h
      refine j_sub [0, 1, 2] rfl ?_
      exact kX12_count_54 hL    _ _ _  h
    · replace h := j_neg hc h
      refine j_iload_n 32 dX12_count_31 rfl rfl 2 rfl ?_
      refine j_aload_n 33 dX12_count_32 rfl rfl 0 rfl ?_
      refine j_getG 36 dX12_count_33 rfl (sh_66 hL) cl12 (k := 1) (by decide) flX12_7 rfl (gs_66_1 hL) ?_
      refine j_iload_n 37 dX12_count_36 rfl rfl 3 rfl ?_
      obtain ⟨hg, h⟩ := j_gs h
      refine j_zald 38 dX12_count_37 rfl (sh_67 hL) (j_inv hg) ?_
      refine j_if_eq 45 41 dX12_count_38 (by decide) rfl (fun hc => ?_) (fun hc => ?_)
      · replace h := j_pos hc h
        refine j_iconst (v := (0 : Int32)) 46 dX12_count_45 rfl (by decide) ?_
        refine j_iadd 47 dX12_count_46 rfl ?_
        refine j_istore_n (lv' := [(2, .int (l2 + (0 : Int32))), (0, .ref (E.1 + 66)), (1, .int l1), (3, .int l3)]) 48 dX12_count_47 rfl rfl (by decide) rfl ?_
        refine j_iinc (v := (l3 + (1 : Int32))) (lv' := [(3, .int (l3 + (1 : Int32))), (2, .int (l2 + (0 : Int32))), (0, .ref (E.1 + 66)), (1, .int l1)]) (q := 3) 51 dX12_count_48 rfl rfl rfl (by decide) rfl ?_
        refine j_goto 25 dX12_count_51 (by decide) ?_
        refine j_sub [2, 3, 1, 0] rfl ?_
        exact ih _ _ _ _  h
      · replace h := j_neg hc h
        refine j_iconst (v := (1 : Int32)) 42 dX12_count_41 rfl (by decide) ?_
        refine j_goto 46 dX12_count_42 (by decide) ?_
        refine j_iadd 47 dX12_count_46 rfl ?_
        refine j_istore_n (lv' := [(2, .int (l2 + (1 : Int32))), (0, .ref (E.1 + 66)), (1, .int l1), (3, .int l3)]) 48 dX12_count_47 rfl rfl (by decide) rfl ?_
        refine j_iinc (v := (l3 + (1 : Int32))) (lv' := [(3, .int (l3 + (1 : Int32))), (2, .int (l2 + (1 : Int32))), (0, .ref (E.1 + 66)), (1, .int l1)]) (q := 3) 51 dX12_count_48 rfl rfl rfl (by decide) rfl ?_
        refine j_goto 25 dX12_count_51 (by decide) ?_
        refine j_sub [2, 3, 1, 0] rfl ?_
        exact ih _ _ _ _  h
def fX12_count (l1 : Int32) (I : JI) : Option (Int32 × JI) :=
  (fX12_within l1 (0 : Int32) (7 : Int32)).bind (fun q1 => if q1 = 0 then (some ((-1 : Int32), (j_up I 66 0 (0 : Int32)))) else (if l1 = 0 then (fX12_count_25 100000 l1 (0 : Int32) (0 : Int32) (j_up I 66 0 (0 : Int32))) else (fX12_count_54 l1 (0 : Int32) (j_up I 66 0 (0 : Int32)))))
set_option maxHeartbeats 4000000 in
set_option maxRecDepth 100000 in
theorem tcX12_count {E : JE} {l1 : Int32} {r : Int32 × JI} {I : JI} {L : JL} {G D : JG} {S : JS} (hL : Lay G S) (h : fX12_count l1 I = some r) : CallJ E xX12_count 2 [.ref (E.1 + 66), .int l1] I L G D S (some (.int r.1)) r.2 L G D S := by
  unfold fX12_count at h
  refine j_entry (by decide) (Nat.le_of_ble_eq_true rfl) ?_
  show AtJ E xX12_count (Zr E (some (.int r.1)) r.2 L G D S) ((S).length, jm_sl S) 2 0 [(0, .ref (E.1 + 66)), (1, .int l1)] [] I L G D S
  refine j_aload_n 1 dX12_count_0 rfl rfl 0 rfl ?_
  refine j_iconst (v := (0 : Int32)) 2 dX12_count_1 rfl (by decide) ?_
  refine j_putI 5 dX12_count_2 rfl (sh_66 hL) cl12 (k := 0) (by decide) flX12_218 rfl rfl rfl ?_
  refine j_iload_n 6 dX12_count_5 rfl rfl 1 rfl ?_
  refine j_iconst (v := (0 : Int32)) 7 dX12_count_6 rfl (by decide) ?_
  refine j_bipush (v := (7 : Int32)) 9 dX12_count_7 rfl (by decide) ?_
  obtain ⟨q1, hq1, h⟩ := j_bs h
  refine j_callS (rest := []) (As := [.int l1, .int (0 : Int32), .int (7 : Int32)]) 12 dX12_count_9 rfl jyX12_within (tcX12_within   hq1) flX12_222 wm1697 (by decide) rfl rfl (Nat.le_of_ble_eq_true rfl) ?_
  refine j_if_ne 17 15 dX12_count_12 (by decide) rfl (fun hc => ?_) (fun hc => ?_)
  · replace h := j_neg hc h
    refine j_iconst (v := (0 : Int32)) 18 dX12_count_17 rfl (by decide) ?_
    refine j_istore_n (lv' := [(2, .int (0 : Int32)), (0, .ref (E.1 + 66)), (1, .int l1)]) 19 dX12_count_18 rfl rfl (by decide) rfl ?_
    refine j_iload_n 20 dX12_count_19 rfl rfl 2 rfl ?_
    refine j_if_ne 54 23 dX12_count_20 (by decide) rfl (fun hc => ?_) (fun hc => ?_)
    · replace h := j_neg hc h
      refine j_sub [1, 2, 0] rfl ?_
      exact kX12_count_54 hL    _ _ _  h
    · replace h := j_pos hc h
      refine j_iconst (v := (0 : Int32)) 24 dX12_count_23 rfl (by decide) ?_
      refine j_istore_n (lv' := [(3, .int (0 : Int32)), (2, .int (0 : Int32)), (0, .ref (E.1 + 66)), (1, .int l1)]) 25 dX12_count_24 rfl rfl (by decide) rfl ?_
      refine j_sub [2, 3, 1, 0] rfl ?_
      exact kX12_count_25 hL    100000 _ _ _ _  h
  · replace h := j_pos hc h
    refine j_iconst (v := (-1 : Int32)) 16 dX12_count_15 rfl (by decide) ?_
    cases h
    exact j_iret dX12_count_16 rfl
