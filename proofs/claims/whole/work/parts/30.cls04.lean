def fX8_readParts_40 (s0 : Int32) (s1 : Nat) (I : JI) (D : JG) (S : JS) : Option (JI) :=
  j_g (decide (jm_b01 s0 = s0)) (j_opt (D 12 9) (none) (fun b4 => j_g (decide (S[b4]? = some (4, 17))) (if (jm_b01 ((j_up I s1 16 s0) b4 16)) = 0 then ((fX8_want (26 : Int32) (j_up I s1 16 s0)).bind (fun q5 => (fX8_want (59 : Int32) q5).bind (fun q6 => some (q6)))) else ((fX8_want (27 : Int32) (j_up I s1 16 s0)).bind (fun q7 => (fX8_want (59 : Int32) q7).bind (fun q8 => some (q8)))))))
set_option maxHeartbeats 4000000 in
set_option maxRecDepth 100000 in
theorem kX8_readParts_40 {E : JE} {r : JI} {L : JL} {G : JG} {S : JS} (hL : Lay G S) : ∀ (s0 : Int32) (s1 : Nat) (I : JI) (D : JG), S[s1]? = some (4, 17) → fX8_readParts_40 s0 s1 I D S = some r → AtJ E xX8_readParts (Zr E none r L G D S) ((S).length, jm_sl S) 12 40 [(0, .ref (E.1 + 12))] [.int s0, .ref (E.1 + s1)] I L G D S := by
  intro s0 s1 I D hs1 h
  unfold fX8_readParts_40 at h
  obtain ⟨hz, h⟩ := j_gs h
  refine j_putZN 43 dX8_readParts_40 rfl hs1 cl4 (k := 16) (by decide) flX8_103 rfl rfl rfl (of_decide_eq_true hz) ?_
  refine j_aload_n 44 dX8_readParts_43 rfl rfl 0 rfl ?_
  refine j_aload_n 45 dX8_readParts_44 rfl rfl 0 rfl ?_
  rcases j_os h with ⟨hb, h⟩ | ⟨b4, hb, h⟩
  · refine j_getDn 48 dX8_readParts_45 rfl (sh_12 hL) cl8 (k := 9) (by decide) flX8_19 rfl hb ?_
    cases h
  obtain ⟨hsb4, h⟩ := j_gs h
  replace hsb4 := of_decide_eq_true hsb4
  refine j_getD 48 dX8_readParts_45 rfl (sh_12 hL) cl8 (k := 9) (by decide) flX8_19 rfl hb ?_
  refine j_getZN 51 dX8_readParts_48 rfl hsb4 cl4 (k := 16) (by decide) flX8_103 rfl ?_
  refine j_if_eq 59 54 dX8_readParts_51 (by decide) rfl (fun hc => ?_) (fun hc => ?_)
  · replace h := j_pos hc h
    refine j_bipush (v := (26 : Int32)) 61 dX8_readParts_59 rfl (by decide) ?_
    obtain ⟨q5, hq5, h⟩ := j_bs h
    refine j_callV (rest := []) (As := [.int (26 : Int32)]) 64 dX8_readParts_61 rfl jyX8_want (tcX8_want hL  hq5) (sh_12 hL) cl8 flX8_100 wm817 wm7 (by decide) rfl rfl (Nat.le_of_ble_eq_true rfl) ?_
    refine j_aload_n 65 dX8_readParts_64 rfl rfl 0 rfl ?_
    refine j_bipush (v := (59 : Int32)) 67 dX8_readParts_65 rfl (by decide) ?_
    obtain ⟨q6, hq6, h⟩ := j_bs h
    refine j_callV (rest := []) (As := [.int (59 : Int32)]) 70 dX8_readParts_67 rfl jyX8_want (tcX8_want hL  hq6) (sh_12 hL) cl8 flX8_100 wm817 wm7 (by decide) rfl rfl (Nat.le_of_ble_eq_true rfl) ?_
    cases h
    exact j_vret dX8_readParts_70 rfl
  · replace h := j_neg hc h
    refine j_bipush (v := (27 : Int32)) 56 dX8_readParts_54 rfl (by decide) ?_
    refine j_goto 61 dX8_readParts_56 (by decide) ?_
    obtain ⟨q7, hq7, h⟩ := j_bs h
    refine j_callV (rest := []) (As := [.int (27 : Int32)]) 64 dX8_readParts_61 rfl jyX8_want (tcX8_want hL  hq7) (sh_12 hL) cl8 flX8_100 wm817 wm7 (by decide) rfl rfl (Nat.le_of_ble_eq_true rfl) ?_
    refine j_aload_n 65 dX8_readParts_64 rfl rfl 0 rfl ?_
    refine j_bipush (v := (59 : Int32)) 67 dX8_readParts_65 rfl (by decide) ?_
    obtain ⟨q8, hq8, h⟩ := j_bs h
    refine j_callV (rest := []) (As := [.int (59 : Int32)]) 70 dX8_readParts_67 rfl jyX8_want (tcX8_want hL  hq8) (sh_12 hL) cl8 flX8_100 wm817 wm7 (by decide) rfl rfl (Nat.le_of_ble_eq_true rfl) ?_
    cases h
    exact j_vret dX8_readParts_70 rfl
def fX8_readParts (I : JI) (D : JG) (S : JS) : Option (JI) :=
  if (jm_b01 (I 12 8)) = 0 then ((fX8_next (j_up I 12 8 (1 : Int32))).bind (fun q1 => j_opt (D 12 9) (if (q1 12 4) = (27 : Int32) then (none) else (none)) (fun b2 => j_g (decide (S[b2]? = some (4, 17))) (if (q1 12 4) = (27 : Int32) then (fX8_readParts_40 (1 : Int32) b2 q1 D S) else (fX8_readParts_40 (0 : Int32) b2 q1 D S))))) else ((fX8_wrong (3 : Int32) I).bind (fun q3 => some (q3)))
set_option maxHeartbeats 4000000 in
set_option maxRecDepth 100000 in
theorem tcX8_readParts {E : JE} {r : JI} {I : JI} {L : JL} {G D : JG} {S : JS} (hL : Lay G S) (h : fX8_readParts I D S = some r) : CallJ E xX8_readParts 12 [.ref (E.1 + 12)] I L G D S none r L G D S := by
  unfold fX8_readParts at h
  refine j_entry (by decide) (Nat.le_of_ble_eq_true rfl) ?_
  show AtJ E xX8_readParts (Zr E none r L G D S) ((S).length, jm_sl S) 12 0 [(0, .ref (E.1 + 12))] [] I L G D S
  refine j_aload_n 1 dX8_readParts_0 rfl rfl 0 rfl ?_
  refine j_getZ 4 dX8_readParts_1 rfl (sh_12 hL) cl8 (k := 8) (by decide) flX8_32 rfl ?_
  refine j_if_eq 13 7 dX8_readParts_4 (by decide) rfl (fun hc => ?_) (fun hc => ?_)
  · replace h := j_pos hc h
    refine j_aload_n 14 dX8_readParts_13 rfl rfl 0 rfl ?_
    refine j_iconst (v := (1 : Int32)) 15 dX8_readParts_14 rfl (by decide) ?_
    refine j_putZ 18 dX8_readParts_15 rfl (sh_12 hL) cl8 (k := 8) (by decide) flX8_32 rfl rfl rfl j_b01_1 ?_
    refine j_aload_n 19 dX8_readParts_18 rfl rfl 0 rfl ?_
    obtain ⟨q1, hq1, h⟩ := j_bs h
    refine j_callV (rest := []) (As := []) 22 dX8_readParts_19 rfl jyX8_next (tcX8_next hL  hq1) (sh_12 hL) cl8 flX8_41 wm732 wm0 (by decide) rfl rfl (Nat.le_of_ble_eq_true rfl) ?_
    refine j_aload_n 23 dX8_readParts_22 rfl rfl 0 rfl ?_
    rcases j_os h with ⟨hb, h⟩ | ⟨b2, hb, h⟩
    · refine j_getDn 26 dX8_readParts_23 rfl (sh_12 hL) cl8 (k := 9) (by decide) flX8_19 rfl hb ?_
      refine j_aload_n 27 dX8_readParts_26 rfl rfl 0 rfl ?_
      refine j_getI 30 dX8_readParts_27 rfl (sh_12 hL) cl8 (k := 4) (by decide) flX8_44 rfl ?_
      refine j_bipush (v := (27 : Int32)) 32 dX8_readParts_30 rfl (by decide) ?_
      refine j_icmp_ne 39 35 dX8_readParts_32 (by decide) rfl (fun hc => ?_) (fun hc => ?_)
      · replace h := j_neg hc h
        refine j_iconst (v := (0 : Int32)) 40 dX8_readParts_39 rfl (by decide) ?_
        cases h
      · replace h := j_pos hc h
        refine j_iconst (v := (1 : Int32)) 36 dX8_readParts_35 rfl (by decide) ?_
        refine j_goto 40 dX8_readParts_36 (by decide) ?_
        cases h
    obtain ⟨hsb2, h⟩ := j_gs h
    replace hsb2 := of_decide_eq_true hsb2
    refine j_getD 26 dX8_readParts_23 rfl (sh_12 hL) cl8 (k := 9) (by decide) flX8_19 rfl hb ?_
    refine j_aload_n 27 dX8_readParts_26 rfl rfl 0 rfl ?_
    refine j_getI 30 dX8_readParts_27 rfl (sh_12 hL) cl8 (k := 4) (by decide) flX8_44 rfl ?_
    refine j_bipush (v := (27 : Int32)) 32 dX8_readParts_30 rfl (by decide) ?_
    refine j_icmp_ne 39 35 dX8_readParts_32 (by decide) rfl (fun hc => ?_) (fun hc => ?_)
    · replace h := j_neg hc h
      refine j_iconst (v := (0 : Int32)) 40 dX8_readParts_39 rfl (by decide) ?_
      exact kX8_readParts_40 hL    _ _ _ _ hsb2 h
    · replace h := j_pos hc h
      refine j_iconst (v := (1 : Int32)) 36 dX8_readParts_35 rfl (by decide) ?_
      refine j_goto 40 dX8_readParts_36 (by decide) ?_
      exact kX8_readParts_40 hL    _ _ _ _ hsb2 h
  · replace h := j_neg hc h
    refine j_aload_n 8 dX8_readParts_7 rfl rfl 0 rfl ?_
    refine j_iconst (v := (3 : Int32)) 9 dX8_readParts_8 rfl (by decide) ?_
    obtain ⟨q3, hq3, h⟩ := j_bs h
    refine j_callV (rest := []) (As := [.int (3 : Int32)]) 12 dX8_readParts_9 rfl jyX8_wrong (tcX8_wrong hL  hq3) (sh_12 hL) cl8 flX8_50 wm798 wm4 (by decide) rfl rfl (Nat.le_of_ble_eq_true rfl) ?_
    cases h
    exact j_vret dX8_readParts_12 rfl
def fX8_read_146 (l1 : Nat) (k38 : Int32 → JI → JL → JG → JS → Option (Int32 × JI × JL × JG)) (l2 : Int32) (l3 : Int32) (I : JI) (L : JL) (D : JG) (S : JS) : Option (Int32 × JI × JL × JG) :=
  if (I 12 4) = (21 : Int32) then (if l3 = 0 then ((fX8_readParts I D S).bind (fun q13 => k38 (l2 + (1 : Int32)) q13 L D S)) else ((fX8_wrong (1 : Int32) I).bind (fun q12 => k38 (l2 + (1 : Int32)) q12 L D S))) else ((fX8_wrong (1 : Int32) I).bind (fun q11 => k38 (l2 + (1 : Int32)) q11 L D S))
set_option maxHeartbeats 4000000 in
set_option maxRecDepth 100000 in
theorem kX8_read_146 {E : JE} {l1 : Nat} {k38 : Int32 → JI → JL → JG → JS → Option (Int32 × JI × JL × JG)} {r : Int32 × JI × JL × JG} {G : JG} {S : JS} (hL : Lay G S) (h1 : S[l1]? = some (4, 17)) (H38 : ∀ (l2 : Int32) (I : JI) (L : JL) (D : JG), k38 l2 I L D S = some r → AtJ E xX8_read (Zr E (some (.int r.1)) r.2.1 r.2.2.1 G r.2.2.2 S) ((S).length, jm_sl S) 122 38 [(0, .ref (E.1 + 12)), (2, .int l2)] [] I L G D S) : ∀ (l2 : Int32) (l3 : Int32) (I : JI) (L : JL) (D : JG), fX8_read_146 l1 k38 l2 l3 I L D S = some r → AtJ E xX8_read (Zr E (some (.int r.1)) r.2.1 r.2.2.1 G r.2.2.2 S) ((S).length, jm_sl S) 122 146 [(0, .ref (E.1 + 12)), (2, .int l2), (3, .int l3)] [] I L G D S := by
  intro l2 l3 I L D  h
  unfold fX8_read_146 at h
  refine j_aload_n 147 dX8_read_146 rfl rfl 0 rfl ?_
  refine j_getI 150 dX8_read_147 rfl (sh_12 hL) cl8 (k := 4) (by decide) flX8_44 rfl ?_
  refine j_bipush (v := (21 : Int32)) 152 dX8_read_150 rfl (by decide) ?_
  refine j_icmp_ne 166 155 dX8_read_152 (by decide) rfl (fun hc => ?_) (fun hc => ?_)
  · replace h := j_neg hc h
    refine j_aload_n 167 dX8_read_166 rfl rfl 0 rfl ?_
    refine j_iconst (v := (1 : Int32)) 168 dX8_read_167 rfl (by decide) ?_
    obtain ⟨q11, hq11, h⟩ := j_bs h
    refine j_callV (rest := []) (As := [.int (1 : Int32)]) 171 dX8_read_168 rfl jyX8_wrong (tcX8_wrong hL  hq11) (sh_12 hL) cl8 flX8_50 wm798 wm4 (by decide) rfl rfl (Nat.le_of_ble_eq_true rfl) ?_
    refine j_iinc (v := (l2 + (1 : Int32))) (lv' := [(2, .int (l2 + (1 : Int32))), (0, .ref (E.1 + 12)), (3, .int l3)]) (q := 1) 174 dX8_read_171 rfl rfl rfl (by decide) rfl ?_
    refine j_goto 38 dX8_read_174 (by decide) ?_
    refine j_sub [1, 0] rfl ?_
    exact H38 _ _ _ _  h
  · replace h := j_pos hc h
    refine j_iload_n 156 dX8_read_155 rfl rfl 2 rfl ?_
    refine j_if_ne 166 159 dX8_read_156 (by decide) rfl (fun hc => ?_) (fun hc => ?_)
    · replace h := j_neg hc h
      refine j_aload_n 167 dX8_read_166 rfl rfl 0 rfl ?_
      refine j_iconst (v := (1 : Int32)) 168 dX8_read_167 rfl (by decide) ?_
      obtain ⟨q12, hq12, h⟩ := j_bs h
      refine j_callV (rest := []) (As := [.int (1 : Int32)]) 171 dX8_read_168 rfl jyX8_wrong (tcX8_wrong hL  hq12) (sh_12 hL) cl8 flX8_50 wm798 wm4 (by decide) rfl rfl (Nat.le_of_ble_eq_true rfl) ?_
      refine j_iinc (v := (l2 + (1 : Int32))) (lv' := [(2, .int (l2 + (1 : Int32))), (0, .ref (E.1 + 12)), (3, .int l3)]) (q := 1) 174 dX8_read_171 rfl rfl rfl (by decide) rfl ?_
      refine j_goto 38 dX8_read_174 (by decide) ?_
      refine j_sub [1, 0] rfl ?_
      exact H38 _ _ _ _  h
    · replace h := j_pos hc h
      refine j_aload_n 160 dX8_read_159 rfl rfl 0 rfl ?_
      obtain ⟨q13, hq13, h⟩ := j_bs h
      refine j_callV (rest := []) (As := []) 163 dX8_read_160 rfl jyX8_readParts (tcX8_readParts hL  hq13) (sh_12 hL) cl8 flX8_61 wm852 wm13 (by decide) rfl rfl (Nat.le_of_ble_eq_true rfl) ?_
      refine j_goto 171 dX8_read_163 (by decide) ?_
      refine j_iinc (v := (l2 + (1 : Int32))) (lv' := [(2, .int (l2 + (1 : Int32))), (0, .ref (E.1 + 12)), (3, .int l3)]) (q := 1) 174 dX8_read_171 rfl rfl rfl (by decide) rfl ?_
      refine j_goto 38 dX8_read_174 (by decide) ?_
      refine j_sub [1, 0] rfl ?_
      exact H38 _ _ _ _  h
def fX8_read_101 (l1 : Nat) (k38 : Int32 → JI → JL → JG → JS → Option (Int32 × JI × JL × JG)) (l2 : Int32) (l3 : Int32) (I : JI) (L : JL) (D : JG) (S : JS) : Option (Int32 × JI × JL × JG) :=
  if (I 12 4) = (18 : Int32) then ((fX8_readRule l3 I L D S).bind (fun q8 => k38 (l2 + (1 : Int32)) q8.1 q8.2 D S)) else (if (I 12 4) = (19 : Int32) then ((fX8_readRule l3 I L D S).bind (fun q10 => k38 (l2 + (1 : Int32)) q10.1 q10.2 D S)) else (if (I 12 4) = (1 : Int32) then (if l3 = 0 then ((fX8_readPrice I D S).bind (fun q9 => k38 (l2 + (1 : Int32)) q9 L D S)) else (fX8_read_146 l1 k38 l2 l3 I L D S)) else (fX8_read_146 l1 k38 l2 l3 I L D S)))
set_option maxHeartbeats 4000000 in
set_option maxRecDepth 100000 in
theorem kX8_read_101 {E : JE} {l1 : Nat} {k38 : Int32 → JI → JL → JG → JS → Option (Int32 × JI × JL × JG)} {r : Int32 × JI × JL × JG} {G : JG} {S : JS} (hL : Lay G S) (h1 : S[l1]? = some (4, 17)) (H38 : ∀ (l2 : Int32) (I : JI) (L : JL) (D : JG), k38 l2 I L D S = some r → AtJ E xX8_read (Zr E (some (.int r.1)) r.2.1 r.2.2.1 G r.2.2.2 S) ((S).length, jm_sl S) 122 38 [(0, .ref (E.1 + 12)), (2, .int l2)] [] I L G D S) : ∀ (l2 : Int32) (l3 : Int32) (I : JI) (L : JL) (D : JG), fX8_read_101 l1 k38 l2 l3 I L D S = some r → AtJ E xX8_read (Zr E (some (.int r.1)) r.2.1 r.2.2.1 G r.2.2.2 S) ((S).length, jm_sl S) 122 101 [(0, .ref (E.1 + 12)), (2, .int l2), (3, .int l3)] [] I L G D S := by
  intro l2 l3 I L D  h
  unfold fX8_read_101 at h
  refine j_aload_n 102 dX8_read_101 rfl rfl 0 rfl ?_
  refine j_getI 105 dX8_read_102 rfl (sh_12 hL) cl8 (k := 4) (by decide) flX8_44 rfl ?_
  refine j_bipush (v := (18 : Int32)) 107 dX8_read_105 rfl (by decide) ?_
  refine j_icmp_eq 119 110 dX8_read_107 (by decide) rfl (fun hc => ?_) (fun hc => ?_)
  · replace h := j_pos hc h
    refine j_aload_n 120 dX8_read_119 rfl rfl 0 rfl ?_
    refine j_iload_n 121 dX8_read_120 rfl rfl 2 rfl ?_
    obtain ⟨q8, hq8, h⟩ := j_bs h
    refine j_callV (rest := []) (As := [.int l3]) 124 dX8_read_121 rfl jyX8_readRule (tcX8_readRule hL  hq8) (sh_12 hL) cl8 flX8_54 wm802 wm5 (by decide) rfl rfl (Nat.le_of_ble_eq_true rfl) ?_
    refine j_goto 171 dX8_read_124 (by decide) ?_
    refine j_iinc (v := (l2 + (1 : Int32))) (lv' := [(2, .int (l2 + (1 : Int32))), (0, .ref (E.1 + 12)), (3, .int l3)]) (q := 1) 174 dX8_read_171 rfl rfl rfl (by decide) rfl ?_
    refine j_goto 38 dX8_read_174 (by decide) ?_
    refine j_sub [1, 0] rfl ?_
    exact H38 _ _ _ _  h
  · replace h := j_neg hc h
    refine j_aload_n 111 dX8_read_110 rfl rfl 0 rfl ?_
    refine j_getI 114 dX8_read_111 rfl (sh_12 hL) cl8 (k := 4) (by decide) flX8_44 rfl ?_
    refine j_bipush (v := (19 : Int32)) 116 dX8_read_114 rfl (by decide) ?_
    refine j_icmp_ne 127 119 dX8_read_116 (by decide) rfl (fun hc => ?_) (fun hc => ?_)
    · replace h := j_neg hc h
      refine j_aload_n 128 dX8_read_127 rfl rfl 0 rfl ?_
      refine j_getI 131 dX8_read_128 rfl (sh_12 hL) cl8 (k := 4) (by decide) flX8_44 rfl ?_
      refine j_iconst (v := (1 : Int32)) 132 dX8_read_131 rfl (by decide) ?_
      refine j_icmp_ne 146 135 dX8_read_132 (by decide) rfl (fun hc => ?_) (fun hc => ?_)
      · replace h := j_neg hc h
        exact kX8_read_146 hL  h1 H38 _ _ _ _ _  h
      · replace h := j_pos hc h
        refine j_iload_n 136 dX8_read_135 rfl rfl 2 rfl ?_
        refine j_if_ne 146 139 dX8_read_136 (by decide) rfl (fun hc => ?_) (fun hc => ?_)
        · replace h := j_neg hc h
          exact kX8_read_146 hL  h1 H38 _ _ _ _ _  h
        · replace h := j_pos hc h
          refine j_aload_n 140 dX8_read_139 rfl rfl 0 rfl ?_
          obtain ⟨q9, hq9, h⟩ := j_bs h
          refine j_callV (rest := []) (As := []) 143 dX8_read_140 rfl jyX8_readPrice (tcX8_readPrice hL  hq9) (sh_12 hL) cl8 flX8_58 wm848 wm12 (by decide) rfl rfl (Nat.le_of_ble_eq_true rfl) ?_
          refine j_goto 171 dX8_read_143 (by decide) ?_
          refine j_iinc (v := (l2 + (1 : Int32))) (lv' := [(2, .int (l2 + (1 : Int32))), (0, .ref (E.1 + 12)), (3, .int l3)]) (q := 1) 174 dX8_read_171 rfl rfl rfl (by decide) rfl ?_
          refine j_goto 38 dX8_read_174 (by decide) ?_
          refine j_sub [1, 0] rfl ?_
          exact H38 _ _ _ _  h
    · replace h := j_pos hc h
      refine j_aload_n 120 dX8_read_119 rfl rfl 0 rfl ?_
      refine j_iload_n 121 dX8_read_120 rfl rfl 2 rfl ?_
      obtain ⟨q10, hq10, h⟩ := j_bs h
      refine j_callV (rest := []) (As := [.int l3]) 124 dX8_read_121 rfl jyX8_readRule (tcX8_readRule hL  hq10) (sh_12 hL) cl8 flX8_54 wm802 wm5 (by decide) rfl rfl (Nat.le_of_ble_eq_true rfl) ?_
      refine j_goto 171 dX8_read_124 (by decide) ?_
      refine j_iinc (v := (l2 + (1 : Int32))) (lv' := [(2, .int (l2 + (1 : Int32))), (0, .ref (E.1 + 12)), (3, .int l3)]) (q := 1) 174 dX8_read_171 rfl rfl rfl (by decide) rfl ?_
      refine j_goto 38 dX8_read_174 (by decide) ?_
      refine j_sub [1, 0] rfl ?_
      exact H38 _ _ _ _  h
def fX8_read_68 (l1 : Nat) (k38 : Int32 → JI → JL → JG → JS → Option (Int32 × JI × JL × JG)) (l2 : Int32) (s0 : Int32) (I : JI) (L : JL) (D : JG) (S : JS) : Option (Int32 × JI × JL × JG) :=
  if s0 = 0 then (if s0 = 0 then (fX8_read_101 l1 k38 l2 s0 I L D S) else ((fX8_next I).bind (fun q4 => fX8_read_101 l1 k38 l2 s0 q4 L D S))) else (j_opt (D 12 9) (none) (fun b5 => j_g (decide (S[b5]? = some (4, 17))) (if (I b5 14) < (6 : Int32) then (if s0 = 0 then (fX8_read_101 l1 k38 l2 s0 I L D S) else ((fX8_next I).bind (fun q6 => fX8_read_101 l1 k38 l2 s0 q6 L D S))) else ((fX8_wrong (5 : Int32) I).bind (fun q7 => fX8_read_101 l1 k38 l2 s0 q7 L D S)))))
set_option maxHeartbeats 4000000 in
set_option maxRecDepth 100000 in
theorem kX8_read_68 {E : JE} {l1 : Nat} {k38 : Int32 → JI → JL → JG → JS → Option (Int32 × JI × JL × JG)} {r : Int32 × JI × JL × JG} {G : JG} {S : JS} (hL : Lay G S) (h1 : S[l1]? = some (4, 17)) (H38 : ∀ (l2 : Int32) (I : JI) (L : JL) (D : JG), k38 l2 I L D S = some r → AtJ E xX8_read (Zr E (some (.int r.1)) r.2.1 r.2.2.1 G r.2.2.2 S) ((S).length, jm_sl S) 122 38 [(0, .ref (E.1 + 12)), (2, .int l2)] [] I L G D S) : ∀ (l2 : Int32) (s0 : Int32) (I : JI) (L : JL) (D : JG), fX8_read_68 l1 k38 l2 s0 I L D S = some r → AtJ E xX8_read (Zr E (some (.int r.1)) r.2.1 r.2.2.1 G r.2.2.2 S) ((S).length, jm_sl S) 122 68 [(0, .ref (E.1 + 12)), (2, .int l2)] [.int s0] I L G D S := by
  intro l2 s0 I L D  h
  unfold fX8_read_68 at h
  refine j_istore_n (lv' := [(3, .int s0), (0, .ref (E.1 + 12)), (2, .int l2)]) 69 dX8_read_68 rfl rfl (by decide) rfl ?_
  refine j_iload_n 70 dX8_read_69 rfl rfl 0 rfl ?_
  refine j_if_eq 93 73 dX8_read_70 (by decide) rfl (fun hc => ?_) (fun hc => ?_)
  · replace h := j_pos hc h
    refine j_iload_n 94 dX8_read_93 rfl rfl 0 rfl ?_
    refine j_if_eq 101 97 dX8_read_94 (by decide) rfl (fun hc => ?_) (fun hc => ?_)
    · replace h := j_pos hc h
      refine j_sub [1, 2, 0] rfl ?_
      exact kX8_read_101 hL  h1 H38 _ _ _ _ _  h
    · replace h := j_neg hc h
      refine j_aload_n 98 dX8_read_97 rfl rfl 1 rfl ?_
      obtain ⟨q4, hq4, h⟩ := j_bs h
      refine j_callV (rest := []) (As := []) 101 dX8_read_98 rfl jyX8_next (tcX8_next hL  hq4) (sh_12 hL) cl8 flX8_41 wm732 wm0 (by decide) rfl rfl (Nat.le_of_ble_eq_true rfl) ?_
      refine j_sub [1, 2, 0] rfl ?_
      exact kX8_read_101 hL  h1 H38 _ _ _ _ _  h
  · replace h := j_neg hc h
    refine j_aload_n 74 dX8_read_73 rfl rfl 1 rfl ?_
    rcases j_os h with ⟨hb, h⟩ | ⟨b5, hb, h⟩
    · refine j_getDn 77 dX8_read_74 rfl (sh_12 hL) cl8 (k := 9) (by decide) flX8_19 rfl hb ?_
      cases h
    obtain ⟨hsb5, h⟩ := j_gs h
    replace hsb5 := of_decide_eq_true hsb5
    refine j_getD 77 dX8_read_74 rfl (sh_12 hL) cl8 (k := 9) (by decide) flX8_19 rfl hb ?_
    refine j_getIN 80 dX8_read_77 rfl hsb5 cl4 (k := 14) (by decide) flX8_47 rfl ?_
    refine j_bipush (v := (6 : Int32)) 82 dX8_read_80 rfl (by decide) ?_
    refine j_icmp_lt 93 85 dX8_read_82 (by decide) rfl (fun hc => ?_) (fun hc => ?_)
    · replace h := j_pos hc h
      refine j_iload_n 94 dX8_read_93 rfl rfl 0 rfl ?_
      refine j_if_eq 101 97 dX8_read_94 (by decide) rfl (fun hc => ?_) (fun hc => ?_)
      · replace h := j_pos hc h
        refine j_sub [1, 2, 0] rfl ?_
        exact kX8_read_101 hL  h1 H38 _ _ _ _ _  h
      · replace h := j_neg hc h
        refine j_aload_n 98 dX8_read_97 rfl rfl 1 rfl ?_
        obtain ⟨q6, hq6, h⟩ := j_bs h
        refine j_callV (rest := []) (As := []) 101 dX8_read_98 rfl jyX8_next (tcX8_next hL  hq6) (sh_12 hL) cl8 flX8_41 wm732 wm0 (by decide) rfl rfl (Nat.le_of_ble_eq_true rfl) ?_
        refine j_sub [1, 2, 0] rfl ?_
        exact kX8_read_101 hL  h1 H38 _ _ _ _ _  h
    · replace h := j_neg hc h
      refine j_aload_n 86 dX8_read_85 rfl rfl 1 rfl ?_
      refine j_iconst (v := (5 : Int32)) 87 dX8_read_86 rfl (by decide) ?_
      obtain ⟨q7, hq7, h⟩ := j_bs h
      refine j_callV (rest := []) (As := [.int (5 : Int32)]) 90 dX8_read_87 rfl jyX8_wrong (tcX8_wrong hL  hq7) (sh_12 hL) cl8 flX8_50 wm798 wm4 (by decide) rfl rfl (Nat.le_of_ble_eq_true rfl) ?_
      refine j_goto 101 dX8_read_90 (by decide) ?_
      refine j_sub [1, 2, 0] rfl ?_
      exact kX8_read_101 hL  h1 H38 _ _ _ _ _  h
def fX8_read_38 (l1 : Nat) : Nat → Int32 → JI → JL → JG → JS → Option (Int32 × JI × JL × JG)
  | 0, _, _, _, _, _ => none
  | n + 1, l2, I, L, D, S =>
    if (1000 : Int32) < l2 then (some (((j_up I 12 1 (0 : Int32)) 12 6), (j_up I 12 1 (0 : Int32)), L, D)) else (if (I 12 4) = (33 : Int32) then (some (((j_up I 12 1 (0 : Int32)) 12 6), (j_up I 12 1 (0 : Int32)), L, D)) else (if (I 12 4) = (20 : Int32) then (fX8_read_68 l1 (fX8_read_38 l1 n) l2 (1 : Int32) I L D S) else (fX8_read_68 l1 (fX8_read_38 l1 n) l2 (0 : Int32) I L D S)))
set_option maxHeartbeats 4000000 in
set_option maxRecDepth 100000 in
theorem kX8_read_38 {E : JE} {l1 : Nat} {r : Int32 × JI × JL × JG} {G : JG} {S : JS} (hL : Lay G S) (h1 : S[l1]? = some (4, 17)) : ∀ (n : Nat) (l2 : Int32) (I : JI) (L : JL) (D : JG), fX8_read_38 l1 n l2 I L D S = some r → AtJ E xX8_read (Zr E (some (.int r.1)) r.2.1 r.2.2.1 G r.2.2.2 S) ((S).length, jm_sl S) 122 38 [(0, .ref (E.1 + 12)), (2, .int l2)] [] I L G D S := by
  intro n
  induction n with
  | zero => intro l2 I L D  h; simp [fX8_read_38] at h
  | succ n ih =>
    intro l2 I L D  h
    rw [fX8_read_38] at h
    refine j_iload_n 39 dX8_read_38 rfl rfl 1 rfl ?_
    refine j_sipush (v := (1000 : Int32)) 42 dX8_read_39 rfl (by decide) ?_
    refine j_icmp_gt 177 45 dX8_read_42 (by decide) rfl (fun hc => ?_) (fun hc => ?_)
    · replace h := j_pos hc h
      refine j_aload_n 178 dX8_read_177 rfl rfl 0 rfl ?_
      refine j_iconst (v := (0 : Int32)) 179 dX8_read_178 rfl (by decide) ?_
      refine j_putI 182 dX8_read_179 rfl (sh_12 hL) cl8 (k := 1) (by decide) flX8_15 rfl rfl rfl ?_
      refine j_aload_n 183 dX8_read_182 rfl rfl 0 rfl ?_
      refine j_getI 186 dX8_read_183 rfl (sh_12 hL) cl8 (k := 6) (by decide) flX8_35 rfl ?_
      cases h
      exact j_iret dX8_read_186 rfl
    · replace h := j_neg hc h
      refine j_aload_n 46 dX8_read_45 rfl rfl 0 rfl ?_
      refine j_getI 49 dX8_read_46 rfl (sh_12 hL) cl8 (k := 4) (by decide) flX8_44 rfl ?_
      refine j_bipush (v := (33 : Int32)) 51 dX8_read_49 rfl (by decide) ?_
      refine j_icmp_eq 177 54 dX8_read_51 (by decide) rfl (fun hc => ?_) (fun hc => ?_)
      · replace h := j_pos hc h
        refine j_aload_n 178 dX8_read_177 rfl rfl 0 rfl ?_
        refine j_iconst (v := (0 : Int32)) 179 dX8_read_178 rfl (by decide) ?_
        refine j_putI 182 dX8_read_179 rfl (sh_12 hL) cl8 (k := 1) (by decide) flX8_15 rfl rfl rfl ?_
        refine j_aload_n 183 dX8_read_182 rfl rfl 0 rfl ?_
        refine j_getI 186 dX8_read_183 rfl (sh_12 hL) cl8 (k := 6) (by decide) flX8_35 rfl ?_
        cases h
        exact j_iret dX8_read_186 rfl
      · replace h := j_neg hc h
        refine j_aload_n 55 dX8_read_54 rfl rfl 0 rfl ?_
        refine j_getI 58 dX8_read_55 rfl (sh_12 hL) cl8 (k := 4) (by decide) flX8_44 rfl ?_
        refine j_bipush (v := (20 : Int32)) 60 dX8_read_58 rfl (by decide) ?_
        refine j_icmp_ne 67 63 dX8_read_60 (by decide) rfl (fun hc => ?_) (fun hc => ?_)
        · replace h := j_neg hc h
          refine j_iconst (v := (0 : Int32)) 68 dX8_read_67 rfl (by decide) ?_
          exact kX8_read_68 hL  h1 ih _ _ _ _ _  h
        · replace h := j_pos hc h
          refine j_iconst (v := (1 : Int32)) 64 dX8_read_63 rfl (by decide) ?_
          refine j_goto 68 dX8_read_64 (by decide) ?_
          exact kX8_read_68 hL  h1 ih _ _ _ _ _  h
def fX8_read (l1 : Nat) (I : JI) (L : JL) (D : JG) (S : JS) : Option (Int32 × JI × JL × JG) :=
  j_opt ((j_up D 12 9 (some l1)) 12 9) (none) (fun b1 => j_g (decide (S[b1]? = some (4, 17))) ((fX4_empty b1 I).bind (fun q2 => (fX8_next (j_up (j_up (j_up (j_up q2 12 7 (0 : Int32)) 12 8 (0 : Int32)) 12 6 (0 : Int32)) 12 2 (0 : Int32))).bind (fun q3 => fX8_read_38 l1 100000 (0 : Int32) q3 L (j_up D 12 9 (some l1)) S))))
set_option maxHeartbeats 4000000 in
set_option maxRecDepth 100000 in
theorem tcX8_read {E : JE} {l1 : Nat} {r : Int32 × JI × JL × JG} {I : JI} {L : JL} {G D : JG} {S : JS} (hL : Lay G S) (h1 : S[l1]? = some (4, 17)) (h : fX8_read l1 I L D S = some r) : CallJ E xX8_read 122 [.ref (E.1 + 12), .ref (E.1 + l1)] I L G D S (some (.int r.1)) r.2.1 r.2.2.1 G r.2.2.2 S := by
  unfold fX8_read at h
  refine j_entry (by decide) (Nat.le_of_ble_eq_true rfl) ?_
  show AtJ E xX8_read (Zr E (some (.int r.1)) r.2.1 r.2.2.1 G r.2.2.2 S) ((S).length, jm_sl S) 122 0 [(0, .ref (E.1 + 12)), (1, .ref (E.1 + l1))] [] I L G D S
  refine j_aload_n 1 dX8_read_0 rfl rfl 0 rfl ?_
  refine j_aload_n 2 dX8_read_1 rfl rfl 1 rfl ?_
  refine j_putD 5 dX8_read_2 rfl (sh_12 hL) cl8 (k := 9) (by decide) flX8_19 rfl rfl (fun _ => rfl) (fun _ => rfl) ?_
  refine j_aload_n 6 dX8_read_5 rfl rfl 0 rfl ?_
  rcases j_os h with ⟨hb, h⟩ | ⟨b1, hb, h⟩
  · refine j_getDn 9 dX8_read_6 rfl (sh_12 hL) cl8 (k := 9) (by decide) flX8_19 rfl hb ?_
    cases h
  obtain ⟨hsb1, h⟩ := j_gs h
  replace hsb1 := of_decide_eq_true hsb1
  refine j_getD 9 dX8_read_6 rfl (sh_12 hL) cl8 (k := 9) (by decide) flX8_19 rfl hb ?_
  obtain ⟨q2, hq2, h⟩ := j_bs h
  refine j_callV (rest := []) (As := []) 12 dX8_read_9 rfl jyX4_empty (tcX4_empty hL hsb1 hq2) hsb1 cl4 flX8_23 wm727 wm728 (by decide) rfl rfl (Nat.le_of_ble_eq_true rfl) ?_
  refine j_aload_n 13 dX8_read_12 rfl rfl 0 rfl ?_
  refine j_iconst (v := (0 : Int32)) 14 dX8_read_13 rfl (by decide) ?_
  refine j_putZ 17 dX8_read_14 rfl (sh_12 hL) cl8 (k := 7) (by decide) flX8_28 rfl rfl rfl j_b01_0 ?_
  refine j_aload_n 18 dX8_read_17 rfl rfl 0 rfl ?_
  refine j_iconst (v := (0 : Int32)) 19 dX8_read_18 rfl (by decide) ?_
  refine j_putZ 22 dX8_read_19 rfl (sh_12 hL) cl8 (k := 8) (by decide) flX8_32 rfl rfl rfl j_b01_0 ?_
  refine j_aload_n 23 dX8_read_22 rfl rfl 0 rfl ?_
  refine j_iconst (v := (0 : Int32)) 24 dX8_read_23 rfl (by decide) ?_
  refine j_putI 27 dX8_read_24 rfl (sh_12 hL) cl8 (k := 6) (by decide) flX8_35 rfl rfl rfl ?_
  refine j_aload_n 28 dX8_read_27 rfl rfl 0 rfl ?_
  refine j_iconst (v := (0 : Int32)) 29 dX8_read_28 rfl (by decide) ?_
  refine j_putI 32 dX8_read_29 rfl (sh_12 hL) cl8 (k := 2) (by decide) flX8_38 rfl rfl rfl ?_
  refine j_aload_n 33 dX8_read_32 rfl rfl 0 rfl ?_
  obtain ⟨q3, hq3, h⟩ := j_bs h
  refine j_callV (rest := []) (As := []) 36 dX8_read_33 rfl jyX8_next (tcX8_next hL  hq3) (sh_12 hL) cl8 flX8_41 wm732 wm0 (by decide) rfl rfl (Nat.le_of_ble_eq_true rfl) ?_
  refine j_iconst (v := (0 : Int32)) 37 dX8_read_36 rfl (by decide) ?_
  refine j_istore_n (lv' := [(2, .int (0 : Int32)), (0, .ref (E.1 + 12)), (1, .ref (E.1 + l1))]) 38 dX8_read_37 rfl rfl (by decide) rfl ?_
  refine j_sub [1, 0] rfl ?_
  exact kX8_read_38 hL  h1  100000 _ _ _ _  h
def fX9_init (t : Nat) (I : JI) (G : JG) (S : JS) : Option (JI × JG × JS) :=
  some ((j_up (j_clr (j_clr (j_clr (j_clr (j_clr I (S).length 0) ((S ++ [(20, 48)])).length 0) (((S ++ [(20, 48)]) ++ [(20, 12)])).length 0) ((((S ++ [(20, 48)]) ++ [(20, 12)]) ++ [(20, 12)])).length 0) (((((S ++ [(20, 48)]) ++ [(20, 12)]) ++ [(20, 12)]) ++ [(20, 256)])).length 0) t 7 (65535 : Int32)), (j_up (j_up (j_up (j_up (j_up G t 0 (some (S).length)) t 1 (some ((S ++ [(20, 48)])).length)) t 2 (some (((S ++ [(20, 48)]) ++ [(20, 12)])).length)) t 3 (some ((((S ++ [(20, 48)]) ++ [(20, 12)]) ++ [(20, 12)])).length)) t 4 (some (((((S ++ [(20, 48)]) ++ [(20, 12)]) ++ [(20, 12)]) ++ [(20, 256)])).length)), (((((S ++ [(20, 48)]) ++ [(20, 12)]) ++ [(20, 12)]) ++ [(20, 256)]) ++ [(20, 16)]))
set_option maxHeartbeats 4000000 in
set_option maxRecDepth 100000 in
theorem tcX9_init {E : JE} {t : Nat} {r : JI × JG × JS} {I : JI} {L : JL} {G D : JG} {S : JS} (ht : S[t]? = some (9, 10)) (h : fX9_init t I G S = some r) : CallJ E xX9_init 1 [.ref (E.1 + t)] I L G D S none r.1 L r.2.1 D r.2.2 := by
  unfold fX9_init at h
  refine j_entry (by decide) (Nat.le_of_ble_eq_true rfl) ?_
  show AtJ E xX9_init (Zr E none r.1 L r.2.1 D r.2.2) ((r.2.2).length, jm_sl r.2.2) 1 0 [(0, .ref (E.1 + t))] [] I L G D S
  refine j_aload_n 1 dX9_init_0 rfl rfl 0 rfl ?_
  refine j_obj 4 dX9_init_1 rfl flX9_3 wm117 wm118 (by decide) (Nat.le_of_ble_eq_true rfl) ?_
  refine j_aload_n 5 dX9_init_4 rfl rfl 0 rfl ?_
  refine j_bipush (v := (48 : Int32)) 7 dX9_init_5 rfl (by decide) ?_
  refine j_nwI (N := 48) 9 dX9_init_7 rfl wm170 (by decide) (by decide) (by decide) ?_
  refine j_putF 12 dX9_init_9 rfl (jm_pre ht) cl9 (k := 0) (by decide) flX9_9 rfl rfl rfl rfl (fun _ => rfl) (fun _ => rfl) ?_
  refine j_aload_n 13 dX9_init_12 rfl rfl 0 rfl ?_
  refine j_bipush (v := (12 : Int32)) 15 dX9_init_13 rfl (by decide) ?_
  refine j_nwI (N := 12) 17 dX9_init_15 rfl wm170 (by decide) (by decide) (by decide) ?_
  refine j_putF 20 dX9_init_17 rfl (jm_pre (jm_pre ht)) cl9 (k := 1) (by decide) flX9_15 rfl rfl rfl rfl (fun _ => rfl) (fun _ => rfl) ?_
  refine j_aload_n 21 dX9_init_20 rfl rfl 0 rfl ?_
  refine j_bipush (v := (12 : Int32)) 23 dX9_init_21 rfl (by decide) ?_
  refine j_nwI (N := 12) 25 dX9_init_23 rfl wm170 (by decide) (by decide) (by decide) ?_
  refine j_putF 28 dX9_init_25 rfl (jm_pre (jm_pre (jm_pre ht))) cl9 (k := 2) (by decide) flX9_18 rfl rfl rfl rfl (fun _ => rfl) (fun _ => rfl) ?_
  refine j_aload_n 29 dX9_init_28 rfl rfl 0 rfl ?_
  refine j_sipush (v := (256 : Int32)) 32 dX9_init_29 rfl (by decide) ?_
  refine j_nwI (N := 256) 34 dX9_init_32 rfl wm170 (by decide) (by decide) (by decide) ?_
  refine j_putF 37 dX9_init_34 rfl (jm_pre (jm_pre (jm_pre (jm_pre ht)))) cl9 (k := 3) (by decide) flX9_21 rfl rfl rfl rfl (fun _ => rfl) (fun _ => rfl) ?_
  refine j_aload_n 38 dX9_init_37 rfl rfl 0 rfl ?_
  refine j_bipush (v := (16 : Int32)) 40 dX9_init_38 rfl (by decide) ?_
  refine j_nwI (N := 16) 42 dX9_init_40 rfl wm170 (by decide) (by decide) (by decide) ?_
  refine j_putF 45 dX9_init_42 rfl (jm_pre (jm_pre (jm_pre (jm_pre (jm_pre ht))))) cl9 (k := 4) (by decide) flX9_24 rfl rfl rfl rfl (fun _ => rfl) (fun _ => rfl) ?_
  refine j_aload_n 46 dX9_init_45 rfl rfl 0 rfl ?_
  refine j_ldc (v := (65535 : Int32)) 48 dX9_init_46 rfl wm125 ?_
  refine j_putI 51 dX9_init_48 rfl (jm_pre (jm_pre (jm_pre (jm_pre (jm_pre ht))))) cl9 (k := 7) (by decide) flX9_28 rfl rfl rfl ?_
  cases h
  exact j_vret dX9_init_51 rfl
def fX9_areTwoTold (l1 : Int32) (l2 : Int32) (I : JI) : Option (Int32) :=
  (fX9_isTold l1 I).bind (fun q1 => if q1 = 0 then (some ((0 : Int32))) else ((fX9_isTold l2 I).bind (fun q2 => if q2 = 0 then (some ((0 : Int32))) else (if l1 = l2 then (some ((0 : Int32))) else (some ((1 : Int32)))))))
set_option maxHeartbeats 4000000 in
set_option maxRecDepth 100000 in
theorem tcX9_areTwoTold {E : JE} {l1 : Int32} {l2 : Int32} {r : Int32} {I : JI} {L : JL} {G D : JG} {S : JS} (hL : Lay G S) (h : fX9_areTwoTold l1 l2 I = some r) : CallJ E xX9_areTwoTold 2 [.ref (E.1 + 1), .int l1, .int l2] I L G D S (some (.int r)) I L G D S := by
  unfold fX9_areTwoTold at h
  refine j_entry (by decide) (Nat.le_of_ble_eq_true rfl) ?_
  show AtJ E xX9_areTwoTold (Zr E (some (.int r)) I L G D S) ((S).length, jm_sl S) 2 0 [(0, .ref (E.1 + 1)), (1, .int l1), (2, .int l2)] [] I L G D S
  refine j_aload_n 1 dX9_areTwoTold_0 rfl rfl 0 rfl ?_
  refine j_iload_n 2 dX9_areTwoTold_1 rfl rfl 1 rfl ?_
  obtain ⟨q1, hq1, h⟩ := j_bs h
  refine j_callV (rest := []) (As := [.int l1]) 5 dX9_areTwoTold_2 rfl jyX9_isTold (tcX9_isTold hL  hq1) (sh_1 hL) cl9 flX9_35 wm645 wm646 (by decide) rfl rfl (Nat.le_of_ble_eq_true rfl) ?_
  refine j_if_eq 25 8 dX9_areTwoTold_5 (by decide) rfl (fun hc => ?_) (fun hc => ?_)
  · replace h := j_pos hc h
    refine j_iconst (v := (0 : Int32)) 26 dX9_areTwoTold_25 rfl (by decide) ?_
    cases h
    exact j_zret dX9_areTwoTold_26 rfl j_b01_0
  · replace h := j_neg hc h
    refine j_aload_n 9 dX9_areTwoTold_8 rfl rfl 0 rfl ?_
    refine j_iload_n 10 dX9_areTwoTold_9 rfl rfl 2 rfl ?_
    obtain ⟨q2, hq2, h⟩ := j_bs h
    refine j_callV (rest := []) (As := [.int l2]) 13 dX9_areTwoTold_10 rfl jyX9_isTold (tcX9_isTold hL  hq2) (sh_1 hL) cl9 flX9_35 wm645 wm646 (by decide) rfl rfl (Nat.le_of_ble_eq_true rfl) ?_
    refine j_if_eq 25 16 dX9_areTwoTold_13 (by decide) rfl (fun hc => ?_) (fun hc => ?_)
    · replace h := j_pos hc h
      refine j_iconst (v := (0 : Int32)) 26 dX9_areTwoTold_25 rfl (by decide) ?_
      cases h
      exact j_zret dX9_areTwoTold_26 rfl j_b01_0
    · replace h := j_neg hc h
      refine j_iload_n 17 dX9_areTwoTold_16 rfl rfl 1 rfl ?_
      refine j_iload_n 18 dX9_areTwoTold_17 rfl rfl 2 rfl ?_
      refine j_icmp_eq 25 21 dX9_areTwoTold_18 (by decide) rfl (fun hc => ?_) (fun hc => ?_)
      · replace h := j_pos hc h
        refine j_iconst (v := (0 : Int32)) 26 dX9_areTwoTold_25 rfl (by decide) ?_
        cases h
        exact j_zret dX9_areTwoTold_26 rfl j_b01_0
      · replace h := j_neg hc h
        refine j_iconst (v := (1 : Int32)) 22 dX9_areTwoTold_21 rfl (by decide) ?_
        refine j_goto 26 dX9_areTwoTold_22 (by decide) ?_
        cases h
        exact j_zret dX9_areTwoTold_26 rfl j_b01_1
def fX9_layAt (l1 : Int32) (l2 : Int32) (l3 : Int32) (I : JI) : Option (JI) :=
  j_g (j_in ((l1 * (4 : Int32)) + l3) 48) (j_g (j_in ((l1 * (4 : Int32)) + l3) 48) (j_g (j_in l1 12) (j_g (j_in l1 12) (some ((j_up (j_up I 2 ((l1 * (4 : Int32)) + l3).toNatClampNeg ((I 2 ((l1 * (4 : Int32)) + l3).toNatClampNeg) ||| ((1 : Int32) <<< (l2 &&& 31)))) 3 l1.toNatClampNeg (((j_up I 2 ((l1 * (4 : Int32)) + l3).toNatClampNeg ((I 2 ((l1 * (4 : Int32)) + l3).toNatClampNeg) ||| ((1 : Int32) <<< (l2 &&& 31)))) 3 l1.toNatClampNeg) ||| ((1 : Int32) <<< (l2 &&& 31)))))))))
set_option maxHeartbeats 4000000 in
set_option maxRecDepth 100000 in
theorem tcX9_layAt {E : JE} {l1 : Int32} {l2 : Int32} {l3 : Int32} {r : JI} {I : JI} {L : JL} {G D : JG} {S : JS} (hL : Lay G S) (h : fX9_layAt l1 l2 l3 I = some r) : CallJ E xX9_layAt 1 [.ref (E.1 + 1), .int l1, .int l2, .int l3] I L G D S none r L G D S := by
  unfold fX9_layAt at h
  refine j_entry (by decide) (Nat.le_of_ble_eq_true rfl) ?_
  show AtJ E xX9_layAt (Zr E none r L G D S) ((S).length, jm_sl S) 1 0 [(0, .ref (E.1 + 1)), (1, .int l1), (2, .int l2), (3, .int l3)] [] I L G D S
  refine j_aload_n 1 dX9_layAt_0 rfl rfl 0 rfl ?_
  refine j_getG 4 dX9_layAt_1 rfl (sh_1 hL) cl9 (k := 0) (by decide) flX9_9 rfl (gs_1_0 hL) ?_
  refine j_iload_n 5 dX9_layAt_4 rfl rfl 1 rfl ?_
  refine j_iconst (v := (4 : Int32)) 6 dX9_layAt_5 rfl (by decide) ?_
  refine j_imul 7 dX9_layAt_6 rfl ?_
  refine j_iload_n 8 dX9_layAt_7 rfl rfl 3 rfl ?_
  refine j_iadd 9 dX9_layAt_8 rfl ?_
  refine j_dup2_11 10 dX9_layAt_9 rfl rfl rfl ?_
  obtain ⟨hg, h⟩ := j_gs h
  refine j_iald 11 dX9_layAt_10 rfl (sh_2 hL) (j_inv hg) ?_
  refine j_iconst (v := (1 : Int32)) 12 dX9_layAt_11 rfl (by decide) ?_
  refine j_iload_n 13 dX9_layAt_12 rfl rfl 2 rfl ?_
  refine j_ishl 14 dX9_layAt_13 rfl ?_
  refine j_ior 15 dX9_layAt_14 rfl ?_
  obtain ⟨hg, h⟩ := j_gs h
  refine j_iast 16 dX9_layAt_15 rfl (sh_2 hL) (j_inv hg) ?_
  refine j_aload_n 17 dX9_layAt_16 rfl rfl 0 rfl ?_
  refine j_getG 20 dX9_layAt_17 rfl (sh_1 hL) cl9 (k := 1) (by decide) flX9_15 rfl (gs_1_1 hL) ?_
  refine j_iload_n 21 dX9_layAt_20 rfl rfl 1 rfl ?_
  refine j_dup2_11 22 dX9_layAt_21 rfl rfl rfl ?_
  obtain ⟨hg, h⟩ := j_gs h
  refine j_iald 23 dX9_layAt_22 rfl (sh_3 hL) (j_inv hg) ?_
  refine j_iconst (v := (1 : Int32)) 24 dX9_layAt_23 rfl (by decide) ?_
  refine j_iload_n 25 dX9_layAt_24 rfl rfl 2 rfl ?_
  refine j_ishl 26 dX9_layAt_25 rfl ?_
  refine j_ior 27 dX9_layAt_26 rfl ?_
  obtain ⟨hg, h⟩ := j_gs h
  refine j_iast 28 dX9_layAt_27 rfl (sh_3 hL) (j_inv hg) ?_
  cases h
  exact j_vret dX9_layAt_28 rfl
def fX9_makeKin (l1 : Int32) (l2 : Int32) (l3 : Int32) (I : JI) : Option (JI) :=
  j_g (j_in ((l1 * (16 : Int32)) + l2) 256) (j_g (j_in l1 16) (if l3 = 0 then ((fX11_withBit ((j_up I 5 ((l1 * (16 : Int32)) + l2).toNatClampNeg l3) 6 l1.toNatClampNeg) l2 (0 : Int32)).bind (fun q1 => j_g (j_in l1 16) (some ((j_up (j_up I 5 ((l1 * (16 : Int32)) + l2).toNatClampNeg l3) 6 l1.toNatClampNeg q1))))) else ((fX11_withBit ((j_up I 5 ((l1 * (16 : Int32)) + l2).toNatClampNeg l3) 6 l1.toNatClampNeg) l2 (1 : Int32)).bind (fun q2 => j_g (j_in l1 16) (some ((j_up (j_up I 5 ((l1 * (16 : Int32)) + l2).toNatClampNeg l3) 6 l1.toNatClampNeg q2)))))))
set_option maxHeartbeats 4000000 in
set_option maxRecDepth 100000 in
theorem tcX9_makeKin {E : JE} {l1 : Int32} {l2 : Int32} {l3 : Int32} {r : JI} {I : JI} {L : JL} {G D : JG} {S : JS} (hL : Lay G S) (h : fX9_makeKin l1 l2 l3 I = some r) : CallJ E xX9_makeKin 2 [.ref (E.1 + 1), .int l1, .int l2, .int l3] I L G D S none r L G D S := by
  unfold fX9_makeKin at h
  refine j_entry (by decide) (Nat.le_of_ble_eq_true rfl) ?_
  show AtJ E xX9_makeKin (Zr E none r L G D S) ((S).length, jm_sl S) 2 0 [(0, .ref (E.1 + 1)), (1, .int l1), (2, .int l2), (3, .int l3)] [] I L G D S
  refine j_aload_n 1 dX9_makeKin_0 rfl rfl 0 rfl ?_
  refine j_getG 4 dX9_makeKin_1 rfl (sh_1 hL) cl9 (k := 3) (by decide) flX9_21 rfl (gs_1_3 hL) ?_
  refine j_iload_n 5 dX9_makeKin_4 rfl rfl 1 rfl ?_
  refine j_bipush (v := (16 : Int32)) 7 dX9_makeKin_5 rfl (by decide) ?_
  refine j_imul 8 dX9_makeKin_7 rfl ?_
  refine j_iload_n 9 dX9_makeKin_8 rfl rfl 2 rfl ?_
  refine j_iadd 10 dX9_makeKin_9 rfl ?_
  refine j_iload_n 11 dX9_makeKin_10 rfl rfl 3 rfl ?_
  obtain ⟨hg, h⟩ := j_gs h
  refine j_iast 12 dX9_makeKin_11 rfl (sh_5 hL) (j_inv hg) ?_
  refine j_aload_n 13 dX9_makeKin_12 rfl rfl 0 rfl ?_
  refine j_getG 16 dX9_makeKin_13 rfl (sh_1 hL) cl9 (k := 4) (by decide) flX9_24 rfl (gs_1_4 hL) ?_
  refine j_iload_n 17 dX9_makeKin_16 rfl rfl 1 rfl ?_
  refine j_aload_n 18 dX9_makeKin_17 rfl rfl 0 rfl ?_
  refine j_getG 21 dX9_makeKin_18 rfl (sh_1 hL) cl9 (k := 4) (by decide) flX9_24 rfl (gs_1_4 hL) ?_
  refine j_iload_n 22 dX9_makeKin_21 rfl rfl 1 rfl ?_
  obtain ⟨hg, h⟩ := j_gs h
  refine j_iald 23 dX9_makeKin_22 rfl (sh_6 hL) (j_inv hg) ?_
  refine j_iload_n 24 dX9_makeKin_23 rfl rfl 2 rfl ?_
  refine j_iload_n 25 dX9_makeKin_24 rfl rfl 3 rfl ?_
  refine j_if_eq 32 28 dX9_makeKin_25 (by decide) rfl (fun hc => ?_) (fun hc => ?_)
  · replace h := j_pos hc h
    refine j_iconst (v := (0 : Int32)) 33 dX9_makeKin_32 rfl (by decide) ?_
    obtain ⟨q1, hq1, h⟩ := j_bs h
    refine j_callSN (rest := [.int l1, .ref (E.1 + 6)]) (As := [.int ((j_up I 5 ((l1 * (16 : Int32)) + l2).toNatClampNeg l3) 6 l1.toNatClampNeg), .int l2, .int (0 : Int32)]) 36 dX9_makeKin_33 rfl jyX11_withBit (tcX11_withBit   hq1) flX9_39 wm653 (by decide) rfl rfl (Nat.le_of_ble_eq_true rfl) ?_
    obtain ⟨hg, h⟩ := j_gs h
    refine j_iast 37 dX9_makeKin_36 rfl (sh_6 hL) (j_inv hg) ?_
    cases h
    exact j_vret dX9_makeKin_37 rfl
  · replace h := j_neg hc h
    refine j_iconst (v := (1 : Int32)) 29 dX9_makeKin_28 rfl (by decide) ?_
    refine j_goto 33 dX9_makeKin_29 (by decide) ?_
    obtain ⟨q2, hq2, h⟩ := j_bs h
    refine j_callSN (rest := [.int l1, .ref (E.1 + 6)]) (As := [.int ((j_up I 5 ((l1 * (16 : Int32)) + l2).toNatClampNeg l3) 6 l1.toNatClampNeg), .int l2, .int (1 : Int32)]) 36 dX9_makeKin_33 rfl jyX11_withBit (tcX11_withBit   hq2) flX9_39 wm653 (by decide) rfl rfl (Nat.le_of_ble_eq_true rfl) ?_
    obtain ⟨hg, h⟩ := j_gs h
    refine j_iast 37 dX9_makeKin_36 rfl (sh_6 hL) (j_inv hg) ?_
    cases h
    exact j_vret dX9_makeKin_37 rfl
def fX10_init (t : Nat) (l1 : Nat) (l2 : Nat) (l3 : Nat) (I : JI) (L : JL) (G : JG) (D : JG) (S : JS) : Option (JI × JL × JG × JG × JS) :=
  (fX1_init (S).length (j_clr I (S).length 0) (j_clr G (S).length none) (S ++ [(1, 4)])).bind (fun q1 => j_g (decide (q1.2.2[t]? = some (10, 20))) (j_g (decide (q1.2.2[l1]? = some (9, 10))) (j_g (decide (q1.2.2[l2]? = some (1, 4))) (j_g (decide (q1.2.2[l3]? = some (3, 10))) (j_g (decide (q1.2.2[(S).length]? = some (1, 4))) ((fX0_init (q1.2.2).length).bind (fun q7 => some ((j_up (j_clr (j_clr (j_clr (j_clr q1.1 (q1.2.2).length 0) ((q1.2.2 ++ [(0, 7)])).length 0) (((q1.2.2 ++ [(0, 7)]) ++ [(20, 169)])).length 0) ((((q1.2.2 ++ [(0, 7)]) ++ [(20, 169)]) ++ [(20, 169)])).length 0) t 19 (-1 : Int32)), (j_clr (j_clr L (S).length 0) (q1.2.2).length 0), (j_up (j_up (j_up (j_up (j_up (j_up (j_up (j_clr (j_up q1.2.1 t 3 (some (S).length)) (q1.2.2).length none) t 4 (some (q1.2.2).length)) t 5 (some ((q1.2.2 ++ [(0, 7)])).length)) t 6 (some (((q1.2.2 ++ [(0, 7)]) ++ [(20, 169)])).length)) t 7 (some ((((q1.2.2 ++ [(0, 7)]) ++ [(20, 169)]) ++ [(20, 169)])).length)) t 0 (some l1)) t 1 (some l2)) t 2 (some l3)), (j_clr (j_clr D (S).length none) (q1.2.2).length none), ((((q1.2.2 ++ [(0, 7)]) ++ [(20, 169)]) ++ [(20, 169)]) ++ [(20, 169)])))))))))
set_option maxHeartbeats 4000000 in
set_option maxRecDepth 100000 in
theorem tcX10_init {E : JE} {t : Nat} {l1 : Nat} {l2 : Nat} {l3 : Nat} {r : JI × JL × JG × JG × JS} {I : JI} {L : JL} {G D : JG} {S : JS} (ht : S[t]? = some (10, 20)) (h : fX10_init t l1 l2 l3 I L G D S = some r) : CallJ E xX10_init 2 [.ref (E.1 + t), .ref (E.1 + l1), .ref (E.1 + l2), .ref (E.1 + l3)] I L G D S none r.1 r.2.1 r.2.2.1 r.2.2.2.1 r.2.2.2.2 := by
  unfold fX10_init at h
  refine j_entry (by decide) (Nat.le_of_ble_eq_true rfl) ?_
  show AtJ E xX10_init (Zr E none r.1 r.2.1 r.2.2.1 r.2.2.2.1 r.2.2.2.2) ((r.2.2.2.2).length, jm_sl r.2.2.2.2) 2 0 [(0, .ref (E.1 + t)), (1, .ref (E.1 + l1)), (2, .ref (E.1 + l2)), (3, .ref (E.1 + l3))] [] I L G D S
  refine j_aload_n 1 dX10_init_0 rfl rfl 0 rfl ?_
  refine j_obj 4 dX10_init_1 rfl flX10_3 wm117 wm118 (by decide) (Nat.le_of_ble_eq_true rfl) ?_
  refine j_aload_n 5 dX10_init_4 rfl rfl 0 rfl ?_
  refine j_nwO 8 dX10_init_5 rfl cl1 flX10_9 wm172 wm90 (by decide) ?_
  refine j_dup 9 dX10_init_8 rfl rfl ?_
  obtain ⟨q1, hq1, h⟩ := j_bs h
  refine j_callIN (y := yX1_init) (cy := cX1_init) (my := 1) (rest := [.ref (E.1 + (S).length), .ref (E.1 + t)]) (As := []) 12 dX10_init_9 rfl jyX1_init (tcX1_init  jm_last hq1) flX10_11 wm174 rfl (by decide) rfl rfl (Nat.le_of_ble_eq_true rfl) ?_
  obtain ⟨hgs2, h⟩ := j_gs h
  obtain ⟨hgs3, h⟩ := j_gs h
  obtain ⟨hgs4, h⟩ := j_gs h
  obtain ⟨hgs5, h⟩ := j_gs h
  obtain ⟨hgs6, h⟩ := j_gs h
  refine j_putF 15 dX10_init_12 rfl (of_decide_eq_true hgs2) cl10 (k := 3) (by decide) flX10_12 rfl rfl rfl rfl (fun _ => rfl) (fun _ => rfl) ?_
  refine j_aload_n 16 dX10_init_15 rfl rfl 0 rfl ?_
  refine j_nwO 19 dX10_init_16 rfl cl0 flX10_18 wm234 wm92 (by decide) ?_
  refine j_dup 20 dX10_init_19 rfl rfl ?_
  obtain ⟨q7, hq7, h⟩ := j_bs h
  refine j_callIN (y := yX0_init) (cy := cX0_init) (my := 1) (rest := [.ref (E.1 + (q1.2.2).length), .ref (E.1 + t)]) (As := []) 23 dX10_init_20 rfl jyX0_init (tcX0_init  jm_last hq7) flX10_20 wm236 rfl (by decide) rfl rfl (Nat.le_of_ble_eq_true rfl) ?_
  refine j_putF 26 dX10_init_23 rfl (jm_pre (of_decide_eq_true hgs2)) cl10 (k := 4) (by decide) flX10_21 rfl rfl rfl rfl (fun _ => rfl) (fun _ => rfl) ?_
  refine j_aload_n 27 dX10_init_26 rfl rfl 0 rfl ?_
  refine j_sipush (v := (169 : Int32)) 30 dX10_init_27 rfl (by decide) ?_
  refine j_nwI (N := 169) 32 dX10_init_30 rfl wm170 (by decide) (by decide) (by decide) ?_
  refine j_putF 35 dX10_init_32 rfl (jm_pre (jm_pre (of_decide_eq_true hgs2))) cl10 (k := 5) (by decide) flX10_25 rfl rfl rfl rfl (fun _ => rfl) (fun _ => rfl) ?_
  refine j_aload_n 36 dX10_init_35 rfl rfl 0 rfl ?_
  refine j_sipush (v := (169 : Int32)) 39 dX10_init_36 rfl (by decide) ?_
  refine j_nwI (N := 169) 41 dX10_init_39 rfl wm170 (by decide) (by decide) (by decide) ?_
  refine j_putF 44 dX10_init_41 rfl (jm_pre (jm_pre (jm_pre (of_decide_eq_true hgs2)))) cl10 (k := 6) (by decide) flX10_29 rfl rfl rfl rfl (fun _ => rfl) (fun _ => rfl) ?_
  refine j_aload_n 45 dX10_init_44 rfl rfl 0 rfl ?_
  refine j_sipush (v := (169 : Int32)) 48 dX10_init_45 rfl (by decide) ?_
  refine j_nwI (N := 169) 50 dX10_init_48 rfl wm170 (by decide) (by decide) (by decide) ?_
  refine j_putF 53 dX10_init_50 rfl (jm_pre (jm_pre (jm_pre (jm_pre (of_decide_eq_true hgs2))))) cl10 (k := 7) (by decide) flX10_32 rfl rfl rfl rfl (fun _ => rfl) (fun _ => rfl) ?_
  refine j_aload_n 54 dX10_init_53 rfl rfl 0 rfl ?_
  refine j_iconst (v := (-1 : Int32)) 55 dX10_init_54 rfl (by decide) ?_
  refine j_putI 58 dX10_init_55 rfl (jm_pre (jm_pre (jm_pre (jm_pre (of_decide_eq_true hgs2))))) cl10 (k := 19) (by decide) flX10_35 rfl rfl rfl ?_
  refine j_aload_n 59 dX10_init_58 rfl rfl 0 rfl ?_
  refine j_aload_n 60 dX10_init_59 rfl rfl 1 rfl ?_
  refine j_putF 63 dX10_init_60 rfl (jm_pre (jm_pre (jm_pre (jm_pre (of_decide_eq_true hgs2))))) cl10 (k := 0) (by decide) flX10_39 rfl rfl rfl rfl (fun _ => rfl) (fun _ => rfl) ?_
  refine j_aload_n 64 dX10_init_63 rfl rfl 0 rfl ?_
  refine j_aload_n 65 dX10_init_64 rfl rfl 2 rfl ?_
  refine j_putF 68 dX10_init_65 rfl (jm_pre (jm_pre (jm_pre (jm_pre (of_decide_eq_true hgs2))))) cl10 (k := 1) (by decide) flX10_43 rfl rfl rfl rfl (fun _ => rfl) (fun _ => rfl) ?_
  refine j_aload_n 69 dX10_init_68 rfl rfl 0 rfl ?_
  refine j_aload_n 70 dX10_init_69 rfl rfl 3 rfl ?_
  refine j_putF 73 dX10_init_70 rfl (jm_pre (jm_pre (jm_pre (jm_pre (of_decide_eq_true hgs2))))) cl10 (k := 2) (by decide) flX10_46 rfl rfl rfl rfl (fun _ => rfl) (fun _ => rfl) ?_
  cases h
  exact j_vret dX10_init_73 rfl
def fX10_keepStep (l1 : Int32) (l2 : Int32) (l3 : Int32) (l4 : Int32) (I : JI) : Option (JI) :=
  j_g (j_in l2 169) (j_g (j_in l2 169) (some ((j_up (j_up I 28 l2.toNatClampNeg l1) 29 l2.toNatClampNeg ((((l3 * (13 : Int32)) + l4) * (3 : Int32)) + ((j_up I 28 l2.toNatClampNeg l1) 20 15))))))
set_option maxHeartbeats 4000000 in
set_option maxRecDepth 100000 in
theorem tcX10_keepStep {E : JE} {l1 : Int32} {l2 : Int32} {l3 : Int32} {l4 : Int32} {r : JI} {I : JI} {L : JL} {G D : JG} {S : JS} (hL : Lay G S) (h : fX10_keepStep l1 l2 l3 l4 I = some r) : CallJ E xX10_keepStep 1 [.ref (E.1 + 20), .int l1, .int l2, .int l3, .int l4] I L G D S none r L G D S := by
  unfold fX10_keepStep at h
  refine j_entry (by decide) (Nat.le_of_ble_eq_true rfl) ?_
  show AtJ E xX10_keepStep (Zr E none r L G D S) ((S).length, jm_sl S) 1 0 [(0, .ref (E.1 + 20)), (1, .int l1), (2, .int l2), (3, .int l3), (4, .int l4)] [] I L G D S
  refine j_aload_n 1 dX10_keepStep_0 rfl rfl 0 rfl ?_
  refine j_getG 4 dX10_keepStep_1 rfl (sh_20 hL) cl10 (k := 6) (by decide) flX10_29 rfl (gs_20_6 hL) ?_
  refine j_iload_n 5 dX10_keepStep_4 rfl rfl 2 rfl ?_
  refine j_iload_n 6 dX10_keepStep_5 rfl rfl 1 rfl ?_
  obtain ⟨hg, h⟩ := j_gs h
  refine j_iast 7 dX10_keepStep_6 rfl (sh_28 hL) (j_inv hg) ?_
  refine j_aload_n 8 dX10_keepStep_7 rfl rfl 0 rfl ?_
  refine j_getG 11 dX10_keepStep_8 rfl (sh_20 hL) cl10 (k := 7) (by decide) flX10_32 rfl (gs_20_7 hL) ?_
  refine j_iload_n 12 dX10_keepStep_11 rfl rfl 2 rfl ?_
  refine j_iload_n 13 dX10_keepStep_12 rfl rfl 3 rfl ?_
  refine j_bipush (v := (13 : Int32)) 15 dX10_keepStep_13 rfl (by decide) ?_
  refine j_imul 16 dX10_keepStep_15 rfl ?_
  refine j_iload 18 dX10_keepStep_16 rfl 4 rfl ?_
  refine j_iadd 19 dX10_keepStep_18 rfl ?_
  refine j_iconst (v := (3 : Int32)) 20 dX10_keepStep_19 rfl (by decide) ?_
  refine j_imul 21 dX10_keepStep_20 rfl ?_
  refine j_aload_n 22 dX10_keepStep_21 rfl rfl 0 rfl ?_
  refine j_getI 25 dX10_keepStep_22 rfl (sh_20 hL) cl10 (k := 15) (by decide) flX10_92 rfl ?_
  refine j_iadd 26 dX10_keepStep_25 rfl ?_
  obtain ⟨hg, h⟩ := j_gs h
  refine j_iast 27 dX10_keepStep_26 rfl (sh_29 hL) (j_inv hg) ?_
  cases h
  exact j_vret dX10_keepStep_27 rfl
def fX10_endsBehind (l1 : Int32) (I : JI) (L : JL) (D : JG) (S : JS) : Option (Int32 × JI × JG) :=
  (fX10_place l1 I).bind (fun q1 => (fX10_turnTo (0 : Int32) q1 D S).bind (fun q2 => (fX10_left l1 (0 : Int32)).bind (fun q3 => (fX10_openSets q3 (1 : Int64) q2.1 L q2.2 S).bind (fun q4 => if (lg_cmp q4.1 (0 : Int64)) = 0 then (some ((0 : Int32), q4.2.1, q4.2.2)) else ((fX10_behind l1 (0 : Int32) q3).bind (fun q5 => (fX10_keepStep l1 ((j_up q4.2.1 20 17 q5) 20 17) (0 : Int32) q3 (j_up q4.2.1 20 17 q5)).bind (fun q6 => some ((1 : Int32), q6, q4.2.2))))))))
set_option maxHeartbeats 4000000 in
set_option maxRecDepth 100000 in
theorem tcX10_endsBehind {E : JE} {l1 : Int32} {r : Int32 × JI × JG} {I : JI} {L : JL} {G D : JG} {S : JS} (hL : Lay G S) (h : fX10_endsBehind l1 I L D S = some r) : CallJ E xX10_endsBehind 5 [.ref (E.1 + 20), .int l1] I L G D S (some (.int r.1)) r.2.1 L G r.2.2 S := by
  unfold fX10_endsBehind at h
  refine j_entry (by decide) (Nat.le_of_ble_eq_true rfl) ?_
  show AtJ E xX10_endsBehind (Zr E (some (.int r.1)) r.2.1 L G r.2.2 S) ((S).length, jm_sl S) 5 0 [(0, .ref (E.1 + 20)), (1, .int l1)] [] I L G D S
  refine j_aload_n 1 dX10_endsBehind_0 rfl rfl 0 rfl ?_
  refine j_iload_n 2 dX10_endsBehind_1 rfl rfl 1 rfl ?_
  obtain ⟨q1, hq1, h⟩ := j_bs h
  refine j_callV (rest := []) (As := [.int l1]) 5 dX10_endsBehind_2 rfl jyX10_place (tcX10_place hL  hq1) (sh_20 hL) cl10 flX10_136 wm1111 wm1112 (by decide) rfl rfl (Nat.le_of_ble_eq_true rfl) ?_
  refine j_aload_n 6 dX10_endsBehind_5 rfl rfl 0 rfl ?_
  refine j_iconst (v := (0 : Int32)) 7 dX10_endsBehind_6 rfl (by decide) ?_
  obtain ⟨q2, hq2, h⟩ := j_bs h
  refine j_callV (rest := []) (As := [.int (0 : Int32)]) 10 dX10_endsBehind_7 rfl jyX10_turnTo (tcX10_turnTo hL  hq2) (sh_20 hL) cl10 flX10_139 wm1120 wm1121 (by decide) rfl rfl (Nat.le_of_ble_eq_true rfl) ?_
  refine j_aload_n 11 dX10_endsBehind_10 rfl rfl 0 rfl ?_
  refine j_iload_n 12 dX10_endsBehind_11 rfl rfl 1 rfl ?_
  refine j_iconst (v := (0 : Int32)) 13 dX10_endsBehind_12 rfl (by decide) ?_
  obtain ⟨q3, hq3, h⟩ := j_bs h
  refine j_callV (rest := []) (As := [.int l1, .int (0 : Int32)]) 16 dX10_endsBehind_13 rfl jyX10_left (tcX10_left hL  hq3) (sh_20 hL) cl10 flX10_76 wm1115 wm1116 (by decide) rfl rfl (Nat.le_of_ble_eq_true rfl) ?_
  refine j_istore_n (lv' := [(2, .int q3), (0, .ref (E.1 + 20)), (1, .int l1)]) 17 dX10_endsBehind_16 rfl rfl (by decide) rfl ?_
  refine j_aload_n 18 dX10_endsBehind_17 rfl rfl 1 rfl ?_
  refine j_iload_n 19 dX10_endsBehind_18 rfl rfl 0 rfl ?_
  refine j_lconst (v := (1 : Int64)) 20 dX10_endsBehind_19 rfl (by decide) ?_
  obtain ⟨q4, hq4, h⟩ := j_bs h
  refine j_callV (rest := []) (As := [.int q3, .long (1 : Int64)]) 23 dX10_endsBehind_20 rfl jyX10_openSets (tcX10_openSets hL  hq4) (sh_20 hL) cl10 flX10_142 wm1125 wm1126 (by decide) rfl rfl (Nat.le_of_ble_eq_true rfl) ?_
  refine j_lconst (v := (0 : Int64)) 24 dX10_endsBehind_23 rfl (by decide) ?_
  refine j_lcmp 25 dX10_endsBehind_24 rfl ?_
  refine j_if_ne 30 28 dX10_endsBehind_25 (by decide) rfl (fun hc => ?_) (fun hc => ?_)
  · replace h := j_neg hc h
    refine j_aload_n 31 dX10_endsBehind_30 rfl rfl 1 rfl ?_
    refine j_aload_n 32 dX10_endsBehind_31 rfl rfl 1 rfl ?_
    refine j_iload_n 33 dX10_endsBehind_32 rfl rfl 2 rfl ?_
    refine j_iconst (v := (0 : Int32)) 34 dX10_endsBehind_33 rfl (by decide) ?_
    refine j_iload_n 35 dX10_endsBehind_34 rfl rfl 0 rfl ?_
    obtain ⟨q5, hq5, h⟩ := j_bs h
    refine j_callV (rest := [.ref (E.1 + 20)]) (As := [.int l1, .int (0 : Int32), .int q3]) 38 dX10_endsBehind_35 rfl jyX10_behind (tcX10_behind hL  hq5) (sh_20 hL) cl10 flX10_145 wm1140 wm1141 (by decide) rfl rfl (Nat.le_of_ble_eq_true rfl) ?_
    refine j_putI 41 dX10_endsBehind_38 rfl (sh_20 hL) cl10 (k := 17) (by decide) flX10_149 rfl rfl rfl ?_
    refine j_aload_n 42 dX10_endsBehind_41 rfl rfl 1 rfl ?_
    refine j_iload_n 43 dX10_endsBehind_42 rfl rfl 2 rfl ?_
    refine j_aload_n 44 dX10_endsBehind_43 rfl rfl 1 rfl ?_
    refine j_getI 47 dX10_endsBehind_44 rfl (sh_20 hL) cl10 (k := 17) (by decide) flX10_149 rfl ?_
    refine j_iconst (v := (0 : Int32)) 48 dX10_endsBehind_47 rfl (by decide) ?_
    refine j_iload_n 49 dX10_endsBehind_48 rfl rfl 0 rfl ?_
    obtain ⟨q6, hq6, h⟩ := j_bs h
    refine j_callV (rest := []) (As := [.int l1, .int ((j_up q4.2.1 20 17 q5) 20 17), .int (0 : Int32), .int q3]) 52 dX10_endsBehind_49 rfl jyX10_keepStep (tcX10_keepStep hL  hq6) (sh_20 hL) cl10 flX10_152 wm1145 wm27 (by decide) rfl rfl (Nat.le_of_ble_eq_true rfl) ?_
    refine j_iconst (v := (1 : Int32)) 53 dX10_endsBehind_52 rfl (by decide) ?_
    cases h
    exact j_zret dX10_endsBehind_53 rfl j_b01_1
  · replace h := j_pos hc h
    refine j_iconst (v := (0 : Int32)) 29 dX10_endsBehind_28 rfl (by decide) ?_
    cases h
    exact j_zret dX10_endsBehind_29 rfl j_b01_0
def fX10_spread_113 (k7 : Int32 → Int32 → JI → JL → JG → JS → Option (JI × JG)) (l1 : Int32) (l2 : Int32) (I : JI) (L : JL) (D : JG) (S : JS) : Option (JI × JG) :=
  k7 l1 (l2 + (1 : Int32)) I L D S
set_option maxHeartbeats 4000000 in
set_option maxRecDepth 100000 in
theorem kX10_spread_113 {E : JE} {k7 : Int32 → Int32 → JI → JL → JG → JS → Option (JI × JG)} {r : JI × JG} {G : JG} {S : JS} (hL : Lay G S) (H7 : ∀ (l1 : Int32) (l2 : Int32) (I : JI) (L : JL) (D : JG), k7 l1 l2 I L D S = some r → AtJ E xX10_spread (Zr E none r.1 L G r.2 S) ((S).length, jm_sl S) 5 7 [(0, .ref (E.1 + 20)), (1, .int l1), (2, .int l2)] [] I L G D S) : ∀ (l1 : Int32) (l2 : Int32) (I : JI) (L : JL) (D : JG), fX10_spread_113 k7 l1 l2 I L D S = some r → AtJ E xX10_spread (Zr E none r.1 L G r.2 S) ((S).length, jm_sl S) 5 113 [(0, .ref (E.1 + 20)), (1, .int l1), (2, .int l2)] [] I L G D S := by
  intro l1 l2 I L D  h
  unfold fX10_spread_113 at h
  refine j_iinc (v := (l2 + (1 : Int32))) (lv' := [(2, .int (l2 + (1 : Int32))), (0, .ref (E.1 + 20)), (1, .int l1)]) (q := 2) 116 dX10_spread_113 rfl rfl rfl (by decide) rfl ?_
  refine j_goto 7 dX10_spread_116 (by decide) ?_
  refine j_sub [1, 2, 0] rfl ?_
  exact H7 _ _ _ _ _  h
def fX10_spread_37 (k7 : Int32 → Int32 → JI → JL → JG → JS → Option (JI × JG)) : Nat → Int32 → Int32 → Int32 → Int32 → JI → JL → JG → JS → Option (JI × JG)
  | 0, _, _, _, _, _, _, _, _ => none
  | n + 1, l1, l2, l3, l4, I, L, D, S =>
    if l3 < l4 then (fX10_spread_113 k7 l1 l2 I L D S) else ((fX10_behind l1 l2 l4).bind (fun q4 => j_g (j_in q4 169) (if (I 28 q4.toNatClampNeg) = (-1 : Int32) then ((fX10_openSets l4 (1 : Int64) I L D S).bind (fun q5 => if (lg_cmp q5.1 (0 : Int64)) = 0 then ((fX10_spread_37 k7 n) l1 l2 l3 (l4 + (1 : Int32)) q5.2.1 L q5.2.2 S) else ((fX10_keepStep l1 q4 l2 l4 q5.2.1).bind (fun q6 => j_g (j_in (q6 20 8) 169) ((fX10_spread_37 k7 n) l1 l2 l3 (l4 + (1 : Int32)) (j_up (j_up q6 27 (q6 20 8).toNatClampNeg q4) 20 8 (((j_up q6 27 (q6 20 8).toNatClampNeg q4) 20 8) + (1 : Int32))) L q5.2.2 S))))) else ((fX10_spread_37 k7 n) l1 l2 l3 (l4 + (1 : Int32)) I L D S))))
set_option maxHeartbeats 4000000 in
set_option maxRecDepth 100000 in
theorem kX10_spread_37 {E : JE} {k7 : Int32 → Int32 → JI → JL → JG → JS → Option (JI × JG)} {r : JI × JG} {G : JG} {S : JS} (hL : Lay G S) (H7 : ∀ (l1 : Int32) (l2 : Int32) (I : JI) (L : JL) (D : JG), k7 l1 l2 I L D S = some r → AtJ E xX10_spread (Zr E none r.1 L G r.2 S) ((S).length, jm_sl S) 5 7 [(0, .ref (E.1 + 20)), (1, .int l1), (2, .int l2)] [] I L G D S) : ∀ (n : Nat) (l1 : Int32) (l2 : Int32) (l3 : Int32) (l4 : Int32) (I : JI) (L : JL) (D : JG), fX10_spread_37 k7 n l1 l2 l3 l4 I L D S = some r → AtJ E xX10_spread (Zr E none r.1 L G r.2 S) ((S).length, jm_sl S) 5 37 [(0, .ref (E.1 + 20)), (1, .int l1), (2, .int l2), (3, .int l3), (4, .int l4)] [] I L G D S := by
  intro n
  induction n with
  | zero => intro l1 l2 l3 l4 I L D  h; simp [fX10_spread_37] at h
  | succ n ih =>
    intro l1 l2 l3 l4 I L D  h
    rw [fX10_spread_37] at h
    refine j_iload 39 dX10_spread_37 rfl 4 rfl ?_
    refine j_iload_n 40 dX10_spread_39 rfl rfl 3 rfl ?_
    refine j_icmp_gt 113 43 dX10_spread_40 (by decide) rfl (fun hc => ?_) (fun hc => ?_)
    · replace h := j_pos hc h
      refine j_sub [0, 1, 2] rfl ?_
      exact kX10_spread_113 hL   H7 _ _ _ _ _  h
    · replace h := j_neg hc h
      refine j_aload_n 44 dX10_spread_43 rfl rfl 0 rfl ?_
      refine j_iload_n 45 dX10_spread_44 rfl rfl 1 rfl ?_
      refine j_iload_n 46 dX10_spread_45 rfl rfl 2 rfl ?_
      refine j_iload 48 dX10_spread_46 rfl 4 rfl ?_
      obtain ⟨q4, hq4, h⟩ := j_bs h
      refine j_callV (rest := []) (As := [.int l1, .int l2, .int l4]) 51 dX10_spread_48 rfl jyX10_behind (tcX10_behind hL  hq4) (sh_20 hL) cl10 flX10_145 wm1140 wm1141 (by decide) rfl rfl (Nat.le_of_ble_eq_true rfl) ?_
      refine j_istore (lv' := [(5, .int q4), (0, .ref (E.1 + 20)), (1, .int l1), (2, .int l2), (3, .int l3), (4, .int l4)]) 53 dX10_spread_51 rfl (by decide) rfl ?_
      refine j_aload_n 54 dX10_spread_53 rfl rfl 1 rfl ?_
      refine j_getG 57 dX10_spread_54 rfl (sh_20 hL) cl10 (k := 6) (by decide) flX10_29 rfl (gs_20_6 hL) ?_
      refine j_iload 59 dX10_spread_57 rfl 0 rfl ?_
      obtain ⟨hg, h⟩ := j_gs h
      refine j_iald 60 dX10_spread_59 rfl (sh_28 hL) (j_inv hg) ?_
      refine j_iconst (v := (-1 : Int32)) 61 dX10_spread_60 rfl (by decide) ?_
      refine j_icmp_ne 107 64 dX10_spread_61 (by decide) rfl (fun hc => ?_) (fun hc => ?_)
      · replace h := j_neg hc h
        refine j_iinc (v := (l4 + (1 : Int32))) (lv' := [(4, .int (l4 + (1 : Int32))), (5, .int q4), (0, .ref (E.1 + 20)), (1, .int l1), (2, .int l2), (3, .int l3)]) (q := 5) 110 dX10_spread_107 rfl rfl rfl (by decide) rfl ?_
        refine j_goto 37 dX10_spread_110 (by decide) ?_
        refine j_sub [2, 3, 4, 5, 0] rfl ?_
        exact ih _ _ _ _ _ _ _  h
      · replace h := j_pos hc h
        refine j_aload_n 65 dX10_spread_64 rfl rfl 1 rfl ?_
        refine j_iload 67 dX10_spread_65 rfl 5 rfl ?_
        refine j_lconst (v := (1 : Int64)) 68 dX10_spread_67 rfl (by decide) ?_
        obtain ⟨q5, hq5, h⟩ := j_bs h
        refine j_callV (rest := []) (As := [.int l4, .long (1 : Int64)]) 71 dX10_spread_68 rfl jyX10_openSets (tcX10_openSets hL  hq5) (sh_20 hL) cl10 flX10_142 wm1125 wm1126 (by decide) rfl rfl (Nat.le_of_ble_eq_true rfl) ?_
        refine j_lconst (v := (0 : Int64)) 72 dX10_spread_71 rfl (by decide) ?_
        refine j_lcmp 73 dX10_spread_72 rfl ?_
        refine j_if_eq 107 76 dX10_spread_73 (by decide) rfl (fun hc => ?_) (fun hc => ?_)
        · replace h := j_pos hc h
          refine j_iinc (v := (l4 + (1 : Int32))) (lv' := [(4, .int (l4 + (1 : Int32))), (5, .int q4), (0, .ref (E.1 + 20)), (1, .int l1), (2, .int l2), (3, .int l3)]) (q := 5) 110 dX10_spread_107 rfl rfl rfl (by decide) rfl ?_
          refine j_goto 37 dX10_spread_110 (by decide) ?_
          refine j_sub [2, 3, 4, 5, 0] rfl ?_
          exact ih _ _ _ _ _ _ _  h
        · replace h := j_neg hc h
          refine j_aload_n 77 dX10_spread_76 rfl rfl 1 rfl ?_
          refine j_iload_n 78 dX10_spread_77 rfl rfl 2 rfl ?_
          refine j_iload 80 dX10_spread_78 rfl 0 rfl ?_
          refine j_iload_n 81 dX10_spread_80 rfl rfl 3 rfl ?_
          refine j_iload 83 dX10_spread_81 rfl 5 rfl ?_
          obtain ⟨q6, hq6, h⟩ := j_bs h
          refine j_callV (rest := []) (As := [.int l1, .int q4, .int l2, .int l4]) 86 dX10_spread_83 rfl jyX10_keepStep (tcX10_keepStep hL  hq6) (sh_20 hL) cl10 flX10_152 wm1145 wm27 (by decide) rfl rfl (Nat.le_of_ble_eq_true rfl) ?_
          refine j_aload_n 87 dX10_spread_86 rfl rfl 1 rfl ?_
          refine j_getG 90 dX10_spread_87 rfl (sh_20 hL) cl10 (k := 5) (by decide) flX10_25 rfl (gs_20_5 hL) ?_
          refine j_aload_n 91 dX10_spread_90 rfl rfl 1 rfl ?_
          refine j_getI 94 dX10_spread_91 rfl (sh_20 hL) cl10 (k := 8) (by decide) flX10_125 rfl ?_
          refine j_iload 96 dX10_spread_94 rfl 0 rfl ?_
          obtain ⟨hg, h⟩ := j_gs h
          refine j_iast 97 dX10_spread_96 rfl (sh_27 hL) (j_inv hg) ?_
          refine j_aload_n 98 dX10_spread_97 rfl rfl 1 rfl ?_
          refine j_dup 99 dX10_spread_98 rfl rfl ?_
          refine j_getI 102 dX10_spread_99 rfl (sh_20 hL) cl10 (k := 8) (by decide) flX10_125 rfl ?_
          refine j_iconst (v := (1 : Int32)) 103 dX10_spread_102 rfl (by decide) ?_
          refine j_iadd 104 dX10_spread_103 rfl ?_
          refine j_putI 107 dX10_spread_104 rfl (sh_20 hL) cl10 (k := 8) (by decide) flX10_125 rfl rfl rfl ?_
          refine j_iinc (v := (l4 + (1 : Int32))) (lv' := [(4, .int (l4 + (1 : Int32))), (5, .int q4), (0, .ref (E.1 + 20)), (1, .int l1), (2, .int l2), (3, .int l3)]) (q := 5) 110 dX10_spread_107 rfl rfl rfl (by decide) rfl ?_
          refine j_goto 37 dX10_spread_110 (by decide) ?_
          refine j_sub [2, 3, 4, 5, 0] rfl ?_
          exact ih _ _ _ _ _ _ _  h
def fX10_spread_7 : Nat → Int32 → Int32 → JI → JL → JG → JS → Option (JI × JG)
  | 0, _, _, _, _, _, _ => none
  | n + 1, l1, l2, I, L, D, S =>
    if (2 : Int32) ≤ l2 then (some (I, D)) else ((fX10_turnTo l2 I D S).bind (fun q2 => (fX10_left l1 l2).bind (fun q3 => if l2 = 0 then (fX10_spread_37 (fX10_spread_7 n) 100000 l1 l2 (q3 - (1 : Int32)) (1 : Int32) q2.1 L q2.2 S) else (fX10_spread_37 (fX10_spread_7 n) 100000 l1 l2 (q3 - (0 : Int32)) (1 : Int32) q2.1 L q2.2 S))))
set_option maxHeartbeats 4000000 in
set_option maxRecDepth 100000 in
theorem kX10_spread_7 {E : JE} {r : JI × JG} {G : JG} {S : JS} (hL : Lay G S) : ∀ (n : Nat) (l1 : Int32) (l2 : Int32) (I : JI) (L : JL) (D : JG), fX10_spread_7 n l1 l2 I L D S = some r → AtJ E xX10_spread (Zr E none r.1 L G r.2 S) ((S).length, jm_sl S) 5 7 [(0, .ref (E.1 + 20)), (1, .int l1), (2, .int l2)] [] I L G D S := by
  intro n
  induction n with
  | zero => intro l1 l2 I L D  h; simp [fX10_spread_7] at h
  | succ n ih =>
    intro l1 l2 I L D  h
    rw [fX10_spread_7] at h
    refine j_iload_n 8 dX10_spread_7 rfl rfl 2 rfl ?_
    refine j_iconst (v := (2 : Int32)) 9 dX10_spread_8 rfl (by decide) ?_
    refine j_icmp_ge 119 12 dX10_spread_9 (by decide) rfl (fun hc => ?_) (fun hc => ?_)
    · replace h := j_pos hc h
      cases h
      exact j_vret dX10_spread_119 rfl
    · replace h := j_neg hc h
      refine j_aload_n 13 dX10_spread_12 rfl rfl 0 rfl ?_
      refine j_iload_n 14 dX10_spread_13 rfl rfl 2 rfl ?_
      obtain ⟨q2, hq2, h⟩ := j_bs h
      refine j_callV (rest := []) (As := [.int l2]) 17 dX10_spread_14 rfl jyX10_turnTo (tcX10_turnTo hL  hq2) (sh_20 hL) cl10 flX10_139 wm1120 wm1121 (by decide) rfl rfl (Nat.le_of_ble_eq_true rfl) ?_
      refine j_aload_n 18 dX10_spread_17 rfl rfl 0 rfl ?_
      refine j_iload_n 19 dX10_spread_18 rfl rfl 1 rfl ?_
      refine j_iload_n 20 dX10_spread_19 rfl rfl 2 rfl ?_
      obtain ⟨q3, hq3, h⟩ := j_bs h
      refine j_callV (rest := []) (As := [.int l1, .int l2]) 23 dX10_spread_20 rfl jyX10_left (tcX10_left hL  hq3) (sh_20 hL) cl10 flX10_76 wm1115 wm1116 (by decide) rfl rfl (Nat.le_of_ble_eq_true rfl) ?_
      refine j_iload_n 24 dX10_spread_23 rfl rfl 2 rfl ?_
      refine j_if_ne 31 27 dX10_spread_24 (by decide) rfl (fun hc => ?_) (fun hc => ?_)
      · replace h := j_neg hc h
        refine j_iconst (v := (0 : Int32)) 32 dX10_spread_31 rfl (by decide) ?_
        refine j_isub 33 dX10_spread_32 rfl ?_
        refine j_istore_n (lv' := [(3, .int (q3 - (0 : Int32))), (0, .ref (E.1 + 20)), (1, .int l1), (2, .int l2)]) 34 dX10_spread_33 rfl rfl (by decide) rfl ?_
        refine j_iconst (v := (1 : Int32)) 35 dX10_spread_34 rfl (by decide) ?_
        refine j_istore (lv' := [(4, .int (1 : Int32)), (3, .int (q3 - (0 : Int32))), (0, .ref (E.1 + 20)), (1, .int l1), (2, .int l2)]) 37 dX10_spread_35 rfl (by decide) rfl ?_
        refine j_sub [2, 3, 4, 1, 0] rfl ?_
        exact kX10_spread_37 hL   ih 100000 _ _ _ _ _ _ _  h
      · replace h := j_pos hc h
        refine j_iconst (v := (1 : Int32)) 28 dX10_spread_27 rfl (by decide) ?_
        refine j_goto 32 dX10_spread_28 (by decide) ?_
        refine j_isub 33 dX10_spread_32 rfl ?_
        refine j_istore_n (lv' := [(3, .int (q3 - (1 : Int32))), (0, .ref (E.1 + 20)), (1, .int l1), (2, .int l2)]) 34 dX10_spread_33 rfl rfl (by decide) rfl ?_
        refine j_iconst (v := (1 : Int32)) 35 dX10_spread_34 rfl (by decide) ?_
        refine j_istore (lv' := [(4, .int (1 : Int32)), (3, .int (q3 - (1 : Int32))), (0, .ref (E.1 + 20)), (1, .int l1), (2, .int l2)]) 37 dX10_spread_35 rfl (by decide) rfl ?_
        refine j_sub [2, 3, 4, 1, 0] rfl ?_
        exact kX10_spread_37 hL   ih 100000 _ _ _ _ _ _ _  h
def fX10_spread (l1 : Int32) (I : JI) (L : JL) (D : JG) (S : JS) : Option (JI × JG) :=
  (fX10_place l1 I).bind (fun q1 => fX10_spread_7 100000 l1 (0 : Int32) q1 L D S)
set_option maxHeartbeats 4000000 in
set_option maxRecDepth 100000 in
theorem tcX10_spread {E : JE} {l1 : Int32} {r : JI × JG} {I : JI} {L : JL} {G D : JG} {S : JS} (hL : Lay G S) (h : fX10_spread l1 I L D S = some r) : CallJ E xX10_spread 5 [.ref (E.1 + 20), .int l1] I L G D S none r.1 L G r.2 S := by
  unfold fX10_spread at h
  refine j_entry (by decide) (Nat.le_of_ble_eq_true rfl) ?_
  show AtJ E xX10_spread (Zr E none r.1 L G r.2 S) ((S).length, jm_sl S) 5 0 [(0, .ref (E.1 + 20)), (1, .int l1)] [] I L G D S
  refine j_aload_n 1 dX10_spread_0 rfl rfl 0 rfl ?_
  refine j_iload_n 2 dX10_spread_1 rfl rfl 1 rfl ?_
  obtain ⟨q1, hq1, h⟩ := j_bs h
  refine j_callV (rest := []) (As := [.int l1]) 5 dX10_spread_2 rfl jyX10_place (tcX10_place hL  hq1) (sh_20 hL) cl10 flX10_136 wm1111 wm1112 (by decide) rfl rfl (Nat.le_of_ble_eq_true rfl) ?_
  refine j_iconst (v := (0 : Int32)) 6 dX10_spread_5 rfl (by decide) ?_
  refine j_istore_n (lv' := [(2, .int (0 : Int32)), (0, .ref (E.1 + 20)), (1, .int l1)]) 7 dX10_spread_6 rfl rfl (by decide) rfl ?_
  refine j_sub [1, 2, 0] rfl ?_
  exact kX10_spread_7 hL    100000 _ _ _ _ _  h
def fX10_search_130 (k54 : Int32 → Int32 → JI → JL → JG → JS → Option (Int32 × JI × JG)) (l2 : Int32) (l3 : Int32) (I : JI) (L : JL) (D : JG) (S : JS) : Option (Int32 × JI × JG) :=
  k54 l3 (l2 + (1 : Int32)) I L D S
set_option maxHeartbeats 4000000 in
set_option maxRecDepth 100000 in
theorem kX10_search_130 {E : JE} {k54 : Int32 → Int32 → JI → JL → JG → JS → Option (Int32 × JI × JG)} {r : Int32 × JI × JG} {G : JG} {S : JS} (hL : Lay G S) (H54 : ∀ (l1 : Int32) (l2 : Int32) (I : JI) (L : JL) (D : JG), k54 l1 l2 I L D S = some r → AtJ E xX10_search (Zr E (some (.int r.1)) r.2.1 L G r.2.2 S) ((S).length, jm_sl S) 6 54 [(0, .ref (E.1 + 20)), (1, .int l1), (2, .int l2)] [] I L G D S) : ∀ (l2 : Int32) (l3 : Int32) (I : JI) (L : JL) (D : JG), fX10_search_130 k54 l2 l3 I L D S = some r → AtJ E xX10_search (Zr E (some (.int r.1)) r.2.1 L G r.2.2 S) ((S).length, jm_sl S) 6 130 [(0, .ref (E.1 + 20)), (2, .int l2), (3, .int l3)] [] I L G D S := by
  intro l2 l3 I L D  h
  unfold fX10_search_130 at h
  refine j_iload_n 131 dX10_search_130 rfl rfl 2 rfl ?_
  refine j_istore_n (lv' := [(1, .int l3), (0, .ref (E.1 + 20)), (2, .int l2), (3, .int l3)]) 132 dX10_search_131 rfl rfl (by decide) rfl ?_
  refine j_iinc (v := (l2 + (1 : Int32))) (lv' := [(2, .int (l2 + (1 : Int32))), (1, .int l3), (0, .ref (E.1 + 20)), (3, .int l3)]) (q := 2) 135 dX10_search_132 rfl rfl rfl (by decide) rfl ?_
  refine j_goto 54 dX10_search_135 (by decide) ?_
  refine j_sub [2, 1, 0] rfl ?_
  exact H54 _ _ _ _ _  h
def fX10_search_107 (k54 : Int32 → Int32 → JI → JL → JG → JS → Option (Int32 × JI × JG)) : Nat → Int32 → Int32 → Int32 → JI → JL → JG → JS → Option (Int32 × JI × JG)
  | 0, _, _, _, _, _, _, _ => none
  | n + 1, l2, l3, l4, I, L, D, S =>
    if l3 ≤ l4 then (fX10_search_130 k54 l2 l3 I L D S) else (j_g (j_in l4 169) ((fX10_spread (I 27 l4.toNatClampNeg) I L D S).bind (fun q2 => (fX10_search_107 k54 n) l2 l3 (l4 + (1 : Int32)) q2.1 L q2.2 S)))
set_option maxHeartbeats 4000000 in
set_option maxRecDepth 100000 in
theorem kX10_search_107 {E : JE} {k54 : Int32 → Int32 → JI → JL → JG → JS → Option (Int32 × JI × JG)} {r : Int32 × JI × JG} {G : JG} {S : JS} (hL : Lay G S) (H54 : ∀ (l1 : Int32) (l2 : Int32) (I : JI) (L : JL) (D : JG), k54 l1 l2 I L D S = some r → AtJ E xX10_search (Zr E (some (.int r.1)) r.2.1 L G r.2.2 S) ((S).length, jm_sl S) 6 54 [(0, .ref (E.1 + 20)), (1, .int l1), (2, .int l2)] [] I L G D S) : ∀ (n : Nat) (l2 : Int32) (l3 : Int32) (l4 : Int32) (I : JI) (L : JL) (D : JG), fX10_search_107 k54 n l2 l3 l4 I L D S = some r → AtJ E xX10_search (Zr E (some (.int r.1)) r.2.1 L G r.2.2 S) ((S).length, jm_sl S) 6 107 [(0, .ref (E.1 + 20)), (2, .int l2), (3, .int l3), (4, .int l4)] [] I L G D S := by
  intro n
  induction n with
  | zero => intro l2 l3 l4 I L D  h; simp [fX10_search_107] at h
  | succ n ih =>
    intro l2 l3 l4 I L D  h
    rw [fX10_search_107] at h
    refine j_iload 109 dX10_search_107 rfl 3 rfl ?_
    refine j_iload_n 110 dX10_search_109 rfl rfl 2 rfl ?_
    refine j_icmp_ge 130 113 dX10_search_110 (by decide) rfl (fun hc => ?_) (fun hc => ?_)
    · replace h := j_pos hc h
      refine j_sub [0, 1, 2] rfl ?_
      exact kX10_search_130 hL   H54 _ _ _ _ _  h
    · replace h := j_neg hc h
      refine j_aload_n 114 dX10_search_113 rfl rfl 0 rfl ?_
      refine j_aload_n 115 dX10_search_114 rfl rfl 0 rfl ?_
      refine j_getG 118 dX10_search_115 rfl (sh_20 hL) cl10 (k := 5) (by decide) flX10_25 rfl (gs_20_5 hL) ?_
      refine j_iload 120 dX10_search_118 rfl 3 rfl ?_
      obtain ⟨hg, h⟩ := j_gs h
      refine j_iald 121 dX10_search_120 rfl (sh_27 hL) (j_inv hg) ?_
      obtain ⟨q2, hq2, h⟩ := j_bs h
      refine j_callV (rest := []) (As := [.int (I 27 l4.toNatClampNeg)]) 124 dX10_search_121 rfl jyX10_spread (tcX10_spread hL  hq2) (sh_20 hL) cl10 flX10_132 wm1149 wm28 (by decide) rfl rfl (Nat.le_of_ble_eq_true rfl) ?_
      refine j_iinc (v := (l4 + (1 : Int32))) (lv' := [(4, .int (l4 + (1 : Int32))), (0, .ref (E.1 + 20)), (2, .int l2), (3, .int l3)]) (q := 3) 127 dX10_search_124 rfl rfl rfl (by decide) rfl ?_
      refine j_goto 107 dX10_search_127 (by decide) ?_
      refine j_sub [1, 2, 3, 0] rfl ?_
      exact ih _ _ _ _ _ _  h
def fX10_search_104 (k54 : Int32 → Int32 → JI → JL → JG → JS → Option (Int32 × JI × JG)) (l1 : Int32) (l2 : Int32) (l3 : Int32) (I : JI) (L : JL) (D : JG) (S : JS) : Option (Int32 × JI × JG) :=
  fX10_search_107 k54 100000 l2 l3 l1 I L D S
set_option maxHeartbeats 4000000 in
set_option maxRecDepth 100000 in
theorem kX10_search_104 {E : JE} {k54 : Int32 → Int32 → JI → JL → JG → JS → Option (Int32 × JI × JG)} {r : Int32 × JI × JG} {G : JG} {S : JS} (hL : Lay G S) (H54 : ∀ (l1 : Int32) (l2 : Int32) (I : JI) (L : JL) (D : JG), k54 l1 l2 I L D S = some r → AtJ E xX10_search (Zr E (some (.int r.1)) r.2.1 L G r.2.2 S) ((S).length, jm_sl S) 6 54 [(0, .ref (E.1 + 20)), (1, .int l1), (2, .int l2)] [] I L G D S) : ∀ (l1 : Int32) (l2 : Int32) (l3 : Int32) (I : JI) (L : JL) (D : JG), fX10_search_104 k54 l1 l2 l3 I L D S = some r → AtJ E xX10_search (Zr E (some (.int r.1)) r.2.1 L G r.2.2 S) ((S).length, jm_sl S) 6 104 [(0, .ref (E.1 + 20)), (1, .int l1), (2, .int l2), (3, .int l3)] [] I L G D S := by
  intro l1 l2 l3 I L D  h
  unfold fX10_search_104 at h
  refine j_iload_n 105 dX10_search_104 rfl rfl 1 rfl ?_
  refine j_istore (lv' := [(4, .int l1), (0, .ref (E.1 + 20)), (1, .int l1), (2, .int l2), (3, .int l3)]) 107 dX10_search_105 rfl (by decide) rfl ?_
  refine j_sub [1, 3, 4, 0] rfl ?_
  exact kX10_search_107 hL   H54 100000 _ _ _ _ _ _  h
def fX10_search_76 (k54 : Int32 → Int32 → JI → JL → JG → JS → Option (Int32 × JI × JG)) : Nat → Int32 → Int32 → Int32 → Int32 → JI → JL → JG → JS → Option (Int32 × JI × JG)
  | 0, _, _, _, _, _, _, _, _ => none
  | n + 1, l1, l2, l3, l4, I, L, D, S =>
    if l3 ≤ l4 then (fX10_search_104 k54 l1 l2 l3 I L D S) else (j_g (j_in l4 169) ((fX10_endsBehind (I 27 l4.toNatClampNeg) I L D S).bind (fun q1 => if q1.1 = 0 then ((fX10_search_76 k54 n) l1 l2 l3 (l4 + (1 : Int32)) q1.2.1 L q1.2.2 S) else (some (l2, q1.2.1, q1.2.2)))))
set_option maxHeartbeats 4000000 in
set_option maxRecDepth 100000 in
theorem kX10_search_76 {E : JE} {k54 : Int32 → Int32 → JI → JL → JG → JS → Option (Int32 × JI × JG)} {r : Int32 × JI × JG} {G : JG} {S : JS} (hL : Lay G S) (H54 : ∀ (l1 : Int32) (l2 : Int32) (I : JI) (L : JL) (D : JG), k54 l1 l2 I L D S = some r → AtJ E xX10_search (Zr E (some (.int r.1)) r.2.1 L G r.2.2 S) ((S).length, jm_sl S) 6 54 [(0, .ref (E.1 + 20)), (1, .int l1), (2, .int l2)] [] I L G D S) : ∀ (n : Nat) (l1 : Int32) (l2 : Int32) (l3 : Int32) (l4 : Int32) (I : JI) (L : JL) (D : JG), fX10_search_76 k54 n l1 l2 l3 l4 I L D S = some r → AtJ E xX10_search (Zr E (some (.int r.1)) r.2.1 L G r.2.2 S) ((S).length, jm_sl S) 6 76 [(0, .ref (E.1 + 20)), (1, .int l1), (2, .int l2), (3, .int l3), (4, .int l4)] [] I L G D S := by
  intro n
  induction n with
  | zero => intro l1 l2 l3 l4 I L D  h; simp [fX10_search_76] at h
  | succ n ih =>
    intro l1 l2 l3 l4 I L D  h
    rw [fX10_search_76] at h
    refine j_iload 78 dX10_search_76 rfl 4 rfl ?_
    refine j_iload_n 79 dX10_search_78 rfl rfl 3 rfl ?_
    refine j_icmp_ge 104 82 dX10_search_79 (by decide) rfl (fun hc => ?_) (fun hc => ?_)
    · replace h := j_pos hc h
      refine j_sub [0, 1, 2, 3] rfl ?_
      exact kX10_search_104 hL   H54 _ _ _ _ _ _  h
    · replace h := j_neg hc h
      refine j_aload_n 83 dX10_search_82 rfl rfl 0 rfl ?_
      refine j_aload_n 84 dX10_search_83 rfl rfl 0 rfl ?_
      refine j_getG 87 dX10_search_84 rfl (sh_20 hL) cl10 (k := 5) (by decide) flX10_25 rfl (gs_20_5 hL) ?_
      refine j_iload 89 dX10_search_87 rfl 4 rfl ?_
      obtain ⟨hg, h⟩ := j_gs h
      refine j_iald 90 dX10_search_89 rfl (sh_27 hL) (j_inv hg) ?_
      obtain ⟨q1, hq1, h⟩ := j_bs h
      refine j_callV (rest := []) (As := [.int (I 27 l4.toNatClampNeg)]) 93 dX10_search_90 rfl jyX10_endsBehind (tcX10_endsBehind hL  hq1) (sh_20 hL) cl10 flX10_128 wm1108 wm26 (by decide) rfl rfl (Nat.le_of_ble_eq_true rfl) ?_
      refine j_if_eq 98 96 dX10_search_93 (by decide) rfl (fun hc => ?_) (fun hc => ?_)
      · replace h := j_pos hc h
        refine j_iinc (v := (l4 + (1 : Int32))) (lv' := [(4, .int (l4 + (1 : Int32))), (0, .ref (E.1 + 20)), (1, .int l1), (2, .int l2), (3, .int l3)]) (q := 4) 101 dX10_search_98 rfl rfl rfl (by decide) rfl ?_
        refine j_goto 76 dX10_search_101 (by decide) ?_
        refine j_sub [1, 2, 3, 4, 0] rfl ?_
        exact ih _ _ _ _ _ _ _  h
      · replace h := j_neg hc h
        refine j_iload_n 97 dX10_search_96 rfl rfl 2 rfl ?_
        cases h
        exact j_iret dX10_search_97 rfl
def fX10_search_54 : Nat → Int32 → Int32 → JI → JL → JG → JS → Option (Int32 × JI × JG)
  | 0, _, _, _, _, _, _ => none
  | n + 1, l1, l2, I, L, D, S =>
    if (24 : Int32) < l2 then (some ((-1 : Int32), I, D)) else (if (I 20 8) ≤ l1 then (some ((-1 : Int32), I, D)) else (fX10_search_76 (fX10_search_54 n) 100000 l1 l2 (I 20 8) l1 I L D S))
set_option maxHeartbeats 4000000 in
set_option maxRecDepth 100000 in
theorem kX10_search_54 {E : JE} {r : Int32 × JI × JG} {G : JG} {S : JS} (hL : Lay G S) : ∀ (n : Nat) (l1 : Int32) (l2 : Int32) (I : JI) (L : JL) (D : JG), fX10_search_54 n l1 l2 I L D S = some r → AtJ E xX10_search (Zr E (some (.int r.1)) r.2.1 L G r.2.2 S) ((S).length, jm_sl S) 6 54 [(0, .ref (E.1 + 20)), (1, .int l1), (2, .int l2)] [] I L G D S := by
  intro n
  induction n with
  | zero => intro l1 l2 I L D  h; simp [fX10_search_54] at h
  | succ n ih =>
    intro l1 l2 I L D  h
    rw [fX10_search_54] at h
    refine j_iload_n 55 dX10_search_54 rfl rfl 2 rfl ?_
    refine j_bipush (v := (24 : Int32)) 57 dX10_search_55 rfl (by decide) ?_
    refine j_icmp_gt 138 60 dX10_search_57 (by decide) rfl (fun hc => ?_) (fun hc => ?_)
    · replace h := j_pos hc h
      refine j_iconst (v := (-1 : Int32)) 139 dX10_search_138 rfl (by decide) ?_
      cases h
      exact j_iret dX10_search_139 rfl
    · replace h := j_neg hc h
      refine j_iload_n 61 dX10_search_60 rfl rfl 1 rfl ?_
      refine j_aload_n 62 dX10_search_61 rfl rfl 0 rfl ?_
      refine j_getI 65 dX10_search_62 rfl (sh_20 hL) cl10 (k := 8) (by decide) flX10_125 rfl ?_
      refine j_icmp_ge 138 68 dX10_search_65 (by decide) rfl (fun hc => ?_) (fun hc => ?_)
      · replace h := j_pos hc h
        refine j_iconst (v := (-1 : Int32)) 139 dX10_search_138 rfl (by decide) ?_
        cases h
        exact j_iret dX10_search_139 rfl
      · replace h := j_neg hc h
        refine j_aload_n 69 dX10_search_68 rfl rfl 0 rfl ?_
        refine j_getI 72 dX10_search_69 rfl (sh_20 hL) cl10 (k := 8) (by decide) flX10_125 rfl ?_
        refine j_istore_n (lv' := [(3, .int (I 20 8)), (0, .ref (E.1 + 20)), (1, .int l1), (2, .int l2)]) 73 dX10_search_72 rfl rfl (by decide) rfl ?_
        refine j_iload_n 74 dX10_search_73 rfl rfl 2 rfl ?_
        refine j_istore (lv' := [(4, .int l1), (3, .int (I 20 8)), (0, .ref (E.1 + 20)), (1, .int l1), (2, .int l2)]) 76 dX10_search_74 rfl (by decide) rfl ?_
        refine j_sub [2, 3, 4, 1, 0] rfl ?_
        exact kX10_search_76 hL   ih 100000 _ _ _ _ _ _ _  h
def fX10_search_22 (I : JI) (L : JL) (D : JG) (S : JS) : Option (Int32 × JI × JG) :=
  j_g (j_in (I 20 16) 169) (j_g (j_in (0 : Int32) 169) (fX10_search_54 100000 (0 : Int32) (1 : Int32) (j_up (j_up (j_up I 28 (I 20 16).toNatClampNeg (I 20 16)) 27 (0 : Int32).toNatClampNeg ((j_up I 28 (I 20 16).toNatClampNeg (I 20 16)) 20 16)) 20 8 (1 : Int32)) L D S))
set_option maxHeartbeats 4000000 in
set_option maxRecDepth 100000 in
theorem kX10_search_22 {E : JE} {r : Int32 × JI × JG} {G : JG} {S : JS} (hL : Lay G S) : ∀ (I : JI) (L : JL) (D : JG), fX10_search_22 I L D S = some r → AtJ E xX10_search (Zr E (some (.int r.1)) r.2.1 L G r.2.2 S) ((S).length, jm_sl S) 6 22 [(0, .ref (E.1 + 20))] [] I L G D S := by
  intro I L D  h
  unfold fX10_search_22 at h
  refine j_aload_n 23 dX10_search_22 rfl rfl 0 rfl ?_
  refine j_getG 26 dX10_search_23 rfl (sh_20 hL) cl10 (k := 6) (by decide) flX10_29 rfl (gs_20_6 hL) ?_
  refine j_aload_n 27 dX10_search_26 rfl rfl 0 rfl ?_
  refine j_getI 30 dX10_search_27 rfl (sh_20 hL) cl10 (k := 16) (by decide) flX10_69 rfl ?_
  refine j_aload_n 31 dX10_search_30 rfl rfl 0 rfl ?_
  refine j_getI 34 dX10_search_31 rfl (sh_20 hL) cl10 (k := 16) (by decide) flX10_69 rfl ?_
  obtain ⟨hg, h⟩ := j_gs h
  refine j_iast 35 dX10_search_34 rfl (sh_28 hL) (j_inv hg) ?_
  refine j_aload_n 36 dX10_search_35 rfl rfl 0 rfl ?_
  refine j_getG 39 dX10_search_36 rfl (sh_20 hL) cl10 (k := 5) (by decide) flX10_25 rfl (gs_20_5 hL) ?_
  refine j_iconst (v := (0 : Int32)) 40 dX10_search_39 rfl (by decide) ?_
  refine j_aload_n 41 dX10_search_40 rfl rfl 0 rfl ?_
  refine j_getI 44 dX10_search_41 rfl (sh_20 hL) cl10 (k := 16) (by decide) flX10_69 rfl ?_
  obtain ⟨hg, h⟩ := j_gs h
  refine j_iast 45 dX10_search_44 rfl (sh_27 hL) (j_inv hg) ?_
  refine j_aload_n 46 dX10_search_45 rfl rfl 0 rfl ?_
  refine j_iconst (v := (1 : Int32)) 47 dX10_search_46 rfl (by decide) ?_
  refine j_putI 50 dX10_search_47 rfl (sh_20 hL) cl10 (k := 8) (by decide) flX10_125 rfl rfl rfl ?_
  refine j_iconst (v := (0 : Int32)) 51 dX10_search_50 rfl (by decide) ?_
  refine j_istore_n (lv' := [(1, .int (0 : Int32)), (0, .ref (E.1 + 20))]) 52 dX10_search_51 rfl rfl (by decide) rfl ?_
  refine j_iconst (v := (1 : Int32)) 53 dX10_search_52 rfl (by decide) ?_
  refine j_istore_n (lv' := [(2, .int (1 : Int32)), (1, .int (0 : Int32)), (0, .ref (E.1 + 20))]) 54 dX10_search_53 rfl rfl (by decide) rfl ?_
  refine j_sub [2, 1, 0] rfl ?_
  exact kX10_search_54 hL    100000 _ _ _ _ _  h
def fX10_search_2 : Nat → Int32 → JI → JL → JG → JS → Option (Int32 × JI × JG)
  | 0, _, _, _, _, _ => none
  | n + 1, l1, I, L, D, S =>
    if (169 : Int32) ≤ l1 then (fX10_search_22 I L D S) else (j_g (j_in l1 169) ((fX10_search_2 n) (l1 + (1 : Int32)) (j_up I 28 l1.toNatClampNeg (-1 : Int32)) L D S))
set_option maxHeartbeats 4000000 in
set_option maxRecDepth 100000 in
theorem kX10_search_2 {E : JE} {r : Int32 × JI × JG} {G : JG} {S : JS} (hL : Lay G S) : ∀ (n : Nat) (l1 : Int32) (I : JI) (L : JL) (D : JG), fX10_search_2 n l1 I L D S = some r → AtJ E xX10_search (Zr E (some (.int r.1)) r.2.1 L G r.2.2 S) ((S).length, jm_sl S) 6 2 [(0, .ref (E.1 + 20)), (1, .int l1)] [] I L G D S := by
  intro n
  induction n with
  | zero => intro l1 I L D  h; simp [fX10_search_2] at h
  | succ n ih =>
    intro l1 I L D  h
    rw [fX10_search_2] at h
    refine j_iload_n 3 dX10_search_2 rfl rfl 1 rfl ?_
    refine j_sipush (v := (169 : Int32)) 6 dX10_search_3 rfl (by decide) ?_
    refine j_icmp_ge 22 9 dX10_search_6 (by decide) rfl (fun hc => ?_) (fun hc => ?_)
    · replace h := j_pos hc h
      refine j_sub [0] rfl ?_
      exact kX10_search_22 hL    _ _ _  h
    · replace h := j_neg hc h
      refine j_aload_n 10 dX10_search_9 rfl rfl 0 rfl ?_
      refine j_getG 13 dX10_search_10 rfl (sh_20 hL) cl10 (k := 6) (by decide) flX10_29 rfl (gs_20_6 hL) ?_
      refine j_iload_n 14 dX10_search_13 rfl rfl 1 rfl ?_
      refine j_iconst (v := (-1 : Int32)) 15 dX10_search_14 rfl (by decide) ?_
      obtain ⟨hg, h⟩ := j_gs h
      refine j_iast 16 dX10_search_15 rfl (sh_28 hL) (j_inv hg) ?_
      refine j_iinc (v := (l1 + (1 : Int32))) (lv' := [(1, .int (l1 + (1 : Int32))), (0, .ref (E.1 + 20))]) (q := 1) 19 dX10_search_16 rfl rfl rfl (by decide) rfl ?_
      refine j_goto 2 dX10_search_19 (by decide) ?_
      refine j_sub [1, 0] rfl ?_
      exact ih _ _ _ _  h
def fX10_search (I : JI) (L : JL) (D : JG) (S : JS) : Option (Int32 × JI × JG) :=
  fX10_search_2 100000 (0 : Int32) I L D S
set_option maxHeartbeats 4000000 in
set_option maxRecDepth 100000 in
theorem tcX10_search {E : JE} {r : Int32 × JI × JG} {I : JI} {L : JL} {G D : JG} {S : JS} (hL : Lay G S) (h : fX10_search I L D S = some r) : CallJ E xX10_search 6 [.ref (E.1 + 20)] I L G D S (some (.int r.1)) r.2.1 L G r.2.2 S := by
  unfold fX10_search at h
  refine j_entry (by decide) (Nat.le_of_ble_eq_true rfl) ?_
  show AtJ E xX10_search (Zr E (some (.int r.1)) r.2.1 L G r.2.2 S) ((S).length, jm_sl S) 6 0 [(0, .ref (E.1 + 20))] [] I L G D S
  refine j_iconst (v := (0 : Int32)) 1 dX10_search_0 rfl (by decide) ?_
  refine j_istore_n (lv' := [(1, .int (0 : Int32)), (0, .ref (E.1 + 20))]) 2 dX10_search_1 rfl rfl (by decide) rfl ?_
  refine j_sub [1, 0] rfl ?_
  exact kX10_search_2 hL    100000 _ _ _ _  h
def fX10_findRow_59 (l1 : Int32) (l2 : Int32) (l3 : Int32) (l4 : Int32) (I : JI) (L : JL) (D : JG) (S : JS) : Option (Int32 × JI × JG) :=
  (fX10_begin l1 l2 l3 l4 I).bind (fun q1 => (fX10_search q1 L D S).bind (fun q2 => some (((j_up (j_up q2.2.1 20 18 q2.1) 20 19 ((j_up q2.2.1 20 18 q2.1) 1 9)) 20 18), (j_up (j_up q2.2.1 20 18 q2.1) 20 19 ((j_up q2.2.1 20 18 q2.1) 1 9)), q2.2.2)))
set_option maxHeartbeats 4000000 in
set_option maxRecDepth 100000 in
theorem kX10_findRow_59 {E : JE} {r : Int32 × JI × JG} {G : JG} {S : JS} (hL : Lay G S) : ∀ (l1 : Int32) (l2 : Int32) (l3 : Int32) (l4 : Int32) (I : JI) (L : JL) (D : JG), fX10_findRow_59 l1 l2 l3 l4 I L D S = some r → AtJ E xX10_findRow (Zr E (some (.int r.1)) r.2.1 L G r.2.2 S) ((S).length, jm_sl S) 7 59 [(0, .ref (E.1 + 20)), (1, .int l1), (2, .int l2), (3, .int l3), (4, .int l4)] [] I L G D S := by
  intro l1 l2 l3 l4 I L D  h
  unfold fX10_findRow_59 at h
  refine j_aload_n 60 dX10_findRow_59 rfl rfl 0 rfl ?_
  refine j_iload_n 61 dX10_findRow_60 rfl rfl 1 rfl ?_
  refine j_iload_n 62 dX10_findRow_61 rfl rfl 2 rfl ?_
  refine j_iload_n 63 dX10_findRow_62 rfl rfl 3 rfl ?_
  refine j_iload 65 dX10_findRow_63 rfl 4 rfl ?_
  obtain ⟨q1, hq1, h⟩ := j_bs h
  refine j_callV (rest := []) (As := [.int l1, .int l2, .int l3, .int l4]) 68 dX10_findRow_65 rfl jyX10_begin (tcX10_begin hL  hq1) (sh_20 hL) cl10 flX10_115 wm1091 wm1092 (by decide) rfl rfl (Nat.le_of_ble_eq_true rfl) ?_
  refine j_aload_n 69 dX10_findRow_68 rfl rfl 0 rfl ?_
  refine j_aload_n 70 dX10_findRow_69 rfl rfl 0 rfl ?_
  obtain ⟨q2, hq2, h⟩ := j_bs h
  refine j_callV (rest := [.ref (E.1 + 20)]) (As := []) 73 dX10_findRow_70 rfl jyX10_search (tcX10_search hL  hq2) (sh_20 hL) cl10 flX10_118 wm1104 wm25 (by decide) rfl rfl (Nat.le_of_ble_eq_true rfl) ?_
  refine j_putI 76 dX10_findRow_73 rfl (sh_20 hL) cl10 (k := 18) (by decide) flX10_122 rfl rfl rfl ?_
  refine j_aload_n 77 dX10_findRow_76 rfl rfl 0 rfl ?_
  refine j_aload_n 78 dX10_findRow_77 rfl rfl 0 rfl ?_
  refine j_getG 81 dX10_findRow_78 rfl (sh_20 hL) cl10 (k := 0) (by decide) flX10_39 rfl (gs_20_0 hL) ?_
  refine j_getIN 84 dX10_findRow_81 rfl (sh_1 hL) cl9 (k := 9) (by decide) flX10_110 rfl ?_
  refine j_putI 87 dX10_findRow_84 rfl (sh_20 hL) cl10 (k := 19) (by decide) flX10_35 rfl rfl rfl ?_
  refine j_aload_n 88 dX10_findRow_87 rfl rfl 0 rfl ?_
  refine j_getI 91 dX10_findRow_88 rfl (sh_20 hL) cl10 (k := 18) (by decide) flX10_122 rfl ?_
  cases h
  exact j_iret dX10_findRow_91 rfl
def fX10_findRow_38 (l1 : Int32) (l2 : Int32) (l3 : Int32) (l4 : Int32) (s0 : Int32) (I : JI) (L : JL) (D : JG) (S : JS) : Option (Int32 × JI × JG) :=
  if s0 = 0 then (fX10_findRow_59 l1 l2 l3 l4 I L D S) else (if (I 20 19) = (I 1 9) then (some ((I 20 18), I, D)) else (fX10_findRow_59 l1 l2 l3 l4 I L D S))
set_option maxHeartbeats 4000000 in
set_option maxRecDepth 100000 in
theorem kX10_findRow_38 {E : JE} {r : Int32 × JI × JG} {G : JG} {S : JS} (hL : Lay G S) : ∀ (l1 : Int32) (l2 : Int32) (l3 : Int32) (l4 : Int32) (s0 : Int32) (I : JI) (L : JL) (D : JG), fX10_findRow_38 l1 l2 l3 l4 s0 I L D S = some r → AtJ E xX10_findRow (Zr E (some (.int r.1)) r.2.1 L G r.2.2 S) ((S).length, jm_sl S) 7 38 [(0, .ref (E.1 + 20)), (1, .int l1), (2, .int l2), (3, .int l3), (4, .int l4)] [.int s0] I L G D S := by
  intro l1 l2 l3 l4 s0 I L D  h
  unfold fX10_findRow_38 at h
  refine j_istore (lv' := [(5, .int s0), (0, .ref (E.1 + 20)), (1, .int l1), (2, .int l2), (3, .int l3), (4, .int l4)]) 40 dX10_findRow_38 rfl (by decide) rfl ?_
  refine j_iload 42 dX10_findRow_40 rfl 0 rfl ?_
  refine j_if_eq 59 45 dX10_findRow_42 (by decide) rfl (fun hc => ?_) (fun hc => ?_)
  · replace h := j_pos hc h
    refine j_sub [1, 2, 3, 4, 5] rfl ?_
    exact kX10_findRow_59 hL    _ _ _ _ _ _ _  h
  · replace h := j_neg hc h
    refine j_aload_n 46 dX10_findRow_45 rfl rfl 1 rfl ?_
    refine j_getI 49 dX10_findRow_46 rfl (sh_20 hL) cl10 (k := 19) (by decide) flX10_35 rfl ?_
    refine j_aload_n 50 dX10_findRow_49 rfl rfl 1 rfl ?_
    refine j_getG 53 dX10_findRow_50 rfl (sh_20 hL) cl10 (k := 0) (by decide) flX10_39 rfl (gs_20_0 hL) ?_
    refine j_getIN 56 dX10_findRow_53 rfl (sh_1 hL) cl9 (k := 9) (by decide) flX10_110 rfl ?_
    refine j_icmp_eq 87 59 dX10_findRow_56 (by decide) rfl (fun hc => ?_) (fun hc => ?_)
    · replace h := j_pos hc h
      refine j_aload_n 88 dX10_findRow_87 rfl rfl 1 rfl ?_
      refine j_getI 91 dX10_findRow_88 rfl (sh_20 hL) cl10 (k := 18) (by decide) flX10_122 rfl ?_
      cases h
      exact j_iret dX10_findRow_91 rfl
    · replace h := j_neg hc h
      refine j_sub [1, 2, 3, 4, 5] rfl ?_
      exact kX10_findRow_59 hL    _ _ _ _ _ _ _  h
def fX10_findRow (l1 : Int32) (l2 : Int32) (l3 : Int32) (l4 : Int32) (I : JI) (L : JL) (D : JG) (S : JS) : Option (Int32 × JI × JG) :=
  if (I 20 9) = l1 then (if (I 20 11) = l2 then (if (I 20 12) = l3 then (if (I 20 13) = l4 then (fX10_findRow_38 l1 l2 l3 l4 (1 : Int32) I L D S) else (fX10_findRow_38 l1 l2 l3 l4 (0 : Int32) I L D S)) else (fX10_findRow_38 l1 l2 l3 l4 (0 : Int32) I L D S)) else (fX10_findRow_38 l1 l2 l3 l4 (0 : Int32) I L D S)) else (fX10_findRow_38 l1 l2 l3 l4 (0 : Int32) I L D S)
set_option maxHeartbeats 4000000 in
set_option maxRecDepth 100000 in
theorem tcX10_findRow {E : JE} {l1 : Int32} {l2 : Int32} {l3 : Int32} {l4 : Int32} {r : Int32 × JI × JG} {I : JI} {L : JL} {G D : JG} {S : JS} (hL : Lay G S) (h : fX10_findRow l1 l2 l3 l4 I L D S = some r) : CallJ E xX10_findRow 7 [.ref (E.1 + 20), .int l1, .int l2, .int l3, .int l4] I L G D S (some (.int r.1)) r.2.1 L G r.2.2 S := by
  unfold fX10_findRow at h
  refine j_entry (by decide) (Nat.le_of_ble_eq_true rfl) ?_
  show AtJ E xX10_findRow (Zr E (some (.int r.1)) r.2.1 L G r.2.2 S) ((S).length, jm_sl S) 7 0 [(0, .ref (E.1 + 20)), (1, .int l1), (2, .int l2), (3, .int l3), (4, .int l4)] [] I L G D S
  refine j_aload_n 1 dX10_findRow_0 rfl rfl 0 rfl ?_
  refine j_getI 4 dX10_findRow_1 rfl (sh_20 hL) cl10 (k := 9) (by decide) flX10_50 rfl ?_
  refine j_iload_n 5 dX10_findRow_4 rfl rfl 1 rfl ?_
  refine j_icmp_ne 37 8 dX10_findRow_5 (by decide) rfl (fun hc => ?_) (fun hc => ?_)
  · replace h := j_neg hc h
    refine j_iconst (v := (0 : Int32)) 38 dX10_findRow_37 rfl (by decide) ?_
    exact kX10_findRow_38 hL    _ _ _ _ _ _ _ _  h
  · replace h := j_pos hc h
    refine j_aload_n 9 dX10_findRow_8 rfl rfl 0 rfl ?_
    refine j_getI 12 dX10_findRow_9 rfl (sh_20 hL) cl10 (k := 11) (by decide) flX10_53 rfl ?_
    refine j_iload_n 13 dX10_findRow_12 rfl rfl 2 rfl ?_
    refine j_icmp_ne 37 16 dX10_findRow_13 (by decide) rfl (fun hc => ?_) (fun hc => ?_)
    · replace h := j_neg hc h
      refine j_iconst (v := (0 : Int32)) 38 dX10_findRow_37 rfl (by decide) ?_
      exact kX10_findRow_38 hL    _ _ _ _ _ _ _ _  h
    · replace h := j_pos hc h
      refine j_aload_n 17 dX10_findRow_16 rfl rfl 0 rfl ?_
      refine j_getI 20 dX10_findRow_17 rfl (sh_20 hL) cl10 (k := 12) (by decide) flX10_56 rfl ?_
      refine j_iload_n 21 dX10_findRow_20 rfl rfl 3 rfl ?_
      refine j_icmp_ne 37 24 dX10_findRow_21 (by decide) rfl (fun hc => ?_) (fun hc => ?_)
      · replace h := j_neg hc h
        refine j_iconst (v := (0 : Int32)) 38 dX10_findRow_37 rfl (by decide) ?_
        exact kX10_findRow_38 hL    _ _ _ _ _ _ _ _  h
      · replace h := j_pos hc h
        refine j_aload_n 25 dX10_findRow_24 rfl rfl 0 rfl ?_
        refine j_getI 28 dX10_findRow_25 rfl (sh_20 hL) cl10 (k := 13) (by decide) flX10_59 rfl ?_
        refine j_iload 30 dX10_findRow_28 rfl 4 rfl ?_
        refine j_icmp_ne 37 33 dX10_findRow_30 (by decide) rfl (fun hc => ?_) (fun hc => ?_)
        · replace h := j_neg hc h
          refine j_iconst (v := (0 : Int32)) 38 dX10_findRow_37 rfl (by decide) ?_
          exact kX10_findRow_38 hL    _ _ _ _ _ _ _ _  h
        · replace h := j_pos hc h
          refine j_iconst (v := (1 : Int32)) 34 dX10_findRow_33 rfl (by decide) ?_
          refine j_goto 38 dX10_findRow_34 (by decide) ?_
          exact kX10_findRow_38 hL    _ _ _ _ _ _ _ _  h
def fX10_stepTells_34 (l2 : Int32) (l3 : Int32) (I : JI) : Option (Int32) :=
  j_g (j_in l3 169) (if l2 = 0 then (if (13 : Int32) ≤ ((I 29 l3.toNatClampNeg) / (3 : Int32)) then (some ((I 20 10))) else (some ((I 20 9)))) else (if l2 = (1 : Int32) then (some ((((I 29 l3.toNatClampNeg) / (3 : Int32)) - ((I 29 l3.toNatClampNeg) / (3 : Int32)) / (13 : Int32) * (13 : Int32)))) else (some (((I 29 l3.toNatClampNeg) - (I 29 l3.toNatClampNeg) / (3 : Int32) * (3 : Int32))))))
set_option maxHeartbeats 4000000 in
set_option maxRecDepth 100000 in
theorem kX10_stepTells_34 {E : JE} {r : Int32} {L : JL} {G : JG} {D : JG} {S : JS} (hL : Lay G S) : ∀ (l2 : Int32) (l3 : Int32) (I : JI), fX10_stepTells_34 l2 l3 I = some r → AtJ E xX10_stepTells (Zr E (some (.int r)) I L G D S) ((S).length, jm_sl S) 1 34 [(0, .ref (E.1 + 20)), (2, .int l2), (3, .int l3)] [] I L G D S := by
  intro l2 l3 I  h
  unfold fX10_stepTells_34 at h
  refine j_aload_n 35 dX10_stepTells_34 rfl rfl 0 rfl ?_
  refine j_getG 38 dX10_stepTells_35 rfl (sh_20 hL) cl10 (k := 7) (by decide) flX10_32 rfl (gs_20_7 hL) ?_
  refine j_iload_n 39 dX10_stepTells_38 rfl rfl 2 rfl ?_
  obtain ⟨hg, h⟩ := j_gs h
  refine j_iald 40 dX10_stepTells_39 rfl (sh_29 hL) (j_inv hg) ?_
  refine j_istore (lv' := [(4, .int (I 29 l3.toNatClampNeg)), (0, .ref (E.1 + 20)), (2, .int l2), (3, .int l3)]) 42 dX10_stepTells_40 rfl (by decide) rfl ?_
  refine j_iload_n 43 dX10_stepTells_42 rfl rfl 2 rfl ?_
  refine j_if_ne 67 46 dX10_stepTells_43 (by decide) rfl (fun hc => ?_) (fun hc => ?_)
  · replace h := j_neg hc h
    refine j_iload_n 68 dX10_stepTells_67 rfl rfl 2 rfl ?_
    refine j_iconst (v := (1 : Int32)) 69 dX10_stepTells_68 rfl (by decide) ?_
    refine j_icmp_ne 82 72 dX10_stepTells_69 (by decide) rfl (fun hc => ?_) (fun hc => ?_)
    · replace h := j_neg hc h
      refine j_iload 84 dX10_stepTells_82 rfl 0 rfl ?_
      refine j_iconst (v := (3 : Int32)) 85 dX10_stepTells_84 rfl (by decide) ?_
      refine j_irem 86 dX10_stepTells_85 rfl (by decide) ?_
      cases h
      exact j_iret dX10_stepTells_86 rfl
    · replace h := j_pos hc h
      refine j_iload 74 dX10_stepTells_72 rfl 0 rfl ?_
      refine j_iconst (v := (3 : Int32)) 75 dX10_stepTells_74 rfl (by decide) ?_
      refine j_idiv 76 dX10_stepTells_75 rfl (by decide) ?_
      refine j_bipush (v := (13 : Int32)) 78 dX10_stepTells_76 rfl (by decide) ?_
      refine j_irem 79 dX10_stepTells_78 rfl (by decide) ?_
      refine j_goto 86 dX10_stepTells_79 (by decide) ?_
      cases h
      exact j_iret dX10_stepTells_86 rfl
  · replace h := j_pos hc h
    refine j_iload 48 dX10_stepTells_46 rfl 0 rfl ?_
    refine j_iconst (v := (3 : Int32)) 49 dX10_stepTells_48 rfl (by decide) ?_
    refine j_idiv 50 dX10_stepTells_49 rfl (by decide) ?_
    refine j_bipush (v := (13 : Int32)) 52 dX10_stepTells_50 rfl (by decide) ?_
    refine j_icmp_ge 62 55 dX10_stepTells_52 (by decide) rfl (fun hc => ?_) (fun hc => ?_)
    · replace h := j_pos hc h
      refine j_aload_n 63 dX10_stepTells_62 rfl rfl 1 rfl ?_
      refine j_getI 66 dX10_stepTells_63 rfl (sh_20 hL) cl10 (k := 10) (by decide) flX10_62 rfl ?_
      cases h
      exact j_iret dX10_stepTells_66 rfl
    · replace h := j_neg hc h
      refine j_aload_n 56 dX10_stepTells_55 rfl rfl 1 rfl ?_
      refine j_getI 59 dX10_stepTells_56 rfl (sh_20 hL) cl10 (k := 9) (by decide) flX10_50 rfl ?_
      refine j_goto 66 dX10_stepTells_59 (by decide) ?_
      cases h
      exact j_iret dX10_stepTells_66 rfl
def fX10_stepTells_8 : Nat → Int32 → Int32 → Int32 → Int32 → JI → Option (Int32)
  | 0, _, _, _, _, _ => none
  | n + 1, l1, l2, l3, l4, I =>
    if l1 ≤ l4 then (fX10_stepTells_34 l2 l3 I) else (if (24 : Int32) ≤ l4 then (fX10_stepTells_34 l2 l3 I) else (j_g (j_in l3 169) ((fX10_stepTells_8 n) l1 l2 (I 28 l3.toNatClampNeg) (l4 + (1 : Int32)) I)))
set_option maxHeartbeats 4000000 in
set_option maxRecDepth 100000 in
theorem kX10_stepTells_8 {E : JE} {r : Int32} {L : JL} {G : JG} {D : JG} {S : JS} (hL : Lay G S) : ∀ (n : Nat) (l1 : Int32) (l2 : Int32) (l3 : Int32) (l4 : Int32) (I : JI), fX10_stepTells_8 n l1 l2 l3 l4 I = some r → AtJ E xX10_stepTells (Zr E (some (.int r)) I L G D S) ((S).length, jm_sl S) 1 8 [(0, .ref (E.1 + 20)), (1, .int l1), (2, .int l2), (3, .int l3), (4, .int l4)] [] I L G D S := by
  intro n
  induction n with
  | zero => intro l1 l2 l3 l4 I  h; simp [fX10_stepTells_8] at h
  | succ n ih =>
    intro l1 l2 l3 l4 I  h
    rw [fX10_stepTells_8] at h
    refine j_iload 10 dX10_stepTells_8 rfl 4 rfl ?_
    refine j_iload_n 11 dX10_stepTells_10 rfl rfl 1 rfl ?_
    refine j_icmp_ge 34 14 dX10_stepTells_11 (by decide) rfl (fun hc => ?_) (fun hc => ?_)
    · replace h := j_pos hc h
      refine j_sub [0, 2, 3] rfl ?_
      exact kX10_stepTells_34 hL    _ _ _  h
    · replace h := j_neg hc h
      refine j_iload 16 dX10_stepTells_14 rfl 4 rfl ?_
      refine j_bipush (v := (24 : Int32)) 18 dX10_stepTells_16 rfl (by decide) ?_
      refine j_icmp_ge 34 21 dX10_stepTells_18 (by decide) rfl (fun hc => ?_) (fun hc => ?_)
      · replace h := j_pos hc h
        refine j_sub [0, 2, 3] rfl ?_
        exact kX10_stepTells_34 hL    _ _ _  h
      · replace h := j_neg hc h
        refine j_aload_n 22 dX10_stepTells_21 rfl rfl 0 rfl ?_
        refine j_getG 25 dX10_stepTells_22 rfl (sh_20 hL) cl10 (k := 6) (by decide) flX10_29 rfl (gs_20_6 hL) ?_
        refine j_iload_n 26 dX10_stepTells_25 rfl rfl 3 rfl ?_
        obtain ⟨hg, h⟩ := j_gs h
        refine j_iald 27 dX10_stepTells_26 rfl (sh_28 hL) (j_inv hg) ?_
        refine j_istore_n (lv' := [(3, .int (I 28 l3.toNatClampNeg)), (0, .ref (E.1 + 20)), (1, .int l1), (2, .int l2), (4, .int l4)]) 28 dX10_stepTells_27 rfl rfl (by decide) rfl ?_
        refine j_iinc (v := (l4 + (1 : Int32))) (lv' := [(4, .int (l4 + (1 : Int32))), (3, .int (I 28 l3.toNatClampNeg)), (0, .ref (E.1 + 20)), (1, .int l1), (2, .int l2)]) (q := 4) 31 dX10_stepTells_28 rfl rfl rfl (by decide) rfl ?_
        refine j_goto 8 dX10_stepTells_31 (by decide) ?_
        refine j_sub [2, 3, 4, 1, 0] rfl ?_
        exact ih _ _ _ _ _  h
def fX10_stepTells (l1 : Int32) (l2 : Int32) (I : JI) : Option (Int32) :=
  fX10_stepTells_8 100000 l1 l2 (I 20 17) (0 : Int32) I
set_option maxHeartbeats 4000000 in
set_option maxRecDepth 100000 in
theorem tcX10_stepTells {E : JE} {l1 : Int32} {l2 : Int32} {r : Int32} {I : JI} {L : JL} {G D : JG} {S : JS} (hL : Lay G S) (h : fX10_stepTells l1 l2 I = some r) : CallJ E xX10_stepTells 1 [.ref (E.1 + 20), .int l1, .int l2] I L G D S (some (.int r)) I L G D S := by
  unfold fX10_stepTells at h
  refine j_entry (by decide) (Nat.le_of_ble_eq_true rfl) ?_
  show AtJ E xX10_stepTells (Zr E (some (.int r)) I L G D S) ((S).length, jm_sl S) 1 0 [(0, .ref (E.1 + 20)), (1, .int l1), (2, .int l2)] [] I L G D S
  refine j_aload_n 1 dX10_stepTells_0 rfl rfl 0 rfl ?_
  refine j_getI 4 dX10_stepTells_1 rfl (sh_20 hL) cl10 (k := 17) (by decide) flX10_149 rfl ?_
  refine j_istore_n (lv' := [(3, .int (I 20 17)), (0, .ref (E.1 + 20)), (1, .int l1), (2, .int l2)]) 5 dX10_stepTells_4 rfl rfl (by decide) rfl ?_
  refine j_iconst (v := (0 : Int32)) 6 dX10_stepTells_5 rfl (by decide) ?_
  refine j_istore (lv' := [(4, .int (0 : Int32)), (3, .int (I 20 17)), (0, .ref (E.1 + 20)), (1, .int l1), (2, .int l2)]) 8 dX10_stepTells_6 rfl (by decide) rfl ?_
  refine j_sub [2, 3, 4, 1, 0] rfl ?_
  exact kX10_stepTells_8 hL    100000 _ _ _ _ _  h
def fX11_parcel (l1 : Int32) (l2 : Int32) (I : JI) : Option (Int32 × JI) :=
  if l1 < 0 then (some ((0 : Int32), I)) else (if (12 : Int32) ≤ l1 then (some ((0 : Int32), I)) else ((fX11_isPerson l2).bind (fun q1 => if q1 = 0 then (some ((0 : Int32), I)) else ((fX9_isTold l1 I).bind (fun q2 => if q2 = 0 then ((fX1_add 7 l1 l2 (12 : Int32) (j_up (j_up I 1 9 ((I 1 9) + (1 : Int32))) 1 5 (((j_up I 1 9 ((I 1 9) + (1 : Int32))) 1 5) ||| ((1 : Int32) <<< (l1 &&& 31))))).bind (fun q3 => some ((1 : Int32), q3))) else (some ((0 : Int32), I)))))))
set_option maxHeartbeats 4000000 in
set_option maxRecDepth 100000 in
theorem tcX11_parcel {E : JE} {l1 : Int32} {l2 : Int32} {r : Int32 × JI} {I : JI} {L : JL} {G D : JG} {S : JS} (hL : Lay G S) (h : fX11_parcel l1 l2 I = some r) : CallJ E xX11_parcel 3 [.ref (E.1 + 0), .int l1, .int l2] I L G D S (some (.int r.1)) r.2 L G D S := by
  unfold fX11_parcel at h
  refine j_entry (by decide) (Nat.le_of_ble_eq_true rfl) ?_
  show AtJ E xX11_parcel (Zr E (some (.int r.1)) r.2 L G D S) ((S).length, jm_sl S) 3 0 [(0, .ref (E.1 + 0)), (1, .int l1), (2, .int l2)] [] I L G D S
  refine j_iload_n 1 dX11_parcel_0 rfl rfl 1 rfl ?_
  refine j_if_lt 28 4 dX11_parcel_1 (by decide) rfl (fun hc => ?_) (fun hc => ?_)
  · replace h := j_pos hc h
    refine j_iconst (v := (0 : Int32)) 29 dX11_parcel_28 rfl (by decide) ?_
    cases h
    exact j_zret dX11_parcel_29 rfl j_b01_0
  · replace h := j_neg hc h
    refine j_iload_n 5 dX11_parcel_4 rfl rfl 1 rfl ?_
    refine j_bipush (v := (12 : Int32)) 7 dX11_parcel_5 rfl (by decide) ?_
    refine j_icmp_ge 28 10 dX11_parcel_7 (by decide) rfl (fun hc => ?_) (fun hc => ?_)
    · replace h := j_pos hc h
      refine j_iconst (v := (0 : Int32)) 29 dX11_parcel_28 rfl (by decide) ?_
      cases h
      exact j_zret dX11_parcel_29 rfl j_b01_0
    · replace h := j_neg hc h
      refine j_iload_n 11 dX11_parcel_10 rfl rfl 2 rfl ?_
      obtain ⟨q1, hq1, h⟩ := j_bs h
      refine j_callS (rest := []) (As := [.int l2]) 14 dX11_parcel_11 rfl jyX11_isPerson (tcX11_isPerson   hq1) flX11_96 wm642 (by decide) rfl rfl (Nat.le_of_ble_eq_true rfl) ?_
      refine j_if_eq 28 17 dX11_parcel_14 (by decide) rfl (fun hc => ?_) (fun hc => ?_)
      · replace h := j_pos hc h
        refine j_iconst (v := (0 : Int32)) 29 dX11_parcel_28 rfl (by decide) ?_
        cases h
        exact j_zret dX11_parcel_29 rfl j_b01_0
      · replace h := j_neg hc h
        refine j_aload_n 18 dX11_parcel_17 rfl rfl 0 rfl ?_
        refine j_getG 21 dX11_parcel_18 rfl (sh_0 hL) cl11 (k := 0) (by decide) flX11_10 rfl (gs_0_0 hL) ?_
        refine j_iload_n 22 dX11_parcel_21 rfl rfl 1 rfl ?_
        obtain ⟨q2, hq2, h⟩ := j_bs h
        refine j_callV (rest := []) (As := [.int l1]) 25 dX11_parcel_22 rfl jyX9_isTold (tcX9_isTold hL  hq2) (sh_1 hL) cl9 flX11_100 wm645 wm646 (by decide) rfl rfl (Nat.le_of_ble_eq_true rfl) ?_
        refine j_if_eq 30 28 dX11_parcel_25 (by decide) rfl (fun hc => ?_) (fun hc => ?_)
        · replace h := j_pos hc h
          refine j_aload_n 31 dX11_parcel_30 rfl rfl 0 rfl ?_
          refine j_getG 34 dX11_parcel_31 rfl (sh_0 hL) cl11 (k := 0) (by decide) flX11_10 rfl (gs_0_0 hL) ?_
          refine j_dup 35 dX11_parcel_34 rfl rfl ?_
          refine j_getIN 38 dX11_parcel_35 rfl (sh_1 hL) cl9 (k := 9) (by decide) flX11_103 rfl ?_
          refine j_iconst (v := (1 : Int32)) 39 dX11_parcel_38 rfl (by decide) ?_
          refine j_iadd 40 dX11_parcel_39 rfl ?_
          refine j_putIN 43 dX11_parcel_40 rfl (sh_1 hL) cl9 (k := 9) (by decide) flX11_103 rfl rfl rfl ?_
          refine j_aload_n 44 dX11_parcel_43 rfl rfl 0 rfl ?_
          refine j_getG 47 dX11_parcel_44 rfl (sh_0 hL) cl11 (k := 0) (by decide) flX11_10 rfl (gs_0_0 hL) ?_
          refine j_dup 48 dX11_parcel_47 rfl rfl ?_
          refine j_getIN 51 dX11_parcel_48 rfl (sh_1 hL) cl9 (k := 5) (by decide) flX11_107 rfl ?_
          refine j_iconst (v := (1 : Int32)) 52 dX11_parcel_51 rfl (by decide) ?_
          refine j_iload_n 53 dX11_parcel_52 rfl rfl 1 rfl ?_
          refine j_ishl 54 dX11_parcel_53 rfl ?_
          refine j_ior 55 dX11_parcel_54 rfl ?_
          refine j_putIN 58 dX11_parcel_55 rfl (sh_1 hL) cl9 (k := 5) (by decide) flX11_107 rfl rfl rfl ?_
          refine j_aload_n 59 dX11_parcel_58 rfl rfl 0 rfl ?_
          refine j_getG 62 dX11_parcel_59 rfl (sh_0 hL) cl11 (k := 1) (by decide) flX11_19 rfl (gs_0_1 hL) ?_
          refine j_iload_n 63 dX11_parcel_62 rfl rfl 1 rfl ?_
          refine j_iload_n 64 dX11_parcel_63 rfl rfl 2 rfl ?_
          refine j_bipush (v := (12 : Int32)) 66 dX11_parcel_64 rfl (by decide) ?_
          obtain ⟨q3, hq3, h⟩ := j_bs h
          refine j_callV (rest := []) (As := [.int l1, .int l2, .int (12 : Int32)]) 69 dX11_parcel_66 rfl jyX1_add (tcX1_add hL (sh_7 hL) hq3) (sh_7 hL) cl1 flX11_110 wm649 wm650 (by decide) rfl rfl (Nat.le_of_ble_eq_true rfl) ?_
          refine j_iconst (v := (1 : Int32)) 70 dX11_parcel_69 rfl (by decide) ?_
          cases h
          exact j_zret dX11_parcel_70 rfl j_b01_1
        · replace h := j_neg hc h
          refine j_iconst (v := (0 : Int32)) 29 dX11_parcel_28 rfl (by decide) ?_
          cases h
          exact j_zret dX11_parcel_29 rfl j_b01_0
def fX11_part (l1 : Int32) (l2 : Int32) (l3 : Int32) (l4 : Int32) (I : JI) : Option (Int32 × JI) :=
  (fX9_isTold l1 I).bind (fun q1 => if q1 = 0 then (some ((0 : Int32), I)) else ((fX11_areTwoPeople l2 l3).bind (fun q2 => if q2 = 0 then (some ((0 : Int32), I)) else (if l4 < (1 : Int32) then (some ((0 : Int32), I)) else (if l4 ≤ (12 : Int32) then ((fX1_of 7 l1 l2 I).bind (fun q3 => if l4 ≤ q3 then ((fX1_move 7 l1 l2 l3 l4 (j_up I 1 9 ((I 1 9) + (1 : Int32)))).bind (fun q4 => some ((1 : Int32), q4))) else (some ((0 : Int32), I)))) else (some ((0 : Int32), I)))))))
set_option maxHeartbeats 4000000 in
set_option maxRecDepth 100000 in
theorem tcX11_part {E : JE} {l1 : Int32} {l2 : Int32} {l3 : Int32} {l4 : Int32} {r : Int32 × JI} {I : JI} {L : JL} {G D : JG} {S : JS} (hL : Lay G S) (h : fX11_part l1 l2 l3 l4 I = some r) : CallJ E xX11_part 4 [.ref (E.1 + 0), .int l1, .int l2, .int l3, .int l4] I L G D S (some (.int r.1)) r.2 L G D S := by
  unfold fX11_part at h
  refine j_entry (by decide) (Nat.le_of_ble_eq_true rfl) ?_
  show AtJ E xX11_part (Zr E (some (.int r.1)) r.2 L G D S) ((S).length, jm_sl S) 4 0 [(0, .ref (E.1 + 0)), (1, .int l1), (2, .int l2), (3, .int l3), (4, .int l4)] [] I L G D S
  refine j_aload_n 1 dX11_part_0 rfl rfl 0 rfl ?_
  refine j_getG 4 dX11_part_1 rfl (sh_0 hL) cl11 (k := 0) (by decide) flX11_10 rfl (gs_0_0 hL) ?_
  refine j_iload_n 5 dX11_part_4 rfl rfl 1 rfl ?_
  obtain ⟨q1, hq1, h⟩ := j_bs h
  refine j_callV (rest := []) (As := [.int l1]) 8 dX11_part_5 rfl jyX9_isTold (tcX9_isTold hL  hq1) (sh_1 hL) cl9 flX11_100 wm645 wm646 (by decide) rfl rfl (Nat.le_of_ble_eq_true rfl) ?_
  refine j_if_eq 32 11 dX11_part_8 (by decide) rfl (fun hc => ?_) (fun hc => ?_)
  · replace h := j_pos hc h
    refine j_iconst (v := (0 : Int32)) 33 dX11_part_32 rfl (by decide) ?_
    cases h
    exact j_zret dX11_part_33 rfl j_b01_0
  · replace h := j_neg hc h
    refine j_iload_n 12 dX11_part_11 rfl rfl 2 rfl ?_
    refine j_iload_n 13 dX11_part_12 rfl rfl 3 rfl ?_
    obtain ⟨q2, hq2, h⟩ := j_bs h
    refine j_callS (rest := []) (As := [.int l2, .int l3]) 16 dX11_part_13 rfl jyX11_areTwoPeople (tcX11_areTwoPeople   hq2) flX11_114 wm660 (by decide) rfl rfl (Nat.le_of_ble_eq_true rfl) ?_
    refine j_if_eq 32 19 dX11_part_16 (by decide) rfl (fun hc => ?_) (fun hc => ?_)
    · replace h := j_pos hc h
      refine j_iconst (v := (0 : Int32)) 33 dX11_part_32 rfl (by decide) ?_
      cases h
      exact j_zret dX11_part_33 rfl j_b01_0
    · replace h := j_neg hc h
      refine j_iload 21 dX11_part_19 rfl 4 rfl ?_
      refine j_iconst (v := (1 : Int32)) 22 dX11_part_21 rfl (by decide) ?_
      refine j_icmp_lt 32 25 dX11_part_22 (by decide) rfl (fun hc => ?_) (fun hc => ?_)
      · replace h := j_pos hc h
        refine j_iconst (v := (0 : Int32)) 33 dX11_part_32 rfl (by decide) ?_
        cases h
        exact j_zret dX11_part_33 rfl j_b01_0
      · replace h := j_neg hc h
        refine j_iload 27 dX11_part_25 rfl 4 rfl ?_
        refine j_bipush (v := (12 : Int32)) 29 dX11_part_27 rfl (by decide) ?_
        refine j_icmp_le 34 32 dX11_part_29 (by decide) rfl (fun hc => ?_) (fun hc => ?_)
        · replace h := j_pos hc h
          refine j_aload_n 35 dX11_part_34 rfl rfl 0 rfl ?_
          refine j_getG 38 dX11_part_35 rfl (sh_0 hL) cl11 (k := 1) (by decide) flX11_19 rfl (gs_0_1 hL) ?_
          refine j_iload_n 39 dX11_part_38 rfl rfl 1 rfl ?_
          refine j_iload_n 40 dX11_part_39 rfl rfl 2 rfl ?_
          obtain ⟨q3, hq3, h⟩ := j_bs h
          refine j_callV (rest := []) (As := [.int l1, .int l2]) 43 dX11_part_40 rfl jyX1_of (tcX1_of hL (sh_7 hL) hq3) (sh_7 hL) cl1 flX11_118 wm663 wm664 (by decide) rfl rfl (Nat.le_of_ble_eq_true rfl) ?_
          refine j_iload 45 dX11_part_43 rfl 4 rfl ?_
          refine j_icmp_ge 50 48 dX11_part_45 (by decide) rfl (fun hc => ?_) (fun hc => ?_)
          · replace h := j_pos hc h
            refine j_aload_n 51 dX11_part_50 rfl rfl 0 rfl ?_
            refine j_getG 54 dX11_part_51 rfl (sh_0 hL) cl11 (k := 0) (by decide) flX11_10 rfl (gs_0_0 hL) ?_
            refine j_dup 55 dX11_part_54 rfl rfl ?_
            refine j_getIN 58 dX11_part_55 rfl (sh_1 hL) cl9 (k := 9) (by decide) flX11_103 rfl ?_
            refine j_iconst (v := (1 : Int32)) 59 dX11_part_58 rfl (by decide) ?_
            refine j_iadd 60 dX11_part_59 rfl ?_
            refine j_putIN 63 dX11_part_60 rfl (sh_1 hL) cl9 (k := 9) (by decide) flX11_103 rfl rfl rfl ?_
            refine j_aload_n 64 dX11_part_63 rfl rfl 0 rfl ?_
            refine j_getG 67 dX11_part_64 rfl (sh_0 hL) cl11 (k := 1) (by decide) flX11_19 rfl (gs_0_1 hL) ?_
            refine j_iload_n 68 dX11_part_67 rfl rfl 1 rfl ?_
            refine j_iload_n 69 dX11_part_68 rfl rfl 2 rfl ?_
            refine j_iload_n 70 dX11_part_69 rfl rfl 3 rfl ?_
            refine j_iload 72 dX11_part_70 rfl 4 rfl ?_
            obtain ⟨q4, hq4, h⟩ := j_bs h
            refine j_callV (rest := []) (As := [.int l1, .int l2, .int l3, .int l4]) 75 dX11_part_72 rfl jyX1_move (tcX1_move hL (sh_7 hL) hq4) (sh_7 hL) cl1 flX11_122 wm667 wm668 (by decide) rfl rfl (Nat.le_of_ble_eq_true rfl) ?_
            refine j_iconst (v := (1 : Int32)) 76 dX11_part_75 rfl (by decide) ?_
            cases h
            exact j_zret dX11_part_76 rfl j_b01_1
          · replace h := j_neg hc h
            refine j_iconst (v := (0 : Int32)) 49 dX11_part_48 rfl (by decide) ?_
            cases h
            exact j_zret dX11_part_49 rfl j_b01_0
        · replace h := j_neg hc h
          refine j_iconst (v := (0 : Int32)) 33 dX11_part_32 rfl (by decide) ?_
          cases h
          exact j_zret dX11_part_33 rfl j_b01_0
def fX11_beside (l1 : Int32) (l2 : Int32) (l3 : Int32) (I : JI) : Option (Int32 × JI) :=
  (fX9_areTwoTold l1 l2 I).bind (fun q1 => if q1 = 0 then (some ((0 : Int32), I)) else (if l3 < 0 then (some ((0 : Int32), I)) else (if l3 < (4 : Int32) then (j_g (j_in ((l1 * (4 : Int32)) + l3) 48) (if (((I 2 ((l1 * (4 : Int32)) + l3).toNatClampNeg) >>> (l2 &&& 31)) &&& (1 : Int32)) = 0 then ((fX9_layAt l1 l2 l3 (j_up I 1 9 ((I 1 9) + (1 : Int32)))).bind (fun q2 => (fX9_layAt l2 l1 ((l3 + (2 : Int32)) - (l3 + (2 : Int32)) / (4 : Int32) * (4 : Int32)) q2).bind (fun q3 => some ((1 : Int32), q3)))) else (some ((0 : Int32), I)))) else (some ((0 : Int32), I)))))
set_option maxHeartbeats 4000000 in
set_option maxRecDepth 100000 in
theorem tcX11_beside {E : JE} {l1 : Int32} {l2 : Int32} {l3 : Int32} {r : Int32 × JI} {I : JI} {L : JL} {G D : JG} {S : JS} (hL : Lay G S) (h : fX11_beside l1 l2 l3 I = some r) : CallJ E xX11_beside 3 [.ref (E.1 + 0), .int l1, .int l2, .int l3] I L G D S (some (.int r.1)) r.2 L G D S := by
  unfold fX11_beside at h
  refine j_entry (by decide) (Nat.le_of_ble_eq_true rfl) ?_
  show AtJ E xX11_beside (Zr E (some (.int r.1)) r.2 L G D S) ((S).length, jm_sl S) 3 0 [(0, .ref (E.1 + 0)), (1, .int l1), (2, .int l2), (3, .int l3)] [] I L G D S
  refine j_aload_n 1 dX11_beside_0 rfl rfl 0 rfl ?_
  refine j_getG 4 dX11_beside_1 rfl (sh_0 hL) cl11 (k := 0) (by decide) flX11_10 rfl (gs_0_0 hL) ?_
  refine j_iload_n 5 dX11_beside_4 rfl rfl 1 rfl ?_
  refine j_iload_n 6 dX11_beside_5 rfl rfl 2 rfl ?_
  obtain ⟨q1, hq1, h⟩ := j_bs h
  refine j_callV (rest := []) (As := [.int l1, .int l2]) 9 dX11_beside_6 rfl jyX9_areTwoTold (tcX9_areTwoTold hL  hq1) (sh_1 hL) cl9 flX11_126 wm676 wm677 (by decide) rfl rfl (Nat.le_of_ble_eq_true rfl) ?_
  refine j_if_eq 21 12 dX11_beside_9 (by decide) rfl (fun hc => ?_) (fun hc => ?_)
  · replace h := j_pos hc h
    refine j_iconst (v := (0 : Int32)) 22 dX11_beside_21 rfl (by decide) ?_
    cases h
    exact j_zret dX11_beside_22 rfl j_b01_0
  · replace h := j_neg hc h
    refine j_iload_n 13 dX11_beside_12 rfl rfl 3 rfl ?_
    refine j_if_lt 21 16 dX11_beside_13 (by decide) rfl (fun hc => ?_) (fun hc => ?_)
    · replace h := j_pos hc h
      refine j_iconst (v := (0 : Int32)) 22 dX11_beside_21 rfl (by decide) ?_
      cases h
      exact j_zret dX11_beside_22 rfl j_b01_0
    · replace h := j_neg hc h
      refine j_iload_n 17 dX11_beside_16 rfl rfl 3 rfl ?_
      refine j_iconst (v := (4 : Int32)) 18 dX11_beside_17 rfl (by decide) ?_
      refine j_icmp_lt 23 21 dX11_beside_18 (by decide) rfl (fun hc => ?_) (fun hc => ?_)
      · replace h := j_pos hc h
        refine j_aload_n 24 dX11_beside_23 rfl rfl 0 rfl ?_
        refine j_getG 27 dX11_beside_24 rfl (sh_0 hL) cl11 (k := 0) (by decide) flX11_10 rfl (gs_0_0 hL) ?_
        refine j_getGN 30 dX11_beside_27 rfl (sh_1 hL) cl9 (k := 0) (by decide) flX11_129 rfl (gs_1_0 hL) ?_
        refine j_iload_n 31 dX11_beside_30 rfl rfl 1 rfl ?_
        refine j_iconst (v := (4 : Int32)) 32 dX11_beside_31 rfl (by decide) ?_
        refine j_imul 33 dX11_beside_32 rfl ?_
        refine j_iload_n 34 dX11_beside_33 rfl rfl 3 rfl ?_
        refine j_iadd 35 dX11_beside_34 rfl ?_
        obtain ⟨hg, h⟩ := j_gs h
        refine j_iald 36 dX11_beside_35 rfl (sh_2 hL) (j_inv hg) ?_
        refine j_iload_n 37 dX11_beside_36 rfl rfl 2 rfl ?_
        refine j_ishr 38 dX11_beside_37 rfl ?_
        refine j_iconst (v := (1 : Int32)) 39 dX11_beside_38 rfl (by decide) ?_
        refine j_iand 40 dX11_beside_39 rfl ?_
        refine j_if_eq 45 43 dX11_beside_40 (by decide) rfl (fun hc => ?_) (fun hc => ?_)
        · replace h := j_pos hc h
          refine j_aload_n 46 dX11_beside_45 rfl rfl 0 rfl ?_
          refine j_getG 49 dX11_beside_46 rfl (sh_0 hL) cl11 (k := 0) (by decide) flX11_10 rfl (gs_0_0 hL) ?_
          refine j_dup 50 dX11_beside_49 rfl rfl ?_
          refine j_getIN 53 dX11_beside_50 rfl (sh_1 hL) cl9 (k := 9) (by decide) flX11_103 rfl ?_
          refine j_iconst (v := (1 : Int32)) 54 dX11_beside_53 rfl (by decide) ?_
          refine j_iadd 55 dX11_beside_54 rfl ?_
          refine j_putIN 58 dX11_beside_55 rfl (sh_1 hL) cl9 (k := 9) (by decide) flX11_103 rfl rfl rfl ?_
          refine j_aload_n 59 dX11_beside_58 rfl rfl 0 rfl ?_
          refine j_getG 62 dX11_beside_59 rfl (sh_0 hL) cl11 (k := 0) (by decide) flX11_10 rfl (gs_0_0 hL) ?_
          refine j_iload_n 63 dX11_beside_62 rfl rfl 1 rfl ?_
          refine j_iload_n 64 dX11_beside_63 rfl rfl 2 rfl ?_
          refine j_iload_n 65 dX11_beside_64 rfl rfl 3 rfl ?_
          obtain ⟨q2, hq2, h⟩ := j_bs h
          refine j_callV (rest := []) (As := [.int l1, .int l2, .int l3]) 68 dX11_beside_65 rfl jyX9_layAt (tcX9_layAt hL  hq2) (sh_1 hL) cl9 flX11_133 wm681 wm682 (by decide) rfl rfl (Nat.le_of_ble_eq_true rfl) ?_
          refine j_aload_n 69 dX11_beside_68 rfl rfl 0 rfl ?_
          refine j_getG 72 dX11_beside_69 rfl (sh_0 hL) cl11 (k := 0) (by decide) flX11_10 rfl (gs_0_0 hL) ?_
          refine j_iload_n 73 dX11_beside_72 rfl rfl 2 rfl ?_
          refine j_iload_n 74 dX11_beside_73 rfl rfl 1 rfl ?_
          refine j_iload_n 75 dX11_beside_74 rfl rfl 3 rfl ?_
          refine j_iconst (v := (2 : Int32)) 76 dX11_beside_75 rfl (by decide) ?_
          refine j_iadd 77 dX11_beside_76 rfl ?_
          refine j_iconst (v := (4 : Int32)) 78 dX11_beside_77 rfl (by decide) ?_
          refine j_irem 79 dX11_beside_78 rfl (by decide) ?_
          obtain ⟨q3, hq3, h⟩ := j_bs h
          refine j_callV (rest := []) (As := [.int l2, .int l1, .int ((l3 + (2 : Int32)) - (l3 + (2 : Int32)) / (4 : Int32) * (4 : Int32))]) 82 dX11_beside_79 rfl jyX9_layAt (tcX9_layAt hL  hq3) (sh_1 hL) cl9 flX11_133 wm681 wm682 (by decide) rfl rfl (Nat.le_of_ble_eq_true rfl) ?_
          refine j_iconst (v := (1 : Int32)) 83 dX11_beside_82 rfl (by decide) ?_
          cases h
          exact j_zret dX11_beside_83 rfl j_b01_1
        · replace h := j_neg hc h
          refine j_iconst (v := (0 : Int32)) 44 dX11_beside_43 rfl (by decide) ?_
          cases h
          exact j_zret dX11_beside_44 rfl j_b01_0
      · replace h := j_neg hc h
        refine j_iconst (v := (0 : Int32)) 22 dX11_beside_21 rfl (by decide) ?_
        cases h
        exact j_zret dX11_beside_22 rfl j_b01_0
def fX11_water (l1 : Int32) (l2 : Int32) (I : JI) : Option (Int32 × JI) :=
  (fX9_areTwoTold l1 l2 I).bind (fun q1 => if q1 = 0 then (some ((0 : Int32), I)) else (j_g (j_in l1 12) (if (((I 4 l1.toNatClampNeg) >>> (l2 &&& 31)) &&& (1 : Int32)) = 0 then (j_g (j_in l1 12) (j_g (j_in l1 12) (j_g (j_in l2 12) (j_g (j_in l2 12) (some ((1 : Int32), (j_up (j_up (j_up I 1 9 ((I 1 9) + (1 : Int32))) 4 l1.toNatClampNeg (((j_up I 1 9 ((I 1 9) + (1 : Int32))) 4 l1.toNatClampNeg) ||| ((1 : Int32) <<< (l2 &&& 31)))) 4 l2.toNatClampNeg (((j_up (j_up I 1 9 ((I 1 9) + (1 : Int32))) 4 l1.toNatClampNeg (((j_up I 1 9 ((I 1 9) + (1 : Int32))) 4 l1.toNatClampNeg) ||| ((1 : Int32) <<< (l2 &&& 31)))) 4 l2.toNatClampNeg) ||| ((1 : Int32) <<< (l1 &&& 31)))))))))) else (some ((0 : Int32), I)))))
set_option maxHeartbeats 4000000 in
set_option maxRecDepth 100000 in
theorem tcX11_water {E : JE} {l1 : Int32} {l2 : Int32} {r : Int32 × JI} {I : JI} {L : JL} {G D : JG} {S : JS} (hL : Lay G S) (h : fX11_water l1 l2 I = some r) : CallJ E xX11_water 3 [.ref (E.1 + 0), .int l1, .int l2] I L G D S (some (.int r.1)) r.2 L G D S := by
  unfold fX11_water at h
  refine j_entry (by decide) (Nat.le_of_ble_eq_true rfl) ?_
  show AtJ E xX11_water (Zr E (some (.int r.1)) r.2 L G D S) ((S).length, jm_sl S) 3 0 [(0, .ref (E.1 + 0)), (1, .int l1), (2, .int l2)] [] I L G D S
  refine j_aload_n 1 dX11_water_0 rfl rfl 0 rfl ?_
  refine j_getG 4 dX11_water_1 rfl (sh_0 hL) cl11 (k := 0) (by decide) flX11_10 rfl (gs_0_0 hL) ?_
  refine j_iload_n 5 dX11_water_4 rfl rfl 1 rfl ?_
  refine j_iload_n 6 dX11_water_5 rfl rfl 2 rfl ?_
  obtain ⟨q1, hq1, h⟩ := j_bs h
  refine j_callV (rest := []) (As := [.int l1, .int l2]) 9 dX11_water_6 rfl jyX9_areTwoTold (tcX9_areTwoTold hL  hq1) (sh_1 hL) cl9 flX11_126 wm676 wm677 (by decide) rfl rfl (Nat.le_of_ble_eq_true rfl) ?_
  refine j_if_eq 28 12 dX11_water_9 (by decide) rfl (fun hc => ?_) (fun hc => ?_)
  · replace h := j_pos hc h
    refine j_iconst (v := (0 : Int32)) 29 dX11_water_28 rfl (by decide) ?_
    cases h
    exact j_zret dX11_water_29 rfl j_b01_0
  · replace h := j_neg hc h
    refine j_aload_n 13 dX11_water_12 rfl rfl 0 rfl ?_
    refine j_getG 16 dX11_water_13 rfl (sh_0 hL) cl11 (k := 0) (by decide) flX11_10 rfl (gs_0_0 hL) ?_
    refine j_getGN 19 dX11_water_16 rfl (sh_1 hL) cl9 (k := 2) (by decide) flX11_136 rfl (gs_1_2 hL) ?_
    refine j_iload_n 20 dX11_water_19 rfl rfl 1 rfl ?_
    obtain ⟨hg, h⟩ := j_gs h
    refine j_iald 21 dX11_water_20 rfl (sh_4 hL) (j_inv hg) ?_
    refine j_iload_n 22 dX11_water_21 rfl rfl 2 rfl ?_
    refine j_ishr 23 dX11_water_22 rfl ?_
    refine j_iconst (v := (1 : Int32)) 24 dX11_water_23 rfl (by decide) ?_
    refine j_iand 25 dX11_water_24 rfl ?_
    refine j_if_eq 30 28 dX11_water_25 (by decide) rfl (fun hc => ?_) (fun hc => ?_)
    · replace h := j_pos hc h
      refine j_aload_n 31 dX11_water_30 rfl rfl 0 rfl ?_
      refine j_getG 34 dX11_water_31 rfl (sh_0 hL) cl11 (k := 0) (by decide) flX11_10 rfl (gs_0_0 hL) ?_
      refine j_dup 35 dX11_water_34 rfl rfl ?_
      refine j_getIN 38 dX11_water_35 rfl (sh_1 hL) cl9 (k := 9) (by decide) flX11_103 rfl ?_
      refine j_iconst (v := (1 : Int32)) 39 dX11_water_38 rfl (by decide) ?_
      refine j_iadd 40 dX11_water_39 rfl ?_
      refine j_putIN 43 dX11_water_40 rfl (sh_1 hL) cl9 (k := 9) (by decide) flX11_103 rfl rfl rfl ?_
      refine j_aload_n 44 dX11_water_43 rfl rfl 0 rfl ?_
      refine j_getG 47 dX11_water_44 rfl (sh_0 hL) cl11 (k := 0) (by decide) flX11_10 rfl (gs_0_0 hL) ?_
      refine j_getGN 50 dX11_water_47 rfl (sh_1 hL) cl9 (k := 2) (by decide) flX11_136 rfl (gs_1_2 hL) ?_
      refine j_iload_n 51 dX11_water_50 rfl rfl 1 rfl ?_
      refine j_dup2_11 52 dX11_water_51 rfl rfl rfl ?_
      obtain ⟨hg, h⟩ := j_gs h
      refine j_iald 53 dX11_water_52 rfl (sh_4 hL) (j_inv hg) ?_
      refine j_iconst (v := (1 : Int32)) 54 dX11_water_53 rfl (by decide) ?_
      refine j_iload_n 55 dX11_water_54 rfl rfl 2 rfl ?_
      refine j_ishl 56 dX11_water_55 rfl ?_
      refine j_ior 57 dX11_water_56 rfl ?_
      obtain ⟨hg, h⟩ := j_gs h
      refine j_iast 58 dX11_water_57 rfl (sh_4 hL) (j_inv hg) ?_
      refine j_aload_n 59 dX11_water_58 rfl rfl 0 rfl ?_
      refine j_getG 62 dX11_water_59 rfl (sh_0 hL) cl11 (k := 0) (by decide) flX11_10 rfl (gs_0_0 hL) ?_
      refine j_getGN 65 dX11_water_62 rfl (sh_1 hL) cl9 (k := 2) (by decide) flX11_136 rfl (gs_1_2 hL) ?_
      refine j_iload_n 66 dX11_water_65 rfl rfl 2 rfl ?_
      refine j_dup2_11 67 dX11_water_66 rfl rfl rfl ?_
      obtain ⟨hg, h⟩ := j_gs h
      refine j_iald 68 dX11_water_67 rfl (sh_4 hL) (j_inv hg) ?_
      refine j_iconst (v := (1 : Int32)) 69 dX11_water_68 rfl (by decide) ?_
      refine j_iload_n 70 dX11_water_69 rfl rfl 1 rfl ?_
      refine j_ishl 71 dX11_water_70 rfl ?_
      refine j_ior 72 dX11_water_71 rfl ?_
      obtain ⟨hg, h⟩ := j_gs h
      refine j_iast 73 dX11_water_72 rfl (sh_4 hL) (j_inv hg) ?_
      refine j_iconst (v := (1 : Int32)) 74 dX11_water_73 rfl (by decide) ?_
      cases h
      exact j_zret dX11_water_74 rfl j_b01_1
    · replace h := j_neg hc h
      refine j_iconst (v := (0 : Int32)) 29 dX11_water_28 rfl (by decide) ?_
      cases h
      exact j_zret dX11_water_29 rfl j_b01_0
def fX11_kin (l1 : Int32) (l2 : Int32) (l3 : Int32) (I : JI) : Option (Int32 × JI) :=
  (fX11_areTwoPeople l1 l2).bind (fun q1 => if q1 = 0 then (some ((0 : Int32), I)) else (if l3 < 0 then (some ((0 : Int32), I)) else (if l3 ≤ (3 : Int32) then ((fX9_makeKin l1 l2 l3 (j_up I 1 9 ((I 1 9) + (1 : Int32)))).bind (fun q2 => (fX9_makeKin l2 l1 l3 q2).bind (fun q3 => some ((1 : Int32), q3)))) else (some ((0 : Int32), I)))))
set_option maxHeartbeats 4000000 in
set_option maxRecDepth 100000 in
theorem tcX11_kin {E : JE} {l1 : Int32} {l2 : Int32} {l3 : Int32} {r : Int32 × JI} {I : JI} {L : JL} {G D : JG} {S : JS} (hL : Lay G S) (h : fX11_kin l1 l2 l3 I = some r) : CallJ E xX11_kin 3 [.ref (E.1 + 0), .int l1, .int l2, .int l3] I L G D S (some (.int r.1)) r.2 L G D S := by
  unfold fX11_kin at h
  refine j_entry (by decide) (Nat.le_of_ble_eq_true rfl) ?_
  show AtJ E xX11_kin (Zr E (some (.int r.1)) r.2 L G D S) ((S).length, jm_sl S) 3 0 [(0, .ref (E.1 + 0)), (1, .int l1), (2, .int l2), (3, .int l3)] [] I L G D S
  refine j_iload_n 1 dX11_kin_0 rfl rfl 1 rfl ?_
  refine j_iload_n 2 dX11_kin_1 rfl rfl 2 rfl ?_
  obtain ⟨q1, hq1, h⟩ := j_bs h
  refine j_callS (rest := []) (As := [.int l1, .int l2]) 5 dX11_kin_2 rfl jyX11_areTwoPeople (tcX11_areTwoPeople   hq1) flX11_114 wm660 (by decide) rfl rfl (Nat.le_of_ble_eq_true rfl) ?_
  refine j_if_eq 17 8 dX11_kin_5 (by decide) rfl (fun hc => ?_) (fun hc => ?_)
  · replace h := j_pos hc h
    refine j_iconst (v := (0 : Int32)) 18 dX11_kin_17 rfl (by decide) ?_
    cases h
    exact j_zret dX11_kin_18 rfl j_b01_0
  · replace h := j_neg hc h
    refine j_iload_n 9 dX11_kin_8 rfl rfl 3 rfl ?_
    refine j_if_lt 17 12 dX11_kin_9 (by decide) rfl (fun hc => ?_) (fun hc => ?_)
    · replace h := j_pos hc h
      refine j_iconst (v := (0 : Int32)) 18 dX11_kin_17 rfl (by decide) ?_
      cases h
      exact j_zret dX11_kin_18 rfl j_b01_0
    · replace h := j_neg hc h
      refine j_iload_n 13 dX11_kin_12 rfl rfl 3 rfl ?_
      refine j_iconst (v := (3 : Int32)) 14 dX11_kin_13 rfl (by decide) ?_
      refine j_icmp_le 19 17 dX11_kin_14 (by decide) rfl (fun hc => ?_) (fun hc => ?_)
      · replace h := j_pos hc h
        refine j_aload_n 20 dX11_kin_19 rfl rfl 0 rfl ?_
        refine j_getG 23 dX11_kin_20 rfl (sh_0 hL) cl11 (k := 0) (by decide) flX11_10 rfl (gs_0_0 hL) ?_
        refine j_dup 24 dX11_kin_23 rfl rfl ?_
        refine j_getIN 27 dX11_kin_24 rfl (sh_1 hL) cl9 (k := 9) (by decide) flX11_103 rfl ?_
        refine j_iconst (v := (1 : Int32)) 28 dX11_kin_27 rfl (by decide) ?_
        refine j_iadd 29 dX11_kin_28 rfl ?_
        refine j_putIN 32 dX11_kin_29 rfl (sh_1 hL) cl9 (k := 9) (by decide) flX11_103 rfl rfl rfl ?_
        refine j_aload_n 33 dX11_kin_32 rfl rfl 0 rfl ?_
        refine j_getG 36 dX11_kin_33 rfl (sh_0 hL) cl11 (k := 0) (by decide) flX11_10 rfl (gs_0_0 hL) ?_
        refine j_iload_n 37 dX11_kin_36 rfl rfl 1 rfl ?_
        refine j_iload_n 38 dX11_kin_37 rfl rfl 2 rfl ?_
        refine j_iload_n 39 dX11_kin_38 rfl rfl 3 rfl ?_
        obtain ⟨q2, hq2, h⟩ := j_bs h
        refine j_callV (rest := []) (As := [.int l1, .int l2, .int l3]) 42 dX11_kin_39 rfl jyX9_makeKin (tcX9_makeKin hL  hq2) (sh_1 hL) cl9 flX11_139 wm693 wm694 (by decide) rfl rfl (Nat.le_of_ble_eq_true rfl) ?_
        refine j_aload_n 43 dX11_kin_42 rfl rfl 0 rfl ?_
        refine j_getG 46 dX11_kin_43 rfl (sh_0 hL) cl11 (k := 0) (by decide) flX11_10 rfl (gs_0_0 hL) ?_
        refine j_iload_n 47 dX11_kin_46 rfl rfl 2 rfl ?_
        refine j_iload_n 48 dX11_kin_47 rfl rfl 1 rfl ?_
        refine j_iload_n 49 dX11_kin_48 rfl rfl 3 rfl ?_
        obtain ⟨q3, hq3, h⟩ := j_bs h
        refine j_callV (rest := []) (As := [.int l2, .int l1, .int l3]) 52 dX11_kin_49 rfl jyX9_makeKin (tcX9_makeKin hL  hq3) (sh_1 hL) cl9 flX11_139 wm693 wm694 (by decide) rfl rfl (Nat.le_of_ble_eq_true rfl) ?_
        refine j_iconst (v := (1 : Int32)) 53 dX11_kin_52 rfl (by decide) ?_
        cases h
        exact j_zret dX11_kin_53 rfl j_b01_1
      · replace h := j_neg hc h
        refine j_iconst (v := (0 : Int32)) 18 dX11_kin_17 rfl (by decide) ?_
        cases h
        exact j_zret dX11_kin_18 rfl j_b01_0
def fX11_need (l1 : Int32) (l2 : Int32) (I : JI) : Option (Int32 × JI) :=
  (fX11_isPerson l1).bind (fun q1 => if q1 = 0 then (some ((0 : Int32), I)) else ((fX11_withBit ((j_up I 1 9 ((I 1 9) + (1 : Int32))) 1 6) l1 l2).bind (fun q2 => some ((1 : Int32), (j_up (j_up I 1 9 ((I 1 9) + (1 : Int32))) 1 6 q2)))))
set_option maxHeartbeats 4000000 in
set_option maxRecDepth 100000 in
theorem tcX11_need {E : JE} {l1 : Int32} {l2 : Int32} {r : Int32 × JI} {I : JI} {L : JL} {G D : JG} {S : JS} (hL : Lay G S) (h : fX11_need l1 l2 I = some r) : CallJ E xX11_need 2 [.ref (E.1 + 0), .int l1, .int l2] I L G D S (some (.int r.1)) r.2 L G D S := by
  unfold fX11_need at h
  refine j_entry (by decide) (Nat.le_of_ble_eq_true rfl) ?_
  show AtJ E xX11_need (Zr E (some (.int r.1)) r.2 L G D S) ((S).length, jm_sl S) 2 0 [(0, .ref (E.1 + 0)), (1, .int l1), (2, .int l2)] [] I L G D S
  refine j_iload_n 1 dX11_need_0 rfl rfl 1 rfl ?_
  obtain ⟨q1, hq1, h⟩ := j_bs h
  refine j_callS (rest := []) (As := [.int l1]) 4 dX11_need_1 rfl jyX11_isPerson (tcX11_isPerson   hq1) flX11_96 wm642 (by decide) rfl rfl (Nat.le_of_ble_eq_true rfl) ?_
  refine j_if_ne 9 7 dX11_need_4 (by decide) rfl (fun hc => ?_) (fun hc => ?_)
  · replace h := j_neg hc h
    refine j_aload_n 10 dX11_need_9 rfl rfl 0 rfl ?_
    refine j_getG 13 dX11_need_10 rfl (sh_0 hL) cl11 (k := 0) (by decide) flX11_10 rfl (gs_0_0 hL) ?_
    refine j_dup 14 dX11_need_13 rfl rfl ?_
    refine j_getIN 17 dX11_need_14 rfl (sh_1 hL) cl9 (k := 9) (by decide) flX11_103 rfl ?_
    refine j_iconst (v := (1 : Int32)) 18 dX11_need_17 rfl (by decide) ?_
    refine j_iadd 19 dX11_need_18 rfl ?_
    refine j_putIN 22 dX11_need_19 rfl (sh_1 hL) cl9 (k := 9) (by decide) flX11_103 rfl rfl rfl ?_
    refine j_aload_n 23 dX11_need_22 rfl rfl 0 rfl ?_
    refine j_getG 26 dX11_need_23 rfl (sh_0 hL) cl11 (k := 0) (by decide) flX11_10 rfl (gs_0_0 hL) ?_
    refine j_aload_n 27 dX11_need_26 rfl rfl 0 rfl ?_
    refine j_getG 30 dX11_need_27 rfl (sh_0 hL) cl11 (k := 0) (by decide) flX11_10 rfl (gs_0_0 hL) ?_
    refine j_getIN 33 dX11_need_30 rfl (sh_1 hL) cl9 (k := 6) (by decide) flX11_142 rfl ?_
    refine j_iload_n 34 dX11_need_33 rfl rfl 1 rfl ?_
    refine j_iload_n 35 dX11_need_34 rfl rfl 2 rfl ?_
    obtain ⟨q2, hq2, h⟩ := j_bs h
    refine j_callS (rest := [.ref (E.1 + 1)]) (As := [.int ((j_up I 1 9 ((I 1 9) + (1 : Int32))) 1 6), .int l1, .int l2]) 38 dX11_need_35 rfl jyX11_withBit (tcX11_withBit   hq2) flX11_145 wm653 (by decide) rfl rfl (Nat.le_of_ble_eq_true rfl) ?_
    refine j_putIN 41 dX11_need_38 rfl (sh_1 hL) cl9 (k := 6) (by decide) flX11_142 rfl rfl rfl ?_
    refine j_iconst (v := (1 : Int32)) 42 dX11_need_41 rfl (by decide) ?_
    cases h
    exact j_zret dX11_need_42 rfl j_b01_1
  · replace h := j_pos hc h
    refine j_iconst (v := (0 : Int32)) 8 dX11_need_7 rfl (by decide) ?_
    cases h
    exact j_zret dX11_need_8 rfl j_b01_0
def fX11_care (l1 : Int32) (l2 : Int32) (I : JI) : Option (Int32 × JI) :=
  (fX11_isPerson l1).bind (fun q1 => if q1 = 0 then (some ((0 : Int32), I)) else ((fX11_withBit ((j_up I 1 9 ((I 1 9) + (1 : Int32))) 1 7) l1 l2).bind (fun q2 => some ((1 : Int32), (j_up (j_up I 1 9 ((I 1 9) + (1 : Int32))) 1 7 q2)))))
set_option maxHeartbeats 4000000 in
set_option maxRecDepth 100000 in
theorem tcX11_care {E : JE} {l1 : Int32} {l2 : Int32} {r : Int32 × JI} {I : JI} {L : JL} {G D : JG} {S : JS} (hL : Lay G S) (h : fX11_care l1 l2 I = some r) : CallJ E xX11_care 2 [.ref (E.1 + 0), .int l1, .int l2] I L G D S (some (.int r.1)) r.2 L G D S := by
  unfold fX11_care at h
  refine j_entry (by decide) (Nat.le_of_ble_eq_true rfl) ?_
  show AtJ E xX11_care (Zr E (some (.int r.1)) r.2 L G D S) ((S).length, jm_sl S) 2 0 [(0, .ref (E.1 + 0)), (1, .int l1), (2, .int l2)] [] I L G D S
  refine j_iload_n 1 dX11_care_0 rfl rfl 1 rfl ?_
  obtain ⟨q1, hq1, h⟩ := j_bs h
  refine j_callS (rest := []) (As := [.int l1]) 4 dX11_care_1 rfl jyX11_isPerson (tcX11_isPerson   hq1) flX11_96 wm642 (by decide) rfl rfl (Nat.le_of_ble_eq_true rfl) ?_
  refine j_if_ne 9 7 dX11_care_4 (by decide) rfl (fun hc => ?_) (fun hc => ?_)
  · replace h := j_neg hc h
    refine j_aload_n 10 dX11_care_9 rfl rfl 0 rfl ?_
    refine j_getG 13 dX11_care_10 rfl (sh_0 hL) cl11 (k := 0) (by decide) flX11_10 rfl (gs_0_0 hL) ?_
    refine j_dup 14 dX11_care_13 rfl rfl ?_
    refine j_getIN 17 dX11_care_14 rfl (sh_1 hL) cl9 (k := 9) (by decide) flX11_103 rfl ?_
    refine j_iconst (v := (1 : Int32)) 18 dX11_care_17 rfl (by decide) ?_
    refine j_iadd 19 dX11_care_18 rfl ?_
    refine j_putIN 22 dX11_care_19 rfl (sh_1 hL) cl9 (k := 9) (by decide) flX11_103 rfl rfl rfl ?_
    refine j_aload_n 23 dX11_care_22 rfl rfl 0 rfl ?_
    refine j_getG 26 dX11_care_23 rfl (sh_0 hL) cl11 (k := 0) (by decide) flX11_10 rfl (gs_0_0 hL) ?_
    refine j_aload_n 27 dX11_care_26 rfl rfl 0 rfl ?_
    refine j_getG 30 dX11_care_27 rfl (sh_0 hL) cl11 (k := 0) (by decide) flX11_10 rfl (gs_0_0 hL) ?_
    refine j_getIN 33 dX11_care_30 rfl (sh_1 hL) cl9 (k := 7) (by decide) flX11_149 rfl ?_
    refine j_iload_n 34 dX11_care_33 rfl rfl 1 rfl ?_
    refine j_iload_n 35 dX11_care_34 rfl rfl 2 rfl ?_
    obtain ⟨q2, hq2, h⟩ := j_bs h
    refine j_callS (rest := [.ref (E.1 + 1)]) (As := [.int ((j_up I 1 9 ((I 1 9) + (1 : Int32))) 1 7), .int l1, .int l2]) 38 dX11_care_35 rfl jyX11_withBit (tcX11_withBit   hq2) flX11_145 wm653 (by decide) rfl rfl (Nat.le_of_ble_eq_true rfl) ?_
    refine j_putIN 41 dX11_care_38 rfl (sh_1 hL) cl9 (k := 7) (by decide) flX11_149 rfl rfl rfl ?_
    refine j_iconst (v := (1 : Int32)) 42 dX11_care_41 rfl (by decide) ?_
    cases h
    exact j_zret dX11_care_42 rfl j_b01_1
  · replace h := j_pos hc h
    refine j_iconst (v := (0 : Int32)) 8 dX11_care_7 rfl (by decide) ?_
    cases h
    exact j_zret dX11_care_8 rfl j_b01_0
def fX11_days (l1 : Int32) (I : JI) : Option (Int32 × JI) :=
  if l1 < 0 then (some ((-1 : Int32), I)) else (if (1000 : Int32) < l1 then (some ((-1 : Int32), I)) else (if ((I 1 8) + l1) ≤ (9999 : Int32) then (some (((j_up (j_up I 1 9 ((I 1 9) + (1 : Int32))) 1 8 (((j_up I 1 9 ((I 1 9) + (1 : Int32))) 1 8) + l1)) 1 8), (j_up (j_up I 1 9 ((I 1 9) + (1 : Int32))) 1 8 (((j_up I 1 9 ((I 1 9) + (1 : Int32))) 1 8) + l1)))) else (some ((-1 : Int32), I))))
set_option maxHeartbeats 4000000 in
set_option maxRecDepth 100000 in
theorem tcX11_days {E : JE} {l1 : Int32} {r : Int32 × JI} {I : JI} {L : JL} {G D : JG} {S : JS} (hL : Lay G S) (h : fX11_days l1 I = some r) : CallJ E xX11_days 1 [.ref (E.1 + 0), .int l1] I L G D S (some (.int r.1)) r.2 L G D S := by
  unfold fX11_days at h
  refine j_entry (by decide) (Nat.le_of_ble_eq_true rfl) ?_
  show AtJ E xX11_days (Zr E (some (.int r.1)) r.2 L G D S) ((S).length, jm_sl S) 1 0 [(0, .ref (E.1 + 0)), (1, .int l1)] [] I L G D S
  refine j_iload_n 1 dX11_days_0 rfl rfl 1 rfl ?_
  refine j_if_lt 26 4 dX11_days_1 (by decide) rfl (fun hc => ?_) (fun hc => ?_)
  · replace h := j_pos hc h
    refine j_iconst (v := (-1 : Int32)) 27 dX11_days_26 rfl (by decide) ?_
    cases h
    exact j_iret dX11_days_27 rfl
  · replace h := j_neg hc h
    refine j_iload_n 5 dX11_days_4 rfl rfl 1 rfl ?_
    refine j_sipush (v := (1000 : Int32)) 8 dX11_days_5 rfl (by decide) ?_
    refine j_icmp_gt 26 11 dX11_days_8 (by decide) rfl (fun hc => ?_) (fun hc => ?_)
    · replace h := j_pos hc h
      refine j_iconst (v := (-1 : Int32)) 27 dX11_days_26 rfl (by decide) ?_
      cases h
      exact j_iret dX11_days_27 rfl
    · replace h := j_neg hc h
      refine j_aload_n 12 dX11_days_11 rfl rfl 0 rfl ?_
      refine j_getG 15 dX11_days_12 rfl (sh_0 hL) cl11 (k := 0) (by decide) flX11_10 rfl (gs_0_0 hL) ?_
      refine j_getIN 18 dX11_days_15 rfl (sh_1 hL) cl9 (k := 8) (by decide) flX11_152 rfl ?_
      refine j_iload_n 19 dX11_days_18 rfl rfl 1 rfl ?_
      refine j_iadd 20 dX11_days_19 rfl ?_
      refine j_sipush (v := (9999 : Int32)) 23 dX11_days_20 rfl (by decide) ?_
      refine j_icmp_le 28 26 dX11_days_23 (by decide) rfl (fun hc => ?_) (fun hc => ?_)
      · replace h := j_pos hc h
        refine j_aload_n 29 dX11_days_28 rfl rfl 0 rfl ?_
        refine j_getG 32 dX11_days_29 rfl (sh_0 hL) cl11 (k := 0) (by decide) flX11_10 rfl (gs_0_0 hL) ?_
        refine j_dup 33 dX11_days_32 rfl rfl ?_
        refine j_getIN 36 dX11_days_33 rfl (sh_1 hL) cl9 (k := 9) (by decide) flX11_103 rfl ?_
        refine j_iconst (v := (1 : Int32)) 37 dX11_days_36 rfl (by decide) ?_
        refine j_iadd 38 dX11_days_37 rfl ?_
        refine j_putIN 41 dX11_days_38 rfl (sh_1 hL) cl9 (k := 9) (by decide) flX11_103 rfl rfl rfl ?_
        refine j_aload_n 42 dX11_days_41 rfl rfl 0 rfl ?_
        refine j_getG 45 dX11_days_42 rfl (sh_0 hL) cl11 (k := 0) (by decide) flX11_10 rfl (gs_0_0 hL) ?_
        refine j_dup 46 dX11_days_45 rfl rfl ?_
        refine j_getIN 49 dX11_days_46 rfl (sh_1 hL) cl9 (k := 8) (by decide) flX11_152 rfl ?_
        refine j_iload_n 50 dX11_days_49 rfl rfl 1 rfl ?_
        refine j_iadd 51 dX11_days_50 rfl ?_
        refine j_putIN 54 dX11_days_51 rfl (sh_1 hL) cl9 (k := 8) (by decide) flX11_152 rfl rfl rfl ?_
        refine j_aload_n 55 dX11_days_54 rfl rfl 0 rfl ?_
        refine j_getG 58 dX11_days_55 rfl (sh_0 hL) cl11 (k := 0) (by decide) flX11_10 rfl (gs_0_0 hL) ?_
        refine j_getIN 61 dX11_days_58 rfl (sh_1 hL) cl9 (k := 8) (by decide) flX11_152 rfl ?_
        cases h
        exact j_iret dX11_days_61 rfl
      · replace h := j_neg hc h
        refine j_iconst (v := (-1 : Int32)) 27 dX11_days_26 rfl (by decide) ?_
        cases h
        exact j_iret dX11_days_27 rfl
def fX11_feed (l1 : Int64) (l3 : Int64) (l5 : Int64) (I : JI) : Option (Int32 × JI) :=
  (fX8_write l1 I).bind (fun q1 => (fX8_write l3 q1).bind (fun q2 => (fX8_write l5 q2).bind (fun q3 => some ((q3 12 1), q3))))
set_option maxHeartbeats 4000000 in
set_option maxRecDepth 100000 in
theorem tcX11_feed {E : JE} {l1 : Int64} {l3 : Int64} {l5 : Int64} {r : Int32 × JI} {I : JI} {L : JL} {G D : JG} {S : JS} (hL : Lay G S) (h : fX11_feed l1 l3 l5 I = some r) : CallJ E xX11_feed 2 [.ref (E.1 + 0), .long l1, .long l3, .long l5] I L G D S (some (.int r.1)) r.2 L G D S := by
  unfold fX11_feed at h
  refine j_entry (by decide) (Nat.le_of_ble_eq_true rfl) ?_
  show AtJ E xX11_feed (Zr E (some (.int r.1)) r.2 L G D S) ((S).length, jm_sl S) 2 0 [(0, .ref (E.1 + 0)), (1, .long l1), (3, .long l3), (5, .long l5)] [] I L G D S
  refine j_aload_n 1 dX11_feed_0 rfl rfl 0 rfl ?_
  refine j_getG 4 dX11_feed_1 rfl (sh_0 hL) cl11 (k := 2) (by decide) flX11_26 rfl (gs_0_2 hL) ?_
  refine j_lload_n 5 dX11_feed_4 rfl rfl 1 rfl ?_
  obtain ⟨q1, hq1, h⟩ := j_bs h
  refine j_callV (rest := []) (As := [.long l1]) 8 dX11_feed_5 rfl jyX8_write (tcX8_write hL  hq1) (sh_12 hL) cl8 flX11_155 wm715 wm716 (by decide) rfl rfl (Nat.le_of_ble_eq_true rfl) ?_
  refine j_aload_n 9 dX11_feed_8 rfl rfl 0 rfl ?_
  refine j_getG 12 dX11_feed_9 rfl (sh_0 hL) cl11 (k := 2) (by decide) flX11_26 rfl (gs_0_2 hL) ?_
  refine j_lload_n 13 dX11_feed_12 rfl rfl 2 rfl ?_
  obtain ⟨q2, hq2, h⟩ := j_bs h
  refine j_callV (rest := []) (As := [.long l3]) 16 dX11_feed_13 rfl jyX8_write (tcX8_write hL  hq2) (sh_12 hL) cl8 flX11_155 wm715 wm716 (by decide) rfl rfl (Nat.le_of_ble_eq_true rfl) ?_
  refine j_aload_n 17 dX11_feed_16 rfl rfl 0 rfl ?_
  refine j_getG 20 dX11_feed_17 rfl (sh_0 hL) cl11 (k := 2) (by decide) flX11_26 rfl (gs_0_2 hL) ?_
  refine j_lload 22 dX11_feed_20 rfl 3 rfl ?_
  obtain ⟨q3, hq3, h⟩ := j_bs h
  refine j_callV (rest := []) (As := [.long l5]) 25 dX11_feed_22 rfl jyX8_write (tcX8_write hL  hq3) (sh_12 hL) cl8 flX11_155 wm715 wm716 (by decide) rfl rfl (Nat.le_of_ble_eq_true rfl) ?_
  refine j_aload_n 26 dX11_feed_25 rfl rfl 0 rfl ?_
  refine j_getG 29 dX11_feed_26 rfl (sh_0 hL) cl11 (k := 2) (by decide) flX11_26 rfl (gs_0_2 hL) ?_
  refine j_getIN 32 dX11_feed_29 rfl (sh_12 hL) cl8 (k := 1) (by decide) flX11_159 rfl ?_
  cases h
  exact j_iret dX11_feed_32 rfl
def fX11_law (I : JI) (L : JL) (D : JG) (S : JS) : Option (Int32 × JI × JL × JG) :=
  j_opt (D 0 11) (none) (fun b1 => j_g (decide (S[b1]? = some (4, 17))) ((fX8_read b1 I L D S).bind (fun q2 => if q2.1 = 0 then (j_opt (q2.2.2.2 0 10) (j_opt (q2.2.2.2 0 11) (none) (fun b4 => j_g (decide (S[b4]? = some (4, 17))) (none))) (fun b3 => j_g (decide (S[b3]? = some (4, 17))) (j_opt (q2.2.2.2 0 11) (none) (fun b5 => j_g (decide (S[b5]? = some (4, 17))) (j_opt ((j_up (j_up q2.2.2.2 0 10 (some b5)) 0 11 (some b3)) 0 10) (none) (fun b6 => j_g (decide (S[b6]? = some (4, 17))) (some ((0 : Int32), (j_up q2.2.1 1 9 ((q2.2.1 1 9) + (1 : Int32))), q2.2.2.1, (j_up (j_up (j_up q2.2.2.2 0 10 (some b5)) 0 11 (some b3)) 15 5 (some b6)))))))))) else (some (q2.1, q2.2.1, q2.2.2.1, q2.2.2.2)))))
set_option maxHeartbeats 4000000 in
set_option maxRecDepth 100000 in
theorem tcX11_law {E : JE} {r : Int32 × JI × JL × JG} {I : JI} {L : JL} {G D : JG} {S : JS} (hL : Lay G S) (h : fX11_law I L D S = some r) : CallJ E xX11_law 123 [.ref (E.1 + 0)] I L G D S (some (.int r.1)) r.2.1 r.2.2.1 G r.2.2.2 S := by
  unfold fX11_law at h
  refine j_entry (by decide) (Nat.le_of_ble_eq_true rfl) ?_
  show AtJ E xX11_law (Zr E (some (.int r.1)) r.2.1 r.2.2.1 G r.2.2.2 S) ((S).length, jm_sl S) 123 0 [(0, .ref (E.1 + 0))] [] I L G D S
  refine j_aload_n 1 dX11_law_0 rfl rfl 0 rfl ?_
  refine j_getG 4 dX11_law_1 rfl (sh_0 hL) cl11 (k := 2) (by decide) flX11_26 rfl (gs_0_2 hL) ?_
  refine j_aload_n 5 dX11_law_4 rfl rfl 0 rfl ?_
  rcases j_os h with ⟨hb, h⟩ | ⟨b1, hb, h⟩
  · refine j_getDn 8 dX11_law_5 rfl (sh_0 hL) cl11 (k := 11) (by decide) flX11_90 rfl hb ?_
    cases h
  obtain ⟨hsb1, h⟩ := j_gs h
  replace hsb1 := of_decide_eq_true hsb1
  refine j_getD 8 dX11_law_5 rfl (sh_0 hL) cl11 (k := 11) (by decide) flX11_90 rfl hb ?_
  obtain ⟨q2, hq2, h⟩ := j_bs h
  refine j_callV (rest := []) (As := [.ref (E.1 + b1)]) 11 dX11_law_8 rfl jyX8_read (tcX8_read hL hsb1 hq2) (sh_12 hL) cl8 flX11_162 wm723 wm724 (by decide) rfl rfl (Nat.le_of_ble_eq_true rfl) ?_
  refine j_istore_n (lv' := [(1, .int q2.1), (0, .ref (E.1 + 0))]) 12 dX11_law_11 rfl rfl (by decide) rfl ?_
  refine j_iload_n 13 dX11_law_12 rfl rfl 0 rfl ?_
  refine j_if_eq 18 16 dX11_law_13 (by decide) rfl (fun hc => ?_) (fun hc => ?_)
  · replace h := j_pos hc h
    refine j_aload_n 19 dX11_law_18 rfl rfl 1 rfl ?_
    refine j_getG 22 dX11_law_19 rfl (sh_0 hL) cl11 (k := 0) (by decide) flX11_10 rfl (gs_0_0 hL) ?_
    refine j_dup 23 dX11_law_22 rfl rfl ?_
    refine j_getIN 26 dX11_law_23 rfl (sh_1 hL) cl9 (k := 9) (by decide) flX11_103 rfl ?_
    refine j_iconst (v := (1 : Int32)) 27 dX11_law_26 rfl (by decide) ?_
    refine j_iadd 28 dX11_law_27 rfl ?_
    refine j_putIN 31 dX11_law_28 rfl (sh_1 hL) cl9 (k := 9) (by decide) flX11_103 rfl rfl rfl ?_
    refine j_aload_n 32 dX11_law_31 rfl rfl 1 rfl ?_
    rcases j_os h with ⟨hb, h⟩ | ⟨b3, hb, h⟩
    · refine j_getDn 35 dX11_law_32 rfl (sh_0 hL) cl11 (k := 10) (by decide) flX11_86 rfl hb ?_
      refine j_astore_nN (lv' := [(2, .null), (1, .int q2.1), (0, .ref (E.1 + 0))]) 36 dX11_law_35 rfl rfl (by decide) rfl ?_
      refine j_aload_n 37 dX11_law_36 rfl rfl 2 rfl ?_
      refine j_aload_n 38 dX11_law_37 rfl rfl 2 rfl ?_
      rcases j_os h with ⟨hb, h⟩ | ⟨b4, hb, h⟩
      · refine j_getDn 41 dX11_law_38 rfl (sh_0 hL) cl11 (k := 11) (by decide) flX11_90 rfl hb ?_
        cases h
      obtain ⟨hsb4, h⟩ := j_gs h
      replace hsb4 := of_decide_eq_true hsb4
      refine j_getD 41 dX11_law_38 rfl (sh_0 hL) cl11 (k := 11) (by decide) flX11_90 rfl hb ?_
      refine j_putD 44 dX11_law_41 rfl (sh_0 hL) cl11 (k := 10) (by decide) flX11_86 rfl rfl (fun _ => rfl) (fun _ => rfl) ?_
      refine j_aload_n 45 dX11_law_44 rfl rfl 2 rfl ?_
      refine j_aload_nN 46 dX11_law_45 rfl rfl 0 rfl ?_
      cases h
    obtain ⟨hsb3, h⟩ := j_gs h
    replace hsb3 := of_decide_eq_true hsb3
    refine j_getD 35 dX11_law_32 rfl (sh_0 hL) cl11 (k := 10) (by decide) flX11_86 rfl hb ?_
    refine j_astore_n (lv' := [(2, .ref (E.1 + b3)), (1, .int q2.1), (0, .ref (E.1 + 0))]) 36 dX11_law_35 rfl rfl (by decide) rfl ?_
    refine j_aload_n 37 dX11_law_36 rfl rfl 2 rfl ?_
    refine j_aload_n 38 dX11_law_37 rfl rfl 2 rfl ?_
    rcases j_os h with ⟨hb, h⟩ | ⟨b5, hb, h⟩
    · refine j_getDn 41 dX11_law_38 rfl (sh_0 hL) cl11 (k := 11) (by decide) flX11_90 rfl hb ?_
      cases h
    obtain ⟨hsb5, h⟩ := j_gs h
    replace hsb5 := of_decide_eq_true hsb5
    refine j_getD 41 dX11_law_38 rfl (sh_0 hL) cl11 (k := 11) (by decide) flX11_90 rfl hb ?_
    refine j_putD 44 dX11_law_41 rfl (sh_0 hL) cl11 (k := 10) (by decide) flX11_86 rfl rfl (fun _ => rfl) (fun _ => rfl) ?_
    refine j_aload_n 45 dX11_law_44 rfl rfl 2 rfl ?_
    refine j_aload_n 46 dX11_law_45 rfl rfl 0 rfl ?_
    refine j_putD 49 dX11_law_46 rfl (sh_0 hL) cl11 (k := 11) (by decide) flX11_90 rfl rfl (fun _ => rfl) (fun _ => rfl) ?_
    refine j_aload_n 50 dX11_law_49 rfl rfl 2 rfl ?_
    refine j_getG 53 dX11_law_50 rfl (sh_0 hL) cl11 (k := 4) (by decide) flX11_42 rfl (gs_0_4 hL) ?_
    refine j_aload_n 54 dX11_law_53 rfl rfl 2 rfl ?_
    rcases j_os h with ⟨hb, h⟩ | ⟨b6, hb, h⟩
    · refine j_getDn 57 dX11_law_54 rfl (sh_0 hL) cl11 (k := 10) (by decide) flX11_86 rfl hb ?_
      cases h
    obtain ⟨hsb6, h⟩ := j_gs h
    replace hsb6 := of_decide_eq_true hsb6
    refine j_getD 57 dX11_law_54 rfl (sh_0 hL) cl11 (k := 10) (by decide) flX11_86 rfl hb ?_
    refine j_putDN 60 dX11_law_57 rfl (sh_15 hL) cl3 (k := 5) (by decide) flX11_93 rfl rfl (fun _ => rfl) (fun _ => rfl) ?_
    refine j_iconst (v := (0 : Int32)) 61 dX11_law_60 rfl (by decide) ?_
    cases h
    exact j_iret dX11_law_61 rfl
  · replace h := j_neg hc h
    refine j_iload_n 17 dX11_law_16 rfl rfl 0 rfl ?_
    cases h
    exact j_iret dX11_law_17 rfl
def fX11_holds (l1 : Int32) (l2 : Int32) (I : JI) : Option (Int32) :=
  (fX9_isTold l1 I).bind (fun q1 => if q1 = 0 then (some ((-1 : Int32))) else ((fX11_isPerson l2).bind (fun q2 => if q2 = 0 then (some ((-1 : Int32))) else ((fX1_of 7 l1 l2 I).bind (fun q3 => some (q3))))))
set_option maxHeartbeats 4000000 in
set_option maxRecDepth 100000 in
theorem tcX11_holds {E : JE} {l1 : Int32} {l2 : Int32} {r : Int32} {I : JI} {L : JL} {G D : JG} {S : JS} (hL : Lay G S) (h : fX11_holds l1 l2 I = some r) : CallJ E xX11_holds 2 [.ref (E.1 + 0), .int l1, .int l2] I L G D S (some (.int r)) I L G D S := by
  unfold fX11_holds at h
  refine j_entry (by decide) (Nat.le_of_ble_eq_true rfl) ?_
  show AtJ E xX11_holds (Zr E (some (.int r)) I L G D S) ((S).length, jm_sl S) 2 0 [(0, .ref (E.1 + 0)), (1, .int l1), (2, .int l2)] [] I L G D S
  refine j_aload_n 1 dX11_holds_0 rfl rfl 0 rfl ?_
  refine j_getG 4 dX11_holds_1 rfl (sh_0 hL) cl11 (k := 0) (by decide) flX11_10 rfl (gs_0_0 hL) ?_
  refine j_iload_n 5 dX11_holds_4 rfl rfl 1 rfl ?_
  obtain ⟨q1, hq1, h⟩ := j_bs h
  refine j_callV (rest := []) (As := [.int l1]) 8 dX11_holds_5 rfl jyX9_isTold (tcX9_isTold hL  hq1) (sh_1 hL) cl9 flX11_100 wm645 wm646 (by decide) rfl rfl (Nat.le_of_ble_eq_true rfl) ?_
  refine j_if_eq 18 11 dX11_holds_8 (by decide) rfl (fun hc => ?_) (fun hc => ?_)
  · replace h := j_pos hc h
    refine j_iconst (v := (-1 : Int32)) 19 dX11_holds_18 rfl (by decide) ?_
    cases h
    exact j_iret dX11_holds_19 rfl
  · replace h := j_neg hc h
    refine j_iload_n 12 dX11_holds_11 rfl rfl 2 rfl ?_
    obtain ⟨q2, hq2, h⟩ := j_bs h
    refine j_callS (rest := []) (As := [.int l2]) 15 dX11_holds_12 rfl jyX11_isPerson (tcX11_isPerson   hq2) flX11_96 wm642 (by decide) rfl rfl (Nat.le_of_ble_eq_true rfl) ?_
    refine j_if_ne 20 18 dX11_holds_15 (by decide) rfl (fun hc => ?_) (fun hc => ?_)
    · replace h := j_neg hc h
      refine j_aload_n 21 dX11_holds_20 rfl rfl 0 rfl ?_
      refine j_getG 24 dX11_holds_21 rfl (sh_0 hL) cl11 (k := 1) (by decide) flX11_19 rfl (gs_0_1 hL) ?_
      refine j_iload_n 25 dX11_holds_24 rfl rfl 1 rfl ?_
      refine j_iload_n 26 dX11_holds_25 rfl rfl 2 rfl ?_
      obtain ⟨q3, hq3, h⟩ := j_bs h
      refine j_callV (rest := []) (As := [.int l1, .int l2]) 29 dX11_holds_26 rfl jyX1_of (tcX1_of hL (sh_7 hL) hq3) (sh_7 hL) cl1 flX11_118 wm663 wm664 (by decide) rfl rfl (Nat.le_of_ble_eq_true rfl) ?_
      cases h
      exact j_iret dX11_holds_29 rfl
    · replace h := j_pos hc h
      refine j_iconst (v := (-1 : Int32)) 19 dX11_holds_18 rfl (by decide) ?_
      cases h
      exact j_iret dX11_holds_19 rfl
