def fX12_worth_335 (I : JI) : Option (Int32 × JI) :=
  (fX12_tests (0 : Int32) I).bind (fun q2 => j_g (j_in (0 : Int32) 7) (some ((q2 86 (0 : Int32).toNatClampNeg), q2)))
set_option maxHeartbeats 4000000 in
set_option maxRecDepth 100000 in
theorem kX12_worth_335 {E : JE} {r : Int32 × JI} {L : JL} {G : JG} {D : JG} {S : JS} (hL : Lay G S) : ∀ (I : JI), fX12_worth_335 I = some r → AtJ E xX12_worth (Zr E (some (.int r.1)) r.2 L G D S) ((S).length, jm_sl S) 3 335 [(0, .ref (E.1 + 66))] [] I L G D S := by
  intro I  h
  unfold fX12_worth_335 at h
  refine j_aload_n 336 dX12_worth_335 rfl rfl 0 rfl ?_
  refine j_iconst (v := (0 : Int32)) 337 dX12_worth_336 rfl (by decide) ?_
  obtain ⟨q2, hq2, h⟩ := j_bs h
  refine j_callV (rest := []) (As := [.int (0 : Int32)]) 340 dX12_worth_337 rfl jyX12_tests (tcX12_tests hL  hq2) (sh_66 hL) cl12 flX12_413 wm1890 wm66 (by decide) rfl rfl (Nat.le_of_ble_eq_true rfl) ?_
  refine j_aload_n 341 dX12_worth_340 rfl rfl 0 rfl ?_
  refine j_getG 344 dX12_worth_341 rfl (sh_66 hL) cl12 (k := 36) (by decide) flX12_68 rfl (gs_66_36 hL) ?_
  refine j_iconst (v := (0 : Int32)) 345 dX12_worth_344 rfl (by decide) ?_
  obtain ⟨hg, h⟩ := j_gs h
  refine j_iald 346 dX12_worth_345 rfl (sh_86 hL) (j_inv hg) ?_
  cases h
  exact j_iret dX12_worth_346 rfl
def fX12_worth_46 (k14 : Int32 → Int32 → Int32 → JI → Option (Int32 × JI)) (l1 : Int32) (l2 : Int32) (l3 : Int32) (l4 : Int32) (I : JI) : Option (Int32 × JI) :=
  if l4 = (30 : Int32) then (j_g (j_in (l2 + (1 : Int32)) 7) ((fX12_opens (l2 + (1 : Int32)) (j_up I 94 (l2 + (1 : Int32)).toNatClampNeg (1 : Int32))).bind (fun q4 => k14 l1 (l2 + (1 : Int32)) (l3 + (1 : Int32)) q4))) else (j_g (j_in (l2 + (1 : Int32)) 7) ((fX12_opens (l2 + (1 : Int32)) (j_up I 94 (l2 + (1 : Int32)).toNatClampNeg (0 : Int32))).bind (fun q3 => k14 l1 (l2 + (1 : Int32)) (l3 + (1 : Int32)) q3)))
set_option maxHeartbeats 4000000 in
set_option maxRecDepth 100000 in
theorem kX12_worth_46 {E : JE} {k14 : Int32 → Int32 → Int32 → JI → Option (Int32 × JI)} {r : Int32 × JI} {L : JL} {G : JG} {D : JG} {S : JS} (hL : Lay G S) (H14 : ∀ (l1 : Int32) (l2 : Int32) (l3 : Int32) (I : JI), k14 l1 l2 l3 I = some r → AtJ E xX12_worth (Zr E (some (.int r.1)) r.2 L G D S) ((S).length, jm_sl S) 3 14 [(0, .ref (E.1 + 66)), (1, .int l1), (2, .int l2), (3, .int l3)] [] I L G D S) : ∀ (l1 : Int32) (l2 : Int32) (l3 : Int32) (l4 : Int32) (I : JI), fX12_worth_46 k14 l1 l2 l3 l4 I = some r → AtJ E xX12_worth (Zr E (some (.int r.1)) r.2 L G D S) ((S).length, jm_sl S) 3 46 [(0, .ref (E.1 + 66)), (1, .int l1), (2, .int l2), (3, .int l3), (4, .int l4)] [] I L G D S := by
  intro l1 l2 l3 l4 I  h
  unfold fX12_worth_46 at h
  refine j_iinc (v := (l2 + (1 : Int32))) (lv' := [(2, .int (l2 + (1 : Int32))), (0, .ref (E.1 + 66)), (1, .int l1), (3, .int l3), (4, .int l4)]) (q := 2) 49 dX12_worth_46 rfl rfl rfl (by decide) rfl ?_
  refine j_aload_n 50 dX12_worth_49 rfl rfl 1 rfl ?_
  refine j_getG 53 dX12_worth_50 rfl (sh_66 hL) cl12 (k := 44) (by decide) flX12_92 rfl (gs_66_44 hL) ?_
  refine j_iload_n 54 dX12_worth_53 rfl rfl 0 rfl ?_
  refine j_iload 56 dX12_worth_54 rfl 4 rfl ?_
  refine j_bipush (v := (30 : Int32)) 58 dX12_worth_56 rfl (by decide) ?_
  refine j_icmp_ne 65 61 dX12_worth_58 (by decide) rfl (fun hc => ?_) (fun hc => ?_)
  · replace h := j_neg hc h
    refine j_iconst (v := (0 : Int32)) 66 dX12_worth_65 rfl (by decide) ?_
    obtain ⟨hg, h⟩ := j_gs h
    refine j_iast 67 dX12_worth_66 rfl (sh_94 hL) (j_inv hg) ?_
    refine j_aload_n 68 dX12_worth_67 rfl rfl 1 rfl ?_
    refine j_iload_n 69 dX12_worth_68 rfl rfl 0 rfl ?_
    obtain ⟨q3, hq3, h⟩ := j_bs h
    refine j_callV (rest := []) (As := [.int (l2 + (1 : Int32))]) 72 dX12_worth_69 rfl jyX12_opens (tcX12_opens hL  hq3) (sh_66 hL) cl12 flX12_410 wm1882 wm64 (by decide) rfl rfl (Nat.le_of_ble_eq_true rfl) ?_
    refine j_goto 329 dX12_worth_72 (by decide) ?_
    refine j_iinc (v := (l3 + (1 : Int32))) (lv' := [(3, .int (l3 + (1 : Int32))), (2, .int (l2 + (1 : Int32))), (0, .ref (E.1 + 66)), (1, .int l1), (4, .int l4)]) (q := 3) 332 dX12_worth_329 rfl rfl rfl (by decide) rfl ?_
    refine j_goto 14 dX12_worth_332 (by decide) ?_
    refine j_sub [2, 3, 1, 0] rfl ?_
    exact H14 _ _ _ _  h
  · replace h := j_pos hc h
    refine j_iconst (v := (1 : Int32)) 62 dX12_worth_61 rfl (by decide) ?_
    refine j_goto 66 dX12_worth_62 (by decide) ?_
    obtain ⟨hg, h⟩ := j_gs h
    refine j_iast 67 dX12_worth_66 rfl (sh_94 hL) (j_inv hg) ?_
    refine j_aload_n 68 dX12_worth_67 rfl rfl 1 rfl ?_
    refine j_iload_n 69 dX12_worth_68 rfl rfl 0 rfl ?_
    obtain ⟨q4, hq4, h⟩ := j_bs h
    refine j_callV (rest := []) (As := [.int (l2 + (1 : Int32))]) 72 dX12_worth_69 rfl jyX12_opens (tcX12_opens hL  hq4) (sh_66 hL) cl12 flX12_410 wm1882 wm64 (by decide) rfl rfl (Nat.le_of_ble_eq_true rfl) ?_
    refine j_goto 329 dX12_worth_72 (by decide) ?_
    refine j_iinc (v := (l3 + (1 : Int32))) (lv' := [(3, .int (l3 + (1 : Int32))), (2, .int (l2 + (1 : Int32))), (0, .ref (E.1 + 66)), (1, .int l1), (4, .int l4)]) (q := 3) 332 dX12_worth_329 rfl rfl rfl (by decide) rfl ?_
    refine j_goto 14 dX12_worth_332 (by decide) ?_
    refine j_sub [2, 3, 1, 0] rfl ?_
    exact H14 _ _ _ _  h
def fX12_worth_89 (k14 : Int32 → Int32 → Int32 → JI → Option (Int32 × JI)) (l1 : Int32) (l2 : Int32) (l3 : Int32) (l4 : Int32) (I : JI) : Option (Int32 × JI) :=
  (fX12_sums l2 I).bind (fun q5 => j_g (j_in l2 7) (k14 l1 l2 (l3 + (1 : Int32)) (j_up q5 91 l2.toNatClampNeg l4)))
set_option maxHeartbeats 4000000 in
set_option maxRecDepth 100000 in
theorem kX12_worth_89 {E : JE} {k14 : Int32 → Int32 → Int32 → JI → Option (Int32 × JI)} {r : Int32 × JI} {L : JL} {G : JG} {D : JG} {S : JS} (hL : Lay G S) (H14 : ∀ (l1 : Int32) (l2 : Int32) (l3 : Int32) (I : JI), k14 l1 l2 l3 I = some r → AtJ E xX12_worth (Zr E (some (.int r.1)) r.2 L G D S) ((S).length, jm_sl S) 3 14 [(0, .ref (E.1 + 66)), (1, .int l1), (2, .int l2), (3, .int l3)] [] I L G D S) : ∀ (l1 : Int32) (l2 : Int32) (l3 : Int32) (l4 : Int32) (I : JI), fX12_worth_89 k14 l1 l2 l3 l4 I = some r → AtJ E xX12_worth (Zr E (some (.int r.1)) r.2 L G D S) ((S).length, jm_sl S) 3 89 [(0, .ref (E.1 + 66)), (1, .int l1), (2, .int l2), (3, .int l3), (4, .int l4)] [] I L G D S := by
  intro l1 l2 l3 l4 I  h
  unfold fX12_worth_89 at h
  refine j_aload_n 90 dX12_worth_89 rfl rfl 0 rfl ?_
  refine j_iload_n 91 dX12_worth_90 rfl rfl 2 rfl ?_
  obtain ⟨q5, hq5, h⟩ := j_bs h
  refine j_callV (rest := []) (As := [.int l2]) 94 dX12_worth_91 rfl jyX12_sums (tcX12_sums hL  hq5) (sh_66 hL) cl12 flX12_407 wm1886 wm65 (by decide) rfl rfl (Nat.le_of_ble_eq_true rfl) ?_
  refine j_aload_n 95 dX12_worth_94 rfl rfl 0 rfl ?_
  refine j_getG 98 dX12_worth_95 rfl (sh_66 hL) cl12 (k := 41) (by decide) flX12_83 rfl (gs_66_41 hL) ?_
  refine j_iload_n 99 dX12_worth_98 rfl rfl 2 rfl ?_
  refine j_iload 101 dX12_worth_99 rfl 4 rfl ?_
  obtain ⟨hg, h⟩ := j_gs h
  refine j_iast 102 dX12_worth_101 rfl (sh_91 hL) (j_inv hg) ?_
  refine j_goto 329 dX12_worth_102 (by decide) ?_
  refine j_iinc (v := (l3 + (1 : Int32))) (lv' := [(3, .int (l3 + (1 : Int32))), (0, .ref (E.1 + 66)), (1, .int l1), (2, .int l2), (4, .int l4)]) (q := 3) 332 dX12_worth_329 rfl rfl rfl (by decide) rfl ?_
  refine j_goto 14 dX12_worth_332 (by decide) ?_
  refine j_sub [1, 2, 3, 0] rfl ?_
  exact H14 _ _ _ _  h
def fX12_worth_137 (k14 : Int32 → Int32 → Int32 → JI → Option (Int32 × JI)) (l1 : Int32) (l2 : Int32) (l3 : Int32) (l4 : Int32) (I : JI) : Option (Int32 × JI) :=
  (fX12_sums l2 I).bind (fun q6 => j_g (j_in l2 7) (j_g (j_in l2 7) (j_g (j_in l2 7) (j_g (j_in l2 7) (j_g (j_in l2 7) (k14 l1 l2 (l3 + (1 : Int32)) (j_up (j_up (j_up (j_up q6 88 l2.toNatClampNeg (q6 90 l2.toNatClampNeg)) 89 l2.toNatClampNeg l4) 90 l2.toNatClampNeg (0 : Int32)) 91 l2.toNatClampNeg (20 : Int32))))))))
set_option maxHeartbeats 4000000 in
set_option maxRecDepth 100000 in
theorem kX12_worth_137 {E : JE} {k14 : Int32 → Int32 → Int32 → JI → Option (Int32 × JI)} {r : Int32 × JI} {L : JL} {G : JG} {D : JG} {S : JS} (hL : Lay G S) (H14 : ∀ (l1 : Int32) (l2 : Int32) (l3 : Int32) (I : JI), k14 l1 l2 l3 I = some r → AtJ E xX12_worth (Zr E (some (.int r.1)) r.2 L G D S) ((S).length, jm_sl S) 3 14 [(0, .ref (E.1 + 66)), (1, .int l1), (2, .int l2), (3, .int l3)] [] I L G D S) : ∀ (l1 : Int32) (l2 : Int32) (l3 : Int32) (l4 : Int32) (I : JI), fX12_worth_137 k14 l1 l2 l3 l4 I = some r → AtJ E xX12_worth (Zr E (some (.int r.1)) r.2 L G D S) ((S).length, jm_sl S) 3 137 [(0, .ref (E.1 + 66)), (1, .int l1), (2, .int l2), (3, .int l3), (4, .int l4)] [] I L G D S := by
  intro l1 l2 l3 l4 I  h
  unfold fX12_worth_137 at h
  refine j_aload_n 138 dX12_worth_137 rfl rfl 0 rfl ?_
  refine j_iload_n 139 dX12_worth_138 rfl rfl 2 rfl ?_
  obtain ⟨q6, hq6, h⟩ := j_bs h
  refine j_callV (rest := []) (As := [.int l2]) 142 dX12_worth_139 rfl jyX12_sums (tcX12_sums hL  hq6) (sh_66 hL) cl12 flX12_407 wm1886 wm65 (by decide) rfl rfl (Nat.le_of_ble_eq_true rfl) ?_
  refine j_aload_n 143 dX12_worth_142 rfl rfl 0 rfl ?_
  refine j_getG 146 dX12_worth_143 rfl (sh_66 hL) cl12 (k := 38) (by decide) flX12_74 rfl (gs_66_38 hL) ?_
  refine j_iload_n 147 dX12_worth_146 rfl rfl 2 rfl ?_
  refine j_aload_n 148 dX12_worth_147 rfl rfl 0 rfl ?_
  refine j_getG 151 dX12_worth_148 rfl (sh_66 hL) cl12 (k := 40) (by decide) flX12_80 rfl (gs_66_40 hL) ?_
  refine j_iload_n 152 dX12_worth_151 rfl rfl 2 rfl ?_
  obtain ⟨hg, h⟩ := j_gs h
  refine j_iald 153 dX12_worth_152 rfl (sh_90 hL) (j_inv hg) ?_
  obtain ⟨hg, h⟩ := j_gs h
  refine j_iast 154 dX12_worth_153 rfl (sh_88 hL) (j_inv hg) ?_
  refine j_aload_n 155 dX12_worth_154 rfl rfl 0 rfl ?_
  refine j_getG 158 dX12_worth_155 rfl (sh_66 hL) cl12 (k := 39) (by decide) flX12_77 rfl (gs_66_39 hL) ?_
  refine j_iload_n 159 dX12_worth_158 rfl rfl 2 rfl ?_
  refine j_iload 161 dX12_worth_159 rfl 4 rfl ?_
  obtain ⟨hg, h⟩ := j_gs h
  refine j_iast 162 dX12_worth_161 rfl (sh_89 hL) (j_inv hg) ?_
  refine j_aload_n 163 dX12_worth_162 rfl rfl 0 rfl ?_
  refine j_getG 166 dX12_worth_163 rfl (sh_66 hL) cl12 (k := 40) (by decide) flX12_80 rfl (gs_66_40 hL) ?_
  refine j_iload_n 167 dX12_worth_166 rfl rfl 2 rfl ?_
  refine j_iconst (v := (0 : Int32)) 168 dX12_worth_167 rfl (by decide) ?_
  obtain ⟨hg, h⟩ := j_gs h
  refine j_iast 169 dX12_worth_168 rfl (sh_90 hL) (j_inv hg) ?_
  refine j_aload_n 170 dX12_worth_169 rfl rfl 0 rfl ?_
  refine j_getG 173 dX12_worth_170 rfl (sh_66 hL) cl12 (k := 41) (by decide) flX12_83 rfl (gs_66_41 hL) ?_
  refine j_iload_n 174 dX12_worth_173 rfl rfl 2 rfl ?_
  refine j_bipush (v := (20 : Int32)) 176 dX12_worth_174 rfl (by decide) ?_
  obtain ⟨hg, h⟩ := j_gs h
  refine j_iast 177 dX12_worth_176 rfl (sh_91 hL) (j_inv hg) ?_
  refine j_goto 329 dX12_worth_177 (by decide) ?_
  refine j_iinc (v := (l3 + (1 : Int32))) (lv' := [(3, .int (l3 + (1 : Int32))), (0, .ref (E.1 + 66)), (1, .int l1), (2, .int l2), (4, .int l4)]) (q := 3) 332 dX12_worth_329 rfl rfl rfl (by decide) rfl ?_
  refine j_goto 14 dX12_worth_332 (by decide) ?_
  refine j_sub [1, 2, 3, 0] rfl ?_
  exact H14 _ _ _ _  h
def fX12_worth_194 (k14 : Int32 → Int32 → Int32 → JI → Option (Int32 × JI)) (l1 : Int32) (l2 : Int32) (l3 : Int32) (l4 : Int32) (I : JI) : Option (Int32 × JI) :=
  (fX12_tests l2 I).bind (fun q7 => j_g (j_in l2 7) (k14 l1 l2 (l3 + (1 : Int32)) (j_up q7 87 l2.toNatClampNeg l4)))
set_option maxHeartbeats 4000000 in
set_option maxRecDepth 100000 in
theorem kX12_worth_194 {E : JE} {k14 : Int32 → Int32 → Int32 → JI → Option (Int32 × JI)} {r : Int32 × JI} {L : JL} {G : JG} {D : JG} {S : JS} (hL : Lay G S) (H14 : ∀ (l1 : Int32) (l2 : Int32) (l3 : Int32) (I : JI), k14 l1 l2 l3 I = some r → AtJ E xX12_worth (Zr E (some (.int r.1)) r.2 L G D S) ((S).length, jm_sl S) 3 14 [(0, .ref (E.1 + 66)), (1, .int l1), (2, .int l2), (3, .int l3)] [] I L G D S) : ∀ (l1 : Int32) (l2 : Int32) (l3 : Int32) (l4 : Int32) (I : JI), fX12_worth_194 k14 l1 l2 l3 l4 I = some r → AtJ E xX12_worth (Zr E (some (.int r.1)) r.2 L G D S) ((S).length, jm_sl S) 3 194 [(0, .ref (E.1 + 66)), (1, .int l1), (2, .int l2), (3, .int l3), (4, .int l4)] [] I L G D S := by
  intro l1 l2 l3 l4 I  h
  unfold fX12_worth_194 at h
  refine j_aload_n 195 dX12_worth_194 rfl rfl 0 rfl ?_
  refine j_iload_n 196 dX12_worth_195 rfl rfl 2 rfl ?_
  obtain ⟨q7, hq7, h⟩ := j_bs h
  refine j_callV (rest := []) (As := [.int l2]) 199 dX12_worth_196 rfl jyX12_tests (tcX12_tests hL  hq7) (sh_66 hL) cl12 flX12_413 wm1890 wm66 (by decide) rfl rfl (Nat.le_of_ble_eq_true rfl) ?_
  refine j_aload_n 200 dX12_worth_199 rfl rfl 0 rfl ?_
  refine j_getG 203 dX12_worth_200 rfl (sh_66 hL) cl12 (k := 37) (by decide) flX12_71 rfl (gs_66_37 hL) ?_
  refine j_iload_n 204 dX12_worth_203 rfl rfl 2 rfl ?_
  refine j_iload 206 dX12_worth_204 rfl 4 rfl ?_
  obtain ⟨hg, h⟩ := j_gs h
  refine j_iast 207 dX12_worth_206 rfl (sh_87 hL) (j_inv hg) ?_
  refine j_goto 329 dX12_worth_207 (by decide) ?_
  refine j_iinc (v := (l3 + (1 : Int32))) (lv' := [(3, .int (l3 + (1 : Int32))), (0, .ref (E.1 + 66)), (1, .int l1), (2, .int l2), (4, .int l4)]) (q := 3) 332 dX12_worth_329 rfl rfl rfl (by decide) rfl ?_
  refine j_goto 14 dX12_worth_332 (by decide) ?_
  refine j_sub [1, 2, 3, 0] rfl ?_
  exact H14 _ _ _ _  h
def fX12_worth_300 (k14 : Int32 → Int32 → Int32 → JI → Option (Int32 × JI)) (l1 : Int32) (l2 : Int32) (l3 : Int32) (l5 : Int32) (I : JI) : Option (Int32 × JI) :=
  j_g (j_in l2 7) (if (I 93 l2.toNatClampNeg) = 0 then (j_g (j_in l2 7) (k14 l1 l2 (l3 + (1 : Int32)) (j_up I 92 l2.toNatClampNeg l5))) else (j_g (j_in l2 7) (j_g (j_in l2 7) (k14 l1 l2 (l3 + (1 : Int32)) (j_up I 92 l2.toNatClampNeg ((I 92 l2.toNatClampNeg) * l5))))))
set_option maxHeartbeats 4000000 in
set_option maxRecDepth 100000 in
theorem kX12_worth_300 {E : JE} {k14 : Int32 → Int32 → Int32 → JI → Option (Int32 × JI)} {r : Int32 × JI} {L : JL} {G : JG} {D : JG} {S : JS} (hL : Lay G S) (H14 : ∀ (l1 : Int32) (l2 : Int32) (l3 : Int32) (I : JI), k14 l1 l2 l3 I = some r → AtJ E xX12_worth (Zr E (some (.int r.1)) r.2 L G D S) ((S).length, jm_sl S) 3 14 [(0, .ref (E.1 + 66)), (1, .int l1), (2, .int l2), (3, .int l3)] [] I L G D S) : ∀ (l1 : Int32) (l2 : Int32) (l3 : Int32) (l5 : Int32) (I : JI), fX12_worth_300 k14 l1 l2 l3 l5 I = some r → AtJ E xX12_worth (Zr E (some (.int r.1)) r.2 L G D S) ((S).length, jm_sl S) 3 300 [(0, .ref (E.1 + 66)), (1, .int l1), (2, .int l2), (3, .int l3), (5, .int l5)] [] I L G D S := by
  intro l1 l2 l3 l5 I  h
  unfold fX12_worth_300 at h
  refine j_aload_n 301 dX12_worth_300 rfl rfl 0 rfl ?_
  refine j_getG 304 dX12_worth_301 rfl (sh_66 hL) cl12 (k := 42) (by decide) flX12_86 rfl (gs_66_42 hL) ?_
  refine j_iload_n 305 dX12_worth_304 rfl rfl 2 rfl ?_
  refine j_aload_n 306 dX12_worth_305 rfl rfl 0 rfl ?_
  refine j_getG 309 dX12_worth_306 rfl (sh_66 hL) cl12 (k := 43) (by decide) flX12_89 rfl (gs_66_43 hL) ?_
  refine j_iload_n 310 dX12_worth_309 rfl rfl 2 rfl ?_
  obtain ⟨hg, h⟩ := j_gs h
  refine j_iald 311 dX12_worth_310 rfl (sh_93 hL) (j_inv hg) ?_
  refine j_if_ne 319 314 dX12_worth_311 (by decide) rfl (fun hc => ?_) (fun hc => ?_)
  · replace h := j_neg hc h
    refine j_aload_n 320 dX12_worth_319 rfl rfl 0 rfl ?_
    refine j_getG 323 dX12_worth_320 rfl (sh_66 hL) cl12 (k := 42) (by decide) flX12_86 rfl (gs_66_42 hL) ?_
    refine j_iload_n 324 dX12_worth_323 rfl rfl 2 rfl ?_
    obtain ⟨hg, h⟩ := j_gs h
    refine j_iald 325 dX12_worth_324 rfl (sh_92 hL) (j_inv hg) ?_
    refine j_iload 327 dX12_worth_325 rfl 4 rfl ?_
    refine j_imul 328 dX12_worth_327 rfl ?_
    obtain ⟨hg, h⟩ := j_gs h
    refine j_iast 329 dX12_worth_328 rfl (sh_92 hL) (j_inv hg) ?_
    refine j_iinc (v := (l3 + (1 : Int32))) (lv' := [(3, .int (l3 + (1 : Int32))), (0, .ref (E.1 + 66)), (1, .int l1), (2, .int l2), (5, .int l5)]) (q := 3) 332 dX12_worth_329 rfl rfl rfl (by decide) rfl ?_
    refine j_goto 14 dX12_worth_332 (by decide) ?_
    refine j_sub [1, 2, 3, 0] rfl ?_
    exact H14 _ _ _ _  h
  · replace h := j_pos hc h
    refine j_iload 316 dX12_worth_314 rfl 4 rfl ?_
    refine j_goto 328 dX12_worth_316 (by decide) ?_
    obtain ⟨hg, h⟩ := j_gs h
    refine j_iast 329 dX12_worth_328 rfl (sh_92 hL) (j_inv hg) ?_
    refine j_iinc (v := (l3 + (1 : Int32))) (lv' := [(3, .int (l3 + (1 : Int32))), (0, .ref (E.1 + 66)), (1, .int l1), (2, .int l2), (5, .int l5)]) (q := 3) 332 dX12_worth_329 rfl rfl rfl (by decide) rfl ?_
    refine j_goto 14 dX12_worth_332 (by decide) ?_
    refine j_sub [1, 2, 3, 0] rfl ?_
    exact H14 _ _ _ _  h
def fX12_worth_268 (k14 : Int32 → Int32 → Int32 → JI → Option (Int32 × JI)) : Nat → Int32 → Int32 → Int32 → Int32 → JI → Option (Int32 × JI)
  | 0, _, _, _, _, _ => none
  | n + 1, l1, l2, l3, l5, I =>
    if l2 ≤ 0 then (fX12_worth_300 k14 l1 l2 l3 l5 I) else (j_g (j_in l2 7) (if (I 94 l2.toNatClampNeg) = (1 : Int32) then (if l5 = 0 then ((fX12_worth_268 k14 n) l1 (l2 + (-1 : Int32)) l3 (1 : Int32) I) else ((fX12_worth_268 k14 n) l1 (l2 + (-1 : Int32)) l3 (0 : Int32) I)) else (fX12_worth_300 k14 l1 l2 l3 l5 I)))
set_option maxHeartbeats 4000000 in
set_option maxRecDepth 100000 in
theorem kX12_worth_268 {E : JE} {k14 : Int32 → Int32 → Int32 → JI → Option (Int32 × JI)} {r : Int32 × JI} {L : JL} {G : JG} {D : JG} {S : JS} (hL : Lay G S) (H14 : ∀ (l1 : Int32) (l2 : Int32) (l3 : Int32) (I : JI), k14 l1 l2 l3 I = some r → AtJ E xX12_worth (Zr E (some (.int r.1)) r.2 L G D S) ((S).length, jm_sl S) 3 14 [(0, .ref (E.1 + 66)), (1, .int l1), (2, .int l2), (3, .int l3)] [] I L G D S) : ∀ (n : Nat) (l1 : Int32) (l2 : Int32) (l3 : Int32) (l5 : Int32) (I : JI), fX12_worth_268 k14 n l1 l2 l3 l5 I = some r → AtJ E xX12_worth (Zr E (some (.int r.1)) r.2 L G D S) ((S).length, jm_sl S) 3 268 [(0, .ref (E.1 + 66)), (1, .int l1), (2, .int l2), (3, .int l3), (5, .int l5)] [] I L G D S := by
  intro n
  induction n with
  | zero => intro l1 l2 l3 l5 I  h; simp [fX12_worth_268] at h
  | succ n ih =>
    intro l1 l2 l3 l5 I  h
    rw [fX12_worth_268] at h
    refine j_iload_n 269 dX12_worth_268 rfl rfl 2 rfl ?_
    refine j_if_le 300 272 dX12_worth_269 (by decide) rfl (fun hc => ?_) (fun hc => ?_)
    · replace h := j_pos hc h
      exact kX12_worth_300 hL   H14 _ _ _ _ _  h
    · replace h := j_neg hc h
      refine j_aload_n 273 dX12_worth_272 rfl rfl 0 rfl ?_
      refine j_getG 276 dX12_worth_273 rfl (sh_66 hL) cl12 (k := 44) (by decide) flX12_92 rfl (gs_66_44 hL) ?_
      refine j_iload_n 277 dX12_worth_276 rfl rfl 2 rfl ?_
      obtain ⟨hg, h⟩ := j_gs h
      refine j_iald 278 dX12_worth_277 rfl (sh_94 hL) (j_inv hg) ?_
      refine j_iconst (v := (1 : Int32)) 279 dX12_worth_278 rfl (by decide) ?_
      refine j_icmp_ne 300 282 dX12_worth_279 (by decide) rfl (fun hc => ?_) (fun hc => ?_)
      · replace h := j_neg hc h
        exact kX12_worth_300 hL   H14 _ _ _ _ _  h
      · replace h := j_pos hc h
        refine j_iload 284 dX12_worth_282 rfl 4 rfl ?_
        refine j_if_ne 291 287 dX12_worth_284 (by decide) rfl (fun hc => ?_) (fun hc => ?_)
        · replace h := j_neg hc h
          refine j_iconst (v := (0 : Int32)) 292 dX12_worth_291 rfl (by decide) ?_
          refine j_istore (lv' := [(5, .int (0 : Int32)), (0, .ref (E.1 + 66)), (1, .int l1), (2, .int l2), (3, .int l3)]) 294 dX12_worth_292 rfl (by decide) rfl ?_
          refine j_iinc (v := (l2 + (-1 : Int32))) (lv' := [(2, .int (l2 + (-1 : Int32))), (5, .int (0 : Int32)), (0, .ref (E.1 + 66)), (1, .int l1), (3, .int l3)]) (q := 3) 297 dX12_worth_294 rfl rfl rfl (by decide) rfl ?_
          refine j_goto 268 dX12_worth_297 (by decide) ?_
          refine j_sub [2, 3, 0, 4, 1] rfl ?_
          exact ih _ _ _ _ _  h
        · replace h := j_pos hc h
          refine j_iconst (v := (1 : Int32)) 288 dX12_worth_287 rfl (by decide) ?_
          refine j_goto 292 dX12_worth_288 (by decide) ?_
          refine j_istore (lv' := [(5, .int (1 : Int32)), (0, .ref (E.1 + 66)), (1, .int l1), (2, .int l2), (3, .int l3)]) 294 dX12_worth_292 rfl (by decide) rfl ?_
          refine j_iinc (v := (l2 + (-1 : Int32))) (lv' := [(2, .int (l2 + (-1 : Int32))), (5, .int (1 : Int32)), (0, .ref (E.1 + 66)), (1, .int l1), (3, .int l3)]) (q := 3) 297 dX12_worth_294 rfl rfl rfl (by decide) rfl ?_
          refine j_goto 268 dX12_worth_297 (by decide) ?_
          refine j_sub [2, 3, 0, 4, 1] rfl ?_
          exact ih _ _ _ _ _  h
def fX12_worth_243 (k14 : Int32 → Int32 → Int32 → JI → Option (Int32 × JI)) (l1 : Int32) (l2 : Int32) (l3 : Int32) (l4 : Int32) (s0 : Int32) (I : JI) : Option (Int32 × JI) :=
  if l4 = (29 : Int32) then ((fX12_tests l2 I).bind (fun q8 => j_g (j_in l2 7) (fX12_worth_268 k14 100000 l1 (l2 + (-1 : Int32)) l3 (q8 86 l2.toNatClampNeg) q8))) else (fX12_worth_268 k14 100000 l1 l2 l3 s0 I)
set_option maxHeartbeats 4000000 in
set_option maxRecDepth 100000 in
theorem kX12_worth_243 {E : JE} {k14 : Int32 → Int32 → Int32 → JI → Option (Int32 × JI)} {r : Int32 × JI} {L : JL} {G : JG} {D : JG} {S : JS} (hL : Lay G S) (H14 : ∀ (l1 : Int32) (l2 : Int32) (l3 : Int32) (I : JI), k14 l1 l2 l3 I = some r → AtJ E xX12_worth (Zr E (some (.int r.1)) r.2 L G D S) ((S).length, jm_sl S) 3 14 [(0, .ref (E.1 + 66)), (1, .int l1), (2, .int l2), (3, .int l3)] [] I L G D S) : ∀ (l1 : Int32) (l2 : Int32) (l3 : Int32) (l4 : Int32) (s0 : Int32) (I : JI), fX12_worth_243 k14 l1 l2 l3 l4 s0 I = some r → AtJ E xX12_worth (Zr E (some (.int r.1)) r.2 L G D S) ((S).length, jm_sl S) 3 243 [(0, .ref (E.1 + 66)), (1, .int l1), (2, .int l2), (3, .int l3), (4, .int l4)] [.int s0] I L G D S := by
  intro l1 l2 l3 l4 s0 I  h
  unfold fX12_worth_243 at h
  refine j_istore (lv' := [(5, .int s0), (0, .ref (E.1 + 66)), (1, .int l1), (2, .int l2), (3, .int l3), (4, .int l4)]) 245 dX12_worth_243 rfl (by decide) rfl ?_
  refine j_iload 247 dX12_worth_245 rfl 5 rfl ?_
  refine j_bipush (v := (29 : Int32)) 249 dX12_worth_247 rfl (by decide) ?_
  refine j_icmp_ne 268 252 dX12_worth_249 (by decide) rfl (fun hc => ?_) (fun hc => ?_)
  · replace h := j_neg hc h
    refine j_sub [1, 2, 3, 4, 0] rfl ?_
    exact kX12_worth_268 hL   H14 100000 _ _ _ _ _  h
  · replace h := j_pos hc h
    refine j_aload_n 253 dX12_worth_252 rfl rfl 1 rfl ?_
    refine j_iload_n 254 dX12_worth_253 rfl rfl 3 rfl ?_
    obtain ⟨q8, hq8, h⟩ := j_bs h
    refine j_callV (rest := []) (As := [.int l2]) 257 dX12_worth_254 rfl jyX12_tests (tcX12_tests hL  hq8) (sh_66 hL) cl12 flX12_413 wm1890 wm66 (by decide) rfl rfl (Nat.le_of_ble_eq_true rfl) ?_
    refine j_aload_n 258 dX12_worth_257 rfl rfl 1 rfl ?_
    refine j_getG 261 dX12_worth_258 rfl (sh_66 hL) cl12 (k := 36) (by decide) flX12_68 rfl (gs_66_36 hL) ?_
    refine j_iload_n 262 dX12_worth_261 rfl rfl 3 rfl ?_
    obtain ⟨hg, h⟩ := j_gs h
    refine j_iald 263 dX12_worth_262 rfl (sh_86 hL) (j_inv hg) ?_
    refine j_istore (lv' := [(5, .int (q8 86 l2.toNatClampNeg)), (0, .ref (E.1 + 66)), (1, .int l1), (2, .int l2), (3, .int l3), (4, .int l4)]) 265 dX12_worth_263 rfl (by decide) rfl ?_
    refine j_iinc (v := (l2 + (-1 : Int32))) (lv' := [(2, .int (l2 + (-1 : Int32))), (5, .int (q8 86 l2.toNatClampNeg)), (0, .ref (E.1 + 66)), (1, .int l1), (3, .int l3), (4, .int l4)]) (q := 3) 268 dX12_worth_265 rfl rfl rfl (by decide) rfl ?_
    refine j_sub [2, 3, 0, 4, 1] rfl ?_
    exact kX12_worth_268 hL   H14 100000 _ _ _ _ _  h
def fX12_worth_14 : Nat → Int32 → Int32 → Int32 → JI → Option (Int32 × JI)
  | 0, _, _, _, _ => none
  | n + 1, l1, l2, l3, I =>
    j_g (j_in l1 36) (if (I 82 l1.toNatClampNeg) ≤ l3 then (fX12_worth_335 I) else (j_g (j_in l3 2000) (if (I 83 l3.toNatClampNeg) = (28 : Int32) then (fX12_worth_46 (fX12_worth_14 n) l1 l2 l3 (I 83 l3.toNatClampNeg) I) else (if (I 83 l3.toNatClampNeg) = (30 : Int32) then (fX12_worth_46 (fX12_worth_14 n) l1 l2 l3 (I 83 l3.toNatClampNeg) I) else (if (I 83 l3.toNatClampNeg) = (20 : Int32) then (fX12_worth_89 (fX12_worth_14 n) l1 l2 l3 (I 83 l3.toNatClampNeg) I) else (if (I 83 l3.toNatClampNeg) = (21 : Int32) then (fX12_worth_89 (fX12_worth_14 n) l1 l2 l3 (I 83 l3.toNatClampNeg) I) else (if (I 83 l3.toNatClampNeg) = (22 : Int32) then (j_g (j_in l2 7) ((fX12_worth_14 n) l1 l2 (l3 + (1 : Int32)) (j_up I 93 l2.toNatClampNeg (I 83 l3.toNatClampNeg)))) else (if (I 83 l3.toNatClampNeg) = (24 : Int32) then (fX12_worth_137 (fX12_worth_14 n) l1 l2 l3 (I 83 l3.toNatClampNeg) I) else (if (I 83 l3.toNatClampNeg) = (25 : Int32) then (fX12_worth_137 (fX12_worth_14 n) l1 l2 l3 (I 83 l3.toNatClampNeg) I) else (if (I 83 l3.toNatClampNeg) = (26 : Int32) then (fX12_worth_194 (fX12_worth_14 n) l1 l2 l3 (I 83 l3.toNatClampNeg) I) else (if (I 83 l3.toNatClampNeg) = (27 : Int32) then (fX12_worth_194 (fX12_worth_14 n) l1 l2 l3 (I 83 l3.toNatClampNeg) I) else (if (I 83 l3.toNatClampNeg) < (100 : Int32) then (if (20 : Int32) ≤ (I 83 l3.toNatClampNeg) then (fX12_worth_243 (fX12_worth_14 n) l1 l2 l3 (I 83 l3.toNatClampNeg) (0 : Int32) I) else (j_g (j_in (I 83 l3.toNatClampNeg) 20) (fX12_worth_243 (fX12_worth_14 n) l1 l2 l3 (I 83 l3.toNatClampNeg) (I 95 (I 83 l3.toNatClampNeg).toNatClampNeg) I))) else (fX12_worth_243 (fX12_worth_14 n) l1 l2 l3 (I 83 l3.toNatClampNeg) ((I 83 l3.toNatClampNeg) - (100 : Int32)) I)))))))))))))
set_option maxHeartbeats 4000000 in
set_option maxRecDepth 100000 in
theorem kX12_worth_14 {E : JE} {r : Int32 × JI} {L : JL} {G : JG} {D : JG} {S : JS} (hL : Lay G S) : ∀ (n : Nat) (l1 : Int32) (l2 : Int32) (l3 : Int32) (I : JI), fX12_worth_14 n l1 l2 l3 I = some r → AtJ E xX12_worth (Zr E (some (.int r.1)) r.2 L G D S) ((S).length, jm_sl S) 3 14 [(0, .ref (E.1 + 66)), (1, .int l1), (2, .int l2), (3, .int l3)] [] I L G D S := by
  intro n
  induction n with
  | zero => intro l1 l2 l3 I  h; simp [fX12_worth_14] at h
  | succ n ih =>
    intro l1 l2 l3 I  h
    rw [fX12_worth_14] at h
    refine j_iload_n 15 dX12_worth_14 rfl rfl 3 rfl ?_
    refine j_aload_n 16 dX12_worth_15 rfl rfl 0 rfl ?_
    refine j_getG 19 dX12_worth_16 rfl (sh_66 hL) cl12 (k := 26) (by decide) flX12_56 rfl (gs_66_26 hL) ?_
    refine j_iload_n 20 dX12_worth_19 rfl rfl 1 rfl ?_
    obtain ⟨hg, h⟩ := j_gs h
    refine j_iald 21 dX12_worth_20 rfl (sh_82 hL) (j_inv hg) ?_
    refine j_icmp_ge 335 24 dX12_worth_21 (by decide) rfl (fun hc => ?_) (fun hc => ?_)
    · replace h := j_pos hc h
      refine j_sub [0] rfl ?_
      exact kX12_worth_335 hL    _  h
    · replace h := j_neg hc h
      refine j_aload_n 25 dX12_worth_24 rfl rfl 0 rfl ?_
      refine j_getG 28 dX12_worth_25 rfl (sh_66 hL) cl12 (k := 27) (by decide) flX12_59 rfl (gs_66_27 hL) ?_
      refine j_iload_n 29 dX12_worth_28 rfl rfl 3 rfl ?_
      obtain ⟨hg, h⟩ := j_gs h
      refine j_iald 30 dX12_worth_29 rfl (sh_83 hL) (j_inv hg) ?_
      refine j_istore (lv' := [(4, .int (I 83 l3.toNatClampNeg)), (0, .ref (E.1 + 66)), (1, .int l1), (2, .int l2), (3, .int l3)]) 32 dX12_worth_30 rfl (by decide) rfl ?_
      refine j_iload 34 dX12_worth_32 rfl 0 rfl ?_
      refine j_bipush (v := (28 : Int32)) 36 dX12_worth_34 rfl (by decide) ?_
      refine j_icmp_eq 46 39 dX12_worth_36 (by decide) rfl (fun hc => ?_) (fun hc => ?_)
      · replace h := j_pos hc h
        refine j_sub [1, 2, 3, 4, 0] rfl ?_
        exact kX12_worth_46 hL   ih _ _ _ _ _  h
      · replace h := j_neg hc h
        refine j_iload 41 dX12_worth_39 rfl 0 rfl ?_
        refine j_bipush (v := (30 : Int32)) 43 dX12_worth_41 rfl (by decide) ?_
        refine j_icmp_ne 75 46 dX12_worth_43 (by decide) rfl (fun hc => ?_) (fun hc => ?_)
        · replace h := j_neg hc h
          refine j_iload 77 dX12_worth_75 rfl 0 rfl ?_
          refine j_bipush (v := (20 : Int32)) 79 dX12_worth_77 rfl (by decide) ?_
          refine j_icmp_eq 89 82 dX12_worth_79 (by decide) rfl (fun hc => ?_) (fun hc => ?_)
          · replace h := j_pos hc h
            refine j_sub [1, 2, 3, 4, 0] rfl ?_
            exact kX12_worth_89 hL   ih _ _ _ _ _  h
          · replace h := j_neg hc h
            refine j_iload 84 dX12_worth_82 rfl 0 rfl ?_
            refine j_bipush (v := (21 : Int32)) 86 dX12_worth_84 rfl (by decide) ?_
            refine j_icmp_ne 105 89 dX12_worth_86 (by decide) rfl (fun hc => ?_) (fun hc => ?_)
            · replace h := j_neg hc h
              refine j_iload 107 dX12_worth_105 rfl 0 rfl ?_
              refine j_bipush (v := (22 : Int32)) 109 dX12_worth_107 rfl (by decide) ?_
              refine j_icmp_ne 123 112 dX12_worth_109 (by decide) rfl (fun hc => ?_) (fun hc => ?_)
              · replace h := j_neg hc h
                refine j_iload 125 dX12_worth_123 rfl 0 rfl ?_
                refine j_bipush (v := (24 : Int32)) 127 dX12_worth_125 rfl (by decide) ?_
                refine j_icmp_eq 137 130 dX12_worth_127 (by decide) rfl (fun hc => ?_) (fun hc => ?_)
                · replace h := j_pos hc h
                  refine j_sub [1, 2, 3, 4, 0] rfl ?_
                  exact kX12_worth_137 hL   ih _ _ _ _ _  h
                · replace h := j_neg hc h
                  refine j_iload 132 dX12_worth_130 rfl 0 rfl ?_
                  refine j_bipush (v := (25 : Int32)) 134 dX12_worth_132 rfl (by decide) ?_
                  refine j_icmp_ne 180 137 dX12_worth_134 (by decide) rfl (fun hc => ?_) (fun hc => ?_)
                  · replace h := j_neg hc h
                    refine j_iload 182 dX12_worth_180 rfl 0 rfl ?_
                    refine j_bipush (v := (26 : Int32)) 184 dX12_worth_182 rfl (by decide) ?_
                    refine j_icmp_eq 194 187 dX12_worth_184 (by decide) rfl (fun hc => ?_) (fun hc => ?_)
                    · replace h := j_pos hc h
                      refine j_sub [1, 2, 3, 4, 0] rfl ?_
                      exact kX12_worth_194 hL   ih _ _ _ _ _  h
                    · replace h := j_neg hc h
                      refine j_iload 189 dX12_worth_187 rfl 0 rfl ?_
                      refine j_bipush (v := (27 : Int32)) 191 dX12_worth_189 rfl (by decide) ?_
                      refine j_icmp_ne 210 194 dX12_worth_191 (by decide) rfl (fun hc => ?_) (fun hc => ?_)
                      · replace h := j_neg hc h
                        refine j_iload 212 dX12_worth_210 rfl 0 rfl ?_
                        refine j_bipush (v := (100 : Int32)) 214 dX12_worth_212 rfl (by decide) ?_
                        refine j_icmp_lt 225 217 dX12_worth_214 (by decide) rfl (fun hc => ?_) (fun hc => ?_)
                        · replace h := j_pos hc h
                          refine j_iload 227 dX12_worth_225 rfl 0 rfl ?_
                          refine j_bipush (v := (20 : Int32)) 229 dX12_worth_227 rfl (by decide) ?_
                          refine j_icmp_ge 242 232 dX12_worth_229 (by decide) rfl (fun hc => ?_) (fun hc => ?_)
                          · replace h := j_pos hc h
                            refine j_iconst (v := (0 : Int32)) 243 dX12_worth_242 rfl (by decide) ?_
                            refine j_sub [1, 2, 3, 4, 0] rfl ?_
                            exact kX12_worth_243 hL   ih _ _ _ _ _ _  h
                          · replace h := j_neg hc h
                            refine j_aload_n 233 dX12_worth_232 rfl rfl 1 rfl ?_
                            refine j_getG 236 dX12_worth_233 rfl (sh_66 hL) cl12 (k := 45) (by decide) flX12_95 rfl (gs_66_45 hL) ?_
                            refine j_iload 238 dX12_worth_236 rfl 0 rfl ?_
                            obtain ⟨hg, h⟩ := j_gs h
                            refine j_iald 239 dX12_worth_238 rfl (sh_95 hL) (j_inv hg) ?_
                            refine j_goto 243 dX12_worth_239 (by decide) ?_
                            refine j_sub [1, 2, 3, 4, 0] rfl ?_
                            exact kX12_worth_243 hL   ih _ _ _ _ _ _  h
                        · replace h := j_neg hc h
                          refine j_iload 219 dX12_worth_217 rfl 0 rfl ?_
                          refine j_bipush (v := (100 : Int32)) 221 dX12_worth_219 rfl (by decide) ?_
                          refine j_isub 222 dX12_worth_221 rfl ?_
                          refine j_goto 243 dX12_worth_222 (by decide) ?_
                          refine j_sub [1, 2, 3, 4, 0] rfl ?_
                          exact kX12_worth_243 hL   ih _ _ _ _ _ _  h
                      · replace h := j_pos hc h
                        refine j_sub [1, 2, 3, 4, 0] rfl ?_
                        exact kX12_worth_194 hL   ih _ _ _ _ _  h
                  · replace h := j_pos hc h
                    refine j_sub [1, 2, 3, 4, 0] rfl ?_
                    exact kX12_worth_137 hL   ih _ _ _ _ _  h
              · replace h := j_pos hc h
                refine j_aload_n 113 dX12_worth_112 rfl rfl 1 rfl ?_
                refine j_getG 116 dX12_worth_113 rfl (sh_66 hL) cl12 (k := 43) (by decide) flX12_89 rfl (gs_66_43 hL) ?_
                refine j_iload_n 117 dX12_worth_116 rfl rfl 3 rfl ?_
                refine j_iload 119 dX12_worth_117 rfl 0 rfl ?_
                obtain ⟨hg, h⟩ := j_gs h
                refine j_iast 120 dX12_worth_119 rfl (sh_93 hL) (j_inv hg) ?_
                refine j_goto 329 dX12_worth_120 (by decide) ?_
                refine j_iinc (v := (l3 + (1 : Int32))) (lv' := [(3, .int (l3 + (1 : Int32))), (4, .int (I 83 l3.toNatClampNeg)), (0, .ref (E.1 + 66)), (1, .int l1), (2, .int l2)]) (q := 4) 332 dX12_worth_329 rfl rfl rfl (by decide) rfl ?_
                refine j_goto 14 dX12_worth_332 (by decide) ?_
                refine j_sub [2, 3, 4, 0] rfl ?_
                exact ih _ _ _ _  h
            · replace h := j_pos hc h
              refine j_sub [1, 2, 3, 4, 0] rfl ?_
              exact kX12_worth_89 hL   ih _ _ _ _ _  h
        · replace h := j_pos hc h
          refine j_sub [1, 2, 3, 4, 0] rfl ?_
          exact kX12_worth_46 hL   ih _ _ _ _ _  h
def fX12_worth (l1 : Int32) (I : JI) : Option (Int32 × JI) :=
  (fX12_opens (0 : Int32) I).bind (fun q1 => j_g (j_in l1 36) (fX12_worth_14 100000 l1 (0 : Int32) (q1 81 l1.toNatClampNeg) q1))
set_option maxHeartbeats 4000000 in
set_option maxRecDepth 100000 in
theorem tcX12_worth {E : JE} {l1 : Int32} {r : Int32 × JI} {I : JI} {L : JL} {G D : JG} {S : JS} (hL : Lay G S) (h : fX12_worth l1 I = some r) : CallJ E xX12_worth 3 [.ref (E.1 + 66), .int l1] I L G D S (some (.int r.1)) r.2 L G D S := by
  unfold fX12_worth at h
  refine j_entry (by decide) (Nat.le_of_ble_eq_true rfl) ?_
  show AtJ E xX12_worth (Zr E (some (.int r.1)) r.2 L G D S) ((S).length, jm_sl S) 3 0 [(0, .ref (E.1 + 66)), (1, .int l1)] [] I L G D S
  refine j_iconst (v := (0 : Int32)) 1 dX12_worth_0 rfl (by decide) ?_
  refine j_istore_n (lv' := [(2, .int (0 : Int32)), (0, .ref (E.1 + 66)), (1, .int l1)]) 2 dX12_worth_1 rfl rfl (by decide) rfl ?_
  refine j_aload_n 3 dX12_worth_2 rfl rfl 1 rfl ?_
  refine j_iconst (v := (0 : Int32)) 4 dX12_worth_3 rfl (by decide) ?_
  obtain ⟨q1, hq1, h⟩ := j_bs h
  refine j_callV (rest := []) (As := [.int (0 : Int32)]) 7 dX12_worth_4 rfl jyX12_opens (tcX12_opens hL  hq1) (sh_66 hL) cl12 flX12_410 wm1882 wm64 (by decide) rfl rfl (Nat.le_of_ble_eq_true rfl) ?_
  refine j_aload_n 8 dX12_worth_7 rfl rfl 1 rfl ?_
  refine j_getG 11 dX12_worth_8 rfl (sh_66 hL) cl12 (k := 25) (by decide) flX12_53 rfl (gs_66_25 hL) ?_
  refine j_iload_n 12 dX12_worth_11 rfl rfl 2 rfl ?_
  obtain ⟨hg, h⟩ := j_gs h
  refine j_iald 13 dX12_worth_12 rfl (sh_81 hL) (j_inv hg) ?_
  refine j_istore_n (lv' := [(3, .int (q1 81 l1.toNatClampNeg)), (2, .int (0 : Int32)), (0, .ref (E.1 + 66)), (1, .int l1)]) 14 dX12_worth_13 rfl rfl (by decide) rfl ?_
  refine j_sub [2, 3, 1, 0] rfl ?_
  exact kX12_worth_14 hL    100000 _ _ _ _  h
def fX12_ownsOf_4 : Nat → Int32 → Int32 → Int32 → JI → Option (Int32)
  | 0, _, _, _, _ => none
  | n + 1, l1, l2, l3, I =>
    if (12 : Int32) ≤ l3 then (some (l2)) else (j_g (j_in (((16 : Int32) * l3) + l1) 192) (if (I 68 (((16 : Int32) * l3) + l1).toNatClampNeg) ≤ 0 then ((fX12_ownsOf_4 n) l1 (l2 + (0 : Int32)) (l3 + (1 : Int32)) I) else ((fX12_ownsOf_4 n) l1 (l2 + (1 : Int32)) (l3 + (1 : Int32)) I)))
set_option maxHeartbeats 4000000 in
set_option maxRecDepth 100000 in
theorem kX12_ownsOf_4 {E : JE} {r : Int32} {L : JL} {G : JG} {D : JG} {S : JS} (hL : Lay G S) : ∀ (n : Nat) (l1 : Int32) (l2 : Int32) (l3 : Int32) (I : JI), fX12_ownsOf_4 n l1 l2 l3 I = some r → AtJ E xX12_ownsOf (Zr E (some (.int r)) I L G D S) ((S).length, jm_sl S) 1 4 [(0, .ref (E.1 + 66)), (1, .int l1), (2, .int l2), (3, .int l3)] [] I L G D S := by
  intro n
  induction n with
  | zero => intro l1 l2 l3 I  h; simp [fX12_ownsOf_4] at h
  | succ n ih =>
    intro l1 l2 l3 I  h
    rw [fX12_ownsOf_4] at h
    refine j_iload_n 5 dX12_ownsOf_4 rfl rfl 3 rfl ?_
    refine j_bipush (v := (12 : Int32)) 7 dX12_ownsOf_5 rfl (by decide) ?_
    refine j_icmp_ge 38 10 dX12_ownsOf_7 (by decide) rfl (fun hc => ?_) (fun hc => ?_)
    · replace h := j_pos hc h
      refine j_iload_n 39 dX12_ownsOf_38 rfl rfl 2 rfl ?_
      cases h
      exact j_iret dX12_ownsOf_39 rfl
    · replace h := j_neg hc h
      refine j_iload_n 11 dX12_ownsOf_10 rfl rfl 2 rfl ?_
      refine j_aload_n 12 dX12_ownsOf_11 rfl rfl 0 rfl ?_
      refine j_getG 15 dX12_ownsOf_12 rfl (sh_66 hL) cl12 (k := 2) (by decide) flX12_13 rfl (gs_66_2 hL) ?_
      refine j_bipush (v := (16 : Int32)) 17 dX12_ownsOf_15 rfl (by decide) ?_
      refine j_iload_n 18 dX12_ownsOf_17 rfl rfl 3 rfl ?_
      refine j_imul 19 dX12_ownsOf_18 rfl ?_
      refine j_iload_n 20 dX12_ownsOf_19 rfl rfl 1 rfl ?_
      refine j_iadd 21 dX12_ownsOf_20 rfl ?_
      obtain ⟨hg, h⟩ := j_gs h
      refine j_iald 22 dX12_ownsOf_21 rfl (sh_68 hL) (j_inv hg) ?_
      refine j_if_le 29 25 dX12_ownsOf_22 (by decide) rfl (fun hc => ?_) (fun hc => ?_)
      · replace h := j_pos hc h
        refine j_iconst (v := (0 : Int32)) 30 dX12_ownsOf_29 rfl (by decide) ?_
        refine j_iadd 31 dX12_ownsOf_30 rfl ?_
        refine j_istore_n (lv' := [(2, .int (l2 + (0 : Int32))), (0, .ref (E.1 + 66)), (1, .int l1), (3, .int l3)]) 32 dX12_ownsOf_31 rfl rfl (by decide) rfl ?_
        refine j_iinc (v := (l3 + (1 : Int32))) (lv' := [(3, .int (l3 + (1 : Int32))), (2, .int (l2 + (0 : Int32))), (0, .ref (E.1 + 66)), (1, .int l1)]) (q := 3) 35 dX12_ownsOf_32 rfl rfl rfl (by decide) rfl ?_
        refine j_goto 4 dX12_ownsOf_35 (by decide) ?_
        refine j_sub [2, 3, 1, 0] rfl ?_
        exact ih _ _ _ _  h
      · replace h := j_neg hc h
        refine j_iconst (v := (1 : Int32)) 26 dX12_ownsOf_25 rfl (by decide) ?_
        refine j_goto 30 dX12_ownsOf_26 (by decide) ?_
        refine j_iadd 31 dX12_ownsOf_30 rfl ?_
        refine j_istore_n (lv' := [(2, .int (l2 + (1 : Int32))), (0, .ref (E.1 + 66)), (1, .int l1), (3, .int l3)]) 32 dX12_ownsOf_31 rfl rfl (by decide) rfl ?_
        refine j_iinc (v := (l3 + (1 : Int32))) (lv' := [(3, .int (l3 + (1 : Int32))), (2, .int (l2 + (1 : Int32))), (0, .ref (E.1 + 66)), (1, .int l1)]) (q := 3) 35 dX12_ownsOf_32 rfl rfl rfl (by decide) rfl ?_
        refine j_goto 4 dX12_ownsOf_35 (by decide) ?_
        refine j_sub [2, 3, 1, 0] rfl ?_
        exact ih _ _ _ _  h
def fX12_ownsOf (l1 : Int32) (I : JI) : Option (Int32) :=
  fX12_ownsOf_4 100000 l1 (0 : Int32) (0 : Int32) I
set_option maxHeartbeats 4000000 in
set_option maxRecDepth 100000 in
theorem tcX12_ownsOf {E : JE} {l1 : Int32} {r : Int32} {I : JI} {L : JL} {G D : JG} {S : JS} (hL : Lay G S) (h : fX12_ownsOf l1 I = some r) : CallJ E xX12_ownsOf 1 [.ref (E.1 + 66), .int l1] I L G D S (some (.int r)) I L G D S := by
  unfold fX12_ownsOf at h
  refine j_entry (by decide) (Nat.le_of_ble_eq_true rfl) ?_
  show AtJ E xX12_ownsOf (Zr E (some (.int r)) I L G D S) ((S).length, jm_sl S) 1 0 [(0, .ref (E.1 + 66)), (1, .int l1)] [] I L G D S
  refine j_iconst (v := (0 : Int32)) 1 dX12_ownsOf_0 rfl (by decide) ?_
  refine j_istore_n (lv' := [(2, .int (0 : Int32)), (0, .ref (E.1 + 66)), (1, .int l1)]) 2 dX12_ownsOf_1 rfl rfl (by decide) rfl ?_
  refine j_iconst (v := (0 : Int32)) 3 dX12_ownsOf_2 rfl (by decide) ?_
  refine j_istore_n (lv' := [(3, .int (0 : Int32)), (2, .int (0 : Int32)), (0, .ref (E.1 + 66)), (1, .int l1)]) 4 dX12_ownsOf_3 rfl rfl (by decide) rfl ?_
  refine j_sub [2, 3, 1, 0] rfl ?_
  exact kX12_ownsOf_4 hL    100000 _ _ _ _  h
def fX12_lays_160 (I : JI) : Option (JI) :=
  j_g (j_in (14 : Int32) 20) (some ((j_up I 95 (14 : Int32).toNatClampNeg (I 66 8))))
set_option maxHeartbeats 4000000 in
set_option maxRecDepth 100000 in
theorem kX12_lays_160 {E : JE} {r : JI} {L : JL} {G : JG} {D : JG} {S : JS} (hL : Lay G S) : ∀ (I : JI), fX12_lays_160 I = some r → AtJ E xX12_lays (Zr E none r L G D S) ((S).length, jm_sl S) 2 160 [(0, .ref (E.1 + 66))] [] I L G D S := by
  intro I  h
  unfold fX12_lays_160 at h
  refine j_aload_n 161 dX12_lays_160 rfl rfl 0 rfl ?_
  refine j_getG 164 dX12_lays_161 rfl (sh_66 hL) cl12 (k := 45) (by decide) flX12_95 rfl (gs_66_45 hL) ?_
  refine j_bipush (v := (14 : Int32)) 166 dX12_lays_164 rfl (by decide) ?_
  refine j_aload_n 167 dX12_lays_166 rfl rfl 0 rfl ?_
  refine j_getI 170 dX12_lays_167 rfl (sh_66 hL) cl12 (k := 8) (by decide) flX12_237 rfl ?_
  obtain ⟨hg, h⟩ := j_gs h
  refine j_iast 171 dX12_lays_170 rfl (sh_95 hL) (j_inv hg) ?_
  cases h
  exact j_vret dX12_lays_171 rfl
def fX12_lays_126 : Nat → Int32 → Int32 → JI → Option (JI)
  | 0, _, _, _ => none
  | n + 1, l5, l9, I =>
    if (3 : Int32) ≤ l9 then (fX12_lays_160 I) else (if l9 = l5 then (j_g (j_in ((7 : Int32) + l9) 20) ((fX12_lays_126 n) l5 (l9 + (1 : Int32)) (j_up I 95 ((7 : Int32) + l9).toNatClampNeg (1 : Int32)))) else (j_g (j_in ((7 : Int32) + l9) 20) ((fX12_lays_126 n) l5 (l9 + (1 : Int32)) (j_up I 95 ((7 : Int32) + l9).toNatClampNeg (0 : Int32)))))
set_option maxHeartbeats 4000000 in
set_option maxRecDepth 100000 in
theorem kX12_lays_126 {E : JE} {r : JI} {L : JL} {G : JG} {D : JG} {S : JS} (hL : Lay G S) : ∀ (n : Nat) (l5 : Int32) (l9 : Int32) (I : JI), fX12_lays_126 n l5 l9 I = some r → AtJ E xX12_lays (Zr E none r L G D S) ((S).length, jm_sl S) 2 126 [(0, .ref (E.1 + 66)), (5, .int l5), (9, .int l9)] [] I L G D S := by
  intro n
  induction n with
  | zero => intro l5 l9 I  h; simp [fX12_lays_126] at h
  | succ n ih =>
    intro l5 l9 I  h
    rw [fX12_lays_126] at h
    refine j_iload 128 dX12_lays_126 rfl 2 rfl ?_
    refine j_iconst (v := (3 : Int32)) 129 dX12_lays_128 rfl (by decide) ?_
    refine j_icmp_ge 160 132 dX12_lays_129 (by decide) rfl (fun hc => ?_) (fun hc => ?_)
    · replace h := j_pos hc h
      refine j_sub [0] rfl ?_
      exact kX12_lays_160 hL    _  h
    · replace h := j_neg hc h
      refine j_aload_n 133 dX12_lays_132 rfl rfl 0 rfl ?_
      refine j_getG 136 dX12_lays_133 rfl (sh_66 hL) cl12 (k := 45) (by decide) flX12_95 rfl (gs_66_45 hL) ?_
      refine j_bipush (v := (7 : Int32)) 138 dX12_lays_136 rfl (by decide) ?_
      refine j_iload 140 dX12_lays_138 rfl 2 rfl ?_
      refine j_iadd 141 dX12_lays_140 rfl ?_
      refine j_iload 143 dX12_lays_141 rfl 2 rfl ?_
      refine j_iload 145 dX12_lays_143 rfl 1 rfl ?_
      refine j_icmp_ne 152 148 dX12_lays_145 (by decide) rfl (fun hc => ?_) (fun hc => ?_)
      · replace h := j_neg hc h
        refine j_iconst (v := (0 : Int32)) 153 dX12_lays_152 rfl (by decide) ?_
        obtain ⟨hg, h⟩ := j_gs h
        refine j_iast 154 dX12_lays_153 rfl (sh_95 hL) (j_inv hg) ?_
        refine j_iinc (v := (l9 + (1 : Int32))) (lv' := [(9, .int (l9 + (1 : Int32))), (0, .ref (E.1 + 66)), (5, .int l5)]) (q := 2) 157 dX12_lays_154 rfl rfl rfl (by decide) rfl ?_
        refine j_goto 126 dX12_lays_157 (by decide) ?_
        refine j_sub [1, 2, 0] rfl ?_
        exact ih _ _ _  h
      · replace h := j_pos hc h
        refine j_iconst (v := (1 : Int32)) 149 dX12_lays_148 rfl (by decide) ?_
        refine j_goto 153 dX12_lays_149 (by decide) ?_
        obtain ⟨hg, h⟩ := j_gs h
        refine j_iast 154 dX12_lays_153 rfl (sh_95 hL) (j_inv hg) ?_
        refine j_iinc (v := (l9 + (1 : Int32))) (lv' := [(9, .int (l9 + (1 : Int32))), (0, .ref (E.1 + 66)), (5, .int l5)]) (q := 2) 157 dX12_lays_154 rfl rfl rfl (by decide) rfl ?_
        refine j_goto 126 dX12_lays_157 (by decide) ?_
        refine j_sub [1, 2, 0] rfl ?_
        exact ih _ _ _  h
def fX12_lays_59 (l1 : Int32) (l2 : Int32) (l3 : Int32) (l4 : Int32) (l5 : Int32) (l6 : Int32) (l7 : Int32) (l8 : Int32) (I : JI) : Option (JI) :=
  j_g (j_in (1 : Int32) 20) (j_g (j_in (2 : Int32) 20) (j_g (j_in (3 : Int32) 20) (j_g (j_in (((16 : Int32) * l1) + l2) 192) (j_g (j_in (4 : Int32) 20) (j_g (j_in (5 : Int32) 20) ((fX12_ownsOf l3 (j_up (j_up (j_up (j_up (j_up I 95 (1 : Int32).toNatClampNeg l4) 95 (2 : Int32).toNatClampNeg l6) 95 (3 : Int32).toNatClampNeg l7) 95 (4 : Int32).toNatClampNeg (((j_up (j_up (j_up I 95 (1 : Int32).toNatClampNeg l4) 95 (2 : Int32).toNatClampNeg l6) 95 (3 : Int32).toNatClampNeg l7) 68 (((16 : Int32) * l1) + l2).toNatClampNeg) - l4)) 95 (5 : Int32).toNatClampNeg l8)).bind (fun q1 => j_g (j_in (6 : Int32) 20) (fX12_lays_126 100000 l5 (0 : Int32) (j_up (j_up (j_up (j_up (j_up (j_up I 95 (1 : Int32).toNatClampNeg l4) 95 (2 : Int32).toNatClampNeg l6) 95 (3 : Int32).toNatClampNeg l7) 95 (4 : Int32).toNatClampNeg (((j_up (j_up (j_up I 95 (1 : Int32).toNatClampNeg l4) 95 (2 : Int32).toNatClampNeg l6) 95 (3 : Int32).toNatClampNeg l7) 68 (((16 : Int32) * l1) + l2).toNatClampNeg) - l4)) 95 (5 : Int32).toNatClampNeg l8) 95 (6 : Int32).toNatClampNeg q1)))))))))
set_option maxHeartbeats 4000000 in
set_option maxRecDepth 100000 in
theorem kX12_lays_59 {E : JE} {r : JI} {L : JL} {G : JG} {D : JG} {S : JS} (hL : Lay G S) : ∀ (l1 : Int32) (l2 : Int32) (l3 : Int32) (l4 : Int32) (l5 : Int32) (l6 : Int32) (l7 : Int32) (l8 : Int32) (I : JI), fX12_lays_59 l1 l2 l3 l4 l5 l6 l7 l8 I = some r → AtJ E xX12_lays (Zr E none r L G D S) ((S).length, jm_sl S) 2 59 [(0, .ref (E.1 + 66)), (1, .int l1), (2, .int l2), (3, .int l3), (4, .int l4), (5, .int l5), (6, .int l6), (7, .int l7), (8, .int l8)] [] I L G D S := by
  intro l1 l2 l3 l4 l5 l6 l7 l8 I  h
  unfold fX12_lays_59 at h
  refine j_aload_n 60 dX12_lays_59 rfl rfl 0 rfl ?_
  refine j_getG 63 dX12_lays_60 rfl (sh_66 hL) cl12 (k := 45) (by decide) flX12_95 rfl (gs_66_45 hL) ?_
  refine j_iconst (v := (1 : Int32)) 64 dX12_lays_63 rfl (by decide) ?_
  refine j_iload 66 dX12_lays_64 rfl 4 rfl ?_
  obtain ⟨hg, h⟩ := j_gs h
  refine j_iast 67 dX12_lays_66 rfl (sh_95 hL) (j_inv hg) ?_
  refine j_aload_n 68 dX12_lays_67 rfl rfl 0 rfl ?_
  refine j_getG 71 dX12_lays_68 rfl (sh_66 hL) cl12 (k := 45) (by decide) flX12_95 rfl (gs_66_45 hL) ?_
  refine j_iconst (v := (2 : Int32)) 72 dX12_lays_71 rfl (by decide) ?_
  refine j_iload 74 dX12_lays_72 rfl 6 rfl ?_
  obtain ⟨hg, h⟩ := j_gs h
  refine j_iast 75 dX12_lays_74 rfl (sh_95 hL) (j_inv hg) ?_
  refine j_aload_n 76 dX12_lays_75 rfl rfl 0 rfl ?_
  refine j_getG 79 dX12_lays_76 rfl (sh_66 hL) cl12 (k := 45) (by decide) flX12_95 rfl (gs_66_45 hL) ?_
  refine j_iconst (v := (3 : Int32)) 80 dX12_lays_79 rfl (by decide) ?_
  refine j_iload 82 dX12_lays_80 rfl 7 rfl ?_
  obtain ⟨hg, h⟩ := j_gs h
  refine j_iast 83 dX12_lays_82 rfl (sh_95 hL) (j_inv hg) ?_
  refine j_aload_n 84 dX12_lays_83 rfl rfl 0 rfl ?_
  refine j_getG 87 dX12_lays_84 rfl (sh_66 hL) cl12 (k := 45) (by decide) flX12_95 rfl (gs_66_45 hL) ?_
  refine j_iconst (v := (4 : Int32)) 88 dX12_lays_87 rfl (by decide) ?_
  refine j_aload_n 89 dX12_lays_88 rfl rfl 0 rfl ?_
  refine j_getG 92 dX12_lays_89 rfl (sh_66 hL) cl12 (k := 2) (by decide) flX12_13 rfl (gs_66_2 hL) ?_
  refine j_bipush (v := (16 : Int32)) 94 dX12_lays_92 rfl (by decide) ?_
  refine j_iload_n 95 dX12_lays_94 rfl rfl 1 rfl ?_
  refine j_imul 96 dX12_lays_95 rfl ?_
  refine j_iload_n 97 dX12_lays_96 rfl rfl 2 rfl ?_
  refine j_iadd 98 dX12_lays_97 rfl ?_
  obtain ⟨hg, h⟩ := j_gs h
  refine j_iald 99 dX12_lays_98 rfl (sh_68 hL) (j_inv hg) ?_
  refine j_iload 101 dX12_lays_99 rfl 4 rfl ?_
  refine j_isub 102 dX12_lays_101 rfl ?_
  obtain ⟨hg, h⟩ := j_gs h
  refine j_iast 103 dX12_lays_102 rfl (sh_95 hL) (j_inv hg) ?_
  refine j_aload_n 104 dX12_lays_103 rfl rfl 0 rfl ?_
  refine j_getG 107 dX12_lays_104 rfl (sh_66 hL) cl12 (k := 45) (by decide) flX12_95 rfl (gs_66_45 hL) ?_
  refine j_iconst (v := (5 : Int32)) 108 dX12_lays_107 rfl (by decide) ?_
  refine j_iload 110 dX12_lays_108 rfl 8 rfl ?_
  obtain ⟨hg, h⟩ := j_gs h
  refine j_iast 111 dX12_lays_110 rfl (sh_95 hL) (j_inv hg) ?_
  refine j_aload_n 112 dX12_lays_111 rfl rfl 0 rfl ?_
  refine j_getG 115 dX12_lays_112 rfl (sh_66 hL) cl12 (k := 45) (by decide) flX12_95 rfl (gs_66_45 hL) ?_
  refine j_bipush (v := (6 : Int32)) 117 dX12_lays_115 rfl (by decide) ?_
  refine j_aload_n 118 dX12_lays_117 rfl rfl 0 rfl ?_
  refine j_iload_n 119 dX12_lays_118 rfl rfl 3 rfl ?_
  obtain ⟨q1, hq1, h⟩ := j_bs h
  refine j_callV (rest := [.int (6 : Int32), .ref (E.1 + 95)]) (As := [.int l3]) 122 dX12_lays_119 rfl jyX12_ownsOf (tcX12_ownsOf hL  hq1) (sh_66 hL) cl12 flX12_428 wm1862 wm59 (by decide) rfl rfl (Nat.le_of_ble_eq_true rfl) ?_
  obtain ⟨hg, h⟩ := j_gs h
  refine j_iast 123 dX12_lays_122 rfl (sh_95 hL) (j_inv hg) ?_
  refine j_iconst (v := (0 : Int32)) 124 dX12_lays_123 rfl (by decide) ?_
  refine j_istore (lv' := [(9, .int (0 : Int32)), (0, .ref (E.1 + 66)), (1, .int l1), (2, .int l2), (3, .int l3), (4, .int l4), (5, .int l5), (6, .int l6), (7, .int l7), (8, .int l8)]) 126 dX12_lays_124 rfl (by decide) rfl ?_
  refine j_sub [1, 6, 0] rfl ?_
  exact kX12_lays_126 hL    100000 _ _ _  h
def fX12_lays_29 : Nat → Int32 → Int32 → Int32 → Int32 → Int32 → Int32 → Int32 → Int32 → Int32 → JI → Option (JI)
  | 0, _, _, _, _, _, _, _, _, _, _ => none
  | n + 1, l1, l2, l3, l4, l5, l6, l7, l8, l9, I =>
    if (12 : Int32) ≤ l9 then (fX12_lays_59 l1 l2 l3 l4 l5 l6 l7 l8 I) else (j_g (j_in (((16 : Int32) * l9) + l2) 192) ((fX12_lays_29 n) l1 l2 l3 l4 l5 l6 l7 (l8 + (I 68 (((16 : Int32) * l9) + l2).toNatClampNeg)) (l9 + (1 : Int32)) I))
set_option maxHeartbeats 4000000 in
set_option maxRecDepth 100000 in
theorem kX12_lays_29 {E : JE} {r : JI} {L : JL} {G : JG} {D : JG} {S : JS} (hL : Lay G S) : ∀ (n : Nat) (l1 : Int32) (l2 : Int32) (l3 : Int32) (l4 : Int32) (l5 : Int32) (l6 : Int32) (l7 : Int32) (l8 : Int32) (l9 : Int32) (I : JI), fX12_lays_29 n l1 l2 l3 l4 l5 l6 l7 l8 l9 I = some r → AtJ E xX12_lays (Zr E none r L G D S) ((S).length, jm_sl S) 2 29 [(0, .ref (E.1 + 66)), (1, .int l1), (2, .int l2), (3, .int l3), (4, .int l4), (5, .int l5), (6, .int l6), (7, .int l7), (8, .int l8), (9, .int l9)] [] I L G D S := by
  intro n
  induction n with
  | zero => intro l1 l2 l3 l4 l5 l6 l7 l8 l9 I  h; simp [fX12_lays_29] at h
  | succ n ih =>
    intro l1 l2 l3 l4 l5 l6 l7 l8 l9 I  h
    rw [fX12_lays_29] at h
    refine j_iload 31 dX12_lays_29 rfl 9 rfl ?_
    refine j_bipush (v := (12 : Int32)) 33 dX12_lays_31 rfl (by decide) ?_
    refine j_icmp_ge 59 36 dX12_lays_33 (by decide) rfl (fun hc => ?_) (fun hc => ?_)
    · replace h := j_pos hc h
      refine j_sub [0, 1, 2, 3, 4, 5, 6, 7, 8] rfl ?_
      exact kX12_lays_59 hL    _ _ _ _ _ _ _ _ _  h
    · replace h := j_neg hc h
      refine j_iload 38 dX12_lays_36 rfl 8 rfl ?_
      refine j_aload_n 39 dX12_lays_38 rfl rfl 0 rfl ?_
      refine j_getG 42 dX12_lays_39 rfl (sh_66 hL) cl12 (k := 2) (by decide) flX12_13 rfl (gs_66_2 hL) ?_
      refine j_bipush (v := (16 : Int32)) 44 dX12_lays_42 rfl (by decide) ?_
      refine j_iload 46 dX12_lays_44 rfl 9 rfl ?_
      refine j_imul 47 dX12_lays_46 rfl ?_
      refine j_iload_n 48 dX12_lays_47 rfl rfl 2 rfl ?_
      refine j_iadd 49 dX12_lays_48 rfl ?_
      obtain ⟨hg, h⟩ := j_gs h
      refine j_iald 50 dX12_lays_49 rfl (sh_68 hL) (j_inv hg) ?_
      refine j_iadd 51 dX12_lays_50 rfl ?_
      refine j_istore (lv' := [(8, .int (l8 + (I 68 (((16 : Int32) * l9) + l2).toNatClampNeg))), (0, .ref (E.1 + 66)), (1, .int l1), (2, .int l2), (3, .int l3), (4, .int l4), (5, .int l5), (6, .int l6), (7, .int l7), (9, .int l9)]) 53 dX12_lays_51 rfl (by decide) rfl ?_
      refine j_iinc (v := (l9 + (1 : Int32))) (lv' := [(9, .int (l9 + (1 : Int32))), (8, .int (l8 + (I 68 (((16 : Int32) * l9) + l2).toNatClampNeg))), (0, .ref (E.1 + 66)), (1, .int l1), (2, .int l2), (3, .int l3), (4, .int l4), (5, .int l5), (6, .int l6), (7, .int l7)]) (q := 9) 56 dX12_lays_53 rfl rfl rfl (by decide) rfl ?_
      refine j_goto 29 dX12_lays_56 (by decide) ?_
      refine j_sub [2, 3, 4, 5, 6, 7, 8, 9, 1, 0] rfl ?_
      exact ih _ _ _ _ _ _ _ _ _ _  h
def fX12_lays (l1 : Int32) (l2 : Int32) (l3 : Int32) (l4 : Int32) (l5 : Int32) (l6 : Int32) (l7 : Int32) (I : JI) : Option (JI) :=
  fX12_lays_29 100000 l1 l2 l3 l4 l5 l6 l7 (-l4) (0 : Int32) (j_up (j_up (j_up (j_up I 66 46 l1) 66 47 l2) 66 48 l3) 66 49 l5)
set_option maxHeartbeats 4000000 in
set_option maxRecDepth 100000 in
theorem tcX12_lays {E : JE} {l1 : Int32} {l2 : Int32} {l3 : Int32} {l4 : Int32} {l5 : Int32} {l6 : Int32} {l7 : Int32} {r : JI} {I : JI} {L : JL} {G D : JG} {S : JS} (hL : Lay G S) (h : fX12_lays l1 l2 l3 l4 l5 l6 l7 I = some r) : CallJ E xX12_lays 2 [.ref (E.1 + 66), .int l1, .int l2, .int l3, .int l4, .int l5, .int l6, .int l7] I L G D S none r L G D S := by
  unfold fX12_lays at h
  refine j_entry (by decide) (Nat.le_of_ble_eq_true rfl) ?_
  show AtJ E xX12_lays (Zr E none r L G D S) ((S).length, jm_sl S) 2 0 [(0, .ref (E.1 + 66)), (1, .int l1), (2, .int l2), (3, .int l3), (4, .int l4), (5, .int l5), (6, .int l6), (7, .int l7)] [] I L G D S
  refine j_aload_n 1 dX12_lays_0 rfl rfl 0 rfl ?_
  refine j_iload_n 2 dX12_lays_1 rfl rfl 1 rfl ?_
  refine j_putI 5 dX12_lays_2 rfl (sh_66 hL) cl12 (k := 46) (by decide) flX12_416 rfl rfl rfl ?_
  refine j_aload_n 6 dX12_lays_5 rfl rfl 0 rfl ?_
  refine j_iload_n 7 dX12_lays_6 rfl rfl 2 rfl ?_
  refine j_putI 10 dX12_lays_7 rfl (sh_66 hL) cl12 (k := 47) (by decide) flX12_419 rfl rfl rfl ?_
  refine j_aload_n 11 dX12_lays_10 rfl rfl 0 rfl ?_
  refine j_iload_n 12 dX12_lays_11 rfl rfl 3 rfl ?_
  refine j_putI 15 dX12_lays_12 rfl (sh_66 hL) cl12 (k := 48) (by decide) flX12_422 rfl rfl rfl ?_
  refine j_aload_n 16 dX12_lays_15 rfl rfl 0 rfl ?_
  refine j_iload 18 dX12_lays_16 rfl 5 rfl ?_
  refine j_putI 21 dX12_lays_18 rfl (sh_66 hL) cl12 (k := 49) (by decide) flX12_425 rfl rfl rfl ?_
  refine j_iload 23 dX12_lays_21 rfl 4 rfl ?_
  refine j_ineg 24 dX12_lays_23 rfl ?_
  refine j_istore (lv' := [(8, .int (-l4)), (0, .ref (E.1 + 66)), (1, .int l1), (2, .int l2), (3, .int l3), (4, .int l4), (5, .int l5), (6, .int l6), (7, .int l7)]) 26 dX12_lays_24 rfl (by decide) rfl ?_
  refine j_iconst (v := (0 : Int32)) 27 dX12_lays_26 rfl (by decide) ?_
  refine j_istore (lv' := [(9, .int (0 : Int32)), (8, .int (-l4)), (0, .ref (E.1 + 66)), (1, .int l1), (2, .int l2), (3, .int l3), (4, .int l4), (5, .int l5), (6, .int l6), (7, .int l7)]) 29 dX12_lays_27 rfl (by decide) rfl ?_
  refine j_sub [2, 3, 4, 5, 6, 7, 8, 9, 1, 0] rfl ?_
  exact kX12_lays_29 hL    100000 _ _ _ _ _ _ _ _ _ _  h
def fX12_isSo_31 (l1 : Int32) (l2 : Int32) (s0 : Int32) (s1 : Int32) (I : JI) : Option (Int32 × JI) :=
  j_g (j_in s1 20) (j_g (j_in (((16 : Int32) * ((j_up I 95 s1.toNatClampNeg s0) 66 46)) + l2) 192) (j_g (j_in (11 : Int32) 20) ((fX12_ownsOf l2 (j_up (j_up I 95 s1.toNatClampNeg s0) 95 (11 : Int32).toNatClampNeg ((j_up I 95 s1.toNatClampNeg s0) 68 (((16 : Int32) * ((j_up I 95 s1.toNatClampNeg s0) 66 46)) + l2).toNatClampNeg))).bind (fun q1 => j_g (j_in (12 : Int32) 20) (j_g (j_in (((16 : Int32) * ((j_up (j_up (j_up I 95 s1.toNatClampNeg s0) 95 (11 : Int32).toNatClampNeg ((j_up I 95 s1.toNatClampNeg s0) 68 (((16 : Int32) * ((j_up I 95 s1.toNatClampNeg s0) 66 46)) + l2).toNatClampNeg)) 95 (12 : Int32).toNatClampNeg q1) 66 47)) + l2) 256) (j_g (j_in (13 : Int32) 20) ((fX12_worth l1 (j_up (j_up (j_up (j_up I 95 s1.toNatClampNeg s0) 95 (11 : Int32).toNatClampNeg ((j_up I 95 s1.toNatClampNeg s0) 68 (((16 : Int32) * ((j_up I 95 s1.toNatClampNeg s0) 66 46)) + l2).toNatClampNeg)) 95 (12 : Int32).toNatClampNeg q1) 95 (13 : Int32).toNatClampNeg ((j_up (j_up (j_up I 95 s1.toNatClampNeg s0) 95 (11 : Int32).toNatClampNeg ((j_up I 95 s1.toNatClampNeg s0) 68 (((16 : Int32) * ((j_up I 95 s1.toNatClampNeg s0) 66 46)) + l2).toNatClampNeg)) 95 (12 : Int32).toNatClampNeg q1) 71 (((16 : Int32) * ((j_up (j_up (j_up I 95 s1.toNatClampNeg s0) 95 (11 : Int32).toNatClampNeg ((j_up I 95 s1.toNatClampNeg s0) 68 (((16 : Int32) * ((j_up I 95 s1.toNatClampNeg s0) 66 46)) + l2).toNatClampNeg)) 95 (12 : Int32).toNatClampNeg q1) 66 47)) + l2).toNatClampNeg))).bind (fun q2 => if q2.1 = 0 then (some ((0 : Int32), q2.2)) else (some ((1 : Int32), q2.2))))))))))
set_option maxHeartbeats 4000000 in
set_option maxRecDepth 100000 in
theorem kX12_isSo_31 {E : JE} {r : Int32 × JI} {L : JL} {G : JG} {D : JG} {S : JS} (hL : Lay G S) : ∀ (l1 : Int32) (l2 : Int32) (s0 : Int32) (s1 : Int32) (I : JI), fX12_isSo_31 l1 l2 s0 s1 I = some r → AtJ E xX12_isSo (Zr E (some (.int r.1)) r.2 L G D S) ((S).length, jm_sl S) 4 31 [(0, .ref (E.1 + 66)), (1, .int l1), (2, .int l2)] [.int s0, .int s1, .ref (E.1 + 95)] I L G D S := by
  intro l1 l2 s0 s1 I  h
  unfold fX12_isSo_31 at h
  obtain ⟨hg, h⟩ := j_gs h
  refine j_iast 32 dX12_isSo_31 rfl (sh_95 hL) (j_inv hg) ?_
  refine j_aload_n 33 dX12_isSo_32 rfl rfl 0 rfl ?_
  refine j_getG 36 dX12_isSo_33 rfl (sh_66 hL) cl12 (k := 45) (by decide) flX12_95 rfl (gs_66_45 hL) ?_
  refine j_bipush (v := (11 : Int32)) 38 dX12_isSo_36 rfl (by decide) ?_
  refine j_aload_n 39 dX12_isSo_38 rfl rfl 0 rfl ?_
  refine j_getG 42 dX12_isSo_39 rfl (sh_66 hL) cl12 (k := 2) (by decide) flX12_13 rfl (gs_66_2 hL) ?_
  refine j_bipush (v := (16 : Int32)) 44 dX12_isSo_42 rfl (by decide) ?_
  refine j_aload_n 45 dX12_isSo_44 rfl rfl 0 rfl ?_
  refine j_getI 48 dX12_isSo_45 rfl (sh_66 hL) cl12 (k := 46) (by decide) flX12_416 rfl ?_
  refine j_imul 49 dX12_isSo_48 rfl ?_
  refine j_iload_n 50 dX12_isSo_49 rfl rfl 2 rfl ?_
  refine j_iadd 51 dX12_isSo_50 rfl ?_
  obtain ⟨hg, h⟩ := j_gs h
  refine j_iald 52 dX12_isSo_51 rfl (sh_68 hL) (j_inv hg) ?_
  obtain ⟨hg, h⟩ := j_gs h
  refine j_iast 53 dX12_isSo_52 rfl (sh_95 hL) (j_inv hg) ?_
  refine j_aload_n 54 dX12_isSo_53 rfl rfl 0 rfl ?_
  refine j_getG 57 dX12_isSo_54 rfl (sh_66 hL) cl12 (k := 45) (by decide) flX12_95 rfl (gs_66_45 hL) ?_
  refine j_bipush (v := (12 : Int32)) 59 dX12_isSo_57 rfl (by decide) ?_
  refine j_aload_n 60 dX12_isSo_59 rfl rfl 0 rfl ?_
  refine j_iload_n 61 dX12_isSo_60 rfl rfl 2 rfl ?_
  obtain ⟨q1, hq1, h⟩ := j_bs h
  refine j_callV (rest := [.int (12 : Int32), .ref (E.1 + 95)]) (As := [.int l2]) 64 dX12_isSo_61 rfl jyX12_ownsOf (tcX12_ownsOf hL  hq1) (sh_66 hL) cl12 flX12_428 wm1862 wm59 (by decide) rfl rfl (Nat.le_of_ble_eq_true rfl) ?_
  obtain ⟨hg, h⟩ := j_gs h
  refine j_iast 65 dX12_isSo_64 rfl (sh_95 hL) (j_inv hg) ?_
  refine j_aload_n 66 dX12_isSo_65 rfl rfl 0 rfl ?_
  refine j_getG 69 dX12_isSo_66 rfl (sh_66 hL) cl12 (k := 45) (by decide) flX12_95 rfl (gs_66_45 hL) ?_
  refine j_bipush (v := (13 : Int32)) 71 dX12_isSo_69 rfl (by decide) ?_
  refine j_aload_n 72 dX12_isSo_71 rfl rfl 0 rfl ?_
  refine j_getG 75 dX12_isSo_72 rfl (sh_66 hL) cl12 (k := 5) (by decide) flX12_23 rfl (gs_66_5 hL) ?_
  refine j_bipush (v := (16 : Int32)) 77 dX12_isSo_75 rfl (by decide) ?_
  refine j_aload_n 78 dX12_isSo_77 rfl rfl 0 rfl ?_
  refine j_getI 81 dX12_isSo_78 rfl (sh_66 hL) cl12 (k := 47) (by decide) flX12_419 rfl ?_
  refine j_imul 82 dX12_isSo_81 rfl ?_
  refine j_iload_n 83 dX12_isSo_82 rfl rfl 2 rfl ?_
  refine j_iadd 84 dX12_isSo_83 rfl ?_
  obtain ⟨hg, h⟩ := j_gs h
  refine j_iald 85 dX12_isSo_84 rfl (sh_71 hL) (j_inv hg) ?_
  obtain ⟨hg, h⟩ := j_gs h
  refine j_iast 86 dX12_isSo_85 rfl (sh_95 hL) (j_inv hg) ?_
  refine j_aload_n 87 dX12_isSo_86 rfl rfl 0 rfl ?_
  refine j_iload_n 88 dX12_isSo_87 rfl rfl 1 rfl ?_
  obtain ⟨q2, hq2, h⟩ := j_bs h
  refine j_callV (rest := []) (As := [.int l1]) 91 dX12_isSo_88 rfl jyX12_worth (tcX12_worth hL  hq2) (sh_66 hL) cl12 flX12_431 wm1878 wm63 (by decide) rfl rfl (Nat.le_of_ble_eq_true rfl) ?_
  refine j_if_eq 98 94 dX12_isSo_91 (by decide) rfl (fun hc => ?_) (fun hc => ?_)
  · replace h := j_pos hc h
    refine j_iconst (v := (0 : Int32)) 99 dX12_isSo_98 rfl (by decide) ?_
    cases h
    exact j_zret dX12_isSo_99 rfl j_b01_0
  · replace h := j_neg hc h
    refine j_iconst (v := (1 : Int32)) 95 dX12_isSo_94 rfl (by decide) ?_
    refine j_goto 99 dX12_isSo_95 (by decide) ?_
    cases h
    exact j_zret dX12_isSo_99 rfl j_b01_1
def fX12_isSo (l1 : Int32) (l2 : Int32) (I : JI) : Option (Int32 × JI) :=
  j_g (j_in l1 36) (if (jm_b01 (I 80 l1.toNatClampNeg)) = 0 then (some ((1 : Int32), I)) else (j_g (j_in l2 16) (if (jm_b01 (I 72 l2.toNatClampNeg)) = 0 then (fX12_isSo_31 l1 l2 (0 : Int32) (10 : Int32) I) else (fX12_isSo_31 l1 l2 (1 : Int32) (10 : Int32) I))))
set_option maxHeartbeats 4000000 in
set_option maxRecDepth 100000 in
theorem tcX12_isSo {E : JE} {l1 : Int32} {l2 : Int32} {r : Int32 × JI} {I : JI} {L : JL} {G D : JG} {S : JS} (hL : Lay G S) (h : fX12_isSo l1 l2 I = some r) : CallJ E xX12_isSo 4 [.ref (E.1 + 66), .int l1, .int l2] I L G D S (some (.int r.1)) r.2 L G D S := by
  unfold fX12_isSo at h
  refine j_entry (by decide) (Nat.le_of_ble_eq_true rfl) ?_
  show AtJ E xX12_isSo (Zr E (some (.int r.1)) r.2 L G D S) ((S).length, jm_sl S) 4 0 [(0, .ref (E.1 + 66)), (1, .int l1), (2, .int l2)] [] I L G D S
  refine j_aload_n 1 dX12_isSo_0 rfl rfl 0 rfl ?_
  refine j_getG 4 dX12_isSo_1 rfl (sh_66 hL) cl12 (k := 24) (by decide) flX12_50 rfl (gs_66_24 hL) ?_
  refine j_iload_n 5 dX12_isSo_4 rfl rfl 1 rfl ?_
  obtain ⟨hg, h⟩ := j_gs h
  refine j_zald 6 dX12_isSo_5 rfl (sh_80 hL) (j_inv hg) ?_
  refine j_if_ne 11 9 dX12_isSo_6 (by decide) rfl (fun hc => ?_) (fun hc => ?_)
  · replace h := j_neg hc h
    refine j_aload_n 12 dX12_isSo_11 rfl rfl 0 rfl ?_
    refine j_getG 15 dX12_isSo_12 rfl (sh_66 hL) cl12 (k := 45) (by decide) flX12_95 rfl (gs_66_45 hL) ?_
    refine j_bipush (v := (10 : Int32)) 17 dX12_isSo_15 rfl (by decide) ?_
    refine j_aload_n 18 dX12_isSo_17 rfl rfl 0 rfl ?_
    refine j_getG 21 dX12_isSo_18 rfl (sh_66 hL) cl12 (k := 6) (by decide) flX12_26 rfl (gs_66_6 hL) ?_
    refine j_iload_n 22 dX12_isSo_21 rfl rfl 2 rfl ?_
    obtain ⟨hg, h⟩ := j_gs h
    refine j_zald 23 dX12_isSo_22 rfl (sh_72 hL) (j_inv hg) ?_
    refine j_if_eq 30 26 dX12_isSo_23 (by decide) rfl (fun hc => ?_) (fun hc => ?_)
    · replace h := j_pos hc h
      refine j_iconst (v := (0 : Int32)) 31 dX12_isSo_30 rfl (by decide) ?_
      exact kX12_isSo_31 hL    _ _ _ _ _  h
    · replace h := j_neg hc h
      refine j_iconst (v := (1 : Int32)) 27 dX12_isSo_26 rfl (by decide) ?_
      refine j_goto 31 dX12_isSo_27 (by decide) ?_
      exact kX12_isSo_31 hL    _ _ _ _ _  h
  · replace h := j_pos hc h
    refine j_iconst (v := (1 : Int32)) 10 dX12_isSo_9 rfl (by decide) ?_
    cases h
    exact j_zret dX12_isSo_10 rfl j_b01_1
def fX12_isForced_43 (l2 : Int32) (I : JI) : Option (Int32) :=
  if (((I 66 50) >>> (l2 &&& 31)) &&& (1 : Int32)) = (1 : Int32) then (some ((1 : Int32))) else (some ((0 : Int32)))
set_option maxHeartbeats 4000000 in
set_option maxRecDepth 100000 in
theorem kX12_isForced_43 {E : JE} {r : Int32} {L : JL} {G : JG} {D : JG} {S : JS} (hL : Lay G S) : ∀ (l2 : Int32) (I : JI), fX12_isForced_43 l2 I = some r → AtJ E xX12_isForced (Zr E (some (.int r)) I L G D S) ((S).length, jm_sl S) 1 43 [(0, .ref (E.1 + 66)), (2, .int l2)] [] I L G D S := by
  intro l2 I  h
  unfold fX12_isForced_43 at h
  refine j_aload_n 44 dX12_isForced_43 rfl rfl 0 rfl ?_
  refine j_getI 47 dX12_isForced_44 rfl (sh_66 hL) cl12 (k := 50) (by decide) flX12_434 rfl ?_
  refine j_iload_n 48 dX12_isForced_47 rfl rfl 1 rfl ?_
  refine j_ishr 49 dX12_isForced_48 rfl ?_
  refine j_iconst (v := (1 : Int32)) 50 dX12_isForced_49 rfl (by decide) ?_
  refine j_iand 51 dX12_isForced_50 rfl ?_
  refine j_iconst (v := (1 : Int32)) 52 dX12_isForced_51 rfl (by decide) ?_
  refine j_icmp_ne 59 55 dX12_isForced_52 (by decide) rfl (fun hc => ?_) (fun hc => ?_)
  · replace h := j_neg hc h
    refine j_iconst (v := (0 : Int32)) 60 dX12_isForced_59 rfl (by decide) ?_
    cases h
    exact j_zret dX12_isForced_60 rfl j_b01_0
  · replace h := j_pos hc h
    refine j_iconst (v := (1 : Int32)) 56 dX12_isForced_55 rfl (by decide) ?_
    refine j_goto 60 dX12_isForced_56 (by decide) ?_
    cases h
    exact j_zret dX12_isForced_60 rfl j_b01_1
def fX12_isForced_15 : Nat → Int32 → Int32 → Int32 → JI → Option (Int32)
  | 0, _, _, _, _ => none
  | n + 1, l1, l2, l3, I =>
    if l1 ≤ l3 then (fX12_isForced_43 l2 I) else (j_g (j_in l3 36) (if (jm_b01 (I 76 l3.toNatClampNeg)) = 0 then ((fX12_isForced_15 n) l1 (l2 + (0 : Int32)) (l3 + (1 : Int32)) I) else ((fX12_isForced_15 n) l1 (l2 + (1 : Int32)) (l3 + (1 : Int32)) I)))
set_option maxHeartbeats 4000000 in
set_option maxRecDepth 100000 in
theorem kX12_isForced_15 {E : JE} {r : Int32} {L : JL} {G : JG} {D : JG} {S : JS} (hL : Lay G S) : ∀ (n : Nat) (l1 : Int32) (l2 : Int32) (l3 : Int32) (I : JI), fX12_isForced_15 n l1 l2 l3 I = some r → AtJ E xX12_isForced (Zr E (some (.int r)) I L G D S) ((S).length, jm_sl S) 1 15 [(0, .ref (E.1 + 66)), (1, .int l1), (2, .int l2), (3, .int l3)] [] I L G D S := by
  intro n
  induction n with
  | zero => intro l1 l2 l3 I  h; simp [fX12_isForced_15] at h
  | succ n ih =>
    intro l1 l2 l3 I  h
    rw [fX12_isForced_15] at h
    refine j_iload_n 16 dX12_isForced_15 rfl rfl 3 rfl ?_
    refine j_iload_n 17 dX12_isForced_16 rfl rfl 1 rfl ?_
    refine j_icmp_ge 43 20 dX12_isForced_17 (by decide) rfl (fun hc => ?_) (fun hc => ?_)
    · replace h := j_pos hc h
      refine j_sub [0, 2] rfl ?_
      exact kX12_isForced_43 hL    _ _  h
    · replace h := j_neg hc h
      refine j_iload_n 21 dX12_isForced_20 rfl rfl 2 rfl ?_
      refine j_aload_n 22 dX12_isForced_21 rfl rfl 0 rfl ?_
      refine j_getG 25 dX12_isForced_22 rfl (sh_66 hL) cl12 (k := 20) (by decide) flX12_38 rfl (gs_66_20 hL) ?_
      refine j_iload_n 26 dX12_isForced_25 rfl rfl 3 rfl ?_
      obtain ⟨hg, h⟩ := j_gs h
      refine j_zald 27 dX12_isForced_26 rfl (sh_76 hL) (j_inv hg) ?_
      refine j_if_eq 34 30 dX12_isForced_27 (by decide) rfl (fun hc => ?_) (fun hc => ?_)
      · replace h := j_pos hc h
        refine j_iconst (v := (0 : Int32)) 35 dX12_isForced_34 rfl (by decide) ?_
        refine j_iadd 36 dX12_isForced_35 rfl ?_
        refine j_istore_n (lv' := [(2, .int (l2 + (0 : Int32))), (0, .ref (E.1 + 66)), (1, .int l1), (3, .int l3)]) 37 dX12_isForced_36 rfl rfl (by decide) rfl ?_
        refine j_iinc (v := (l3 + (1 : Int32))) (lv' := [(3, .int (l3 + (1 : Int32))), (2, .int (l2 + (0 : Int32))), (0, .ref (E.1 + 66)), (1, .int l1)]) (q := 3) 40 dX12_isForced_37 rfl rfl rfl (by decide) rfl ?_
        refine j_goto 15 dX12_isForced_40 (by decide) ?_
        refine j_sub [2, 3, 1, 0] rfl ?_
        exact ih _ _ _ _  h
      · replace h := j_neg hc h
        refine j_iconst (v := (1 : Int32)) 31 dX12_isForced_30 rfl (by decide) ?_
        refine j_goto 35 dX12_isForced_31 (by decide) ?_
        refine j_iadd 36 dX12_isForced_35 rfl ?_
        refine j_istore_n (lv' := [(2, .int (l2 + (1 : Int32))), (0, .ref (E.1 + 66)), (1, .int l1), (3, .int l3)]) 37 dX12_isForced_36 rfl rfl (by decide) rfl ?_
        refine j_iinc (v := (l3 + (1 : Int32))) (lv' := [(3, .int (l3 + (1 : Int32))), (2, .int (l2 + (1 : Int32))), (0, .ref (E.1 + 66)), (1, .int l1)]) (q := 3) 40 dX12_isForced_37 rfl rfl rfl (by decide) rfl ?_
        refine j_goto 15 dX12_isForced_40 (by decide) ?_
        refine j_sub [2, 3, 1, 0] rfl ?_
        exact ih _ _ _ _  h
def fX12_isForced (l1 : Int32) (I : JI) : Option (Int32) :=
  j_g (j_in l1 36) (if (jm_b01 (I 76 l1.toNatClampNeg)) = 0 then (some ((1 : Int32))) else (fX12_isForced_15 100000 l1 (0 : Int32) (0 : Int32) I))
set_option maxHeartbeats 4000000 in
set_option maxRecDepth 100000 in
theorem tcX12_isForced {E : JE} {l1 : Int32} {r : Int32} {I : JI} {L : JL} {G D : JG} {S : JS} (hL : Lay G S) (h : fX12_isForced l1 I = some r) : CallJ E xX12_isForced 1 [.ref (E.1 + 66), .int l1] I L G D S (some (.int r)) I L G D S := by
  unfold fX12_isForced at h
  refine j_entry (by decide) (Nat.le_of_ble_eq_true rfl) ?_
  show AtJ E xX12_isForced (Zr E (some (.int r)) I L G D S) ((S).length, jm_sl S) 1 0 [(0, .ref (E.1 + 66)), (1, .int l1)] [] I L G D S
  refine j_aload_n 1 dX12_isForced_0 rfl rfl 0 rfl ?_
  refine j_getG 4 dX12_isForced_1 rfl (sh_66 hL) cl12 (k := 20) (by decide) flX12_38 rfl (gs_66_20 hL) ?_
  refine j_iload_n 5 dX12_isForced_4 rfl rfl 1 rfl ?_
  obtain ⟨hg, h⟩ := j_gs h
  refine j_zald 6 dX12_isForced_5 rfl (sh_76 hL) (j_inv hg) ?_
  refine j_if_ne 11 9 dX12_isForced_6 (by decide) rfl (fun hc => ?_) (fun hc => ?_)
  · replace h := j_neg hc h
    refine j_iconst (v := (0 : Int32)) 12 dX12_isForced_11 rfl (by decide) ?_
    refine j_istore_n (lv' := [(2, .int (0 : Int32)), (0, .ref (E.1 + 66)), (1, .int l1)]) 13 dX12_isForced_12 rfl rfl (by decide) rfl ?_
    refine j_iconst (v := (0 : Int32)) 14 dX12_isForced_13 rfl (by decide) ?_
    refine j_istore_n (lv' := [(3, .int (0 : Int32)), (2, .int (0 : Int32)), (0, .ref (E.1 + 66)), (1, .int l1)]) 15 dX12_isForced_14 rfl rfl (by decide) rfl ?_
    refine j_sub [2, 3, 1, 0] rfl ?_
    exact kX12_isForced_15 hL    100000 _ _ _ _  h
  · replace h := j_pos hc h
    refine j_iconst (v := (1 : Int32)) 10 dX12_isForced_9 rfl (by decide) ?_
    cases h
    exact j_zret dX12_isForced_10 rfl j_b01_1
def fX12_isFree_2 : Nat → Int32 → JI → Option (Int32 × JI)
  | 0, _, _ => none
  | n + 1, l1, I =>
    if (I 66 18) ≤ l1 then (some ((0 : Int32), I)) else (j_g (j_in l1 36) (if (I 75 l1.toNatClampNeg) = (1 : Int32) then ((fX12_isForced l1 I).bind (fun q1 => if q1 = 0 then ((fX12_isFree_2 n) (l1 + (1 : Int32)) I) else ((fX12_isSo l1 (I 66 48) I).bind (fun q2 => if q2.1 = 0 then ((fX12_isFree_2 n) (l1 + (1 : Int32)) q2.2) else (some ((1 : Int32), q2.2)))))) else ((fX12_isFree_2 n) (l1 + (1 : Int32)) I)))
set_option maxHeartbeats 4000000 in
set_option maxRecDepth 100000 in
theorem kX12_isFree_2 {E : JE} {r : Int32 × JI} {L : JL} {G : JG} {D : JG} {S : JS} (hL : Lay G S) : ∀ (n : Nat) (l1 : Int32) (I : JI), fX12_isFree_2 n l1 I = some r → AtJ E xX12_isFree (Zr E (some (.int r.1)) r.2 L G D S) ((S).length, jm_sl S) 5 2 [(0, .ref (E.1 + 66)), (1, .int l1)] [] I L G D S := by
  intro n
  induction n with
  | zero => intro l1 I  h; simp [fX12_isFree_2] at h
  | succ n ih =>
    intro l1 I  h
    rw [fX12_isFree_2] at h
    refine j_iload_n 3 dX12_isFree_2 rfl rfl 1 rfl ?_
    refine j_aload_n 4 dX12_isFree_3 rfl rfl 0 rfl ?_
    refine j_getI 7 dX12_isFree_4 rfl (sh_66 hL) cl12 (k := 18) (by decide) flX12_398 rfl ?_
    refine j_icmp_ge 48 10 dX12_isFree_7 (by decide) rfl (fun hc => ?_) (fun hc => ?_)
    · replace h := j_pos hc h
      refine j_iconst (v := (0 : Int32)) 49 dX12_isFree_48 rfl (by decide) ?_
      cases h
      exact j_zret dX12_isFree_49 rfl j_b01_0
    · replace h := j_neg hc h
      refine j_aload_n 11 dX12_isFree_10 rfl rfl 0 rfl ?_
      refine j_getG 14 dX12_isFree_11 rfl (sh_66 hL) cl12 (k := 19) (by decide) flX12_35 rfl (gs_66_19 hL) ?_
      refine j_iload_n 15 dX12_isFree_14 rfl rfl 1 rfl ?_
      obtain ⟨hg, h⟩ := j_gs h
      refine j_iald 16 dX12_isFree_15 rfl (sh_75 hL) (j_inv hg) ?_
      refine j_iconst (v := (1 : Int32)) 17 dX12_isFree_16 rfl (by decide) ?_
      refine j_icmp_ne 42 20 dX12_isFree_17 (by decide) rfl (fun hc => ?_) (fun hc => ?_)
      · replace h := j_neg hc h
        refine j_iinc (v := (l1 + (1 : Int32))) (lv' := [(1, .int (l1 + (1 : Int32))), (0, .ref (E.1 + 66))]) (q := 1) 45 dX12_isFree_42 rfl rfl rfl (by decide) rfl ?_
        refine j_goto 2 dX12_isFree_45 (by decide) ?_
        refine j_sub [1, 0] rfl ?_
        exact ih _ _  h
      · replace h := j_pos hc h
        refine j_aload_n 21 dX12_isFree_20 rfl rfl 0 rfl ?_
        refine j_iload_n 22 dX12_isFree_21 rfl rfl 1 rfl ?_
        obtain ⟨q1, hq1, h⟩ := j_bs h
        refine j_callV (rest := []) (As := [.int l1]) 25 dX12_isFree_22 rfl jyX12_isForced (tcX12_isForced hL  hq1) (sh_66 hL) cl12 flX12_437 wm1870 wm61 (by decide) rfl rfl (Nat.le_of_ble_eq_true rfl) ?_
        refine j_if_eq 42 28 dX12_isFree_25 (by decide) rfl (fun hc => ?_) (fun hc => ?_)
        · replace h := j_pos hc h
          refine j_iinc (v := (l1 + (1 : Int32))) (lv' := [(1, .int (l1 + (1 : Int32))), (0, .ref (E.1 + 66))]) (q := 1) 45 dX12_isFree_42 rfl rfl rfl (by decide) rfl ?_
          refine j_goto 2 dX12_isFree_45 (by decide) ?_
          refine j_sub [1, 0] rfl ?_
          exact ih _ _  h
        · replace h := j_neg hc h
          refine j_aload_n 29 dX12_isFree_28 rfl rfl 0 rfl ?_
          refine j_iload_n 30 dX12_isFree_29 rfl rfl 1 rfl ?_
          refine j_aload_n 31 dX12_isFree_30 rfl rfl 0 rfl ?_
          refine j_getI 34 dX12_isFree_31 rfl (sh_66 hL) cl12 (k := 48) (by decide) flX12_422 rfl ?_
          obtain ⟨q2, hq2, h⟩ := j_bs h
          refine j_callV (rest := []) (As := [.int l1, .int (I 66 48)]) 37 dX12_isFree_34 rfl jyX12_isSo (tcX12_isSo hL  hq2) (sh_66 hL) cl12 flX12_440 wm1874 wm62 (by decide) rfl rfl (Nat.le_of_ble_eq_true rfl) ?_
          refine j_if_eq 42 40 dX12_isFree_37 (by decide) rfl (fun hc => ?_) (fun hc => ?_)
          · replace h := j_pos hc h
            refine j_iinc (v := (l1 + (1 : Int32))) (lv' := [(1, .int (l1 + (1 : Int32))), (0, .ref (E.1 + 66))]) (q := 1) 45 dX12_isFree_42 rfl rfl rfl (by decide) rfl ?_
            refine j_goto 2 dX12_isFree_45 (by decide) ?_
            refine j_sub [1, 0] rfl ?_
            exact ih _ _  h
          · replace h := j_neg hc h
            refine j_iconst (v := (1 : Int32)) 41 dX12_isFree_40 rfl (by decide) ?_
            cases h
            exact j_zret dX12_isFree_41 rfl j_b01_1
def fX12_isFree (I : JI) : Option (Int32 × JI) :=
  fX12_isFree_2 100000 (0 : Int32) I
set_option maxHeartbeats 4000000 in
set_option maxRecDepth 100000 in
theorem tcX12_isFree {E : JE} {r : Int32 × JI} {I : JI} {L : JL} {G D : JG} {S : JS} (hL : Lay G S) (h : fX12_isFree I = some r) : CallJ E xX12_isFree 5 [.ref (E.1 + 66)] I L G D S (some (.int r.1)) r.2 L G D S := by
  unfold fX12_isFree at h
  refine j_entry (by decide) (Nat.le_of_ble_eq_true rfl) ?_
  show AtJ E xX12_isFree (Zr E (some (.int r.1)) r.2 L G D S) ((S).length, jm_sl S) 5 0 [(0, .ref (E.1 + 66))] [] I L G D S
  refine j_iconst (v := (0 : Int32)) 1 dX12_isFree_0 rfl (by decide) ?_
  refine j_istore_n (lv' := [(1, .int (0 : Int32)), (0, .ref (E.1 + 66))]) 2 dX12_isFree_1 rfl rfl (by decide) rfl ?_
  refine j_sub [1, 0] rfl ?_
  exact kX12_isFree_2 hL    100000 _ _  h
def fX12_rankOf_14 : Nat → Int32 → Int32 → Int32 → JI → Option (Int32 × JI)
  | 0, _, _, _, _ => none
  | n + 1, l1, l2, l3, I =>
    if (I 66 18) ≤ l3 then (some ((-1 : Int32), I)) else (j_g (j_in l3 36) (if (I 75 l3.toNatClampNeg) = (1 : Int32) then ((fX12_rankOf_14 n) l1 l2 (l3 + (1 : Int32)) I) else ((fX12_isForced l3 I).bind (fun q1 => if q1 = 0 then ((fX12_rankOf_14 n) l1 l2 (l3 + (1 : Int32)) I) else (j_g (j_in l3 36) (if (((I 78 l3.toNatClampNeg) >>> ((I 66 49) &&& 31)) &&& (1 : Int32)) = (1 : Int32) then (j_g (j_in l3 36) ((fX12_weight (I 77 l3.toNatClampNeg) (I 66 46) (I 66 47) l1 I).bind (fun q2 => if q2 ≤ 0 then ((fX12_rankOf_14 n) l1 (l2 + (1 : Int32)) (l3 + (1 : Int32)) I) else ((fX12_isSo l3 l1 I).bind (fun q3 => if q3.1 = 0 then ((fX12_rankOf_14 n) l1 (l2 + (1 : Int32)) (l3 + (1 : Int32)) q3.2) else (some (l2, (j_up q3.2 66 51 l3)))))))) else ((fX12_rankOf_14 n) l1 (l2 + (1 : Int32)) (l3 + (1 : Int32)) I)))))))
set_option maxHeartbeats 4000000 in
set_option maxRecDepth 100000 in
theorem kX12_rankOf_14 {E : JE} {r : Int32 × JI} {L : JL} {G : JG} {D : JG} {S : JS} (hL : Lay G S) : ∀ (n : Nat) (l1 : Int32) (l2 : Int32) (l3 : Int32) (I : JI), fX12_rankOf_14 n l1 l2 l3 I = some r → AtJ E xX12_rankOf (Zr E (some (.int r.1)) r.2 L G D S) ((S).length, jm_sl S) 5 14 [(0, .ref (E.1 + 66)), (1, .int l1), (2, .int l2), (3, .int l3)] [] I L G D S := by
  intro n
  induction n with
  | zero => intro l1 l2 l3 I  h; simp [fX12_rankOf_14] at h
  | succ n ih =>
    intro l1 l2 l3 I  h
    rw [fX12_rankOf_14] at h
    refine j_iload_n 15 dX12_rankOf_14 rfl rfl 3 rfl ?_
    refine j_aload_n 16 dX12_rankOf_15 rfl rfl 0 rfl ?_
    refine j_getI 19 dX12_rankOf_16 rfl (sh_66 hL) cl12 (k := 18) (by decide) flX12_398 rfl ?_
    refine j_icmp_ge 107 22 dX12_rankOf_19 (by decide) rfl (fun hc => ?_) (fun hc => ?_)
    · replace h := j_pos hc h
      refine j_iconst (v := (-1 : Int32)) 108 dX12_rankOf_107 rfl (by decide) ?_
      cases h
      exact j_iret dX12_rankOf_108 rfl
    · replace h := j_neg hc h
      refine j_aload_n 23 dX12_rankOf_22 rfl rfl 0 rfl ?_
      refine j_getG 26 dX12_rankOf_23 rfl (sh_66 hL) cl12 (k := 19) (by decide) flX12_35 rfl (gs_66_19 hL) ?_
      refine j_iload_n 27 dX12_rankOf_26 rfl rfl 3 rfl ?_
      obtain ⟨hg, h⟩ := j_gs h
      refine j_iald 28 dX12_rankOf_27 rfl (sh_75 hL) (j_inv hg) ?_
      refine j_iconst (v := (1 : Int32)) 29 dX12_rankOf_28 rfl (by decide) ?_
      refine j_icmp_eq 101 32 dX12_rankOf_29 (by decide) rfl (fun hc => ?_) (fun hc => ?_)
      · replace h := j_pos hc h
        refine j_iinc (v := (l3 + (1 : Int32))) (lv' := [(3, .int (l3 + (1 : Int32))), (0, .ref (E.1 + 66)), (1, .int l1), (2, .int l2)]) (q := 3) 104 dX12_rankOf_101 rfl rfl rfl (by decide) rfl ?_
        refine j_goto 14 dX12_rankOf_104 (by decide) ?_
        refine j_sub [1, 2, 3, 0] rfl ?_
        exact ih _ _ _ _  h
      · replace h := j_neg hc h
        refine j_aload_n 33 dX12_rankOf_32 rfl rfl 0 rfl ?_
        refine j_iload_n 34 dX12_rankOf_33 rfl rfl 3 rfl ?_
        obtain ⟨q1, hq1, h⟩ := j_bs h
        refine j_callV (rest := []) (As := [.int l3]) 37 dX12_rankOf_34 rfl jyX12_isForced (tcX12_isForced hL  hq1) (sh_66 hL) cl12 flX12_437 wm1870 wm61 (by decide) rfl rfl (Nat.le_of_ble_eq_true rfl) ?_
        refine j_if_ne 43 40 dX12_rankOf_37 (by decide) rfl (fun hc => ?_) (fun hc => ?_)
        · replace h := j_neg hc h
          refine j_aload_n 44 dX12_rankOf_43 rfl rfl 0 rfl ?_
          refine j_getG 47 dX12_rankOf_44 rfl (sh_66 hL) cl12 (k := 22) (by decide) flX12_44 rfl (gs_66_22 hL) ?_
          refine j_iload_n 48 dX12_rankOf_47 rfl rfl 3 rfl ?_
          obtain ⟨hg, h⟩ := j_gs h
          refine j_iald 49 dX12_rankOf_48 rfl (sh_78 hL) (j_inv hg) ?_
          refine j_aload_n 50 dX12_rankOf_49 rfl rfl 0 rfl ?_
          refine j_getI 53 dX12_rankOf_50 rfl (sh_66 hL) cl12 (k := 49) (by decide) flX12_425 rfl ?_
          refine j_ishr 54 dX12_rankOf_53 rfl ?_
          refine j_iconst (v := (1 : Int32)) 55 dX12_rankOf_54 rfl (by decide) ?_
          refine j_iand 56 dX12_rankOf_55 rfl ?_
          refine j_iconst (v := (1 : Int32)) 57 dX12_rankOf_56 rfl (by decide) ?_
          refine j_icmp_ne 98 60 dX12_rankOf_57 (by decide) rfl (fun hc => ?_) (fun hc => ?_)
          · replace h := j_neg hc h
            refine j_iinc (v := (l2 + (1 : Int32))) (lv' := [(2, .int (l2 + (1 : Int32))), (0, .ref (E.1 + 66)), (1, .int l1), (3, .int l3)]) (q := 2) 101 dX12_rankOf_98 rfl rfl rfl (by decide) rfl ?_
            refine j_iinc (v := (l3 + (1 : Int32))) (lv' := [(3, .int (l3 + (1 : Int32))), (2, .int (l2 + (1 : Int32))), (0, .ref (E.1 + 66)), (1, .int l1)]) (q := 3) 104 dX12_rankOf_101 rfl rfl rfl (by decide) rfl ?_
            refine j_goto 14 dX12_rankOf_104 (by decide) ?_
            refine j_sub [2, 3, 1, 0] rfl ?_
            exact ih _ _ _ _  h
          · replace h := j_pos hc h
            refine j_aload_n 61 dX12_rankOf_60 rfl rfl 0 rfl ?_
            refine j_aload_n 62 dX12_rankOf_61 rfl rfl 0 rfl ?_
            refine j_getG 65 dX12_rankOf_62 rfl (sh_66 hL) cl12 (k := 21) (by decide) flX12_41 rfl (gs_66_21 hL) ?_
            refine j_iload_n 66 dX12_rankOf_65 rfl rfl 3 rfl ?_
            obtain ⟨hg, h⟩ := j_gs h
            refine j_iald 67 dX12_rankOf_66 rfl (sh_77 hL) (j_inv hg) ?_
            refine j_aload_n 68 dX12_rankOf_67 rfl rfl 0 rfl ?_
            refine j_getI 71 dX12_rankOf_68 rfl (sh_66 hL) cl12 (k := 46) (by decide) flX12_416 rfl ?_
            refine j_aload_n 72 dX12_rankOf_71 rfl rfl 0 rfl ?_
            refine j_getI 75 dX12_rankOf_72 rfl (sh_66 hL) cl12 (k := 47) (by decide) flX12_419 rfl ?_
            refine j_iload_n 76 dX12_rankOf_75 rfl rfl 1 rfl ?_
            obtain ⟨q2, hq2, h⟩ := j_bs h
            refine j_callV (rest := []) (As := [.int (I 77 l3.toNatClampNeg), .int (I 66 46), .int (I 66 47), .int l1]) 79 dX12_rankOf_76 rfl jyX12_weight (tcX12_weight hL  hq2) (sh_66 hL) cl12 flX12_243 wm1748 wm42 (by decide) rfl rfl (Nat.le_of_ble_eq_true rfl) ?_
            refine j_if_le 98 82 dX12_rankOf_79 (by decide) rfl (fun hc => ?_) (fun hc => ?_)
            · replace h := j_pos hc h
              refine j_iinc (v := (l2 + (1 : Int32))) (lv' := [(2, .int (l2 + (1 : Int32))), (0, .ref (E.1 + 66)), (1, .int l1), (3, .int l3)]) (q := 2) 101 dX12_rankOf_98 rfl rfl rfl (by decide) rfl ?_
              refine j_iinc (v := (l3 + (1 : Int32))) (lv' := [(3, .int (l3 + (1 : Int32))), (2, .int (l2 + (1 : Int32))), (0, .ref (E.1 + 66)), (1, .int l1)]) (q := 3) 104 dX12_rankOf_101 rfl rfl rfl (by decide) rfl ?_
              refine j_goto 14 dX12_rankOf_104 (by decide) ?_
              refine j_sub [2, 3, 1, 0] rfl ?_
              exact ih _ _ _ _  h
            · replace h := j_neg hc h
              refine j_aload_n 83 dX12_rankOf_82 rfl rfl 0 rfl ?_
              refine j_iload_n 84 dX12_rankOf_83 rfl rfl 3 rfl ?_
              refine j_iload_n 85 dX12_rankOf_84 rfl rfl 1 rfl ?_
              obtain ⟨q3, hq3, h⟩ := j_bs h
              refine j_callV (rest := []) (As := [.int l3, .int l1]) 88 dX12_rankOf_85 rfl jyX12_isSo (tcX12_isSo hL  hq3) (sh_66 hL) cl12 flX12_440 wm1874 wm62 (by decide) rfl rfl (Nat.le_of_ble_eq_true rfl) ?_
              refine j_if_eq 98 91 dX12_rankOf_88 (by decide) rfl (fun hc => ?_) (fun hc => ?_)
              · replace h := j_pos hc h
                refine j_iinc (v := (l2 + (1 : Int32))) (lv' := [(2, .int (l2 + (1 : Int32))), (0, .ref (E.1 + 66)), (1, .int l1), (3, .int l3)]) (q := 2) 101 dX12_rankOf_98 rfl rfl rfl (by decide) rfl ?_
                refine j_iinc (v := (l3 + (1 : Int32))) (lv' := [(3, .int (l3 + (1 : Int32))), (2, .int (l2 + (1 : Int32))), (0, .ref (E.1 + 66)), (1, .int l1)]) (q := 3) 104 dX12_rankOf_101 rfl rfl rfl (by decide) rfl ?_
                refine j_goto 14 dX12_rankOf_104 (by decide) ?_
                refine j_sub [2, 3, 1, 0] rfl ?_
                exact ih _ _ _ _  h
              · replace h := j_neg hc h
                refine j_aload_n 92 dX12_rankOf_91 rfl rfl 0 rfl ?_
                refine j_iload_n 93 dX12_rankOf_92 rfl rfl 3 rfl ?_
                refine j_putI 96 dX12_rankOf_93 rfl (sh_66 hL) cl12 (k := 51) (by decide) flX12_444 rfl rfl rfl ?_
                refine j_iload_n 97 dX12_rankOf_96 rfl rfl 2 rfl ?_
                cases h
                exact j_iret dX12_rankOf_97 rfl
        · replace h := j_pos hc h
          refine j_goto 101 dX12_rankOf_40 (by decide) ?_
          refine j_iinc (v := (l3 + (1 : Int32))) (lv' := [(3, .int (l3 + (1 : Int32))), (0, .ref (E.1 + 66)), (1, .int l1), (2, .int l2)]) (q := 3) 104 dX12_rankOf_101 rfl rfl rfl (by decide) rfl ?_
          refine j_goto 14 dX12_rankOf_104 (by decide) ?_
          refine j_sub [1, 2, 3, 0] rfl ?_
          exact ih _ _ _ _  h
def fX12_rankOf (l1 : Int32) (I : JI) : Option (Int32 × JI) :=
  if l1 = (I 66 47) then (some ((-1 : Int32), I)) else (fX12_rankOf_14 100000 l1 (0 : Int32) (0 : Int32) I)
set_option maxHeartbeats 4000000 in
set_option maxRecDepth 100000 in
theorem tcX12_rankOf {E : JE} {l1 : Int32} {r : Int32 × JI} {I : JI} {L : JL} {G D : JG} {S : JS} (hL : Lay G S) (h : fX12_rankOf l1 I = some r) : CallJ E xX12_rankOf 5 [.ref (E.1 + 66), .int l1] I L G D S (some (.int r.1)) r.2 L G D S := by
  unfold fX12_rankOf at h
  refine j_entry (by decide) (Nat.le_of_ble_eq_true rfl) ?_
  show AtJ E xX12_rankOf (Zr E (some (.int r.1)) r.2 L G D S) ((S).length, jm_sl S) 5 0 [(0, .ref (E.1 + 66)), (1, .int l1)] [] I L G D S
  refine j_iconst (v := (0 : Int32)) 1 dX12_rankOf_0 rfl (by decide) ?_
  refine j_istore_n (lv' := [(2, .int (0 : Int32)), (0, .ref (E.1 + 66)), (1, .int l1)]) 2 dX12_rankOf_1 rfl rfl (by decide) rfl ?_
  refine j_iload_n 3 dX12_rankOf_2 rfl rfl 2 rfl ?_
  refine j_aload_n 4 dX12_rankOf_3 rfl rfl 1 rfl ?_
  refine j_getI 7 dX12_rankOf_4 rfl (sh_66 hL) cl12 (k := 47) (by decide) flX12_419 rfl ?_
  refine j_icmp_ne 12 10 dX12_rankOf_7 (by decide) rfl (fun hc => ?_) (fun hc => ?_)
  · replace h := j_neg hc h
    refine j_iconst (v := (0 : Int32)) 13 dX12_rankOf_12 rfl (by decide) ?_
    refine j_istore_n (lv' := [(3, .int (0 : Int32)), (2, .int (0 : Int32)), (0, .ref (E.1 + 66)), (1, .int l1)]) 14 dX12_rankOf_13 rfl rfl (by decide) rfl ?_
    refine j_sub [2, 3, 1, 0] rfl ?_
    exact kX12_rankOf_14 hL    100000 _ _ _ _  h
  · replace h := j_pos hc h
    refine j_iconst (v := (-1 : Int32)) 11 dX12_rankOf_10 rfl (by decide) ?_
    cases h
    exact j_iret dX12_rankOf_11 rfl
def fX12_comesFirst (l1 : Int32) (l2 : Int32) (l3 : Int32) (I : JI) : Option (Int32) :=
  if l1 = (I 66 48) then (some ((0 : Int32))) else (if l2 < 0 then (some ((0 : Int32))) else (if l3 < 0 then (some ((1 : Int32))) else (if l3 ≤ l2 then (some ((0 : Int32))) else (some ((1 : Int32))))))
set_option maxHeartbeats 4000000 in
set_option maxRecDepth 100000 in
theorem tcX12_comesFirst {E : JE} {l1 : Int32} {l2 : Int32} {l3 : Int32} {r : Int32} {I : JI} {L : JL} {G D : JG} {S : JS} (hL : Lay G S) (h : fX12_comesFirst l1 l2 l3 I = some r) : CallJ E xX12_comesFirst 1 [.ref (E.1 + 66), .int l1, .int l2, .int l3] I L G D S (some (.int r)) I L G D S := by
  unfold fX12_comesFirst at h
  refine j_entry (by decide) (Nat.le_of_ble_eq_true rfl) ?_
  show AtJ E xX12_comesFirst (Zr E (some (.int r)) I L G D S) ((S).length, jm_sl S) 1 0 [(0, .ref (E.1 + 66)), (1, .int l1), (2, .int l2), (3, .int l3)] [] I L G D S
  refine j_iload_n 1 dX12_comesFirst_0 rfl rfl 1 rfl ?_
  refine j_aload_n 2 dX12_comesFirst_1 rfl rfl 0 rfl ?_
  refine j_getI 5 dX12_comesFirst_2 rfl (sh_66 hL) cl12 (k := 48) (by decide) flX12_422 rfl ?_
  refine j_icmp_eq 25 8 dX12_comesFirst_5 (by decide) rfl (fun hc => ?_) (fun hc => ?_)
  · replace h := j_pos hc h
    refine j_iconst (v := (0 : Int32)) 26 dX12_comesFirst_25 rfl (by decide) ?_
    cases h
    exact j_zret dX12_comesFirst_26 rfl j_b01_0
  · replace h := j_neg hc h
    refine j_iload_n 9 dX12_comesFirst_8 rfl rfl 2 rfl ?_
    refine j_if_lt 25 12 dX12_comesFirst_9 (by decide) rfl (fun hc => ?_) (fun hc => ?_)
    · replace h := j_pos hc h
      refine j_iconst (v := (0 : Int32)) 26 dX12_comesFirst_25 rfl (by decide) ?_
      cases h
      exact j_zret dX12_comesFirst_26 rfl j_b01_0
    · replace h := j_neg hc h
      refine j_iload_n 13 dX12_comesFirst_12 rfl rfl 3 rfl ?_
      refine j_if_lt 21 16 dX12_comesFirst_13 (by decide) rfl (fun hc => ?_) (fun hc => ?_)
      · replace h := j_pos hc h
        refine j_iconst (v := (1 : Int32)) 22 dX12_comesFirst_21 rfl (by decide) ?_
        refine j_goto 26 dX12_comesFirst_22 (by decide) ?_
        cases h
        exact j_zret dX12_comesFirst_26 rfl j_b01_1
      · replace h := j_neg hc h
        refine j_iload_n 17 dX12_comesFirst_16 rfl rfl 2 rfl ?_
        refine j_iload_n 18 dX12_comesFirst_17 rfl rfl 3 rfl ?_
        refine j_icmp_ge 25 21 dX12_comesFirst_18 (by decide) rfl (fun hc => ?_) (fun hc => ?_)
        · replace h := j_pos hc h
          refine j_iconst (v := (0 : Int32)) 26 dX12_comesFirst_25 rfl (by decide) ?_
          cases h
          exact j_zret dX12_comesFirst_26 rfl j_b01_0
        · replace h := j_neg hc h
          refine j_iconst (v := (1 : Int32)) 22 dX12_comesFirst_21 rfl (by decide) ?_
          refine j_goto 26 dX12_comesFirst_22 (by decide) ?_
          cases h
          exact j_zret dX12_comesFirst_26 rfl j_b01_1
def fX12_comers_22 : Nat → Int32 → Int32 → Int32 → JI → Option (Int32 × JI)
  | 0, _, _, _, _ => none
  | n + 1, l1, l2, l3, I =>
    if (16 : Int32) ≤ l3 then (some (l2, I)) else ((fX12_rankOf l3 I).bind (fun q3 => (fX12_comesFirst l3 q3.1 l1 q3.2).bind (fun q4 => if q4 = 0 then ((fX12_comers_22 n) l1 (l2 ||| (0 : Int32)) (l3 + (1 : Int32)) q3.2) else ((fX12_comers_22 n) l1 (l2 ||| ((1 : Int32) <<< (l3 &&& 31))) (l3 + (1 : Int32)) q3.2))))
set_option maxHeartbeats 4000000 in
set_option maxRecDepth 100000 in
theorem kX12_comers_22 {E : JE} {r : Int32 × JI} {L : JL} {G : JG} {D : JG} {S : JS} (hL : Lay G S) : ∀ (n : Nat) (l1 : Int32) (l2 : Int32) (l3 : Int32) (I : JI), fX12_comers_22 n l1 l2 l3 I = some r → AtJ E xX12_comers (Zr E (some (.int r.1)) r.2 L G D S) ((S).length, jm_sl S) 6 22 [(0, .ref (E.1 + 66)), (1, .int l1), (2, .int l2), (3, .int l3)] [] I L G D S := by
  intro n
  induction n with
  | zero => intro l1 l2 l3 I  h; simp [fX12_comers_22] at h
  | succ n ih =>
    intro l1 l2 l3 I  h
    rw [fX12_comers_22] at h
    refine j_iload_n 23 dX12_comers_22 rfl rfl 3 rfl ?_
    refine j_bipush (v := (16 : Int32)) 25 dX12_comers_23 rfl (by decide) ?_
    refine j_icmp_ge 58 28 dX12_comers_25 (by decide) rfl (fun hc => ?_) (fun hc => ?_)
    · replace h := j_pos hc h
      refine j_iload_n 59 dX12_comers_58 rfl rfl 2 rfl ?_
      cases h
      exact j_iret dX12_comers_59 rfl
    · replace h := j_neg hc h
      refine j_iload_n 29 dX12_comers_28 rfl rfl 2 rfl ?_
      refine j_aload_n 30 dX12_comers_29 rfl rfl 0 rfl ?_
      refine j_iload_n 31 dX12_comers_30 rfl rfl 3 rfl ?_
      refine j_aload_n 32 dX12_comers_31 rfl rfl 0 rfl ?_
      refine j_iload_n 33 dX12_comers_32 rfl rfl 3 rfl ?_
      obtain ⟨q3, hq3, h⟩ := j_bs h
      refine j_callV (rest := [.int l3, .ref (E.1 + 66), .int l2]) (As := [.int l3]) 36 dX12_comers_33 rfl jyX12_rankOf (tcX12_rankOf hL  hq3) (sh_66 hL) cl12 flX12_450 wm1894 wm67 (by decide) rfl rfl (Nat.le_of_ble_eq_true rfl) ?_
      refine j_iload_n 37 dX12_comers_36 rfl rfl 1 rfl ?_
      obtain ⟨q4, hq4, h⟩ := j_bs h
      refine j_callV (rest := [.int l2]) (As := [.int l3, .int q3.1, .int l1]) 40 dX12_comers_37 rfl jyX12_comesFirst (tcX12_comesFirst hL  hq4) (sh_66 hL) cl12 flX12_453 wm1898 wm68 (by decide) rfl rfl (Nat.le_of_ble_eq_true rfl) ?_
      refine j_if_eq 49 43 dX12_comers_40 (by decide) rfl (fun hc => ?_) (fun hc => ?_)
      · replace h := j_pos hc h
        refine j_iconst (v := (0 : Int32)) 50 dX12_comers_49 rfl (by decide) ?_
        refine j_ior 51 dX12_comers_50 rfl ?_
        refine j_istore_n (lv' := [(2, .int (l2 ||| (0 : Int32))), (0, .ref (E.1 + 66)), (1, .int l1), (3, .int l3)]) 52 dX12_comers_51 rfl rfl (by decide) rfl ?_
        refine j_iinc (v := (l3 + (1 : Int32))) (lv' := [(3, .int (l3 + (1 : Int32))), (2, .int (l2 ||| (0 : Int32))), (0, .ref (E.1 + 66)), (1, .int l1)]) (q := 3) 55 dX12_comers_52 rfl rfl rfl (by decide) rfl ?_
        refine j_goto 22 dX12_comers_55 (by decide) ?_
        refine j_sub [2, 3, 1, 0] rfl ?_
        exact ih _ _ _ _  h
      · replace h := j_neg hc h
        refine j_iconst (v := (1 : Int32)) 44 dX12_comers_43 rfl (by decide) ?_
        refine j_iload_n 45 dX12_comers_44 rfl rfl 3 rfl ?_
        refine j_ishl 46 dX12_comers_45 rfl ?_
        refine j_goto 50 dX12_comers_46 (by decide) ?_
        refine j_ior 51 dX12_comers_50 rfl ?_
        refine j_istore_n (lv' := [(2, .int (l2 ||| ((1 : Int32) <<< (l3 &&& 31)))), (0, .ref (E.1 + 66)), (1, .int l1), (3, .int l3)]) 52 dX12_comers_51 rfl rfl (by decide) rfl ?_
        refine j_iinc (v := (l3 + (1 : Int32))) (lv' := [(3, .int (l3 + (1 : Int32))), (2, .int (l2 ||| ((1 : Int32) <<< (l3 &&& 31)))), (0, .ref (E.1 + 66)), (1, .int l1)]) (q := 3) 55 dX12_comers_52 rfl rfl rfl (by decide) rfl ?_
        refine j_goto 22 dX12_comers_55 (by decide) ?_
        refine j_sub [2, 3, 1, 0] rfl ?_
        exact ih _ _ _ _  h
def fX12_comers (I : JI) : Option (Int32 × JI) :=
  (fX12_isFree I).bind (fun q1 => if q1.1 = 0 then ((fX12_rankOf (q1.2 66 48) q1.2).bind (fun q2 => fX12_comers_22 100000 q2.1 (0 : Int32) (0 : Int32) q2.2)) else (some ((0 : Int32), q1.2)))
set_option maxHeartbeats 4000000 in
set_option maxRecDepth 100000 in
theorem tcX12_comers {E : JE} {r : Int32 × JI} {I : JI} {L : JL} {G D : JG} {S : JS} (hL : Lay G S) (h : fX12_comers I = some r) : CallJ E xX12_comers 6 [.ref (E.1 + 66)] I L G D S (some (.int r.1)) r.2 L G D S := by
  unfold fX12_comers at h
  refine j_entry (by decide) (Nat.le_of_ble_eq_true rfl) ?_
  show AtJ E xX12_comers (Zr E (some (.int r.1)) r.2 L G D S) ((S).length, jm_sl S) 6 0 [(0, .ref (E.1 + 66))] [] I L G D S
  refine j_aload_n 1 dX12_comers_0 rfl rfl 0 rfl ?_
  obtain ⟨q1, hq1, h⟩ := j_bs h
  refine j_callV (rest := []) (As := []) 4 dX12_comers_1 rfl jyX12_isFree (tcX12_isFree hL  hq1) (sh_66 hL) cl12 flX12_447 wm1866 wm60 (by decide) rfl rfl (Nat.le_of_ble_eq_true rfl) ?_
  refine j_if_eq 9 7 dX12_comers_4 (by decide) rfl (fun hc => ?_) (fun hc => ?_)
  · replace h := j_pos hc h
    refine j_aload_n 10 dX12_comers_9 rfl rfl 0 rfl ?_
    refine j_aload_n 11 dX12_comers_10 rfl rfl 0 rfl ?_
    refine j_getI 14 dX12_comers_11 rfl (sh_66 hL) cl12 (k := 48) (by decide) flX12_422 rfl ?_
    obtain ⟨q2, hq2, h⟩ := j_bs h
    refine j_callV (rest := []) (As := [.int (q1.2 66 48)]) 17 dX12_comers_14 rfl jyX12_rankOf (tcX12_rankOf hL  hq2) (sh_66 hL) cl12 flX12_450 wm1894 wm67 (by decide) rfl rfl (Nat.le_of_ble_eq_true rfl) ?_
    refine j_istore_n (lv' := [(1, .int q2.1), (0, .ref (E.1 + 66))]) 18 dX12_comers_17 rfl rfl (by decide) rfl ?_
    refine j_iconst (v := (0 : Int32)) 19 dX12_comers_18 rfl (by decide) ?_
    refine j_istore_n (lv' := [(2, .int (0 : Int32)), (1, .int q2.1), (0, .ref (E.1 + 66))]) 20 dX12_comers_19 rfl rfl (by decide) rfl ?_
    refine j_iconst (v := (0 : Int32)) 21 dX12_comers_20 rfl (by decide) ?_
    refine j_istore_n (lv' := [(3, .int (0 : Int32)), (2, .int (0 : Int32)), (1, .int q2.1), (0, .ref (E.1 + 66))]) 22 dX12_comers_21 rfl rfl (by decide) rfl ?_
    refine j_sub [3, 2, 1, 0] rfl ?_
    exact kX12_comers_22 hL    100000 _ _ _ _  h
  · replace h := j_neg hc h
    refine j_iconst (v := (0 : Int32)) 8 dX12_comers_7 rfl (by decide) ?_
    cases h
    exact j_iret dX12_comers_8 rfl
def fX12_isPassing (l1 : Int32) (l2 : Int32) (l3 : Int32) (l4 : Int32) (l5 : Int32) (l6 : Int32) (l7 : Int32) (I : JI) : Option (Int32) :=
  (fX12_isParcel l1 I).bind (fun q1 => if q1 = 0 then (some ((0 : Int32))) else ((fX12_isPerson l2).bind (fun q2 => if q2 = 0 then (some ((0 : Int32))) else ((fX12_isPerson l3).bind (fun q3 => if q3 = 0 then (some ((0 : Int32))) else (if l2 = l3 then (some ((0 : Int32))) else ((fX12_within l4 (1 : Int32) (12 : Int32)).bind (fun q4 => if q4 = 0 then (some ((0 : Int32))) else ((fX12_within l5 (0 : Int32) (2 : Int32)).bind (fun q5 => if q5 = 0 then (some ((0 : Int32))) else ((fX12_within l6 (0 : Int32) (9999 : Int32)).bind (fun q6 => if q6 = 0 then (some ((0 : Int32))) else ((fX12_within l7 (0 : Int32) (9999 : Int32)).bind (fun q7 => if q7 = 0 then (some ((0 : Int32))) else (if l5 = (1 : Int32) then (if l6 = 0 then (if l7 = 0 then (some ((1 : Int32))) else (some ((0 : Int32)))) else (some ((0 : Int32)))) else (some ((1 : Int32))))))))))))))))))
set_option maxHeartbeats 4000000 in
set_option maxRecDepth 100000 in
theorem tcX12_isPassing {E : JE} {l1 : Int32} {l2 : Int32} {l3 : Int32} {l4 : Int32} {l5 : Int32} {l6 : Int32} {l7 : Int32} {r : Int32} {I : JI} {L : JL} {G D : JG} {S : JS} (hL : Lay G S) (h : fX12_isPassing l1 l2 l3 l4 l5 l6 l7 I = some r) : CallJ E xX12_isPassing 3 [.ref (E.1 + 66), .int l1, .int l2, .int l3, .int l4, .int l5, .int l6, .int l7] I L G D S (some (.int r)) I L G D S := by
  unfold fX12_isPassing at h
  refine j_entry (by decide) (Nat.le_of_ble_eq_true rfl) ?_
  show AtJ E xX12_isPassing (Zr E (some (.int r)) I L G D S) ((S).length, jm_sl S) 3 0 [(0, .ref (E.1 + 66)), (1, .int l1), (2, .int l2), (3, .int l3), (4, .int l4), (5, .int l5), (6, .int l6), (7, .int l7)] [] I L G D S
  refine j_aload_n 1 dX12_isPassing_0 rfl rfl 0 rfl ?_
  refine j_iload_n 2 dX12_isPassing_1 rfl rfl 1 rfl ?_
  obtain ⟨q1, hq1, h⟩ := j_bs h
  refine j_callV (rest := []) (As := [.int l1]) 5 dX12_isPassing_2 rfl jyX12_isParcel (tcX12_isParcel hL  hq1) (sh_66 hL) cl12 flX12_230 wm1708 wm40 (by decide) rfl rfl (Nat.le_of_ble_eq_true rfl) ?_
  refine j_if_eq 48 8 dX12_isPassing_5 (by decide) rfl (fun hc => ?_) (fun hc => ?_)
  · replace h := j_pos hc h
    refine j_iconst (v := (0 : Int32)) 49 dX12_isPassing_48 rfl (by decide) ?_
    cases h
    exact j_zret dX12_isPassing_49 rfl j_b01_0
  · replace h := j_neg hc h
    refine j_iload_n 9 dX12_isPassing_8 rfl rfl 2 rfl ?_
    obtain ⟨q2, hq2, h⟩ := j_bs h
    refine j_callS (rest := []) (As := [.int l2]) 12 dX12_isPassing_9 rfl jyX12_isPerson (tcX12_isPerson   hq2) flX12_226 wm1700 (by decide) rfl rfl (Nat.le_of_ble_eq_true rfl) ?_
    refine j_if_eq 48 15 dX12_isPassing_12 (by decide) rfl (fun hc => ?_) (fun hc => ?_)
    · replace h := j_pos hc h
      refine j_iconst (v := (0 : Int32)) 49 dX12_isPassing_48 rfl (by decide) ?_
      cases h
      exact j_zret dX12_isPassing_49 rfl j_b01_0
    · replace h := j_neg hc h
      refine j_iload_n 16 dX12_isPassing_15 rfl rfl 3 rfl ?_
      obtain ⟨q3, hq3, h⟩ := j_bs h
      refine j_callS (rest := []) (As := [.int l3]) 19 dX12_isPassing_16 rfl jyX12_isPerson (tcX12_isPerson   hq3) flX12_226 wm1700 (by decide) rfl rfl (Nat.le_of_ble_eq_true rfl) ?_
      refine j_if_eq 48 22 dX12_isPassing_19 (by decide) rfl (fun hc => ?_) (fun hc => ?_)
      · replace h := j_pos hc h
        refine j_iconst (v := (0 : Int32)) 49 dX12_isPassing_48 rfl (by decide) ?_
        cases h
        exact j_zret dX12_isPassing_49 rfl j_b01_0
      · replace h := j_neg hc h
        refine j_iload_n 23 dX12_isPassing_22 rfl rfl 2 rfl ?_
        refine j_iload_n 24 dX12_isPassing_23 rfl rfl 3 rfl ?_
        refine j_icmp_eq 48 27 dX12_isPassing_24 (by decide) rfl (fun hc => ?_) (fun hc => ?_)
        · replace h := j_pos hc h
          refine j_iconst (v := (0 : Int32)) 49 dX12_isPassing_48 rfl (by decide) ?_
          cases h
          exact j_zret dX12_isPassing_49 rfl j_b01_0
        · replace h := j_neg hc h
          refine j_iload 29 dX12_isPassing_27 rfl 4 rfl ?_
          refine j_iconst (v := (1 : Int32)) 30 dX12_isPassing_29 rfl (by decide) ?_
          refine j_bipush (v := (12 : Int32)) 32 dX12_isPassing_30 rfl (by decide) ?_
          obtain ⟨q4, hq4, h⟩ := j_bs h
          refine j_callS (rest := []) (As := [.int l4, .int (1 : Int32), .int (12 : Int32)]) 35 dX12_isPassing_32 rfl jyX12_within (tcX12_within   hq4) flX12_222 wm1697 (by decide) rfl rfl (Nat.le_of_ble_eq_true rfl) ?_
          refine j_if_eq 48 38 dX12_isPassing_35 (by decide) rfl (fun hc => ?_) (fun hc => ?_)
          · replace h := j_pos hc h
            refine j_iconst (v := (0 : Int32)) 49 dX12_isPassing_48 rfl (by decide) ?_
            cases h
            exact j_zret dX12_isPassing_49 rfl j_b01_0
          · replace h := j_neg hc h
            refine j_iload 40 dX12_isPassing_38 rfl 5 rfl ?_
            refine j_iconst (v := (0 : Int32)) 41 dX12_isPassing_40 rfl (by decide) ?_
            refine j_iconst (v := (2 : Int32)) 42 dX12_isPassing_41 rfl (by decide) ?_
            obtain ⟨q5, hq5, h⟩ := j_bs h
            refine j_callS (rest := []) (As := [.int l5, .int (0 : Int32), .int (2 : Int32)]) 45 dX12_isPassing_42 rfl jyX12_within (tcX12_within   hq5) flX12_222 wm1697 (by decide) rfl rfl (Nat.le_of_ble_eq_true rfl) ?_
            refine j_if_ne 50 48 dX12_isPassing_45 (by decide) rfl (fun hc => ?_) (fun hc => ?_)
            · replace h := j_neg hc h
              refine j_iload 52 dX12_isPassing_50 rfl 6 rfl ?_
              refine j_iconst (v := (0 : Int32)) 53 dX12_isPassing_52 rfl (by decide) ?_
              refine j_sipush (v := (9999 : Int32)) 56 dX12_isPassing_53 rfl (by decide) ?_
              obtain ⟨q6, hq6, h⟩ := j_bs h
              refine j_callS (rest := []) (As := [.int l6, .int (0 : Int32), .int (9999 : Int32)]) 59 dX12_isPassing_56 rfl jyX12_within (tcX12_within   hq6) flX12_222 wm1697 (by decide) rfl rfl (Nat.le_of_ble_eq_true rfl) ?_
              refine j_if_eq 94 62 dX12_isPassing_59 (by decide) rfl (fun hc => ?_) (fun hc => ?_)
              · replace h := j_pos hc h
                refine j_iconst (v := (0 : Int32)) 95 dX12_isPassing_94 rfl (by decide) ?_
                cases h
                exact j_zret dX12_isPassing_95 rfl j_b01_0
              · replace h := j_neg hc h
                refine j_iload 64 dX12_isPassing_62 rfl 7 rfl ?_
                refine j_iconst (v := (0 : Int32)) 65 dX12_isPassing_64 rfl (by decide) ?_
                refine j_sipush (v := (9999 : Int32)) 68 dX12_isPassing_65 rfl (by decide) ?_
                obtain ⟨q7, hq7, h⟩ := j_bs h
                refine j_callS (rest := []) (As := [.int l7, .int (0 : Int32), .int (9999 : Int32)]) 71 dX12_isPassing_68 rfl jyX12_within (tcX12_within   hq7) flX12_222 wm1697 (by decide) rfl rfl (Nat.le_of_ble_eq_true rfl) ?_
                refine j_if_eq 94 74 dX12_isPassing_71 (by decide) rfl (fun hc => ?_) (fun hc => ?_)
                · replace h := j_pos hc h
                  refine j_iconst (v := (0 : Int32)) 95 dX12_isPassing_94 rfl (by decide) ?_
                  cases h
                  exact j_zret dX12_isPassing_95 rfl j_b01_0
                · replace h := j_neg hc h
                  refine j_iload 76 dX12_isPassing_74 rfl 5 rfl ?_
                  refine j_iconst (v := (1 : Int32)) 77 dX12_isPassing_76 rfl (by decide) ?_
                  refine j_icmp_ne 90 80 dX12_isPassing_77 (by decide) rfl (fun hc => ?_) (fun hc => ?_)
                  · replace h := j_neg hc h
                    refine j_iconst (v := (1 : Int32)) 91 dX12_isPassing_90 rfl (by decide) ?_
                    refine j_goto 95 dX12_isPassing_91 (by decide) ?_
                    cases h
                    exact j_zret dX12_isPassing_95 rfl j_b01_1
                  · replace h := j_pos hc h
                    refine j_iload 82 dX12_isPassing_80 rfl 6 rfl ?_
                    refine j_if_ne 94 85 dX12_isPassing_82 (by decide) rfl (fun hc => ?_) (fun hc => ?_)
                    · replace h := j_neg hc h
                      refine j_iconst (v := (0 : Int32)) 95 dX12_isPassing_94 rfl (by decide) ?_
                      cases h
                      exact j_zret dX12_isPassing_95 rfl j_b01_0
                    · replace h := j_pos hc h
                      refine j_iload 87 dX12_isPassing_85 rfl 7 rfl ?_
                      refine j_if_ne 94 90 dX12_isPassing_87 (by decide) rfl (fun hc => ?_) (fun hc => ?_)
                      · replace h := j_neg hc h
                        refine j_iconst (v := (0 : Int32)) 95 dX12_isPassing_94 rfl (by decide) ?_
                        cases h
                        exact j_zret dX12_isPassing_95 rfl j_b01_0
                      · replace h := j_pos hc h
                        refine j_iconst (v := (1 : Int32)) 91 dX12_isPassing_90 rfl (by decide) ?_
                        refine j_goto 95 dX12_isPassing_91 (by decide) ?_
                        cases h
                        exact j_zret dX12_isPassing_95 rfl j_b01_1
            · replace h := j_pos hc h
              refine j_iconst (v := (0 : Int32)) 49 dX12_isPassing_48 rfl (by decide) ?_
              cases h
              exact j_zret dX12_isPassing_49 rfl j_b01_0
def fX12_pass_381 (l1 : Int32) (l2 : Int32) (l3 : Int32) (l4 : Int32) (l8 : Int32) (I : JI) : Option (Int32 × JI) :=
  (fX12_moves l1 l2 l3 l4 I).bind (fun q7 => some (l8, (j_up q7 66 52 ((q7 66 52) + (1 : Int32)))))
set_option maxHeartbeats 4000000 in
set_option maxRecDepth 100000 in
theorem kX12_pass_381 {E : JE} {r : Int32 × JI} {L : JL} {G : JG} {D : JG} {S : JS} (hL : Lay G S) : ∀ (l1 : Int32) (l2 : Int32) (l3 : Int32) (l4 : Int32) (l8 : Int32) (I : JI), fX12_pass_381 l1 l2 l3 l4 l8 I = some r → AtJ E xX12_pass (Zr E (some (.int r.1)) r.2 L G D S) ((S).length, jm_sl S) 6 381 [(0, .ref (E.1 + 66)), (1, .int l1), (2, .int l2), (3, .int l3), (4, .int l4), (8, .int l8)] [] I L G D S := by
  intro l1 l2 l3 l4 l8 I  h
  unfold fX12_pass_381 at h
  refine j_aload_n 382 dX12_pass_381 rfl rfl 0 rfl ?_
  refine j_iload_n 383 dX12_pass_382 rfl rfl 1 rfl ?_
  refine j_iload_n 384 dX12_pass_383 rfl rfl 2 rfl ?_
  refine j_iload_n 385 dX12_pass_384 rfl rfl 3 rfl ?_
  refine j_iload 387 dX12_pass_385 rfl 4 rfl ?_
  obtain ⟨q7, hq7, h⟩ := j_bs h
  refine j_callV (rest := []) (As := [.int l1, .int l2, .int l3, .int l4]) 390 dX12_pass_387 rfl jyX12_moves (tcX12_moves hL  hq7) (sh_66 hL) cl12 flX12_233 wm1712 wm41 (by decide) rfl rfl (Nat.le_of_ble_eq_true rfl) ?_
  refine j_aload_n 391 dX12_pass_390 rfl rfl 0 rfl ?_
  refine j_dup 392 dX12_pass_391 rfl rfl ?_
  refine j_getI 395 dX12_pass_392 rfl (sh_66 hL) cl12 (k := 52) (by decide) flX12_460 rfl ?_
  refine j_iconst (v := (1 : Int32)) 396 dX12_pass_395 rfl (by decide) ?_
  refine j_iadd 397 dX12_pass_396 rfl ?_
  refine j_putI 400 dX12_pass_397 rfl (sh_66 hL) cl12 (k := 52) (by decide) flX12_460 rfl rfl rfl ?_
  refine j_iload 402 dX12_pass_400 rfl 5 rfl ?_
  cases h
  exact j_iret dX12_pass_402 rfl
def fX12_pass_346 (k203 : Int32 → Int32 → Int32 → Int32 → Int32 → Int32 → JI → Option (Int32 × JI)) (l1 : Int32) (l2 : Int32) (l3 : Int32) (l4 : Int32) (l8 : Int32) (l9 : Int32) (s0 : Int32) (s1 : Int32) (I : JI) : Option (Int32 × JI) :=
  j_g (j_in s1 640) (j_g (j_in (((16 : Int32) * l8) + l9) 640) (j_g (j_in (((16 : Int32) * l8) + l9) 640) (k203 l1 l2 l3 l4 l8 (l9 + (1 : Int32)) (j_up (j_up (j_up I 111 s1.toNatClampNeg s0) 112 (((16 : Int32) * l8) + l9).toNatClampNeg (-1 : Int32)) 113 (((16 : Int32) * l8) + l9).toNatClampNeg (0 : Int32)))))
set_option maxHeartbeats 4000000 in
set_option maxRecDepth 100000 in
theorem kX12_pass_346 {E : JE} {k203 : Int32 → Int32 → Int32 → Int32 → Int32 → Int32 → JI → Option (Int32 × JI)} {r : Int32 × JI} {L : JL} {G : JG} {D : JG} {S : JS} (hL : Lay G S) (H203 : ∀ (l1 : Int32) (l2 : Int32) (l3 : Int32) (l4 : Int32) (l8 : Int32) (l9 : Int32) (I : JI), k203 l1 l2 l3 l4 l8 l9 I = some r → AtJ E xX12_pass (Zr E (some (.int r.1)) r.2 L G D S) ((S).length, jm_sl S) 6 203 [(0, .ref (E.1 + 66)), (1, .int l1), (2, .int l2), (3, .int l3), (4, .int l4), (8, .int l8), (9, .int l9)] [] I L G D S) : ∀ (l1 : Int32) (l2 : Int32) (l3 : Int32) (l4 : Int32) (l8 : Int32) (l9 : Int32) (s0 : Int32) (s1 : Int32) (I : JI), fX12_pass_346 k203 l1 l2 l3 l4 l8 l9 s0 s1 I = some r → AtJ E xX12_pass (Zr E (some (.int r.1)) r.2 L G D S) ((S).length, jm_sl S) 6 346 [(0, .ref (E.1 + 66)), (1, .int l1), (2, .int l2), (3, .int l3), (4, .int l4), (8, .int l8), (9, .int l9)] [.int s0, .int s1, .ref (E.1 + 111)] I L G D S := by
  intro l1 l2 l3 l4 l8 l9 s0 s1 I  h
  unfold fX12_pass_346 at h
  obtain ⟨hg, h⟩ := j_gs h
  refine j_iast 347 dX12_pass_346 rfl (sh_111 hL) (j_inv hg) ?_
  refine j_aload_n 348 dX12_pass_347 rfl rfl 0 rfl ?_
  refine j_getG 351 dX12_pass_348 rfl (sh_66 hL) cl12 (k := 69) (by decide) flX12_146 rfl (gs_66_69 hL) ?_
  refine j_bipush (v := (16 : Int32)) 353 dX12_pass_351 rfl (by decide) ?_
  refine j_iload 355 dX12_pass_353 rfl 5 rfl ?_
  refine j_imul 356 dX12_pass_355 rfl ?_
  refine j_iload 358 dX12_pass_356 rfl 6 rfl ?_
  refine j_iadd 359 dX12_pass_358 rfl ?_
  refine j_iconst (v := (-1 : Int32)) 360 dX12_pass_359 rfl (by decide) ?_
  obtain ⟨hg, h⟩ := j_gs h
  refine j_iast 361 dX12_pass_360 rfl (sh_112 hL) (j_inv hg) ?_
  refine j_aload_n 362 dX12_pass_361 rfl rfl 0 rfl ?_
  refine j_getG 365 dX12_pass_362 rfl (sh_66 hL) cl12 (k := 70) (by decide) flX12_149 rfl (gs_66_70 hL) ?_
  refine j_bipush (v := (16 : Int32)) 367 dX12_pass_365 rfl (by decide) ?_
  refine j_iload 369 dX12_pass_367 rfl 5 rfl ?_
  refine j_imul 370 dX12_pass_369 rfl ?_
  refine j_iload 372 dX12_pass_370 rfl 6 rfl ?_
  refine j_iadd 373 dX12_pass_372 rfl ?_
  refine j_iconst (v := (0 : Int32)) 374 dX12_pass_373 rfl (by decide) ?_
  obtain ⟨hg, h⟩ := j_gs h
  refine j_zast 375 dX12_pass_374 rfl (sh_113 hL) (j_inv hg) j_b01_0 ?_
  refine j_iinc (v := (l9 + (1 : Int32))) (lv' := [(9, .int (l9 + (1 : Int32))), (0, .ref (E.1 + 66)), (1, .int l1), (2, .int l2), (3, .int l3), (4, .int l4), (8, .int l8)]) (q := 6) 378 dX12_pass_375 rfl rfl rfl (by decide) rfl ?_
  refine j_goto 203 dX12_pass_378 (by decide) ?_
  refine j_sub [1, 2, 3, 4, 5, 6, 0] rfl ?_
  exact H203 _ _ _ _ _ _ _  h
def fX12_pass_307 (k203 : Int32 → Int32 → Int32 → Int32 → Int32 → Int32 → JI → Option (Int32 × JI)) (l1 : Int32) (l2 : Int32) (l3 : Int32) (l4 : Int32) (l8 : Int32) (l9 : Int32) (l11 : Int32) (s0 : Int32) (s1 : Int32) (I : JI) : Option (Int32 × JI) :=
  j_g (j_in s1 640) (if l11 = 0 then (fX12_pass_346 k203 l1 l2 l3 l4 l8 l9 (0 : Int32) (((16 : Int32) * l8) + l9) (j_up I 110 s1.toNatClampNeg s0)) else (j_g (j_in ((j_up I 110 s1.toNatClampNeg s0) 66 51) 36) ((fX12_weight ((j_up I 110 s1.toNatClampNeg s0) 77 ((j_up I 110 s1.toNatClampNeg s0) 66 51).toNatClampNeg) l1 l2 l9 (j_up I 110 s1.toNatClampNeg s0)).bind (fun q8 => fX12_pass_346 k203 l1 l2 l3 l4 l8 l9 q8 (((16 : Int32) * l8) + l9) (j_up I 110 s1.toNatClampNeg s0)))))
set_option maxHeartbeats 4000000 in
set_option maxRecDepth 100000 in
theorem kX12_pass_307 {E : JE} {k203 : Int32 → Int32 → Int32 → Int32 → Int32 → Int32 → JI → Option (Int32 × JI)} {r : Int32 × JI} {L : JL} {G : JG} {D : JG} {S : JS} (hL : Lay G S) (H203 : ∀ (l1 : Int32) (l2 : Int32) (l3 : Int32) (l4 : Int32) (l8 : Int32) (l9 : Int32) (I : JI), k203 l1 l2 l3 l4 l8 l9 I = some r → AtJ E xX12_pass (Zr E (some (.int r.1)) r.2 L G D S) ((S).length, jm_sl S) 6 203 [(0, .ref (E.1 + 66)), (1, .int l1), (2, .int l2), (3, .int l3), (4, .int l4), (8, .int l8), (9, .int l9)] [] I L G D S) : ∀ (l1 : Int32) (l2 : Int32) (l3 : Int32) (l4 : Int32) (l8 : Int32) (l9 : Int32) (l11 : Int32) (s0 : Int32) (s1 : Int32) (I : JI), fX12_pass_307 k203 l1 l2 l3 l4 l8 l9 l11 s0 s1 I = some r → AtJ E xX12_pass (Zr E (some (.int r.1)) r.2 L G D S) ((S).length, jm_sl S) 6 307 [(0, .ref (E.1 + 66)), (1, .int l1), (2, .int l2), (3, .int l3), (4, .int l4), (8, .int l8), (9, .int l9), (11, .int l11)] [.int s0, .int s1, .ref (E.1 + 110)] I L G D S := by
  intro l1 l2 l3 l4 l8 l9 l11 s0 s1 I  h
  unfold fX12_pass_307 at h
  obtain ⟨hg, h⟩ := j_gs h
  refine j_iast 308 dX12_pass_307 rfl (sh_110 hL) (j_inv hg) ?_
  refine j_aload_n 309 dX12_pass_308 rfl rfl 0 rfl ?_
  refine j_getG 312 dX12_pass_309 rfl (sh_66 hL) cl12 (k := 68) (by decide) flX12_143 rfl (gs_66_68 hL) ?_
  refine j_bipush (v := (16 : Int32)) 314 dX12_pass_312 rfl (by decide) ?_
  refine j_iload 316 dX12_pass_314 rfl 5 rfl ?_
  refine j_imul 317 dX12_pass_316 rfl ?_
  refine j_iload 319 dX12_pass_317 rfl 6 rfl ?_
  refine j_iadd 320 dX12_pass_319 rfl ?_
  refine j_iload 322 dX12_pass_320 rfl 7 rfl ?_
  refine j_if_eq 345 325 dX12_pass_322 (by decide) rfl (fun hc => ?_) (fun hc => ?_)
  · replace h := j_pos hc h
    refine j_iconst (v := (0 : Int32)) 346 dX12_pass_345 rfl (by decide) ?_
    refine j_sub [0, 1, 2, 3, 4, 5, 6] rfl ?_
    exact kX12_pass_346 hL   H203 _ _ _ _ _ _ _ _ _  h
  · replace h := j_neg hc h
    refine j_aload_n 326 dX12_pass_325 rfl rfl 0 rfl ?_
    refine j_aload_n 327 dX12_pass_326 rfl rfl 0 rfl ?_
    refine j_getG 330 dX12_pass_327 rfl (sh_66 hL) cl12 (k := 21) (by decide) flX12_41 rfl (gs_66_21 hL) ?_
    refine j_aload_n 331 dX12_pass_330 rfl rfl 0 rfl ?_
    refine j_getI 334 dX12_pass_331 rfl (sh_66 hL) cl12 (k := 51) (by decide) flX12_444 rfl ?_
    obtain ⟨hg, h⟩ := j_gs h
    refine j_iald 335 dX12_pass_334 rfl (sh_77 hL) (j_inv hg) ?_
    refine j_iload_n 336 dX12_pass_335 rfl rfl 1 rfl ?_
    refine j_iload_n 337 dX12_pass_336 rfl rfl 2 rfl ?_
    refine j_iload 339 dX12_pass_337 rfl 6 rfl ?_
    obtain ⟨q8, hq8, h⟩ := j_bs h
    refine j_callV (rest := [.int (((16 : Int32) * l8) + l9), .ref (E.1 + 111)]) (As := [.int ((j_up I 110 s1.toNatClampNeg s0) 77 ((j_up I 110 s1.toNatClampNeg s0) 66 51).toNatClampNeg), .int l1, .int l2, .int l9]) 342 dX12_pass_339 rfl jyX12_weight (tcX12_weight hL  hq8) (sh_66 hL) cl12 flX12_243 wm1748 wm42 (by decide) rfl rfl (Nat.le_of_ble_eq_true rfl) ?_
    refine j_goto 346 dX12_pass_342 (by decide) ?_
    refine j_sub [0, 1, 2, 3, 4, 5, 6] rfl ?_
    exact kX12_pass_346 hL   H203 _ _ _ _ _ _ _ _ _  h
def fX12_pass_276 (k203 : Int32 → Int32 → Int32 → Int32 → Int32 → Int32 → JI → Option (Int32 × JI)) (l1 : Int32) (l2 : Int32) (l3 : Int32) (l4 : Int32) (l8 : Int32) (l9 : Int32) (l11 : Int32) (s0 : Int32) (s1 : Int32) (I : JI) : Option (Int32 × JI) :=
  j_g (j_in s1 640) (if l11 = 0 then (fX12_pass_307 k203 l1 l2 l3 l4 l8 l9 l11 (0 : Int32) (((16 : Int32) * l8) + l9) (j_up I 109 s1.toNatClampNeg s0)) else (j_g (j_in ((j_up I 109 s1.toNatClampNeg s0) 66 51) 36) (fX12_pass_307 k203 l1 l2 l3 l4 l8 l9 l11 ((j_up I 109 s1.toNatClampNeg s0) 79 ((j_up I 109 s1.toNatClampNeg s0) 66 51).toNatClampNeg) (((16 : Int32) * l8) + l9) (j_up I 109 s1.toNatClampNeg s0))))
set_option maxHeartbeats 4000000 in
set_option maxRecDepth 100000 in
theorem kX12_pass_276 {E : JE} {k203 : Int32 → Int32 → Int32 → Int32 → Int32 → Int32 → JI → Option (Int32 × JI)} {r : Int32 × JI} {L : JL} {G : JG} {D : JG} {S : JS} (hL : Lay G S) (H203 : ∀ (l1 : Int32) (l2 : Int32) (l3 : Int32) (l4 : Int32) (l8 : Int32) (l9 : Int32) (I : JI), k203 l1 l2 l3 l4 l8 l9 I = some r → AtJ E xX12_pass (Zr E (some (.int r.1)) r.2 L G D S) ((S).length, jm_sl S) 6 203 [(0, .ref (E.1 + 66)), (1, .int l1), (2, .int l2), (3, .int l3), (4, .int l4), (8, .int l8), (9, .int l9)] [] I L G D S) : ∀ (l1 : Int32) (l2 : Int32) (l3 : Int32) (l4 : Int32) (l8 : Int32) (l9 : Int32) (l11 : Int32) (s0 : Int32) (s1 : Int32) (I : JI), fX12_pass_276 k203 l1 l2 l3 l4 l8 l9 l11 s0 s1 I = some r → AtJ E xX12_pass (Zr E (some (.int r.1)) r.2 L G D S) ((S).length, jm_sl S) 6 276 [(0, .ref (E.1 + 66)), (1, .int l1), (2, .int l2), (3, .int l3), (4, .int l4), (8, .int l8), (9, .int l9), (11, .int l11)] [.int s0, .int s1, .ref (E.1 + 109)] I L G D S := by
  intro l1 l2 l3 l4 l8 l9 l11 s0 s1 I  h
  unfold fX12_pass_276 at h
  obtain ⟨hg, h⟩ := j_gs h
  refine j_iast 277 dX12_pass_276 rfl (sh_109 hL) (j_inv hg) ?_
  refine j_aload_n 278 dX12_pass_277 rfl rfl 0 rfl ?_
  refine j_getG 281 dX12_pass_278 rfl (sh_66 hL) cl12 (k := 67) (by decide) flX12_140 rfl (gs_66_67 hL) ?_
  refine j_bipush (v := (16 : Int32)) 283 dX12_pass_281 rfl (by decide) ?_
  refine j_iload 285 dX12_pass_283 rfl 5 rfl ?_
  refine j_imul 286 dX12_pass_285 rfl ?_
  refine j_iload 288 dX12_pass_286 rfl 6 rfl ?_
  refine j_iadd 289 dX12_pass_288 rfl ?_
  refine j_iload 291 dX12_pass_289 rfl 7 rfl ?_
  refine j_if_eq 306 294 dX12_pass_291 (by decide) rfl (fun hc => ?_) (fun hc => ?_)
  · replace h := j_pos hc h
    refine j_iconst (v := (0 : Int32)) 307 dX12_pass_306 rfl (by decide) ?_
    exact kX12_pass_307 hL   H203 _ _ _ _ _ _ _ _ _ _  h
  · replace h := j_neg hc h
    refine j_aload_n 295 dX12_pass_294 rfl rfl 0 rfl ?_
    refine j_getG 298 dX12_pass_295 rfl (sh_66 hL) cl12 (k := 23) (by decide) flX12_47 rfl (gs_66_23 hL) ?_
    refine j_aload_n 299 dX12_pass_298 rfl rfl 0 rfl ?_
    refine j_getI 302 dX12_pass_299 rfl (sh_66 hL) cl12 (k := 51) (by decide) flX12_444 rfl ?_
    obtain ⟨hg, h⟩ := j_gs h
    refine j_iald 303 dX12_pass_302 rfl (sh_79 hL) (j_inv hg) ?_
    refine j_goto 307 dX12_pass_303 (by decide) ?_
    exact kX12_pass_307 hL   H203 _ _ _ _ _ _ _ _ _ _  h
def fX12_pass_251 (k203 : Int32 → Int32 → Int32 → Int32 → Int32 → Int32 → JI → Option (Int32 × JI)) (l1 : Int32) (l2 : Int32) (l3 : Int32) (l4 : Int32) (l8 : Int32) (l9 : Int32) (l10 : Int32) (s0 : Int32) (I : JI) : Option (Int32 × JI) :=
  if s0 = 0 then (fX12_pass_276 k203 l1 l2 l3 l4 l8 l9 s0 (-1 : Int32) (((16 : Int32) * l8) + l9) I) else (fX12_pass_276 k203 l1 l2 l3 l4 l8 l9 s0 l10 (((16 : Int32) * l8) + l9) I)
set_option maxHeartbeats 4000000 in
set_option maxRecDepth 100000 in
theorem kX12_pass_251 {E : JE} {k203 : Int32 → Int32 → Int32 → Int32 → Int32 → Int32 → JI → Option (Int32 × JI)} {r : Int32 × JI} {L : JL} {G : JG} {D : JG} {S : JS} (hL : Lay G S) (H203 : ∀ (l1 : Int32) (l2 : Int32) (l3 : Int32) (l4 : Int32) (l8 : Int32) (l9 : Int32) (I : JI), k203 l1 l2 l3 l4 l8 l9 I = some r → AtJ E xX12_pass (Zr E (some (.int r.1)) r.2 L G D S) ((S).length, jm_sl S) 6 203 [(0, .ref (E.1 + 66)), (1, .int l1), (2, .int l2), (3, .int l3), (4, .int l4), (8, .int l8), (9, .int l9)] [] I L G D S) : ∀ (l1 : Int32) (l2 : Int32) (l3 : Int32) (l4 : Int32) (l8 : Int32) (l9 : Int32) (l10 : Int32) (s0 : Int32) (I : JI), fX12_pass_251 k203 l1 l2 l3 l4 l8 l9 l10 s0 I = some r → AtJ E xX12_pass (Zr E (some (.int r.1)) r.2 L G D S) ((S).length, jm_sl S) 6 251 [(0, .ref (E.1 + 66)), (1, .int l1), (2, .int l2), (3, .int l3), (4, .int l4), (8, .int l8), (9, .int l9), (10, .int l10)] [.int s0] I L G D S := by
  intro l1 l2 l3 l4 l8 l9 l10 s0 I  h
  unfold fX12_pass_251 at h
  refine j_istore (lv' := [(11, .int s0), (0, .ref (E.1 + 66)), (1, .int l1), (2, .int l2), (3, .int l3), (4, .int l4), (8, .int l8), (9, .int l9), (10, .int l10)]) 253 dX12_pass_251 rfl (by decide) rfl ?_
  refine j_aload_n 254 dX12_pass_253 rfl rfl 1 rfl ?_
  refine j_getG 257 dX12_pass_254 rfl (sh_66 hL) cl12 (k := 66) (by decide) flX12_137 rfl (gs_66_66 hL) ?_
  refine j_bipush (v := (16 : Int32)) 259 dX12_pass_257 rfl (by decide) ?_
  refine j_iload 261 dX12_pass_259 rfl 6 rfl ?_
  refine j_imul 262 dX12_pass_261 rfl ?_
  refine j_iload 264 dX12_pass_262 rfl 7 rfl ?_
  refine j_iadd 265 dX12_pass_264 rfl ?_
  refine j_iload 267 dX12_pass_265 rfl 0 rfl ?_
  refine j_if_eq 275 270 dX12_pass_267 (by decide) rfl (fun hc => ?_) (fun hc => ?_)
  · replace h := j_pos hc h
    refine j_iconst (v := (-1 : Int32)) 276 dX12_pass_275 rfl (by decide) ?_
    refine j_sub [1, 2, 3, 4, 5, 6, 7, 0] rfl ?_
    exact kX12_pass_276 hL   H203 _ _ _ _ _ _ _ _ _ _  h
  · replace h := j_neg hc h
    refine j_iload 272 dX12_pass_270 rfl 8 rfl ?_
    refine j_goto 276 dX12_pass_272 (by decide) ?_
    refine j_sub [1, 2, 3, 4, 5, 6, 7, 0] rfl ?_
    exact kX12_pass_276 hL   H203 _ _ _ _ _ _ _ _ _ _  h
def fX12_pass_203 : Nat → Int32 → Int32 → Int32 → Int32 → Int32 → Int32 → JI → Option (Int32 × JI)
  | 0, _, _, _, _, _, _, _ => none
  | n + 1, l1, l2, l3, l4, l8, l9, I =>
    if (16 : Int32) ≤ l9 then (fX12_pass_381 l1 l2 l3 l4 l8 I) else ((fX12_rankOf l9 I).bind (fun q5 => j_g (j_in l8 40) (if (jm_b01 (q5.2 104 l8.toNatClampNeg)) = 0 then (j_g (j_in l8 40) ((fX12_comesFirst l9 q5.1 (q5.2 105 l8.toNatClampNeg) q5.2).bind (fun q6 => if q6 = 0 then (fX12_pass_251 (fX12_pass_203 n) l1 l2 l3 l4 l8 l9 q5.1 (0 : Int32) q5.2) else (fX12_pass_251 (fX12_pass_203 n) l1 l2 l3 l4 l8 l9 q5.1 (1 : Int32) q5.2)))) else (fX12_pass_251 (fX12_pass_203 n) l1 l2 l3 l4 l8 l9 q5.1 (0 : Int32) q5.2))))
set_option maxHeartbeats 4000000 in
set_option maxRecDepth 100000 in
theorem kX12_pass_203 {E : JE} {r : Int32 × JI} {L : JL} {G : JG} {D : JG} {S : JS} (hL : Lay G S) : ∀ (n : Nat) (l1 : Int32) (l2 : Int32) (l3 : Int32) (l4 : Int32) (l8 : Int32) (l9 : Int32) (I : JI), fX12_pass_203 n l1 l2 l3 l4 l8 l9 I = some r → AtJ E xX12_pass (Zr E (some (.int r.1)) r.2 L G D S) ((S).length, jm_sl S) 6 203 [(0, .ref (E.1 + 66)), (1, .int l1), (2, .int l2), (3, .int l3), (4, .int l4), (8, .int l8), (9, .int l9)] [] I L G D S := by
  intro n
  induction n with
  | zero => intro l1 l2 l3 l4 l8 l9 I  h; simp [fX12_pass_203] at h
  | succ n ih =>
    intro l1 l2 l3 l4 l8 l9 I  h
    rw [fX12_pass_203] at h
    refine j_iload 205 dX12_pass_203 rfl 6 rfl ?_
    refine j_bipush (v := (16 : Int32)) 207 dX12_pass_205 rfl (by decide) ?_
    refine j_icmp_ge 381 210 dX12_pass_207 (by decide) rfl (fun hc => ?_) (fun hc => ?_)
    · replace h := j_pos hc h
      refine j_sub [0, 1, 2, 3, 4, 5] rfl ?_
      exact kX12_pass_381 hL    _ _ _ _ _ _  h
    · replace h := j_neg hc h
      refine j_aload_n 211 dX12_pass_210 rfl rfl 0 rfl ?_
      refine j_iload 213 dX12_pass_211 rfl 6 rfl ?_
      obtain ⟨q5, hq5, h⟩ := j_bs h
      refine j_callV (rest := []) (As := [.int l9]) 216 dX12_pass_213 rfl jyX12_rankOf (tcX12_rankOf hL  hq5) (sh_66 hL) cl12 flX12_450 wm1894 wm67 (by decide) rfl rfl (Nat.le_of_ble_eq_true rfl) ?_
      refine j_istore (lv' := [(10, .int q5.1), (0, .ref (E.1 + 66)), (1, .int l1), (2, .int l2), (3, .int l3), (4, .int l4), (8, .int l8), (9, .int l9)]) 218 dX12_pass_216 rfl (by decide) rfl ?_
      refine j_aload_n 219 dX12_pass_218 rfl rfl 1 rfl ?_
      refine j_getG 222 dX12_pass_219 rfl (sh_66 hL) cl12 (k := 61) (by decide) flX12_122 rfl (gs_66_61 hL) ?_
      refine j_iload 224 dX12_pass_222 rfl 6 rfl ?_
      obtain ⟨hg, h⟩ := j_gs h
      refine j_zald 225 dX12_pass_224 rfl (sh_104 hL) (j_inv hg) ?_
      refine j_if_ne 250 228 dX12_pass_225 (by decide) rfl (fun hc => ?_) (fun hc => ?_)
      · replace h := j_neg hc h
        refine j_iconst (v := (0 : Int32)) 251 dX12_pass_250 rfl (by decide) ?_
        refine j_sub [1, 2, 3, 4, 5, 6, 7, 0] rfl ?_
        exact kX12_pass_251 hL   ih _ _ _ _ _ _ _ _ _  h
      · replace h := j_pos hc h
        refine j_aload_n 229 dX12_pass_228 rfl rfl 1 rfl ?_
        refine j_iload 231 dX12_pass_229 rfl 7 rfl ?_
        refine j_iload 233 dX12_pass_231 rfl 0 rfl ?_
        refine j_aload_n 234 dX12_pass_233 rfl rfl 1 rfl ?_
        refine j_getG 237 dX12_pass_234 rfl (sh_66 hL) cl12 (k := 62) (by decide) flX12_125 rfl (gs_66_62 hL) ?_
        refine j_iload 239 dX12_pass_237 rfl 6 rfl ?_
        obtain ⟨hg, h⟩ := j_gs h
        refine j_iald 240 dX12_pass_239 rfl (sh_105 hL) (j_inv hg) ?_
        obtain ⟨q6, hq6, h⟩ := j_bs h
        refine j_callV (rest := []) (As := [.int l9, .int q5.1, .int (q5.2 105 l8.toNatClampNeg)]) 243 dX12_pass_240 rfl jyX12_comesFirst (tcX12_comesFirst hL  hq6) (sh_66 hL) cl12 flX12_453 wm1898 wm68 (by decide) rfl rfl (Nat.le_of_ble_eq_true rfl) ?_
        refine j_if_eq 250 246 dX12_pass_243 (by decide) rfl (fun hc => ?_) (fun hc => ?_)
        · replace h := j_pos hc h
          refine j_iconst (v := (0 : Int32)) 251 dX12_pass_250 rfl (by decide) ?_
          refine j_sub [1, 2, 3, 4, 5, 6, 7, 0] rfl ?_
          exact kX12_pass_251 hL   ih _ _ _ _ _ _ _ _ _  h
        · replace h := j_neg hc h
          refine j_iconst (v := (1 : Int32)) 247 dX12_pass_246 rfl (by decide) ?_
          refine j_goto 251 dX12_pass_247 (by decide) ?_
          refine j_sub [1, 2, 3, 4, 5, 6, 7, 0] rfl ?_
          exact kX12_pass_251 hL   ih _ _ _ _ _ _ _ _ _  h
def fX12_pass (l1 : Int32) (l2 : Int32) (l3 : Int32) (l4 : Int32) (l5 : Int32) (l6 : Int32) (l7 : Int32) (I : JI) : Option (Int32 × JI) :=
  (fX12_isPassing l1 l2 l3 l4 l5 l6 l7 (j_up I 66 0 (0 : Int32))).bind (fun q1 => if q1 = 0 then (some ((-1 : Int32), (j_up I 66 0 (0 : Int32)))) else (j_g (j_in (((16 : Int32) * l1) + l2) 192) (if ((j_up I 66 0 (0 : Int32)) 68 (((16 : Int32) * l1) + l2).toNatClampNeg) < l4 then (some ((-1 : Int32), (j_up I 66 0 (0 : Int32)))) else (if ((j_up I 66 0 (0 : Int32)) 66 52) = (40 : Int32) then (some ((-1 : Int32), (j_up I 66 0 (0 : Int32)))) else ((fX12_lays l1 l2 l3 l4 l5 l6 l7 (j_up (j_up I 66 0 (0 : Int32)) 66 50 (0 : Int32))).bind (fun q2 => j_g (j_in (q2 66 52) 40) (j_g (j_in (q2 66 52) 40) (j_g (j_in (q2 66 52) 40) (j_g (j_in (q2 66 52) 40) (j_g (j_in (q2 66 52) 40) (j_g (j_in (q2 66 52) 40) (j_g (j_in (q2 66 52) 40) (j_g (j_in (q2 66 52) 40) ((fX12_isFree (j_up (j_up (j_up (j_up (j_up (j_up (j_up (j_up q2 96 (q2 66 52).toNatClampNeg l1) 97 (q2 66 52).toNatClampNeg l2) 98 (q2 66 52).toNatClampNeg l3) 99 (q2 66 52).toNatClampNeg l4) 100 (q2 66 52).toNatClampNeg l5) 101 (q2 66 52).toNatClampNeg l6) 102 (q2 66 52).toNatClampNeg l7) 103 (q2 66 52).toNatClampNeg ((j_up (j_up (j_up (j_up (j_up (j_up (j_up q2 96 (q2 66 52).toNatClampNeg l1) 97 (q2 66 52).toNatClampNeg l2) 98 (q2 66 52).toNatClampNeg l3) 99 (q2 66 52).toNatClampNeg l4) 100 (q2 66 52).toNatClampNeg l5) 101 (q2 66 52).toNatClampNeg l6) 102 (q2 66 52).toNatClampNeg l7) 66 8))).bind (fun q3 => j_g (j_in (q2 66 52) 40) (j_g (decide (jm_b01 q3.1 = q3.1)) ((fX12_rankOf l3 (j_up q3.2 104 (q2 66 52).toNatClampNeg q3.1)).bind (fun q4 => j_g (j_in (q2 66 52) 40) (j_g (j_in (q2 66 52) 40) (j_g (j_in (q2 66 52) 40) (j_g (j_in (q2 66 52) 40) (fX12_pass_203 100000 l1 l2 l3 l4 (q2 66 52) (0 : Int32) (j_up (j_up (j_up (j_up q4.2 105 (q2 66 52).toNatClampNeg q4.1) 106 (q2 66 52).toNatClampNeg (-1 : Int32)) 107 (q2 66 52).toNatClampNeg (jm_b01 ((j_up (j_up q4.2 105 (q2 66 52).toNatClampNeg q4.1) 106 (q2 66 52).toNatClampNeg (-1 : Int32)) 66 29))) 108 (q2 66 52).toNatClampNeg (jm_b01 ((j_up (j_up (j_up q4.2 105 (q2 66 52).toNatClampNeg q4.1) 106 (q2 66 52).toNatClampNeg (-1 : Int32)) 107 (q2 66 52).toNatClampNeg (jm_b01 ((j_up (j_up q4.2 105 (q2 66 52).toNatClampNeg q4.1) 106 (q2 66 52).toNatClampNeg (-1 : Int32)) 66 29))) 66 30)))))))))))))))))))))))))
set_option maxHeartbeats 4000000 in
set_option maxRecDepth 100000 in
theorem tcX12_pass {E : JE} {l1 : Int32} {l2 : Int32} {l3 : Int32} {l4 : Int32} {l5 : Int32} {l6 : Int32} {l7 : Int32} {r : Int32 × JI} {I : JI} {L : JL} {G D : JG} {S : JS} (hL : Lay G S) (h : fX12_pass l1 l2 l3 l4 l5 l6 l7 I = some r) : CallJ E xX12_pass 6 [.ref (E.1 + 66), .int l1, .int l2, .int l3, .int l4, .int l5, .int l6, .int l7] I L G D S (some (.int r.1)) r.2 L G D S := by
  unfold fX12_pass at h
  refine j_entry (by decide) (Nat.le_of_ble_eq_true rfl) ?_
  show AtJ E xX12_pass (Zr E (some (.int r.1)) r.2 L G D S) ((S).length, jm_sl S) 6 0 [(0, .ref (E.1 + 66)), (1, .int l1), (2, .int l2), (3, .int l3), (4, .int l4), (5, .int l5), (6, .int l6), (7, .int l7)] [] I L G D S
  refine j_aload_n 1 dX12_pass_0 rfl rfl 0 rfl ?_
  refine j_iconst (v := (0 : Int32)) 2 dX12_pass_1 rfl (by decide) ?_
  refine j_putI 5 dX12_pass_2 rfl (sh_66 hL) cl12 (k := 0) (by decide) flX12_218 rfl rfl rfl ?_
  refine j_aload_n 6 dX12_pass_5 rfl rfl 0 rfl ?_
  refine j_iload_n 7 dX12_pass_6 rfl rfl 1 rfl ?_
  refine j_iload_n 8 dX12_pass_7 rfl rfl 2 rfl ?_
  refine j_iload_n 9 dX12_pass_8 rfl rfl 3 rfl ?_
  refine j_iload 11 dX12_pass_9 rfl 4 rfl ?_
  refine j_iload 13 dX12_pass_11 rfl 5 rfl ?_
  refine j_iload 15 dX12_pass_13 rfl 6 rfl ?_
  refine j_iload 17 dX12_pass_15 rfl 7 rfl ?_
  obtain ⟨q1, hq1, h⟩ := j_bs h
  refine j_callV (rest := []) (As := [.int l1, .int l2, .int l3, .int l4, .int l5, .int l6, .int l7]) 20 dX12_pass_17 rfl jyX12_isPassing (tcX12_isPassing hL  hq1) (sh_66 hL) cl12 flX12_456 wm1854 wm57 (by decide) rfl rfl (Nat.le_of_ble_eq_true rfl) ?_
  refine j_if_eq 48 23 dX12_pass_20 (by decide) rfl (fun hc => ?_) (fun hc => ?_)
  · replace h := j_pos hc h
    refine j_iconst (v := (-1 : Int32)) 49 dX12_pass_48 rfl (by decide) ?_
    cases h
    exact j_iret dX12_pass_49 rfl
  · replace h := j_neg hc h
    refine j_aload_n 24 dX12_pass_23 rfl rfl 0 rfl ?_
    refine j_getG 27 dX12_pass_24 rfl (sh_66 hL) cl12 (k := 2) (by decide) flX12_13 rfl (gs_66_2 hL) ?_
    refine j_bipush (v := (16 : Int32)) 29 dX12_pass_27 rfl (by decide) ?_
    refine j_iload_n 30 dX12_pass_29 rfl rfl 1 rfl ?_
    refine j_imul 31 dX12_pass_30 rfl ?_
    refine j_iload_n 32 dX12_pass_31 rfl rfl 2 rfl ?_
    refine j_iadd 33 dX12_pass_32 rfl ?_
    obtain ⟨hg, h⟩ := j_gs h
    refine j_iald 34 dX12_pass_33 rfl (sh_68 hL) (j_inv hg) ?_
    refine j_iload 36 dX12_pass_34 rfl 4 rfl ?_
    refine j_icmp_lt 48 39 dX12_pass_36 (by decide) rfl (fun hc => ?_) (fun hc => ?_)
    · replace h := j_pos hc h
      refine j_iconst (v := (-1 : Int32)) 49 dX12_pass_48 rfl (by decide) ?_
      cases h
      exact j_iret dX12_pass_49 rfl
    · replace h := j_neg hc h
      refine j_aload_n 40 dX12_pass_39 rfl rfl 0 rfl ?_
      refine j_getI 43 dX12_pass_40 rfl (sh_66 hL) cl12 (k := 52) (by decide) flX12_460 rfl ?_
      refine j_bipush (v := (40 : Int32)) 45 dX12_pass_43 rfl (by decide) ?_
      refine j_icmp_ne 50 48 dX12_pass_45 (by decide) rfl (fun hc => ?_) (fun hc => ?_)
      · replace h := j_neg hc h
        refine j_aload_n 51 dX12_pass_50 rfl rfl 0 rfl ?_
        refine j_iconst (v := (0 : Int32)) 52 dX12_pass_51 rfl (by decide) ?_
        refine j_putI 55 dX12_pass_52 rfl (sh_66 hL) cl12 (k := 50) (by decide) flX12_434 rfl rfl rfl ?_
        refine j_aload_n 56 dX12_pass_55 rfl rfl 0 rfl ?_
        refine j_iload_n 57 dX12_pass_56 rfl rfl 1 rfl ?_
        refine j_iload_n 58 dX12_pass_57 rfl rfl 2 rfl ?_
        refine j_iload_n 59 dX12_pass_58 rfl rfl 3 rfl ?_
        refine j_iload 61 dX12_pass_59 rfl 4 rfl ?_
        refine j_iload 63 dX12_pass_61 rfl 5 rfl ?_
        refine j_iload 65 dX12_pass_63 rfl 6 rfl ?_
        refine j_iload 67 dX12_pass_65 rfl 7 rfl ?_
        obtain ⟨q2, hq2, h⟩ := j_bs h
        refine j_callV (rest := []) (As := [.int l1, .int l2, .int l3, .int l4, .int l5, .int l6, .int l7]) 70 dX12_pass_67 rfl jyX12_lays (tcX12_lays hL  hq2) (sh_66 hL) cl12 flX12_463 wm1858 wm58 (by decide) rfl rfl (Nat.le_of_ble_eq_true rfl) ?_
        refine j_aload_n 71 dX12_pass_70 rfl rfl 0 rfl ?_
        refine j_getI 74 dX12_pass_71 rfl (sh_66 hL) cl12 (k := 52) (by decide) flX12_460 rfl ?_
        refine j_istore (lv' := [(8, .int (q2 66 52)), (0, .ref (E.1 + 66)), (1, .int l1), (2, .int l2), (3, .int l3), (4, .int l4), (5, .int l5), (6, .int l6), (7, .int l7)]) 76 dX12_pass_74 rfl (by decide) rfl ?_
        refine j_aload_n 77 dX12_pass_76 rfl rfl 1 rfl ?_
        refine j_getG 80 dX12_pass_77 rfl (sh_66 hL) cl12 (k := 53) (by decide) flX12_98 rfl (gs_66_53 hL) ?_
        refine j_iload 82 dX12_pass_80 rfl 0 rfl ?_
        refine j_iload_n 83 dX12_pass_82 rfl rfl 2 rfl ?_
        obtain ⟨hg, h⟩ := j_gs h
        refine j_iast 84 dX12_pass_83 rfl (sh_96 hL) (j_inv hg) ?_
        refine j_aload_n 85 dX12_pass_84 rfl rfl 1 rfl ?_
        refine j_getG 88 dX12_pass_85 rfl (sh_66 hL) cl12 (k := 54) (by decide) flX12_101 rfl (gs_66_54 hL) ?_
        refine j_iload 90 dX12_pass_88 rfl 0 rfl ?_
        refine j_iload_n 91 dX12_pass_90 rfl rfl 3 rfl ?_
        obtain ⟨hg, h⟩ := j_gs h
        refine j_iast 92 dX12_pass_91 rfl (sh_97 hL) (j_inv hg) ?_
        refine j_aload_n 93 dX12_pass_92 rfl rfl 1 rfl ?_
        refine j_getG 96 dX12_pass_93 rfl (sh_66 hL) cl12 (k := 55) (by decide) flX12_104 rfl (gs_66_55 hL) ?_
        refine j_iload 98 dX12_pass_96 rfl 0 rfl ?_
        refine j_iload_n 99 dX12_pass_98 rfl rfl 4 rfl ?_
        obtain ⟨hg, h⟩ := j_gs h
        refine j_iast 100 dX12_pass_99 rfl (sh_98 hL) (j_inv hg) ?_
        refine j_aload_n 101 dX12_pass_100 rfl rfl 1 rfl ?_
        refine j_getG 104 dX12_pass_101 rfl (sh_66 hL) cl12 (k := 56) (by decide) flX12_107 rfl (gs_66_56 hL) ?_
        refine j_iload 106 dX12_pass_104 rfl 0 rfl ?_
        refine j_iload 108 dX12_pass_106 rfl 5 rfl ?_
        obtain ⟨hg, h⟩ := j_gs h
        refine j_iast 109 dX12_pass_108 rfl (sh_99 hL) (j_inv hg) ?_
        refine j_aload_n 110 dX12_pass_109 rfl rfl 1 rfl ?_
        refine j_getG 113 dX12_pass_110 rfl (sh_66 hL) cl12 (k := 57) (by decide) flX12_110 rfl (gs_66_57 hL) ?_
        refine j_iload 115 dX12_pass_113 rfl 0 rfl ?_
        refine j_iload 117 dX12_pass_115 rfl 6 rfl ?_
        obtain ⟨hg, h⟩ := j_gs h
        refine j_iast 118 dX12_pass_117 rfl (sh_100 hL) (j_inv hg) ?_
        refine j_aload_n 119 dX12_pass_118 rfl rfl 1 rfl ?_
        refine j_getG 122 dX12_pass_119 rfl (sh_66 hL) cl12 (k := 58) (by decide) flX12_113 rfl (gs_66_58 hL) ?_
        refine j_iload 124 dX12_pass_122 rfl 0 rfl ?_
        refine j_iload 126 dX12_pass_124 rfl 7 rfl ?_
        obtain ⟨hg, h⟩ := j_gs h
        refine j_iast 127 dX12_pass_126 rfl (sh_101 hL) (j_inv hg) ?_
        refine j_aload_n 128 dX12_pass_127 rfl rfl 1 rfl ?_
        refine j_getG 131 dX12_pass_128 rfl (sh_66 hL) cl12 (k := 59) (by decide) flX12_116 rfl (gs_66_59 hL) ?_
        refine j_iload 133 dX12_pass_131 rfl 0 rfl ?_
        refine j_iload 135 dX12_pass_133 rfl 8 rfl ?_
        obtain ⟨hg, h⟩ := j_gs h
        refine j_iast 136 dX12_pass_135 rfl (sh_102 hL) (j_inv hg) ?_
        refine j_aload_n 137 dX12_pass_136 rfl rfl 1 rfl ?_
        refine j_getG 140 dX12_pass_137 rfl (sh_66 hL) cl12 (k := 60) (by decide) flX12_119 rfl (gs_66_60 hL) ?_
        refine j_iload 142 dX12_pass_140 rfl 0 rfl ?_
        refine j_aload_n 143 dX12_pass_142 rfl rfl 1 rfl ?_
        refine j_getI 146 dX12_pass_143 rfl (sh_66 hL) cl12 (k := 8) (by decide) flX12_237 rfl ?_
        obtain ⟨hg, h⟩ := j_gs h
        refine j_iast 147 dX12_pass_146 rfl (sh_103 hL) (j_inv hg) ?_
        refine j_aload_n 148 dX12_pass_147 rfl rfl 1 rfl ?_
        refine j_getG 151 dX12_pass_148 rfl (sh_66 hL) cl12 (k := 61) (by decide) flX12_122 rfl (gs_66_61 hL) ?_
        refine j_iload 153 dX12_pass_151 rfl 0 rfl ?_
        refine j_aload_n 154 dX12_pass_153 rfl rfl 1 rfl ?_
        obtain ⟨q3, hq3, h⟩ := j_bs h
        refine j_callV (rest := [.int (q2 66 52), .ref (E.1 + 104)]) (As := []) 157 dX12_pass_154 rfl jyX12_isFree (tcX12_isFree hL  hq3) (sh_66 hL) cl12 flX12_447 wm1866 wm60 (by decide) rfl rfl (Nat.le_of_ble_eq_true rfl) ?_
        obtain ⟨hg, h⟩ := j_gs h
        obtain ⟨hz, h⟩ := j_gs h
        refine j_zast 158 dX12_pass_157 rfl (sh_104 hL) (j_inv hg) (of_decide_eq_true hz) ?_
        refine j_aload_n 159 dX12_pass_158 rfl rfl 1 rfl ?_
        refine j_getG 162 dX12_pass_159 rfl (sh_66 hL) cl12 (k := 62) (by decide) flX12_125 rfl (gs_66_62 hL) ?_
        refine j_iload 164 dX12_pass_162 rfl 0 rfl ?_
        refine j_aload_n 165 dX12_pass_164 rfl rfl 1 rfl ?_
        refine j_iload_n 166 dX12_pass_165 rfl rfl 4 rfl ?_
        obtain ⟨q4, hq4, h⟩ := j_bs h
        refine j_callV (rest := [.int (q2 66 52), .ref (E.1 + 105)]) (As := [.int l3]) 169 dX12_pass_166 rfl jyX12_rankOf (tcX12_rankOf hL  hq4) (sh_66 hL) cl12 flX12_450 wm1894 wm67 (by decide) rfl rfl (Nat.le_of_ble_eq_true rfl) ?_
        obtain ⟨hg, h⟩ := j_gs h
        refine j_iast 170 dX12_pass_169 rfl (sh_105 hL) (j_inv hg) ?_
        refine j_aload_n 171 dX12_pass_170 rfl rfl 1 rfl ?_
        refine j_getG 174 dX12_pass_171 rfl (sh_66 hL) cl12 (k := 63) (by decide) flX12_128 rfl (gs_66_63 hL) ?_
        refine j_iload 176 dX12_pass_174 rfl 0 rfl ?_
        refine j_iconst (v := (-1 : Int32)) 177 dX12_pass_176 rfl (by decide) ?_
        obtain ⟨hg, h⟩ := j_gs h
        refine j_iast 178 dX12_pass_177 rfl (sh_106 hL) (j_inv hg) ?_
        refine j_aload_n 179 dX12_pass_178 rfl rfl 1 rfl ?_
        refine j_getG 182 dX12_pass_179 rfl (sh_66 hL) cl12 (k := 64) (by decide) flX12_131 rfl (gs_66_64 hL) ?_
        refine j_iload 184 dX12_pass_182 rfl 0 rfl ?_
        refine j_aload_n 185 dX12_pass_184 rfl rfl 1 rfl ?_
        refine j_getZ 188 dX12_pass_185 rfl (sh_66 hL) cl12 (k := 29) (by decide) flX12_401 rfl ?_
        obtain ⟨hg, h⟩ := j_gs h
        refine j_zast 189 dX12_pass_188 rfl (sh_107 hL) (j_inv hg) (jm_b01_idem _) ?_
        refine j_aload_n 190 dX12_pass_189 rfl rfl 1 rfl ?_
        refine j_getG 193 dX12_pass_190 rfl (sh_66 hL) cl12 (k := 65) (by decide) flX12_134 rfl (gs_66_65 hL) ?_
        refine j_iload 195 dX12_pass_193 rfl 0 rfl ?_
        refine j_aload_n 196 dX12_pass_195 rfl rfl 1 rfl ?_
        refine j_getZ 199 dX12_pass_196 rfl (sh_66 hL) cl12 (k := 30) (by decide) flX12_404 rfl ?_
        obtain ⟨hg, h⟩ := j_gs h
        refine j_zast 200 dX12_pass_199 rfl (sh_108 hL) (j_inv hg) (jm_b01_idem _) ?_
        refine j_iconst (v := (0 : Int32)) 201 dX12_pass_200 rfl (by decide) ?_
        refine j_istore (lv' := [(9, .int (0 : Int32)), (8, .int (q2 66 52)), (0, .ref (E.1 + 66)), (1, .int l1), (2, .int l2), (3, .int l3), (4, .int l4), (5, .int l5), (6, .int l6), (7, .int l7)]) 203 dX12_pass_201 rfl (by decide) rfl ?_
        refine j_sub [2, 3, 4, 5, 6, 1, 0] rfl ?_
        exact kX12_pass_203 hL    100000 _ _ _ _ _ _ _  h
      · replace h := j_pos hc h
        refine j_iconst (v := (-1 : Int32)) 49 dX12_pass_48 rfl (by decide) ?_
        cases h
        exact j_iret dX12_pass_49 rfl
def fX12_would (l1 : Int32) (l2 : Int32) (l3 : Int32) (l4 : Int32) (l5 : Int32) (l6 : Int32) (l7 : Int32) (I : JI) : Option (Int32 × JI) :=
  (fX12_isPassing l1 l2 l3 l4 l5 l6 l7 (j_up I 66 0 (0 : Int32))).bind (fun q1 => if q1 = 0 then (some ((-1 : Int32), (j_up I 66 0 (0 : Int32)))) else (j_g (j_in (((16 : Int32) * l1) + l2) 192) (if l4 ≤ ((j_up I 66 0 (0 : Int32)) 68 (((16 : Int32) * l1) + l2).toNatClampNeg) then ((fX12_lays l1 l2 l3 l4 l5 l6 l7 (j_up (j_up I 66 0 (0 : Int32)) 66 50 (0 : Int32))).bind (fun q2 => (fX12_comers q2).bind (fun q3 => some (q3.1, q3.2)))) else (some ((-1 : Int32), (j_up I 66 0 (0 : Int32)))))))
set_option maxHeartbeats 4000000 in
set_option maxRecDepth 100000 in
theorem tcX12_would {E : JE} {l1 : Int32} {l2 : Int32} {l3 : Int32} {l4 : Int32} {l5 : Int32} {l6 : Int32} {l7 : Int32} {r : Int32 × JI} {I : JI} {L : JL} {G D : JG} {S : JS} (hL : Lay G S) (h : fX12_would l1 l2 l3 l4 l5 l6 l7 I = some r) : CallJ E xX12_would 7 [.ref (E.1 + 66), .int l1, .int l2, .int l3, .int l4, .int l5, .int l6, .int l7] I L G D S (some (.int r.1)) r.2 L G D S := by
  unfold fX12_would at h
  refine j_entry (by decide) (Nat.le_of_ble_eq_true rfl) ?_
  show AtJ E xX12_would (Zr E (some (.int r.1)) r.2 L G D S) ((S).length, jm_sl S) 7 0 [(0, .ref (E.1 + 66)), (1, .int l1), (2, .int l2), (3, .int l3), (4, .int l4), (5, .int l5), (6, .int l6), (7, .int l7)] [] I L G D S
  refine j_aload_n 1 dX12_would_0 rfl rfl 0 rfl ?_
  refine j_iconst (v := (0 : Int32)) 2 dX12_would_1 rfl (by decide) ?_
  refine j_putI 5 dX12_would_2 rfl (sh_66 hL) cl12 (k := 0) (by decide) flX12_218 rfl rfl rfl ?_
  refine j_aload_n 6 dX12_would_5 rfl rfl 0 rfl ?_
  refine j_iload_n 7 dX12_would_6 rfl rfl 1 rfl ?_
  refine j_iload_n 8 dX12_would_7 rfl rfl 2 rfl ?_
  refine j_iload_n 9 dX12_would_8 rfl rfl 3 rfl ?_
  refine j_iload 11 dX12_would_9 rfl 4 rfl ?_
  refine j_iload 13 dX12_would_11 rfl 5 rfl ?_
  refine j_iload 15 dX12_would_13 rfl 6 rfl ?_
  refine j_iload 17 dX12_would_15 rfl 7 rfl ?_
  obtain ⟨q1, hq1, h⟩ := j_bs h
  refine j_callV (rest := []) (As := [.int l1, .int l2, .int l3, .int l4, .int l5, .int l6, .int l7]) 20 dX12_would_17 rfl jyX12_isPassing (tcX12_isPassing hL  hq1) (sh_66 hL) cl12 flX12_456 wm1854 wm57 (by decide) rfl rfl (Nat.le_of_ble_eq_true rfl) ?_
  refine j_if_eq 39 23 dX12_would_20 (by decide) rfl (fun hc => ?_) (fun hc => ?_)
  · replace h := j_pos hc h
    refine j_iconst (v := (-1 : Int32)) 40 dX12_would_39 rfl (by decide) ?_
    cases h
    exact j_iret dX12_would_40 rfl
  · replace h := j_neg hc h
    refine j_aload_n 24 dX12_would_23 rfl rfl 0 rfl ?_
    refine j_getG 27 dX12_would_24 rfl (sh_66 hL) cl12 (k := 2) (by decide) flX12_13 rfl (gs_66_2 hL) ?_
    refine j_bipush (v := (16 : Int32)) 29 dX12_would_27 rfl (by decide) ?_
    refine j_iload_n 30 dX12_would_29 rfl rfl 1 rfl ?_
    refine j_imul 31 dX12_would_30 rfl ?_
    refine j_iload_n 32 dX12_would_31 rfl rfl 2 rfl ?_
    refine j_iadd 33 dX12_would_32 rfl ?_
    obtain ⟨hg, h⟩ := j_gs h
    refine j_iald 34 dX12_would_33 rfl (sh_68 hL) (j_inv hg) ?_
    refine j_iload 36 dX12_would_34 rfl 4 rfl ?_
    refine j_icmp_ge 41 39 dX12_would_36 (by decide) rfl (fun hc => ?_) (fun hc => ?_)
    · replace h := j_pos hc h
      refine j_aload_n 42 dX12_would_41 rfl rfl 0 rfl ?_
      refine j_iconst (v := (0 : Int32)) 43 dX12_would_42 rfl (by decide) ?_
      refine j_putI 46 dX12_would_43 rfl (sh_66 hL) cl12 (k := 50) (by decide) flX12_434 rfl rfl rfl ?_
      refine j_aload_n 47 dX12_would_46 rfl rfl 0 rfl ?_
      refine j_iload_n 48 dX12_would_47 rfl rfl 1 rfl ?_
      refine j_iload_n 49 dX12_would_48 rfl rfl 2 rfl ?_
      refine j_iload_n 50 dX12_would_49 rfl rfl 3 rfl ?_
      refine j_iload 52 dX12_would_50 rfl 4 rfl ?_
      refine j_iload 54 dX12_would_52 rfl 5 rfl ?_
      refine j_iload 56 dX12_would_54 rfl 6 rfl ?_
      refine j_iload 58 dX12_would_56 rfl 7 rfl ?_
      obtain ⟨q2, hq2, h⟩ := j_bs h
      refine j_callV (rest := []) (As := [.int l1, .int l2, .int l3, .int l4, .int l5, .int l6, .int l7]) 61 dX12_would_58 rfl jyX12_lays (tcX12_lays hL  hq2) (sh_66 hL) cl12 flX12_463 wm1858 wm58 (by decide) rfl rfl (Nat.le_of_ble_eq_true rfl) ?_
      refine j_aload_n 62 dX12_would_61 rfl rfl 0 rfl ?_
      obtain ⟨q3, hq3, h⟩ := j_bs h
      refine j_callV (rest := []) (As := []) 65 dX12_would_62 rfl jyX12_comers (tcX12_comers hL  hq3) (sh_66 hL) cl12 flX12_467 wm1906 wm69 (by decide) rfl rfl (Nat.le_of_ble_eq_true rfl) ?_
      cases h
      exact j_iret dX12_would_65 rfl
    · replace h := j_neg hc h
      refine j_iconst (v := (-1 : Int32)) 40 dX12_would_39 rfl (by decide) ?_
      cases h
      exact j_iret dX12_would_40 rfl
def fX12_isPassed (l1 : Int32) (I : JI) : Option (Int32) :=
  if l1 < 0 then (some ((0 : Int32))) else (if (I 66 52) ≤ l1 then (some ((0 : Int32))) else (some ((1 : Int32))))
set_option maxHeartbeats 4000000 in
set_option maxRecDepth 100000 in
theorem tcX12_isPassed {E : JE} {l1 : Int32} {r : Int32} {I : JI} {L : JL} {G D : JG} {S : JS} (hL : Lay G S) (h : fX12_isPassed l1 I = some r) : CallJ E xX12_isPassed 1 [.ref (E.1 + 66), .int l1] I L G D S (some (.int r)) I L G D S := by
  unfold fX12_isPassed at h
  refine j_entry (by decide) (Nat.le_of_ble_eq_true rfl) ?_
  show AtJ E xX12_isPassed (Zr E (some (.int r)) I L G D S) ((S).length, jm_sl S) 1 0 [(0, .ref (E.1 + 66)), (1, .int l1)] [] I L G D S
  refine j_iload_n 1 dX12_isPassed_0 rfl rfl 1 rfl ?_
  refine j_if_lt 16 4 dX12_isPassed_1 (by decide) rfl (fun hc => ?_) (fun hc => ?_)
  · replace h := j_pos hc h
    refine j_iconst (v := (0 : Int32)) 17 dX12_isPassed_16 rfl (by decide) ?_
    cases h
    exact j_zret dX12_isPassed_17 rfl j_b01_0
  · replace h := j_neg hc h
    refine j_iload_n 5 dX12_isPassed_4 rfl rfl 1 rfl ?_
    refine j_aload_n 6 dX12_isPassed_5 rfl rfl 0 rfl ?_
    refine j_getI 9 dX12_isPassed_6 rfl (sh_66 hL) cl12 (k := 52) (by decide) flX12_460 rfl ?_
    refine j_icmp_ge 16 12 dX12_isPassed_9 (by decide) rfl (fun hc => ?_) (fun hc => ?_)
    · replace h := j_pos hc h
      refine j_iconst (v := (0 : Int32)) 17 dX12_isPassed_16 rfl (by decide) ?_
      cases h
      exact j_zret dX12_isPassed_17 rfl j_b01_0
    · replace h := j_neg hc h
      refine j_iconst (v := (1 : Int32)) 13 dX12_isPassed_12 rfl (by decide) ?_
      refine j_goto 17 dX12_isPassed_13 (by decide) ?_
      cases h
      exact j_zret dX12_isPassed_17 rfl j_b01_1
def fX12_askedPrice (l1 : Int32) (I : JI) : Option (Int32) :=
  j_g (j_in l1 40) (if (jm_b01 (I 107 l1.toNatClampNeg)) = 0 then (j_g (j_in l1 40) (some ((I 101 l1.toNatClampNeg)))) else (j_g (j_in l1 40) (some ((I 102 l1.toNatClampNeg)))))
set_option maxHeartbeats 4000000 in
set_option maxRecDepth 100000 in
theorem tcX12_askedPrice {E : JE} {l1 : Int32} {r : Int32} {I : JI} {L : JL} {G D : JG} {S : JS} (hL : Lay G S) (h : fX12_askedPrice l1 I = some r) : CallJ E xX12_askedPrice 1 [.ref (E.1 + 66), .int l1] I L G D S (some (.int r)) I L G D S := by
  unfold fX12_askedPrice at h
  refine j_entry (by decide) (Nat.le_of_ble_eq_true rfl) ?_
  show AtJ E xX12_askedPrice (Zr E (some (.int r)) I L G D S) ((S).length, jm_sl S) 1 0 [(0, .ref (E.1 + 66)), (1, .int l1)] [] I L G D S
  refine j_aload_n 1 dX12_askedPrice_0 rfl rfl 0 rfl ?_
  refine j_getG 4 dX12_askedPrice_1 rfl (sh_66 hL) cl12 (k := 64) (by decide) flX12_131 rfl (gs_66_64 hL) ?_
  refine j_iload_n 5 dX12_askedPrice_4 rfl rfl 1 rfl ?_
  obtain ⟨hg, h⟩ := j_gs h
  refine j_zald 6 dX12_askedPrice_5 rfl (sh_107 hL) (j_inv hg) ?_
  refine j_if_eq 18 9 dX12_askedPrice_6 (by decide) rfl (fun hc => ?_) (fun hc => ?_)
  · replace h := j_pos hc h
    refine j_aload_n 19 dX12_askedPrice_18 rfl rfl 0 rfl ?_
    refine j_getG 22 dX12_askedPrice_19 rfl (sh_66 hL) cl12 (k := 58) (by decide) flX12_113 rfl (gs_66_58 hL) ?_
    refine j_iload_n 23 dX12_askedPrice_22 rfl rfl 1 rfl ?_
    obtain ⟨hg, h⟩ := j_gs h
    refine j_iald 24 dX12_askedPrice_23 rfl (sh_101 hL) (j_inv hg) ?_
    cases h
    exact j_iret dX12_askedPrice_24 rfl
  · replace h := j_neg hc h
    refine j_aload_n 10 dX12_askedPrice_9 rfl rfl 0 rfl ?_
    refine j_getG 13 dX12_askedPrice_10 rfl (sh_66 hL) cl12 (k := 59) (by decide) flX12_116 rfl (gs_66_59 hL) ?_
    refine j_iload_n 14 dX12_askedPrice_13 rfl rfl 1 rfl ?_
    obtain ⟨hg, h⟩ := j_gs h
    refine j_iald 15 dX12_askedPrice_14 rfl (sh_102 hL) (j_inv hg) ?_
    refine j_goto 24 dX12_askedPrice_15 (by decide) ?_
    cases h
    exact j_iret dX12_askedPrice_24 rfl
def fX12_look_24 (l1 : Int32) (l2 : Int32) (s0 : Int32) (I : JI) : Option (Int32 × JI) :=
  if ((j_up I 66 0 s0) 66 0) = (1 : Int32) then (some ((0 : Int32), (j_up I 66 0 s0))) else (if (4 : Int32) ≤ l2 then (if (8 : Int32) ≤ l2 then (if l2 = (8 : Int32) then (j_g (j_in l1 40) (if (jm_b01 ((j_up I 66 0 s0) 104 l1.toNatClampNeg)) = 0 then (some ((0 : Int32), (j_up I 66 0 s0))) else (some ((1 : Int32), (j_up I 66 0 s0))))) else (if l2 = (9 : Int32) then (j_g (j_in l1 40) (some (((j_up I 66 0 s0) 105 l1.toNatClampNeg), (j_up I 66 0 s0)))) else (if l2 = (10 : Int32) then (j_g (j_in l1 40) (some (((j_up I 66 0 s0) 106 l1.toNatClampNeg), (j_up I 66 0 s0)))) else ((fX12_askedPrice l1 (j_up I 66 0 s0)).bind (fun q3 => some (q3, (j_up I 66 0 s0))))))) else (if l2 = (4 : Int32) then (j_g (j_in l1 40) (some (((j_up I 66 0 s0) 100 l1.toNatClampNeg), (j_up I 66 0 s0)))) else (if l2 = (5 : Int32) then (j_g (j_in l1 40) (some (((j_up I 66 0 s0) 101 l1.toNatClampNeg), (j_up I 66 0 s0)))) else (if l2 = (6 : Int32) then (j_g (j_in l1 40) (some (((j_up I 66 0 s0) 102 l1.toNatClampNeg), (j_up I 66 0 s0)))) else (j_g (j_in l1 40) (some (((j_up I 66 0 s0) 103 l1.toNatClampNeg), (j_up I 66 0 s0)))))))) else (if l2 = 0 then (j_g (j_in l1 40) (some (((j_up I 66 0 s0) 96 l1.toNatClampNeg), (j_up I 66 0 s0)))) else (if l2 = (1 : Int32) then (j_g (j_in l1 40) (some (((j_up I 66 0 s0) 97 l1.toNatClampNeg), (j_up I 66 0 s0)))) else (if l2 = (2 : Int32) then (j_g (j_in l1 40) (some (((j_up I 66 0 s0) 98 l1.toNatClampNeg), (j_up I 66 0 s0)))) else (j_g (j_in l1 40) (some (((j_up I 66 0 s0) 99 l1.toNatClampNeg), (j_up I 66 0 s0))))))))
set_option maxHeartbeats 4000000 in
set_option maxRecDepth 100000 in
theorem kX12_look_24 {E : JE} {r : Int32 × JI} {L : JL} {G : JG} {D : JG} {S : JS} (hL : Lay G S) : ∀ (l1 : Int32) (l2 : Int32) (s0 : Int32) (I : JI), fX12_look_24 l1 l2 s0 I = some r → AtJ E xX12_look (Zr E (some (.int r.1)) r.2 L G D S) ((S).length, jm_sl S) 2 24 [(0, .ref (E.1 + 66)), (1, .int l1), (2, .int l2)] [.int s0, .ref (E.1 + 66)] I L G D S := by
  intro l1 l2 s0 I  h
  unfold fX12_look_24 at h
  refine j_putI 27 dX12_look_24 rfl (sh_66 hL) cl12 (k := 0) (by decide) flX12_218 rfl rfl rfl ?_
  refine j_aload_n 28 dX12_look_27 rfl rfl 0 rfl ?_
  refine j_getI 31 dX12_look_28 rfl (sh_66 hL) cl12 (k := 0) (by decide) flX12_218 rfl ?_
  refine j_iconst (v := (1 : Int32)) 32 dX12_look_31 rfl (by decide) ?_
  refine j_icmp_ne 37 35 dX12_look_32 (by decide) rfl (fun hc => ?_) (fun hc => ?_)
  · replace h := j_neg hc h
    refine j_iload_n 38 dX12_look_37 rfl rfl 2 rfl ?_
    refine j_iconst (v := (4 : Int32)) 39 dX12_look_38 rfl (by decide) ?_
    refine j_icmp_ge 90 42 dX12_look_39 (by decide) rfl (fun hc => ?_) (fun hc => ?_)
    · replace h := j_pos hc h
      refine j_iload_n 91 dX12_look_90 rfl rfl 2 rfl ?_
      refine j_bipush (v := (8 : Int32)) 93 dX12_look_91 rfl (by decide) ?_
      refine j_icmp_ge 146 96 dX12_look_93 (by decide) rfl (fun hc => ?_) (fun hc => ?_)
      · replace h := j_pos hc h
        refine j_iload_n 147 dX12_look_146 rfl rfl 2 rfl ?_
        refine j_bipush (v := (8 : Int32)) 149 dX12_look_147 rfl (by decide) ?_
        refine j_icmp_ne 169 152 dX12_look_149 (by decide) rfl (fun hc => ?_) (fun hc => ?_)
        · replace h := j_neg hc h
          refine j_iload_n 170 dX12_look_169 rfl rfl 2 rfl ?_
          refine j_bipush (v := (9 : Int32)) 172 dX12_look_170 rfl (by decide) ?_
          refine j_icmp_ne 184 175 dX12_look_172 (by decide) rfl (fun hc => ?_) (fun hc => ?_)
          · replace h := j_neg hc h
            refine j_iload_n 185 dX12_look_184 rfl rfl 2 rfl ?_
            refine j_bipush (v := (10 : Int32)) 187 dX12_look_185 rfl (by decide) ?_
            refine j_icmp_ne 199 190 dX12_look_187 (by decide) rfl (fun hc => ?_) (fun hc => ?_)
            · replace h := j_neg hc h
              refine j_aload_n 200 dX12_look_199 rfl rfl 0 rfl ?_
              refine j_iload_n 201 dX12_look_200 rfl rfl 1 rfl ?_
              obtain ⟨q3, hq3, h⟩ := j_bs h
              refine j_callV (rest := []) (As := [.int l1]) 204 dX12_look_201 rfl jyX12_askedPrice (tcX12_askedPrice hL  hq3) (sh_66 hL) cl12 flX12_473 wm1918 wm71 (by decide) rfl rfl (Nat.le_of_ble_eq_true rfl) ?_
              cases h
              exact j_iret dX12_look_204 rfl
            · replace h := j_pos hc h
              refine j_aload_n 191 dX12_look_190 rfl rfl 0 rfl ?_
              refine j_getG 194 dX12_look_191 rfl (sh_66 hL) cl12 (k := 63) (by decide) flX12_128 rfl (gs_66_63 hL) ?_
              refine j_iload_n 195 dX12_look_194 rfl rfl 1 rfl ?_
              obtain ⟨hg, h⟩ := j_gs h
              refine j_iald 196 dX12_look_195 rfl (sh_106 hL) (j_inv hg) ?_
              refine j_goto 204 dX12_look_196 (by decide) ?_
              cases h
              exact j_iret dX12_look_204 rfl
          · replace h := j_pos hc h
            refine j_aload_n 176 dX12_look_175 rfl rfl 0 rfl ?_
            refine j_getG 179 dX12_look_176 rfl (sh_66 hL) cl12 (k := 62) (by decide) flX12_125 rfl (gs_66_62 hL) ?_
            refine j_iload_n 180 dX12_look_179 rfl rfl 1 rfl ?_
            obtain ⟨hg, h⟩ := j_gs h
            refine j_iald 181 dX12_look_180 rfl (sh_105 hL) (j_inv hg) ?_
            refine j_goto 204 dX12_look_181 (by decide) ?_
            cases h
            exact j_iret dX12_look_204 rfl
        · replace h := j_pos hc h
          refine j_aload_n 153 dX12_look_152 rfl rfl 0 rfl ?_
          refine j_getG 156 dX12_look_153 rfl (sh_66 hL) cl12 (k := 61) (by decide) flX12_122 rfl (gs_66_61 hL) ?_
          refine j_iload_n 157 dX12_look_156 rfl rfl 1 rfl ?_
          obtain ⟨hg, h⟩ := j_gs h
          refine j_zald 158 dX12_look_157 rfl (sh_104 hL) (j_inv hg) ?_
          refine j_if_eq 165 161 dX12_look_158 (by decide) rfl (fun hc => ?_) (fun hc => ?_)
          · replace h := j_pos hc h
            refine j_iconst (v := (0 : Int32)) 166 dX12_look_165 rfl (by decide) ?_
            refine j_goto 204 dX12_look_166 (by decide) ?_
            cases h
            exact j_iret dX12_look_204 rfl
          · replace h := j_neg hc h
            refine j_iconst (v := (1 : Int32)) 162 dX12_look_161 rfl (by decide) ?_
            refine j_goto 204 dX12_look_162 (by decide) ?_
            cases h
            exact j_iret dX12_look_204 rfl
      · replace h := j_neg hc h
        refine j_iload_n 97 dX12_look_96 rfl rfl 2 rfl ?_
        refine j_iconst (v := (4 : Int32)) 98 dX12_look_97 rfl (by decide) ?_
        refine j_icmp_ne 110 101 dX12_look_98 (by decide) rfl (fun hc => ?_) (fun hc => ?_)
        · replace h := j_neg hc h
          refine j_iload_n 111 dX12_look_110 rfl rfl 2 rfl ?_
          refine j_iconst (v := (5 : Int32)) 112 dX12_look_111 rfl (by decide) ?_
          refine j_icmp_ne 124 115 dX12_look_112 (by decide) rfl (fun hc => ?_) (fun hc => ?_)
          · replace h := j_neg hc h
            refine j_iload_n 125 dX12_look_124 rfl rfl 2 rfl ?_
            refine j_bipush (v := (6 : Int32)) 127 dX12_look_125 rfl (by decide) ?_
            refine j_icmp_ne 139 130 dX12_look_127 (by decide) rfl (fun hc => ?_) (fun hc => ?_)
            · replace h := j_neg hc h
              refine j_aload_n 140 dX12_look_139 rfl rfl 0 rfl ?_
              refine j_getG 143 dX12_look_140 rfl (sh_66 hL) cl12 (k := 60) (by decide) flX12_119 rfl (gs_66_60 hL) ?_
              refine j_iload_n 144 dX12_look_143 rfl rfl 1 rfl ?_
              obtain ⟨hg, h⟩ := j_gs h
              refine j_iald 145 dX12_look_144 rfl (sh_103 hL) (j_inv hg) ?_
              cases h
              exact j_iret dX12_look_145 rfl
            · replace h := j_pos hc h
              refine j_aload_n 131 dX12_look_130 rfl rfl 0 rfl ?_
              refine j_getG 134 dX12_look_131 rfl (sh_66 hL) cl12 (k := 59) (by decide) flX12_116 rfl (gs_66_59 hL) ?_
              refine j_iload_n 135 dX12_look_134 rfl rfl 1 rfl ?_
              obtain ⟨hg, h⟩ := j_gs h
              refine j_iald 136 dX12_look_135 rfl (sh_102 hL) (j_inv hg) ?_
              refine j_goto 145 dX12_look_136 (by decide) ?_
              cases h
              exact j_iret dX12_look_145 rfl
          · replace h := j_pos hc h
            refine j_aload_n 116 dX12_look_115 rfl rfl 0 rfl ?_
            refine j_getG 119 dX12_look_116 rfl (sh_66 hL) cl12 (k := 58) (by decide) flX12_113 rfl (gs_66_58 hL) ?_
            refine j_iload_n 120 dX12_look_119 rfl rfl 1 rfl ?_
            obtain ⟨hg, h⟩ := j_gs h
            refine j_iald 121 dX12_look_120 rfl (sh_101 hL) (j_inv hg) ?_
            refine j_goto 145 dX12_look_121 (by decide) ?_
            cases h
            exact j_iret dX12_look_145 rfl
        · replace h := j_pos hc h
          refine j_aload_n 102 dX12_look_101 rfl rfl 0 rfl ?_
          refine j_getG 105 dX12_look_102 rfl (sh_66 hL) cl12 (k := 57) (by decide) flX12_110 rfl (gs_66_57 hL) ?_
          refine j_iload_n 106 dX12_look_105 rfl rfl 1 rfl ?_
          obtain ⟨hg, h⟩ := j_gs h
          refine j_iald 107 dX12_look_106 rfl (sh_100 hL) (j_inv hg) ?_
          refine j_goto 145 dX12_look_107 (by decide) ?_
          cases h
          exact j_iret dX12_look_145 rfl
    · replace h := j_neg hc h
      refine j_iload_n 43 dX12_look_42 rfl rfl 2 rfl ?_
      refine j_if_ne 55 46 dX12_look_43 (by decide) rfl (fun hc => ?_) (fun hc => ?_)
      · replace h := j_neg hc h
        refine j_iload_n 56 dX12_look_55 rfl rfl 2 rfl ?_
        refine j_iconst (v := (1 : Int32)) 57 dX12_look_56 rfl (by decide) ?_
        refine j_icmp_ne 69 60 dX12_look_57 (by decide) rfl (fun hc => ?_) (fun hc => ?_)
        · replace h := j_neg hc h
          refine j_iload_n 70 dX12_look_69 rfl rfl 2 rfl ?_
          refine j_iconst (v := (2 : Int32)) 71 dX12_look_70 rfl (by decide) ?_
          refine j_icmp_ne 83 74 dX12_look_71 (by decide) rfl (fun hc => ?_) (fun hc => ?_)
          · replace h := j_neg hc h
            refine j_aload_n 84 dX12_look_83 rfl rfl 0 rfl ?_
            refine j_getG 87 dX12_look_84 rfl (sh_66 hL) cl12 (k := 56) (by decide) flX12_107 rfl (gs_66_56 hL) ?_
            refine j_iload_n 88 dX12_look_87 rfl rfl 1 rfl ?_
            obtain ⟨hg, h⟩ := j_gs h
            refine j_iald 89 dX12_look_88 rfl (sh_99 hL) (j_inv hg) ?_
            cases h
            exact j_iret dX12_look_89 rfl
          · replace h := j_pos hc h
            refine j_aload_n 75 dX12_look_74 rfl rfl 0 rfl ?_
            refine j_getG 78 dX12_look_75 rfl (sh_66 hL) cl12 (k := 55) (by decide) flX12_104 rfl (gs_66_55 hL) ?_
            refine j_iload_n 79 dX12_look_78 rfl rfl 1 rfl ?_
            obtain ⟨hg, h⟩ := j_gs h
            refine j_iald 80 dX12_look_79 rfl (sh_98 hL) (j_inv hg) ?_
            refine j_goto 89 dX12_look_80 (by decide) ?_
            cases h
            exact j_iret dX12_look_89 rfl
        · replace h := j_pos hc h
          refine j_aload_n 61 dX12_look_60 rfl rfl 0 rfl ?_
          refine j_getG 64 dX12_look_61 rfl (sh_66 hL) cl12 (k := 54) (by decide) flX12_101 rfl (gs_66_54 hL) ?_
          refine j_iload_n 65 dX12_look_64 rfl rfl 1 rfl ?_
          obtain ⟨hg, h⟩ := j_gs h
          refine j_iald 66 dX12_look_65 rfl (sh_97 hL) (j_inv hg) ?_
          refine j_goto 89 dX12_look_66 (by decide) ?_
          cases h
          exact j_iret dX12_look_89 rfl
      · replace h := j_pos hc h
        refine j_aload_n 47 dX12_look_46 rfl rfl 0 rfl ?_
        refine j_getG 50 dX12_look_47 rfl (sh_66 hL) cl12 (k := 53) (by decide) flX12_98 rfl (gs_66_53 hL) ?_
        refine j_iload_n 51 dX12_look_50 rfl rfl 1 rfl ?_
        obtain ⟨hg, h⟩ := j_gs h
        refine j_iald 52 dX12_look_51 rfl (sh_96 hL) (j_inv hg) ?_
        refine j_goto 89 dX12_look_52 (by decide) ?_
        cases h
        exact j_iret dX12_look_89 rfl
  · replace h := j_pos hc h
    refine j_iconst (v := (0 : Int32)) 36 dX12_look_35 rfl (by decide) ?_
    cases h
    exact j_iret dX12_look_36 rfl
def fX12_look (l1 : Int32) (l2 : Int32) (I : JI) : Option (Int32 × JI) :=
  (fX12_isPassed l1 I).bind (fun q1 => if q1 = 0 then (fX12_look_24 l1 l2 (1 : Int32) I) else ((fX12_within l2 (0 : Int32) (11 : Int32)).bind (fun q2 => if q2 = 0 then (fX12_look_24 l1 l2 (1 : Int32) I) else (fX12_look_24 l1 l2 (0 : Int32) I))))
set_option maxHeartbeats 4000000 in
set_option maxRecDepth 100000 in
theorem tcX12_look {E : JE} {l1 : Int32} {l2 : Int32} {r : Int32 × JI} {I : JI} {L : JL} {G D : JG} {S : JS} (hL : Lay G S) (h : fX12_look l1 l2 I = some r) : CallJ E xX12_look 2 [.ref (E.1 + 66), .int l1, .int l2] I L G D S (some (.int r.1)) r.2 L G D S := by
  unfold fX12_look at h
  refine j_entry (by decide) (Nat.le_of_ble_eq_true rfl) ?_
  show AtJ E xX12_look (Zr E (some (.int r.1)) r.2 L G D S) ((S).length, jm_sl S) 2 0 [(0, .ref (E.1 + 66)), (1, .int l1), (2, .int l2)] [] I L G D S
  refine j_aload_n 1 dX12_look_0 rfl rfl 0 rfl ?_
  refine j_aload_n 2 dX12_look_1 rfl rfl 0 rfl ?_
  refine j_iload_n 3 dX12_look_2 rfl rfl 1 rfl ?_
  obtain ⟨q1, hq1, h⟩ := j_bs h
  refine j_callV (rest := [.ref (E.1 + 66)]) (As := [.int l1]) 6 dX12_look_3 rfl jyX12_isPassed (tcX12_isPassed hL  hq1) (sh_66 hL) cl12 flX12_470 wm1914 wm70 (by decide) rfl rfl (Nat.le_of_ble_eq_true rfl) ?_
  refine j_if_eq 23 9 dX12_look_6 (by decide) rfl (fun hc => ?_) (fun hc => ?_)
  · replace h := j_pos hc h
    refine j_iconst (v := (1 : Int32)) 24 dX12_look_23 rfl (by decide) ?_
    exact kX12_look_24 hL    _ _ _ _  h
  · replace h := j_neg hc h
    refine j_iload_n 10 dX12_look_9 rfl rfl 2 rfl ?_
    refine j_iconst (v := (0 : Int32)) 11 dX12_look_10 rfl (by decide) ?_
    refine j_bipush (v := (11 : Int32)) 13 dX12_look_11 rfl (by decide) ?_
    obtain ⟨q2, hq2, h⟩ := j_bs h
    refine j_callS (rest := [.ref (E.1 + 66)]) (As := [.int l2, .int (0 : Int32), .int (11 : Int32)]) 16 dX12_look_13 rfl jyX12_within (tcX12_within   hq2) flX12_222 wm1697 (by decide) rfl rfl (Nat.le_of_ble_eq_true rfl) ?_
    refine j_if_eq 23 19 dX12_look_16 (by decide) rfl (fun hc => ?_) (fun hc => ?_)
    · replace h := j_pos hc h
      refine j_iconst (v := (1 : Int32)) 24 dX12_look_23 rfl (by decide) ?_
      exact kX12_look_24 hL    _ _ _ _  h
    · replace h := j_neg hc h
      refine j_iconst (v := (0 : Int32)) 20 dX12_look_19 rfl (by decide) ?_
      refine j_goto 24 dX12_look_20 (by decide) ?_
      exact kX12_look_24 hL    _ _ _ _  h
