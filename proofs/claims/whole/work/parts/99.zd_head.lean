def cT1 (l : Nat) (I : JI) (Lc : JL) (D : JG) (S : JS) : Option (JI × JL) := (fX8_want (22 : Int32) I).bind (fun q7 => (fX8_readForms (nI l) q7 D S).bind (fun q8 => cT3 l q8 Lc D S))
def cT0 (l : Nat) (I : JI) (Lc : JL) (D : JG) (S : JS) : Option (JI × JL) := (fX8_readWho (nI l) I D S).bind (fun q6 => cT1 l q6 Lc D S)
theorem fl_forms {X : Nat} (hX : X = 44 ∨ X = 55) {D : JG} {S : JS} {tx : Nat → Nat} {m f l : Nat} {I : JI} (h : FL I tx m f) : ∃ I', fX8_readForms (nI l) I D S = some I' ∧ lC X l I I' ∧ FL I' tx m f := by
  obtain ⟨I1, a1, a2, a3⟩ := FL_wrong h 1
  have hf : ∀ (J : JI) (n : Nat), fX8_readForms_24 (n + 1) (nI l) (nI 33 - (6 : Int32)) (0 : Int32) J D S = some J := by
    intro J n
    rw [fX8_readForms_24, if_neg (by decide), if_neg (by decide), if_pos (by decide)]
  refine ⟨I1, ?_, lC_w hX a2, a3⟩
  unfold fX8_readForms
  rw [h.2.2.2.1, if_neg (by decide), if_neg (by decide), a1, Option.bind_some]
  exact hf I1 99999
theorem fl_T1 {X : Nat} (hX : X = 44 ∨ X = 55) {D : JG} {S : JS} (d9 : D 12 9 = some X) (sX : S[X]? = some (4, 17)) {tx : Nat → Nat} {m f l : Nat} (hl : l < 18) {I : JI} {Lc : JL} (h : FL I tx m f) : ∃ I', cT1 l I Lc D S = some (I', Lc) ∧ lC X l I I' ∧ FL I' tx m f := by
  obtain ⟨I1, a1, a2, a3⟩ := want_fl h (k := 22) (by omega) (by omega)
  have a1' : fX8_want (22 : Int32) I = some I1 := a1
  obtain ⟨I2, b1, b2, b3⟩ := fl_forms hX (D := D) (S := S) (l := l) a3
  obtain ⟨I3, c1, c2, c3⟩ := fl_T3 hX d9 sX hl (Lc := Lc) b3
  refine ⟨I3, ?_, lC_tr (lC_w hX a2) (lC_tr b2 c2), c3⟩
  unfold cT1
  rw [a1', Option.bind_some, b1, Option.bind_some, c1]
/-- forms, from the first -/
theorem j_forms {X : Nat} (hX : X = 44 ∨ X = 55) {D : JG} {S : JS} (d9 : D 12 9 = some X) (sX : S[X]? = some (4, 17)) {tx : Nat → Nat} {m b cs q l : Nat} {I N : JI} {L Lc : JL} (hI : LC I tx m b) (hN : LR N L tx m b) (e10 : I X 10 = nI cs) (hcs : cs ≤ b) (e28 : N 66 28 = nI (1000 + q)) (hq : q ≤ b) (hl : l < 18) (e7 : I (X + 7) l = nI cs) (e8 : I (X + 8) l = nI cs) (hW : ∃ w, w < 4 ∧ N 77 (18 + l) = nI w ∧ I (X + 4) l = nI w) (hf1 : N 78 (18 + l) = nI 0) (hf2 : I (X + 5) l = nI 0) : ∃ I' N' L' v, (fX8_readForms (nI l) I D S).bind (fun q8 => cT3 l q8 Lc D S) = some (I', Lc) ∧ fX12_readsFirst_106 100000 (nI (18 + l)) N L = some (v, N', L') ∧ JO X tx m l b cs q (FW X l) I N L I' N' L' v := by
  have hlt : lT tx m b < 127 := lT_lt hI.1
  have hm := hN.1.1
  obtain ⟨t1, t2⟩ := tk6 _ hlt
  have e4 : I 12 4 = nI (lT tx m b) := hI.2.2.2.2.2.1
  by_cases cf : 6 ≤ lT tx m b ∧ lT tx m b < 9
  · obtain ⟨I', N', L', v, x1, x2, x3⟩ := j_106 hX d9 sX (cs := cs) (q := q) hl (Lc := Lc) 3 0 b I N L (by decide) (by omega) (Or.inr cf) hI hN e10 hcs e28 hq e7 e8 hW hf1 hf2 100000 100000 (by omega) (by omega)
    refine ⟨I', N', L', v, ?_, x2, x3⟩
    unfold fX8_readForms
    have x1' : (fX8_readForms_24 100000 (nI l) (nI (lT tx m b) - (6 : Int32)) (0 : Int32) I D S).bind (fun q8 => cT3 l q8 Lc D S) = some (I', Lc) := x1
    rw [e4, if_neg (by rw [t1]; omega), if_pos (by rw [t2 cf.1]; exact nI_lt (b := 3) (by omega) (by omega)), x1']
  · have hfo := RT_form hN.2.2.2
    rw [if_neg cf] at hfo
    have hf : fX12_fails (1 : Int32) N = some (nI 0, j_up N 66 17 (nI (1 + 16 * b))) := LR_fails hN 1
    have hR0 : ∀ n', fX12_readsFirst_106 (n' + 1) (nI (18 + l)) N L = some (nI 0, j_up N 66 17 (nI (1 + 16 * b)), L) := by
      intro n'
      rw [fX12_readsFirst_106, hfo, Option.bind_some, if_pos (by decide)]
      unfold fX12_readsFirst_158
      rw [jg_in (show 18 + l < 36 by omega) (by decide), nI_clamp (by omega), hf1, if_pos (show nI 0 = (0 : Int32) from rfl), hf, Option.bind_some]; rfl
    obtain ⟨I1, c1, c2, c3⟩ := LC_wrong hI (k := 1) (by omega)
    have c1' : fX8_wrong (1 : Int32) I = some I1 := c1
    obtain ⟨I2, d1, d2, d3⟩ := fl_T3 hX d9 sX hl (Lc := Lc) c3
    have h24 : ∀ (J : JI) (n : Nat), fX8_readForms_24 (n + 1) (nI l) (nI (lT tx m b) - (6 : Int32)) (0 : Int32) J D S = some J := by
      intro J n
      rw [fX8_readForms_24, if_neg (by decide)]
      by_cases c6 : lT tx m b < 6
      · rw [if_pos (by rw [t1]; exact c6)]
      · rw [if_neg (by rw [t1]; exact c6), t2 (by omega), if_pos (show (3 : Int32) ≤ nI (lT tx m b - 6) from nI_le (a := 3) (by omega) (by omega))]
    refine ⟨I2, j_up N 66 17 (nI (1 + 16 * b)), L, nI 0, ?_, hR0 99999, lC_tr (lC_w hX c2) d2, lR_f _, Or.inr ⟨rfl, _, d3, ju_same _ _ _ _⟩⟩
    have h24' := h24 I1 99999
    unfold fX8_readForms
    rw [e4]
    by_cases c6 : lT tx m b < 6
    · rw [if_pos (by rw [t1]; exact c6), c1', Option.bind_some, h24', Option.bind_some, d1]
    · rw [if_neg (by rw [t1]; exact c6), if_neg (by rw [t2 (by omega)]; exact nI_nlt (b := 3) (by omega) (by omega)), c1', Option.bind_some, h24', Option.bind_some, d1]
theorem tk14 : ∀ t, t < 127 → ((nI t - (14 : Int32) < 0) = (t < 14)) ∧ (14 ≤ t → nI t - (14 : Int32) = nI (t - 14)) := by
  intro t ht
  have h := (by decide +kernel : ∀ t, t < 127 → (decide (nI t - (14 : Int32) < 0) = decide (t < 14)) ∧ (14 ≤ t → nI t - (14 : Int32) = nI (t - 14))) t ht
  exact ⟨propext (decide_eq_decide.mp h.1), h.2⟩
/-- a first line, from who -/
theorem j_first {X : Nat} (hX : X = 44 ∨ X = 55) {D : JG} {S : JS} (d9 : D 12 9 = some X) (sX : S[X]? = some (4, 17)) {tx : Nat → Nat} {m b cs q l : Nat} {I N : JI} {L Lc : JL} (hI : LC I tx m b) (hN : LR N L tx m b) (e10 : I X 10 = nI cs) (hcs : cs ≤ b) (e28 : N 66 28 = nI (1000 + q)) (hq : q ≤ b) (hl : l < 18) (e7 : I (X + 7) l = nI cs) (e8 : I (X + 8) l = nI cs) (e5 : I (X + 5) l = nI 0) : ∃ I' N' L' v, cT0 l I Lc D S = some (I', Lc) ∧ fX12_readsFirst (nI (18 + l)) N L = some (v, N', L') ∧ JO X tx m l b cs q (FW X l) I N L I' N' L' v := by
  have hlt : lT tx m b < 127 := lT_lt hI.1
  have hbm0 := hN.2.1
  have hm := hN.1.1
  obtain ⟨-, -, -, -, -, -, -, -, -, -, -, -, -, -, k14, k15, k16, k17, -, -, -, -, k22, -⟩ := kc_val
  have w14' : fX12_isWord (8276 : Int64) N L = some (bI (decide (lT tx m b = 14))) := by have := RT_word hN.2.2.2 (k := 14) (by omega); rw [k14] at this; exact this
  have w15 : fX12_isWord (10256063 : Int64) N L = some (bI (decide (lT tx m b = 15))) := by have := RT_word hN.2.2.2 (k := 15) (by omega); rw [k15] at this; exact this
  have w16 : fX12_isWord (380651 : Int64) N L = some (bI (decide (lT tx m b = 16))) := by have := RT_word hN.2.2.2 (k := 16) (by omega); rw [k16] at this; exact this
  have w17 : fX12_isWord (12257559 : Int64) N L = some (bI (decide (lT tx m b = 17))) := by have := RT_word hN.2.2.2 (k := 17) (by omega); rw [k17] at this; exact this
  obtain ⟨t1, t2⟩ := tk14 _ hlt
  have e4 : I 12 4 = nI (lT tx m b) := hI.2.2.2.2.2.1
  have hbt : ¬ bI true = (0 : Int32) := by decide
  have hbf : bI false = (0 : Int32) := by decide
  by_cases cw : 14 ≤ lT tx m b ∧ lT tx m b < 18
  · have hR0 : fX12_readsFirst (nI (18 + l)) N L = fX12_readsFirst_57 (nI (18 + l)) (nI (lT tx m b - 14)) N L := by
      unfold fX12_readsFirst
      rw [w14', w15, w16, w17]
      rcases (by omega : lT tx m b = 14 ∨ lT tx m b = 15 ∨ lT tx m b = 16 ∨ lT tx m b = 17) with h | h | h | h <;> rw [h] <;> rfl
    have hbm : b < m := lT_33 (tx := tx) (by omega) hbm0
    obtain ⟨n1, n2⟩ := nxB_ok (tx := tx) hbm
    obtain ⟨I1, a1, a2, a3⟩ := LC_next (LC_fr (I' := j_up I (X + 4) l (nI (lT tx m b - 14))) hI (ju_row _ _ (by omega)) (ju_row _ _ (by omega))) hbm
    obtain ⟨N1, L1, r1, r2, r3⟩ := LR_next (LR_fr (N' := j_up N 77 (18 + l) (nI (lT tx m b - 14))) hN (ju_row _ _ (by omega)) (fun k _ _ => by rw [ju_row _ _ (by omega)]) rfl) hbm
    have hC1 : fX8_readWho (nI l) I D S = some I1 := by
      unfold fX8_readWho
      rw [e4, if_neg (by rw [t1]; omega), t2 cw.1, if_pos (show nI (lT tx m b - 14) < (4 : Int32) from nI_lt (b := 4) (by omega) (by omega)), jo_some d9, sX, show decide (some (4, 17) = some ((4, 17) : Nat × Nat)) = true by decide, show ∀ x, j_g true x = x from fun x => rfl, jg_in hl (by decide), nI_clamp (by omega), a1, Option.bind_some]
    have w22 : fX12_isWord (419 : Int64) N1 L1 = some (bI (decide (lT tx m (nxB tx m b) = 22))) := by have := RT_word r3.2.2.2 (k := 22) (by omega); rw [k22] at this; exact this
    have hR1 : fX12_readsFirst (nI (18 + l)) N L = if bI (decide (lT tx m (nxB tx m b) = 22)) = 0 then ((fX12_fails (1 : Int32) N1).bind (fun q8 => j_g (decide (jm_b01 q8.1 = q8.1)) (some (q8.1, q8.2, L1)))) else ((fX12_nextToken N1 L1).bind (fun q7 => (fX12_readsFirst_106 100000 (nI (18 + l)) (j_up q7.1 78 (18 + l) (0 : Int32)) q7.2))) := by
      rw [hR0]
      unfold fX12_readsFirst_57
      rw [if_pos (nI_pos' (by omega)), jg_in (show 18 + l < 36 by omega) (by decide), nI_clamp (by omega), r1, Option.bind_some]
      dsimp only
      rw [w22, Option.bind_some]
      simp only [jg_in (show 18 + l < 36 by omega) (show 36 < 2 ^ 31 by decide)]
    have hlt1 : lT tx m (nxB tx m b) < 127 := lT_lt hI.1
    obtain ⟨I2, b1, b2, b3⟩ := want_eq a3 (by omega) hlt1 (k := 22) (by omega) (by omega)
    have b1' : fX8_want (22 : Int32) I1 = some I2 := b1
    by_cases c22 : lT tx m (nxB tx m b) = 22
    · have hbm1 : nxB tx m b < m := lT_33 (tx := tx) (by omega) n2
      obtain ⟨n3, n4⟩ := nxB_ok (tx := tx) hbm1
      obtain ⟨N2, L2, s1, s2, s3⟩ := LR_next r3 hbm1
      have b4 : LC I2 tx m (nxB tx m (nxB tx m b)) := by
        rcases b3 with ⟨-, h⟩ | ⟨h, -⟩
        · exact h
        · exact absurd c22 h
      rw [decide_eq_true c22, if_neg hbt, s1, Option.bind_some] at hR1
      dsimp only at hR1
      have rI : ∀ a, a ≠ 12 → a ≠ X + 4 → I2 a = I a := fun a g1 g2 => by rw [b2.1 a g1, a2.1 a g1, ju_row _ _ g2]
      have rN' : ∀ a, a ≠ 66 → a ≠ 77 → a ≠ 78 → (j_up N2 78 (18 + l) (0 : Int32)) a = N a := fun a g1 g2 g3 => by rw [ju_row _ _ g3, s2.1 a g1, r2.1 a g1, ju_row _ _ g2]
      obtain ⟨I', N', L', v, x1, x2, x3⟩ := j_forms hX d9 sX (Lc := Lc) (cs := cs) (q := q) (l := l) b4 (LR_fr (N' := j_up N2 78 (18 + l) (0 : Int32)) s3 (ju_row _ _ (by omega)) (fun k _ _ => by rw [ju_row _ _ (by omega)]) rfl) (by rw [rI X (by omega) (by omega)]; exact e10) (by omega) (by rw [ju_row _ _ (by omega), s2.2.1 28 (by omega), r2.2.1 28 (by omega), ju_row _ _ (by omega)]; exact e28) (by omega) hl (by rw [rI (X + 7) (by omega) (by omega)]; exact e7) (by rw [rI (X + 8) (by omega) (by omega)]; exact e8) ⟨lT tx m b - 14, by omega, by rw [ju_row _ _ (by omega), s2.1 77 (by omega), r2.1 77 (by omega), ju_same], by rw [b2.1 (X + 4) (by omega), a2.1 (X + 4) (by omega), ju_same]⟩ (by rw [ju_same]; rfl) (by rw [rI (X + 5) (by omega) (by omega)]; exact e5)
      refine ⟨I', N', L', v, ?_, by rw [hR1, x2], JO_pre (lC_tr (lC_u (Or.inl rfl) hX I _) (lC_tr (lC_w hX (cW_n a2)) (lC_w hX b2))) (lR_tr (lR_u (by omega) N L _) (lR_tr (lR_n r2) (lR_tr (lR_n s2) (lR_u (by omega) N2 L2 _)))) (rI (X + 10) (by omega) (by omega)) (rN' 83 (by omega) (by omega) (by omega)) (by omega) x3⟩
      unfold cT0 cT1
      rw [hC1, Option.bind_some, b1', Option.bind_some, x1]
    · have hf : fX12_fails (1 : Int32) N1 = some (nI 0, j_up N1 66 17 (nI (1 + 16 * nxB tx m b))) := LR_fails r3 1
      rw [decide_eq_false c22, if_pos hbf, hf, Option.bind_some] at hR1
      have b4 : FL I2 tx m (1 + 16 * nxB tx m b) := by
        rcases b3 with ⟨h, -⟩ | ⟨-, h⟩
        · exact absurd h c22
        · exact h
      obtain ⟨I3, c1, c2, c3⟩ := fl_forms hX (D := D) (S := S) (l := l) b4
      obtain ⟨I4, d1, d2, d3⟩ := fl_T3 hX d9 sX hl (Lc := Lc) c3
      refine ⟨I4, j_up N1 66 17 (nI (1 + 16 * nxB tx m b)), L1, nI 0, ?_, by rw [hR1]; rfl, lC_tr (lC_u (Or.inl rfl) hX I _) (lC_tr (lC_w hX (cW_n a2)) (lC_tr (lC_w hX b2) (lC_tr c2 d2))), lR_tr (lR_u (by omega) N L _) (lR_tr (lR_n r2) (lR_f _)), Or.inr ⟨rfl, _, d3, ju_same _ _ _ _⟩⟩
      unfold cT0 cT1
      rw [hC1, Option.bind_some, b1', Option.bind_some, c1, Option.bind_some, d1]
  · have hR0 : fX12_readsFirst (nI (18 + l)) N L = some (nI 0, j_up N 66 17 (nI (1 + 16 * b)), L) := by
      have hf : fX12_fails (1 : Int32) N = some (nI 0, j_up N 66 17 (nI (1 + 16 * b))) := LR_fails hN 1
      unfold fX12_readsFirst fX12_readsFirst_57
      rw [w14', w15, w16, w17, decide_eq_false (show ¬ lT tx m b = 14 by omega), decide_eq_false (show ¬ lT tx m b = 15 by omega), decide_eq_false (show ¬ lT tx m b = 16 by omega), decide_eq_false (show ¬ lT tx m b = 17 by omega), Option.bind_some, if_pos hbf, Option.bind_some, if_pos hbf, Option.bind_some, if_pos hbf, Option.bind_some, if_pos hbf, if_neg (by decide), hf, Option.bind_some]; rfl
    obtain ⟨I1, c1, c2, c3⟩ := LC_wrong hI (k := 1) (by omega)
    have c1' : fX8_wrong (1 : Int32) I = some I1 := c1
    obtain ⟨I2, d1, d2, d3⟩ := fl_T1 hX d9 sX hl (Lc := Lc) c3
    refine ⟨I2, j_up N 66 17 (nI (1 + 16 * b)), L, nI 0, ?_, hR0, lC_tr (lC_w hX c2) d2, lR_f _, Or.inr ⟨rfl, _, d3, ju_same _ _ _ _⟩⟩
    unfold cT0 fX8_readWho
    rw [e4]
    by_cases c14 : lT tx m b < 14
    · rw [if_pos (by rw [t1]; exact c14), c1', Option.bind_some, Option.bind_some, d1]
    · rw [if_neg (by rw [t1]; exact c14), t2 (by omega), if_neg (show ¬ nI (lT tx m b - 14) < (4 : Int32) from nI_nlt (b := 4) (by omega) (by omega)), c1', Option.bind_some, Option.bind_some, d1]
