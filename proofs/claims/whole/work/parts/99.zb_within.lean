theorem fl_82 {X : Nat} (hX : X = 44 ∨ X = 55) {D : JG} {S : JS} {tx : Nat → Nat} {m f l : Nat} {I : JI} {Lc : JL} (h : FL I tx m f) : ∃ I', fX8_readRule_82 (nI 1) (nI l) I Lc D S = some (I', Lc) ∧ lC X l I I' ∧ FL I' tx m f := by
  obtain ⟨I1, a1, a2, a3⟩ := want_fl h (k := 59) (by omega) (by omega)
  have a1' : fX8_want (59 : Int32) I = some I1 := a1
  refine ⟨I1, ?_, lC_w hX a2, a3⟩
  unfold fX8_readRule_82
  rw [if_neg (show ¬ nI 1 = (0 : Int32) by decide), h.2.2.2.1, if_neg (show ¬ nI 33 = (24 : Int32) by decide), a1', Option.bind_some]
theorem fl_within {X : Nat} (hX : X = 44 ∨ X = 55) {D : JG} {S : JS} (d9 : D 12 9 = some X) (sX : S[X]? = some (4, 17)) {tx : Nat → Nat} {m f l : Nat} (hl : l < 18) {I : JI} (h : FL I tx m f) : ∃ I', fX8_readWithin (nI l) I D S = some I' ∧ lC X l I I' ∧ FL I' tx m f := by
  obtain ⟨I1, a1, a2, a3⟩ := want_fl (FL_fr (I' := j_up I (X + 6) l (I 12 5)) h (ju_row _ _ (by omega)) (ju_row _ _ (by omega))) (k := 32) (by omega) (by omega)
  have a1' : fX8_want (32 : Int32) (j_up I (X + 6) l (I 12 5)) = some I1 := a1
  refine ⟨I1, ?_, lC_tr (lC_u (Or.inr (Or.inr rfl)) hX I _) (lC_w hX a2), a3⟩
  unfold fX8_readWithin fX8_readWithin_25
  rw [h.2.2.2.1, if_neg (show ¬ nI 33 = (32 : Int32) by decide), jo_some d9, sX, show decide (some (4, 17) = some ((4, 17) : Nat × Nat)) = true by decide, show ∀ x, j_g true x = x from fun x => rfl, jg_in hl (by decide), nI_clamp (by omega), a1', Option.bind_some]
def cT3 (l : Nat) (I : JI) (Lc : JL) (D : JG) (S : JS) : Option (JI × JL) := (fX8_want (23 : Int32) I).bind (fun q9 => (fX8_readWithin (nI l) q9 D S).bind (fun q10 => fX8_readRule_82 (nI 1) (nI l) q10 Lc D S))
theorem fl_T3 {X : Nat} (hX : X = 44 ∨ X = 55) {D : JG} {S : JS} (d9 : D 12 9 = some X) (sX : S[X]? = some (4, 17)) {tx : Nat → Nat} {m f l : Nat} (hl : l < 18) {I : JI} {Lc : JL} (h : FL I tx m f) : ∃ I', cT3 l I Lc D S = some (I', Lc) ∧ lC X l I I' ∧ FL I' tx m f := by
  obtain ⟨I1, a1, a2, a3⟩ := want_fl h (k := 23) (by omega) (by omega)
  have a1' : fX8_want (23 : Int32) I = some I1 := a1
  obtain ⟨I2, b1, b2, b3⟩ := fl_within hX d9 sX hl a3
  obtain ⟨I3, c1, c2, c3⟩ := fl_82 hX (D := D) (S := S) (l := l) (Lc := Lc) b3
  refine ⟨I3, ?_, lC_tr (lC_w hX a2) (lC_tr b2 c2), c3⟩
  unfold cT3
  rw [a1', Option.bind_some, b1, Option.bind_some, c1]
theorem j_158 {X : Nat} (hX : X = 44 ∨ X = 55) {D : JG} {S : JS} (d9 : D 12 9 = some X) (sX : S[X]? = some (4, 17)) {tx : Nat → Nat} {m b cs q l fm : Nat} {I N : JI} {L Lc : JL} (hI : LC I tx m b) (hN : LR N L tx m b) (e10 : I X 10 = nI cs) (hcs : cs ≤ b) (e28 : N 66 28 = nI (1000 + q)) (hq : q ≤ b) (hl : l < 18) (e7 : I (X + 7) l = nI cs) (e8 : I (X + 8) l = nI cs) (hW : ∃ w, w < 4 ∧ N 77 (18 + l) = nI w ∧ I (X + 4) l = nI w) (hf1 : N 78 (18 + l) = nI fm) (hf2 : I (X + 5) l = nI fm) (hf3 : 0 < fm ∧ fm < 8) : ∃ I' N' L' v, cT3 l I Lc D S = some (I', Lc) ∧ fX12_readsFirst_158 (nI (18 + l)) N L = some (v, N', L') ∧ JO X tx m l b cs q (FW X l) I N L I' N' L' v := by
  have hlt : lT tx m b < 127 := lT_lt hI.1
  have hbm0 := hN.2.1
  have hm := hN.1.1
  obtain ⟨-, -, -, -, -, -, -, -, -, -, -, -, -, -, -, -, -, -, -, -, -, -, -, k23, -⟩ := kc_val
  have w23 : fX12_isWord (335207579 : Int64) N L = some (bI (decide (lT tx m b = 23))) := by have := RT_word hN.2.2.2 (k := 23) (by omega); rw [k23] at this; exact this
  have hbt : ¬ bI true = (0 : Int32) := by decide
  have hbf : bI false = (0 : Int32) := by decide
  have h158 : fX12_readsFirst_158 (nI (18 + l)) N L = if bI (decide (lT tx m b = 23)) = 0 then ((fX12_fails (1 : Int32) N).bind (fun q24 => j_g (decide (jm_b01 q24.1 = q24.1)) (some (q24.1, q24.2, L)))) else ((fX12_nextToken N L).bind (fun q17 => if (q17.1 66 14) = (2 : Int32) then (if (q17.1 66 16) ≤ (999 : Int32) then ((fX12_nextToken (j_up q17.1 79 (18 + l) (q17.1 66 16)) q17.2).bind (fun q18 => ((fX12_isSign (59 : Int32) (j_up q18.1 80 (18 + l) (0 : Int32))).bind (fun q19 => if q19 = 0 then ((fX12_readsWhen (nI (18 + l)) (j_up q18.1 80 (18 + l) (0 : Int32)) q18.2).bind (fun q21 => j_g (decide (jm_b01 q21.1 = q21.1)) (some (q21.1, q21.2.1, q21.2.2)))) else ((fX12_nextToken (j_up q18.1 80 (18 + l) (0 : Int32)) q18.2).bind (fun q20 => some ((1 : Int32), q20.1, q20.2))))))) else ((fX12_fails (4 : Int32) q17.1).bind (fun q22 => j_g (decide (jm_b01 q22.1 = q22.1)) (some (q22.1, q22.2, q17.2))))) else ((fX12_fails (1 : Int32) q17.1).bind (fun q23 => j_g (decide (jm_b01 q23.1 = q23.1)) (some (q23.1, q23.2, q17.2)))))) := by
    unfold fX12_readsFirst_158
    simp only [jg_in (show 18 + l < 36 by omega) (show 36 < 2 ^ 31 by decide)]
    rw [nI_clamp (by omega), hf1, if_neg (nI_ne0 (by omega) (by omega)), w23, Option.bind_some]
  obtain ⟨I1, a1, a2, a3⟩ := want_eq hI (by omega) hlt (k := 23) (by omega) (by omega)
  have a1' : fX8_want (23 : Int32) I = some I1 := a1
  by_cases c23 : lT tx m b = 23
  · have hbm : b < m := lT_33 (tx := tx) (by omega) hbm0
    obtain ⟨n1, n2⟩ := nxB_ok (tx := tx) hbm
    obtain ⟨N1, L1, r1, r2, r3⟩ := LR_next hN hbm
    have a4 : LC I1 tx m (nxB tx m b) := by
      rcases a3 with ⟨-, h⟩ | ⟨h, -⟩
      · exact h
      · exact absurd c23 h
    rw [decide_eq_true c23, if_neg hbt, r1, Option.bind_some] at h158
    dsimp only at h158
    have e4 : I1 12 4 = nI (lT tx m (nxB tx m b)) := a4.2.2.2.2.2.1
    have hlt1 : lT tx m (nxB tx m b) < 127 := lT_lt hI.1
    have h2 := RT_two r3.2.2.2
    obtain ⟨I2, b1, b2, b3⟩ := want_eq (LC_fr (I' := j_up I1 (X + 6) l (I1 12 5)) a4 (ju_row _ _ (by omega)) (ju_row _ _ (by omega))) (by omega) hlt1 (k := 32) (by omega) (by omega)
    have b1' : fX8_want (32 : Int32) (j_up I1 (X + 6) l (I1 12 5)) = some I2 := b1
    have h25 : fX8_readWithin_25 (nI l) I1 D S = some I2 := by
      unfold fX8_readWithin_25
      rw [jo_some d9, sX, show decide (some (4, 17) = some ((4, 17) : Nat × Nat)) = true by decide, show ∀ x, j_g true x = x from fun x => rfl, jg_in hl (by decide), nI_clamp (by omega), b1', Option.bind_some]
    by_cases c32 : lT tx m (nxB tx m b) = 32
    · have e5 : I1 12 5 = nI (lV tx m (nxB tx m b)) := a4.2.2.2.2.2.2.1 c32
      have e16 : N1 66 16 = nI (lV tx m (nxB tx m b)) := RT_told r3.2.2.2 c32
      have hv := lV_lt c32
      rw [if_pos (by rw [h2]; exact c32)] at h158
      by_cases c999 : lV tx m (nxB tx m b) ≤ 999
      · rw [if_pos (show N1 66 16 ≤ (999 : Int32) by rw [e16]; exact nI_le (b := 999) c999 (by omega)), e16] at h158
        have hbm1 : nxB tx m b < m := lT_33 (tx := tx) (by omega) n2
        obtain ⟨n3, n4⟩ := nxB_ok (tx := tx) hbm1
        obtain ⟨N2, L2, t1, t2, t3⟩ := LR_next (LR_fr (N' := j_up N1 79 (18 + l) (nI (lV tx m (nxB tx m b)))) r3 (ju_row _ _ (by omega)) (fun k _ _ => by rw [ju_row _ _ (by omega)]) rfl) hbm1
        rw [t1, Option.bind_some] at h158
        dsimp only at h158
        have b4 : LC I2 tx m (nxB tx m (nxB tx m b)) := by
          rcases b3 with ⟨-, h⟩ | ⟨h, -⟩
          · exact h
          · exact absurd c32 h
        have rI : ∀ a, a ≠ 12 → a ≠ X + 6 → I2 a = I a := fun a g1 g2 => by rw [b2.1 a g1, ju_row _ _ g2, a2.1 a g1]
        have rN' : ∀ a, a ≠ 66 → a ≠ 79 → a ≠ 80 → (j_up N2 80 (18 + l) (0 : Int32)) a = N a := fun a g1 g2 g3 => by rw [ju_row _ _ g3, t2.1 a g1, ju_row _ _ g2, r2.1 a g1]
        obtain ⟨I', N', L', v, x1, x2, x3⟩ := j_r82 hX d9 sX (Lc := Lc) (cs := cs) (q := q) (l := l) b4 (LR_fr (N' := j_up N2 80 (18 + l) (0 : Int32)) t3 (ju_row _ _ (by omega)) (fun k _ _ => by rw [ju_row _ _ (by omega)]) rfl) (by rw [rI X (by omega) (by omega)]; exact e10) (by omega) (by rw [ju_row _ _ (by omega), t2.2.1 28 (by omega), ju_row _ _ (by omega), r2.2.1 28 (by omega)]; exact e28) (by omega) hl (by rw [rI (X + 7) (by omega) (by omega)]; exact e7) (by rw [rI (X + 8) (by omega) (by omega)]; exact e8) (by
          refine ⟨?_, ?_, lV tx m (nxB tx m b), c999, ?_, ?_⟩
          · rw [rI (X + 4) (by omega) (by omega), rN' 77 (by omega) (by omega) (by omega)]; exact hW
          · rw [rI (X + 5) (by omega) (by omega), rN' 78 (by omega) (by omega) (by omega), hf1, hf2]
          · rw [ju_row _ _ (by omega), t2.1 79 (by omega), ju_same]
          · rw [b2.1 (X + 6) (by omega), ju_same, e5]) (by rw [ju_same]; rfl)
        refine ⟨I', N', L', v, ?_, by rw [h158, x2], JO_pre (lC_tr (lC_w hX a2) (lC_tr (lC_u (Or.inr (Or.inr rfl)) hX I1 _) (lC_w hX b2))) (lR_tr (lR_n r2) (lR_tr (lR_u (by omega) N1 L1 _) (lR_tr (lR_n t2) (lR_u (by omega) N2 L2 _)))) (rI (X + 10) (by omega) (by omega)) (rN' 83 (by omega) (by omega) (by omega)) (by omega) x3⟩
        unfold cT3 fX8_readWithin
        rw [a1', Option.bind_some, e4, c32, if_pos (show nI 32 = (32 : Int32) from rfl), e5, if_pos (show nI (lV tx m (nxB tx m b)) ≤ (999 : Int32) from nI_le (b := 999) c999 (by omega)), h25, Option.bind_some, x1]
      · have n999 : ¬ nI (lV tx m (nxB tx m b)) ≤ (999 : Int32) := nI_ge (a := 999) (by omega) (by omega)
        have hf : fX12_fails (4 : Int32) N1 = some (nI 0, j_up N1 66 17 (nI (4 + 16 * nxB tx m b))) := LR_fails r3 4
        rw [if_neg (show ¬ N1 66 16 ≤ (999 : Int32) by rw [e16]; exact n999), hf, Option.bind_some] at h158
        obtain ⟨I3, c1, c2, c3⟩ := LC_wrong a4 (k := 4) (by omega)
        have c1' : fX8_wrong (4 : Int32) I1 = some I3 := c1
        obtain ⟨I4, d1, d2, d3⟩ := fl_82 hX (D := D) (S := S) (l := l) (Lc := Lc) c3
        refine ⟨I4, j_up N1 66 17 (nI (4 + 16 * nxB tx m b)), L1, nI 0, ?_, by rw [h158]; rfl, lC_tr (lC_w hX a2) (lC_tr (lC_w hX c2) d2), lR_tr (lR_n r2) (lR_f _), Or.inr ⟨rfl, _, d3, ju_same _ _ _ _⟩⟩
        unfold cT3 fX8_readWithin
        rw [a1', Option.bind_some, e4, c32, if_pos (show nI 32 = (32 : Int32) from rfl), e5, if_neg n999, c1', Option.bind_some, Option.bind_some, d1]
    · have hf : fX12_fails (1 : Int32) N1 = some (nI 0, j_up N1 66 17 (nI (1 + 16 * nxB tx m b))) := LR_fails r3 1
      rw [if_neg (by rw [h2]; exact c32), hf, Option.bind_some] at h158
      have n32 : ¬ nI (lT tx m (nxB tx m b)) = (32 : Int32) := fun e => c32 ((nI_eq (b := 32) (by omega) (by omega)).mp e)
      have b4 : FL I2 tx m (1 + 16 * nxB tx m b) := by
        rcases b3 with ⟨h, -⟩ | ⟨-, h⟩
        · exact absurd h c32
        · exact h
      obtain ⟨I4, d1, d2, d3⟩ := fl_82 hX (D := D) (S := S) (l := l) (Lc := Lc) b4
      refine ⟨I4, j_up N1 66 17 (nI (1 + 16 * nxB tx m b)), L1, nI 0, ?_, by rw [h158]; rfl, lC_tr (lC_w hX a2) (lC_tr (lC_u (Or.inr (Or.inr rfl)) hX I1 _) (lC_tr (lC_w hX b2) d2)), lR_tr (lR_n r2) (lR_f _), Or.inr ⟨rfl, _, d3, ju_same _ _ _ _⟩⟩
      unfold cT3 fX8_readWithin
      rw [a1', Option.bind_some, e4, if_neg n32, h25, Option.bind_some, d1]
  · have hf : fX12_fails (1 : Int32) N = some (nI 0, j_up N 66 17 (nI (1 + 16 * b))) := LR_fails hN 1
    rw [decide_eq_false c23, if_pos hbf, hf, Option.bind_some] at h158
    have a4 : FL I1 tx m (1 + 16 * b) := by
      rcases a3 with ⟨h, -⟩ | ⟨-, h⟩
      · exact absurd h c23
      · exact h
    obtain ⟨I2, b1, b2, b3⟩ := fl_within hX d9 sX hl a4
    obtain ⟨I3, c1, c2, c3⟩ := fl_82 hX (D := D) (S := S) (l := l) (Lc := Lc) b3
    refine ⟨I3, j_up N 66 17 (nI (1 + 16 * b)), L, nI 0, ?_, by rw [h158]; rfl, lC_tr (lC_w hX a2) (lC_tr b2 c2), lR_f _, Or.inr ⟨rfl, _, c3, ju_same _ _ _ _⟩⟩
    unfold cT3
    rw [a1', Option.bind_some, b1, Option.bind_some, c1]
