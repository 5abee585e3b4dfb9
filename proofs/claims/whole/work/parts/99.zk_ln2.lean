/-- one rule, for the loop -/
theorem j_ln {X : Nat} (hX : X = 44 ∨ X = 55) {D : JG} {S : JS} (d9 : D 12 9 = some X) (sX : S[X]? = some (4, 17)) {tx : Nat → Nat} {m b l fi ff mb cs q : Nat} {p1 p2 s0 my : Bool} {I N : JI} {L Lc : JL} (hS : LPs X tx m b l fi ff mb cs q p1 p2 I Lc N L) (ht : lT tx m b = if s0 = true then 18 else 19) (hmb : my = true → mb < 6) : ∃ I' Lc', fX8_readRule (bI my) I Lc D S = some (I', Lc') ∧ CFr X I I' Lc Lc' ∧ ((∃ f N' L', FL I' tx m f ∧ N' 66 17 = nI f ∧ RFr N N' L L' ∧ ∀ k48, fX12_readsAll_177 k48 (bI p1) (bI p2) (nI fi) (nI mb) (bI my) N L = some (nI 0, N', L')) ∨ (∃ b' fi' ff' mb' cs' q' N' L', b < b' ∧ LPs X tx m b' (l + 1) fi' ff' mb' cs' q' p1 p2 I' Lc' N' L' ∧ RFr N N' L L' ∧ ∀ k48, fX12_readsAll_177 k48 (bI p1) (bI p2) (nI fi) (nI mb) (bI my) N L = k48 (bI p1) (bI p2) (nI fi') (nI mb') N' L')) := by
  obtain ⟨hI, hN, hL, hcs, hq, h7, h8, h15, h16⟩ := hS
  obtain ⟨g1, g2, g3, g4, g5, g6, g7, g8, g9, g10, g11, g12⟩ := id hL
  have hbm : b < m := lT_33 (tx := tx) (by rw [ht]; split <;> omega) hN.2.1
  have e4 : I 12 4 = nI (lT tx m b) := hI.2.2.2.2.2.1
  have hbt : ¬ bI true = (0 : Int32) := by decide
  have hbf : bI false = (0 : Int32) := by decide
  have hjg : ∀ x : Option (JI × JL), j_g true x = x := fun x => rfl
  have hdec : decide (some (4, 17) = some ((4, 17) : Nat × Nat)) = true := by decide
  by_cases c12 : my = false ∧ fi = 12
  · obtain ⟨rfl, c12⟩ := c12
    obtain ⟨I1, a1, a2, a3⟩ := LC_wrong hI (k := 5) (by omega)
    have a1' : fX8_wrong (5 : Int32) I = some I1 := a1
    have hf : fX12_fails (5 : Int32) N = some (nI 0, j_up N 66 17 (nI (5 + 16 * b))) := LR_fails hN 5
    refine ⟨I1, Lc, ?_, CFr_w hX a2 Lc, Or.inl ⟨5 + 16 * b, j_up N 66 17 (nI (5 + 16 * b)), L, a3, ju_same _ _ _ _, RFr_f N L 17 (Or.inl rfl) _, fun k48 => ?_⟩⟩
    · unfold fX8_readRule
      rw [if_pos hbf, jo_some d9, sX, hdec, hjg, g6, c12, if_neg (by decide), a1', Option.bind_some]
    · obtain ⟨-, -, -, -, -, -, -, -, -, -, -, -, -, -, -, -, -, -, k18, k19, -⟩ := kc_val
      have w18 : fX12_isWord (3379448 : Int64) N L = some (bI (decide (lT tx m b = 18))) := by have := RT_word hN.2.2.2 (k := 18) (by omega); rw [k18] at this; exact this
      have w19 : fX12_isWord (131360 : Int64) N L = some (bI (decide (lT tx m b = 19))) := by have := RT_word hN.2.2.2 (k := 19) (by omega); rw [k19] at this; exact this
      unfold fX12_readsAll_177 fX12_readsAll_207
      rw [w18, w19, ht, hf, c12]
      cases s0 <;> rfl
  · have hfi : my = false → fi < 12 := fun h => by
      have : fi ≠ 12 := fun e => c12 ⟨h, e⟩
      omega
    have hl : l < 18 := by
      cases my
      · have := hfi rfl; omega
      · have := hmb rfl; omega
    obtain ⟨I1, Lc', I', N', L', v, x1, x2, x3, x4, x5, x6⟩ := j_rule hX d9 sX (s0 := s0) (my := my) (Lc := Lc) hI hN hbm hl g4 hcs g5 g6 g7 g8 hmb g9 hq
    have hC : fX8_readRule (bI my) I Lc D S = some (I', Lc') := by
      rw [← x1]
      unfold fX8_readRule
      rw [e4, ht]
      cases my
      · rw [if_pos hbf, jo_some d9, sX, hdec, hjg, g6, if_pos (show nI fi < (12 : Int32) from nI_lt (b := 12) (hfi rfl) (by omega))]
        cases s0 <;> rfl
      · rw [if_neg hbt]
        cases s0 <;> rfl
    have hR := fun k48 => r_177 (k48 := k48) (l1 := bI p1) (l2 := bI p2) (fi := fi) (mb := mb) (my := my) hN ht (by omega) (fun h => by have := hfi h; omega) g2
    rw [g1] at x2
    refine ⟨I', Lc', hC, CFr_tr (CFr_a hX x3) (CFr_l hX x4 Lc'), ?_⟩
    have hRF : RFr N N' L L' := RFr_tr (RFr_7 (Or.inl rfl) N L _) (RFr_tr (RFr_7 (Or.inr rfl) _ L _) (RFr_l x5))
    rcases x6 with ⟨rfl, b', cs', q', y1, y2, y3, y4, y5, y6, y7, y8, y9, y10, y11⟩ | ⟨rfl, f, y1, y2⟩
    · right
      refine ⟨b', _, _, _, cs', q', N', L', y1, ⟨y2, y3, ls_rule hX hL hfi hmb x3 x4 x5 y4 y5.1 y6 y7.1 y8 y9 y10 y11, y5.2, y7.2, ?_, ?_, ?_, ?_⟩, hRF, fun k48 => ?_⟩
      · rw [x4.2.1 7 (by omega), x3.1 12 (by omega) (by omega) (by omega) (by omega) (by omega) (by omega) (by omega)]; exact h7
      · rw [x4.2.1 8 (by omega), x3.1 12 (by omega) (by omega) (by omega) (by omega) (by omega) (by omega) (by omega)]; exact h8
      · rw [x4.2.2.1 15 (by omega), x3.2.1 15 (by omega), x5.2.1 33 (by omega), ju_row _ _ (by omega), ju_row _ _ (by omega)]; exact h15
      · rw [x4.2.2.1 16 (by omega), x3.2.1 16 (by omega), x5.2.1 34 (by omega), ju_row _ _ (by omega), ju_row _ _ (by omega)]; exact h16
      · rw [hR, x2, Option.bind_some]
        dsimp only
        rw [if_neg (show ¬ nI 1 = (0 : Int32) by decide)]
    · left
      refine ⟨f, N', L', y1, y2, hRF, fun k48 => ?_⟩
      rw [hR, x2, Option.bind_some]
      dsimp only
      rw [if_pos (show nI 0 = (0 : Int32) from rfl)]; rfl
