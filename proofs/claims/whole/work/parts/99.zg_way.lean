theorem LC_7 {I : JI} {tx : Nat → Nat} {m b k : Nat} (h : LC I tx m b) (hk : 7 ≤ k) (v : Int32) : LC (j_up I 12 k v) tx m b := by
  unfold LC at h ⊢
  rw [ju_row _ _ (show (13 : Nat) ≠ 12 by omega), ju_cell _ _ (show (1 : Nat) ≠ k by omega), ju_cell _ _ (show (2 : Nat) ≠ k by omega), ju_cell _ _ (show (3 : Nat) ≠ k by omega), ju_cell _ _ (show (4 : Nat) ≠ k by omega), ju_cell _ _ (show (5 : Nat) ≠ k by omega), ju_cell _ _ (show (6 : Nat) ≠ k by omega)]
  exact h
def yC (X k0 x0 : Nat) (I I' : JI) : Prop := (∀ a, a ≠ 12 → a ≠ X → I' a = I a) ∧ (∀ k, (k < 2 ∨ 6 < k) → k ≠ k0 → I' 12 k = I 12 k) ∧ ∀ k, k ≠ x0 → I' X k = I X k
def yR (k0 : Nat) (N N' : JI) (L L' : JL) : Prop := (∀ a, a ≠ 66 → N' a = N a) ∧ (∀ k, (k < 12 ∨ 17 < k) → k ≠ k0 → N' 66 k = N 66 k) ∧ ∀ a, a ≠ 66 → L' a = L a
theorem yC_w {X k0 x0 : Nat} (hX : X = 44 ∨ X = 55) {I I' : JI} (h : cW I I') : yC X k0 x0 I I' := ⟨fun a h1 _ => h.1 a h1, fun k hk _ => h.2 k hk, fun k _ => by rw [h.1 X (by omega)]⟩
theorem yC_tr {X k0 x0 : Nat} {I I' I'' : JI} (h : yC X k0 x0 I I') (h' : yC X k0 x0 I' I'') : yC X k0 x0 I I'' := ⟨fun a h1 h2 => (h'.1 a h1 h2).trans (h.1 a h1 h2), fun k h1 h2 => (h'.2.1 k h1 h2).trans (h.2.1 k h1 h2), fun k hk => (h'.2.2 k hk).trans (h.2.2 k hk)⟩
theorem yC_12 {X k0 x0 : Nat} (hX : X = 44 ∨ X = 55) (I : JI) (v : Int32) : yC X k0 x0 I (j_up I 12 k0 v) := ⟨fun a h1 _ => ju_row _ _ h1, fun k _ h2 => ju_cell _ _ h2, fun k _ => by rw [ju_row _ _ (by omega)]⟩
theorem yC_X {X k0 x0 : Nat} (hX : X = 44 ∨ X = 55) (I : JI) (v : Int32) : yC X k0 x0 I (j_up I X x0 v) := ⟨fun a _ h2 => ju_row _ _ h2, fun k _ _ => by rw [ju_row _ _ (by omega)], fun k hk => ju_cell _ _ hk⟩
theorem yR_n {k0 : Nat} {N N' : JI} {L L' : JL} (h : rN N N' L L') : yR k0 N N' L L' := ⟨h.1, fun k hk _ => h.2.1 k (by omega), h.2.2⟩
theorem yR_tr {k0 : Nat} {N N' N'' : JI} {L L' L'' : JL} (h : yR k0 N N' L L') (h' : yR k0 N' N'' L' L'') : yR k0 N N'' L L'' := ⟨fun a h1 => (h'.1 a h1).trans (h.1 a h1), fun k h1 h2 => (h'.2.1 k h1 h2).trans (h.2.1 k h1 h2), fun a ha => (h'.2.2 a ha).trans (h.2.2 a ha)⟩
theorem yR_k {k0 : Nat} (N : JI) (L : JL) (v : Int32) : yR k0 N (j_up N 66 k0 v) L L := ⟨fun a h1 => ju_row _ _ h1, fun k _ h2 => ju_cell _ _ h2, fun _ _ => rfl⟩
theorem yR_f {k0 : Nat} (N : JI) (L : JL) (v : Int32) : yR k0 N (j_up N 66 17 v) L L := ⟨fun a h1 => ju_row _ _ h1, fun k h1 h2 => ju_cell _ _ (by omega), fun _ _ => rfl⟩
/-- the price -/
theorem j_price {X : Nat} (hX : X = 44 ∨ X = 55) {D : JG} {S : JS} (d9 : D 12 9 = some X) (sX : S[X]? = some (4, 17)) {tx : Nat → Nat} {m b : Nat} {I N : JI} {L : JL} (hI : LC I tx m b) (hN : LR N L tx m b) (hbm : b < m) (h7 : jm_b01 (I 12 7) = 0) : ∃ I' N' L' v, fX8_readPrice I D S = some I' ∧ (fX12_nextToken N L).bind (fun q => fX12_readsWay (nI 1) q.1 q.2) = some (v, N', L') ∧ yC X 7 15 I I' ∧ yR 33 N N' L L' ∧ ((v = nI 1 ∧ ∃ b', b < b' ∧ LC I' tx m b' ∧ LR N' L' tx m b' ∧ I' 12 7 = nI 1 ∧ ∃ p, I' X 15 = bI p ∧ N' 66 33 = bI p) ∨ (v = nI 0 ∧ ∃ f, FL I' tx m f ∧ N' 66 17 = nI f)) := by
  obtain ⟨n1, n2⟩ := nxB_ok (tx := tx) hbm
  obtain ⟨I1, a1, a2, a3⟩ := LC_next (LC_7 hI (k := 7) (by omega) (1 : Int32)) hbm
  obtain ⟨N1, L1, r1, r2, r3⟩ := LR_next hN hbm
  have hlt : lT tx m (nxB tx m b) < 127 := lT_lt hI.1
  have hm := hN.1.1
  obtain ⟨-, -, k2, -, -, -, -, -, -, -, -, -, -, -, -, -, -, -, -, -, -, -, -, -, -, k25, k26, k27, -⟩ := kc_val
  have wA : fX12_isWord (315904 : Int64) N1 L1 = some (bI (decide (lT tx m (nxB tx m b) = 2))) := by have := RT_word r3.2.2.2 (k := 2) (by omega); rw [k2] at this; exact this
  have wB : fX12_isWord (404923 : Int64) N1 L1 = some (bI (decide (lT tx m (nxB tx m b) = 25))) := by have := RT_word r3.2.2.2 (k := 25) (by omega); rw [k25] at this; exact this
  have e4 : I1 12 4 = nI (lT tx m (nxB tx m b)) := a3.2.2.2.2.2.1
  have h17 : I1 12 7 = nI 1 := by rw [a2.2 7 (by omega), ju_same]; rfl
  have hjg : ∀ x : Option JI, j_g true x = x := fun x => rfl
  have hdec : decide (some (4, 17) = some ((4, 17) : Nat × Nat)) = true := by decide
  have hC0 : fX8_readPrice I D S = if nI (lT tx m (nxB tx m b)) = (2 : Int32) then (fX8_readPrice_39 (1 : Int32) X I1 D S) else (fX8_readPrice_39 (0 : Int32) X I1 D S) := by
    unfold fX8_readPrice
    rw [if_pos h7, a1, Option.bind_some, jo_some d9, sX, hdec, hjg, e4]
  have h39 : ∀ p : Bool, fX8_readPrice_39 (bI p) X I1 D S = (fX8_want (nI (if p = true then 2 else 25)) (j_up I1 X 15 (bI p))).bind (fun q7 => (fX8_want (59 : Int32) q7).bind (fun q8 => some (q8))) := by
    intro p
    unfold fX8_readPrice_39
    rw [jo_some d9, sX, hdec, hjg, ju_same]
    cases p <;> rfl
  have hR0 : (fX12_nextToken N L).bind (fun q => fX12_readsWay (nI 1) q.1 q.2) = if (lT tx m (nxB tx m b) = 2 ∨ lT tx m (nxB tx m b) = 25) then fX12_readsWay_75 (j_up N1 66 33 (bI (decide (lT tx m (nxB tx m b) = 2)))) L1 else some (nI 0, j_up N1 66 17 (nI (1 + 16 * nxB tx m b)), L1) := by
    have hf : fX12_fails (1 : Int32) N1 = some (nI 0, j_up N1 66 17 (nI (1 + 16 * nxB tx m b))) := LR_fails r3 1
    rw [r1, Option.bind_some]
    unfold fX12_readsWay fX12_readsWay_21 fX12_readsWay_43 fX12_readsWay_58
    dsimp only
    rw [wA, wB, hf]
    by_cases cA : lT tx m (nxB tx m b) = 2
    · rw [if_pos (Or.inl cA), decide_eq_true cA]; rfl
    · by_cases cB : lT tx m (nxB tx m b) = 25
      · rw [if_pos (Or.inr cB), decide_eq_false cA, decide_eq_true cB]; rfl
      · rw [if_neg (show ¬ (lT tx m (nxB tx m b) = 2 ∨ lT tx m (nxB tx m b) = 25) by omega), decide_eq_false cA, decide_eq_false cB]; rfl
  by_cases cAB : lT tx m (nxB tx m b) = 2 ∨ lT tx m (nxB tx m b) = 25
  · rw [if_pos cAB] at hR0
    obtain ⟨p, hp⟩ : ∃ p : Bool, p = decide (lT tx m (nxB tx m b) = 2) := ⟨_, rfl⟩
    have hT : lT tx m (nxB tx m b) = if p = true then 2 else 25 := by
      rcases cAB with h | h
      · rw [hp, decide_eq_true h, if_pos rfl]; exact h
      · rw [hp, decide_eq_false (by omega), if_neg (by decide)]; exact h
    rw [← hp] at hR0
    have hC1 : fX8_readPrice I D S = fX8_readPrice_39 (bI p) X I1 D S := by
      rw [hC0]
      rcases cAB with h | h
      · rw [hp, h]; rfl
      · rw [hp, h]; rfl
    have hbm1 : nxB tx m b < m := lT_33 (tx := tx) (by omega) n2
    obtain ⟨n3, n4⟩ := nxB_ok (tx := tx) hbm1
    obtain ⟨I2, b1, b2, b3⟩ := want_eq (LC_fr (I' := j_up I1 X 15 (bI p)) a3 (ju_row _ _ (by omega)) (ju_row _ _ (by omega))) (by omega) hlt (k := if p = true then 2 else 25) (by split <;> omega) (by split <;> omega)
    have b4 : LC I2 tx m (nxB tx m (nxB tx m b)) := by
      rcases b3 with ⟨-, h⟩ | ⟨h, -⟩
      · exact h
      · exact absurd hT h
    obtain ⟨N2, L2, s1, s2, s3⟩ := LR_next (LR_fr (N' := j_up N1 66 33 (bI p)) r3 (ju_row _ _ (by omega)) (fun k _ _ => ju_cell _ _ (by omega)) rfl) hbm1
    have s59 : fX12_isSign (59 : Int32) N2 = some (bI (decide (lT tx m (nxB tx m (nxB tx m b)) = 59))) := RT_sign s3.2.2.2 s3.1 (c := 59) (by decide)
    have hlt2 : lT tx m (nxB tx m (nxB tx m b)) < 127 := lT_lt hI.1
    obtain ⟨I3, c1, c2, c3⟩ := want_eq b4 (by omega) hlt2 (k := 59) (by omega) (by omega)
    have c1' : fX8_want (59 : Int32) I2 = some I3 := c1
    have hC : fX8_readPrice I D S = some I3 := by rw [hC1, h39, b1, Option.bind_some, c1', Option.bind_some]
    have hyC : yC X 7 15 I I3 := yC_tr (yC_12 hX I _) (yC_tr (yC_w hX (cW_n a2)) (yC_tr (yC_X hX I1 _) (yC_tr (yC_w hX b2) (yC_w hX c2))))
    have hyR : yR 33 N N2 L L2 := yR_tr (yR_n r2) (yR_tr (yR_k N1 L1 _) (yR_n s2))
    unfold fX12_readsWay_75 at hR0
    rw [s1, Option.bind_some] at hR0
    dsimp only at hR0
    rw [s59, Option.bind_some] at hR0
    by_cases c59 : lT tx m (nxB tx m (nxB tx m b)) = 59
    · have hbm2 : nxB tx m (nxB tx m b) < m := lT_33 (tx := tx) (by omega) n4
      obtain ⟨n5, n6⟩ := nxB_ok (tx := tx) hbm2
      obtain ⟨N3, L3, t1, t2, t3⟩ := LR_next s3 hbm2
      rw [decide_eq_true c59, if_neg (show ¬ bI true = (0 : Int32) by decide), t1, Option.bind_some] at hR0
      have c4 : LC I3 tx m (nxB tx m (nxB tx m (nxB tx m b))) := by
        rcases c3 with ⟨-, h⟩ | ⟨h, -⟩
        · exact h
        · exact absurd c59 h
      refine ⟨I3, N3, L3, nI 1, hC, by rw [hR0]; rfl, hyC, yR_tr hyR (yR_n t2), Or.inl ⟨rfl, _, by omega, c4, t3, ?_, p, ?_, ?_⟩⟩
      · rw [c2.2 7 (by omega), b2.2 7 (by omega), ju_row _ _ (by omega)]; exact h17
      · rw [c2.1 X (by omega), b2.1 X (by omega), ju_same]
      · rw [t2.2.1 33 (by omega), s2.2.1 33 (by omega), ju_same]
    · have hf : fX12_fails (1 : Int32) N2 = some (nI 0, j_up N2 66 17 (nI (1 + 16 * nxB tx m (nxB tx m b)))) := LR_fails s3 1
      rw [decide_eq_false c59, if_pos (show bI false = (0 : Int32) by decide), hf, Option.bind_some] at hR0
      have c4 : FL I3 tx m (1 + 16 * nxB tx m (nxB tx m b)) := by
        rcases c3 with ⟨h, -⟩ | ⟨-, h⟩
        · exact absurd h c59
        · exact h
      exact ⟨I3, _, L2, nI 0, hC, by rw [hR0]; rfl, hyC, yR_tr hyR (yR_f N2 L2 _), Or.inr ⟨rfl, _, c4, ju_same _ _ _ _⟩⟩
  · rw [if_neg cAB] at hR0
    have hC1 : fX8_readPrice I D S = fX8_readPrice_39 (bI false) X I1 D S := by
      rw [hC0, if_neg (show ¬ nI (lT tx m (nxB tx m b)) = (2 : Int32) from fun e => cAB (Or.inl ((nI_eq (b := 2) (by omega) (by omega)).mp e)))]; rfl
    obtain ⟨I2, b1, b2, b3⟩ := want_eq (LC_fr (I' := j_up I1 X 15 (bI false)) a3 (ju_row _ _ (by omega)) (ju_row _ _ (by omega))) (by omega) hlt (k := 25) (by omega) (by omega)
    have b4 : FL I2 tx m (1 + 16 * nxB tx m b) := by
      rcases b3 with ⟨h, -⟩ | ⟨-, h⟩
      · exact absurd (Or.inr h) cAB
      · exact h
    obtain ⟨I3, c1, c2, c3⟩ := want_fl b4 (k := 59) (by omega) (by omega)
    have c1' : fX8_want (59 : Int32) I2 = some I3 := c1
    have h39' := h39 false
    rw [if_neg (by decide)] at h39'
    refine ⟨I3, _, L1, nI 0, by rw [hC1, h39', b1, Option.bind_some, c1', Option.bind_some], hR0, yC_tr (yC_12 hX I _) (yC_tr (yC_w hX (cW_n a2)) (yC_tr (yC_X hX I1 _) (yC_tr (yC_w hX b2) (yC_w hX c2)))), yR_tr (yR_n r2) (yR_f N1 L1 _), Or.inr ⟨rfl, _, c3, ju_same _ _ _ _⟩⟩
/-- the parts -/
theorem j_parts {X : Nat} (hX : X = 44 ∨ X = 55) {D : JG} {S : JS} (d9 : D 12 9 = some X) (sX : S[X]? = some (4, 17)) {tx : Nat → Nat} {m b : Nat} {I N : JI} {L : JL} (hI : LC I tx m b) (hN : LR N L tx m b) (hbm : b < m) (h7 : jm_b01 (I 12 8) = 0) : ∃ I' N' L' v, fX8_readParts I D S = some I' ∧ (fX12_nextToken N L).bind (fun q => fX12_readsWay (nI 0) q.1 q.2) = some (v, N', L') ∧ yC X 8 16 I I' ∧ yR 34 N N' L L' ∧ ((v = nI 1 ∧ ∃ b', b < b' ∧ LC I' tx m b' ∧ LR N' L' tx m b' ∧ I' 12 8 = nI 1 ∧ ∃ p, I' X 16 = bI p ∧ N' 66 34 = bI p) ∨ (v = nI 0 ∧ ∃ f, FL I' tx m f ∧ N' 66 17 = nI f)) := by
  obtain ⟨n1, n2⟩ := nxB_ok (tx := tx) hbm
  obtain ⟨I1, a1, a2, a3⟩ := LC_next (LC_7 hI (k := 8) (by omega) (1 : Int32)) hbm
  obtain ⟨N1, L1, r1, r2, r3⟩ := LR_next hN hbm
  have hlt : lT tx m (nxB tx m b) < 127 := lT_lt hI.1
  have hm := hN.1.1
  obtain ⟨-, -, k2, -, -, -, -, -, -, -, -, -, -, -, -, -, -, -, -, -, -, -, -, -, -, k25, k26, k27, -⟩ := kc_val
  have wA : fX12_isWord (276913720 : Int64) N1 L1 = some (bI (decide (lT tx m (nxB tx m b) = 27))) := by have := RT_word r3.2.2.2 (k := 27) (by omega); rw [k27] at this; exact this
  have wB : fX12_isWord (4350799 : Int64) N1 L1 = some (bI (decide (lT tx m (nxB tx m b) = 26))) := by have := RT_word r3.2.2.2 (k := 26) (by omega); rw [k26] at this; exact this
  have e4 : I1 12 4 = nI (lT tx m (nxB tx m b)) := a3.2.2.2.2.2.1
  have h17 : I1 12 8 = nI 1 := by rw [a2.2 8 (by omega), ju_same]; rfl
  have hjg : ∀ x : Option JI, j_g true x = x := fun x => rfl
  have hdec : decide (some (4, 17) = some ((4, 17) : Nat × Nat)) = true := by decide
  have hC0 : fX8_readParts I D S = if nI (lT tx m (nxB tx m b)) = (27 : Int32) then (fX8_readParts_40 (1 : Int32) X I1 D S) else (fX8_readParts_40 (0 : Int32) X I1 D S) := by
    unfold fX8_readParts
    rw [if_pos h7, a1, Option.bind_some, jo_some d9, sX, hdec, hjg, e4]
  have h39 : ∀ p : Bool, fX8_readParts_40 (bI p) X I1 D S = (fX8_want (nI (if p = true then 27 else 26)) (j_up I1 X 16 (bI p))).bind (fun q7 => (fX8_want (59 : Int32) q7).bind (fun q8 => some (q8))) := by
    intro p
    unfold fX8_readParts_40
    rw [jo_some d9, sX, hdec, hjg, ju_same]
    cases p <;> rfl
  have hR0 : (fX12_nextToken N L).bind (fun q => fX12_readsWay (nI 0) q.1 q.2) = if (lT tx m (nxB tx m b) = 27 ∨ lT tx m (nxB tx m b) = 26) then fX12_readsWay_75 (j_up N1 66 34 (bI (decide (lT tx m (nxB tx m b) = 27)))) L1 else some (nI 0, j_up N1 66 17 (nI (1 + 16 * nxB tx m b)), L1) := by
    have hf : fX12_fails (1 : Int32) N1 = some (nI 0, j_up N1 66 17 (nI (1 + 16 * nxB tx m b))) := LR_fails r3 1
    rw [r1, Option.bind_some]
    unfold fX12_readsWay fX12_readsWay_21 fX12_readsWay_43 fX12_readsWay_58
    dsimp only
    rw [wA, wB, hf]
    by_cases cA : lT tx m (nxB tx m b) = 27
    · rw [if_pos (Or.inl cA), decide_eq_true cA]; rfl
    · by_cases cB : lT tx m (nxB tx m b) = 26
      · rw [if_pos (Or.inr cB), decide_eq_false cA, decide_eq_true cB]; rfl
      · rw [if_neg (show ¬ (lT tx m (nxB tx m b) = 27 ∨ lT tx m (nxB tx m b) = 26) by omega), decide_eq_false cA, decide_eq_false cB]; rfl
  by_cases cAB : lT tx m (nxB tx m b) = 27 ∨ lT tx m (nxB tx m b) = 26
  · rw [if_pos cAB] at hR0
    obtain ⟨p, hp⟩ : ∃ p : Bool, p = decide (lT tx m (nxB tx m b) = 27) := ⟨_, rfl⟩
    have hT : lT tx m (nxB tx m b) = if p = true then 27 else 26 := by
      rcases cAB with h | h
      · rw [hp, decide_eq_true h, if_pos rfl]; exact h
      · rw [hp, decide_eq_false (by omega), if_neg (by decide)]; exact h
    rw [← hp] at hR0
    have hC1 : fX8_readParts I D S = fX8_readParts_40 (bI p) X I1 D S := by
      rw [hC0]
      rcases cAB with h | h
      · rw [hp, h]; rfl
      · rw [hp, h]; rfl
    have hbm1 : nxB tx m b < m := lT_33 (tx := tx) (by omega) n2
    obtain ⟨n3, n4⟩ := nxB_ok (tx := tx) hbm1
    obtain ⟨I2, b1, b2, b3⟩ := want_eq (LC_fr (I' := j_up I1 X 16 (bI p)) a3 (ju_row _ _ (by omega)) (ju_row _ _ (by omega))) (by omega) hlt (k := if p = true then 27 else 26) (by split <;> omega) (by split <;> omega)
    have b4 : LC I2 tx m (nxB tx m (nxB tx m b)) := by
      rcases b3 with ⟨-, h⟩ | ⟨h, -⟩
      · exact h
      · exact absurd hT h
    obtain ⟨N2, L2, s1, s2, s3⟩ := LR_next (LR_fr (N' := j_up N1 66 34 (bI p)) r3 (ju_row _ _ (by omega)) (fun k _ _ => ju_cell _ _ (by omega)) rfl) hbm1
    have s59 : fX12_isSign (59 : Int32) N2 = some (bI (decide (lT tx m (nxB tx m (nxB tx m b)) = 59))) := RT_sign s3.2.2.2 s3.1 (c := 59) (by decide)
    have hlt2 : lT tx m (nxB tx m (nxB tx m b)) < 127 := lT_lt hI.1
    obtain ⟨I3, c1, c2, c3⟩ := want_eq b4 (by omega) hlt2 (k := 59) (by omega) (by omega)
    have c1' : fX8_want (59 : Int32) I2 = some I3 := c1
    have hC : fX8_readParts I D S = some I3 := by rw [hC1, h39, b1, Option.bind_some, c1', Option.bind_some]
    have hyC : yC X 8 16 I I3 := yC_tr (yC_12 hX I _) (yC_tr (yC_w hX (cW_n a2)) (yC_tr (yC_X hX I1 _) (yC_tr (yC_w hX b2) (yC_w hX c2))))
    have hyR : yR 34 N N2 L L2 := yR_tr (yR_n r2) (yR_tr (yR_k N1 L1 _) (yR_n s2))
    unfold fX12_readsWay_75 at hR0
    rw [s1, Option.bind_some] at hR0
    dsimp only at hR0
    rw [s59, Option.bind_some] at hR0
    by_cases c59 : lT tx m (nxB tx m (nxB tx m b)) = 59
    · have hbm2 : nxB tx m (nxB tx m b) < m := lT_33 (tx := tx) (by omega) n4
      obtain ⟨n5, n6⟩ := nxB_ok (tx := tx) hbm2
      obtain ⟨N3, L3, t1, t2, t3⟩ := LR_next s3 hbm2
      rw [decide_eq_true c59, if_neg (show ¬ bI true = (0 : Int32) by decide), t1, Option.bind_some] at hR0
      have c4 : LC I3 tx m (nxB tx m (nxB tx m (nxB tx m b))) := by
        rcases c3 with ⟨-, h⟩ | ⟨h, -⟩
        · exact h
        · exact absurd c59 h
      refine ⟨I3, N3, L3, nI 1, hC, by rw [hR0]; rfl, hyC, yR_tr hyR (yR_n t2), Or.inl ⟨rfl, _, by omega, c4, t3, ?_, p, ?_, ?_⟩⟩
      · rw [c2.2 8 (by omega), b2.2 8 (by omega), ju_row _ _ (by omega)]; exact h17
      · rw [c2.1 X (by omega), b2.1 X (by omega), ju_same]
      · rw [t2.2.1 34 (by omega), s2.2.1 34 (by omega), ju_same]
    · have hf : fX12_fails (1 : Int32) N2 = some (nI 0, j_up N2 66 17 (nI (1 + 16 * nxB tx m (nxB tx m b)))) := LR_fails s3 1
      rw [decide_eq_false c59, if_pos (show bI false = (0 : Int32) by decide), hf, Option.bind_some] at hR0
      have c4 : FL I3 tx m (1 + 16 * nxB tx m (nxB tx m b)) := by
        rcases c3 with ⟨h, -⟩ | ⟨-, h⟩
        · exact absurd h c59
        · exact h
      exact ⟨I3, _, L2, nI 0, hC, by rw [hR0]; rfl, hyC, yR_tr hyR (yR_f N2 L2 _), Or.inr ⟨rfl, _, c4, ju_same _ _ _ _⟩⟩
  · rw [if_neg cAB] at hR0
    have hC1 : fX8_readParts I D S = fX8_readParts_40 (bI false) X I1 D S := by
      rw [hC0, if_neg (show ¬ nI (lT tx m (nxB tx m b)) = (27 : Int32) from fun e => cAB (Or.inl ((nI_eq (b := 27) (by omega) (by omega)).mp e)))]; rfl
    obtain ⟨I2, b1, b2, b3⟩ := want_eq (LC_fr (I' := j_up I1 X 16 (bI false)) a3 (ju_row _ _ (by omega)) (ju_row _ _ (by omega))) (by omega) hlt (k := 26) (by omega) (by omega)
    have b4 : FL I2 tx m (1 + 16 * nxB tx m b) := by
      rcases b3 with ⟨h, -⟩ | ⟨-, h⟩
      · exact absurd (Or.inr h) cAB
      · exact h
    obtain ⟨I3, c1, c2, c3⟩ := want_fl b4 (k := 59) (by omega) (by omega)
    have c1' : fX8_want (59 : Int32) I2 = some I3 := c1
    have h39' := h39 false
    rw [if_neg (by decide)] at h39'
    refine ⟨I3, _, L1, nI 0, by rw [hC1, h39', b1, Option.bind_some, c1', Option.bind_some], hR0, yC_tr (yC_12 hX I _) (yC_tr (yC_w hX (cW_n a2)) (yC_tr (yC_X hX I1 _) (yC_tr (yC_w hX b2) (yC_w hX c2)))), yR_tr (yR_n r2) (yR_f N1 L1 _), Or.inr ⟨rfl, _, c3, ju_same _ _ _ _⟩⟩
