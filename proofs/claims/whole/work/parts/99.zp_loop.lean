def LOut (X : Nat) (tx : Nat → Nat) (m : Nat) (I : JI) (Lc : JL) (N : JI) (L : JL) (r : Int32) (I' : JI) (Lc' : JL) (N' : JI) (L' : JL) (v : Int32) : Prop := CFr X I I' Lc Lc' ∧ RFr N N' L L' ∧ I' 12 1 = nI 0 ∧ ((v = nI 1 ∧ r = nI 0 ∧ ∃ l fi ff mb cs q, LSt X tx m l fi ff mb cs q I' Lc' N' ∧ cs ≤ 1000 ∧ q ≤ 1000 ∧ N' 66 35 = nI l ∧ (∃ p, jm_b01 (I' X 15) = bI p ∧ N' 66 33 = bI p) ∧ ∃ p, jm_b01 (I' X 16) = bI p ∧ N' 66 34 = bI p) ∨ (v = nI 0 ∧ ∃ f, 1 ≤ f ∧ f < 20000 ∧ r = nI f ∧ N' 66 17 = nI f))
theorem LOut_pre {X : Nat} {tx : Nat → Nat} {m : Nat} {I I1 I' N N1 N' : JI} {Lc Lc1 Lc' L L1 L' : JL} {r v : Int32} (h1 : CFr X I I1 Lc Lc1) (h2 : RFr N N1 L L1) (h : LOut X tx m I1 Lc1 N1 L1 r I' Lc' N' L' v) : LOut X tx m I Lc N L r I' Lc' N' L' v := ⟨CFr_tr h1 h.1, RFr_tr h2 h.2.1, h.2.2⟩
theorem LOut_fl {X : Nat} (hX : X = 44 ∨ X = 55) {tx : Nat → Nat} {m f : Nat} {I I1 N N' : JI} {Lc Lc1 L L' : JL} (h : FL I1 tx m f) (h1 : CFr X I I1 Lc Lc1) (h2 : RFr N N' L L') (h17 : N' 66 17 = nI f) : LOut X tx m I Lc N L (nI f) (j_up I1 12 1 (0 : Int32)) Lc1 N' L' (nI 0) := ⟨CFr_tr h1 (CFr_1 hX I1 _ Lc1), h2, ju_same _ _ _ _, Or.inr ⟨rfl, f, h.2.2.2.2.2.1, h.2.2.2.2.2.2, rfl, h17⟩⟩
theorem LSt_1 {X : Nat} (hX : X = 44 ∨ X = 55) {tx : Nat → Nat} {m l fi ff mb cs q : Nat} {I N : JI} {Lc L : JL} (h : LSt X tx m l fi ff mb cs q I Lc N) (v w : Int32) : LSt X tx m l fi ff mb cs q (j_up I 12 1 v) Lc (j_up N 66 35 w) := by
  obtain ⟨h1, h2, h3, h4, h5, h6, h7, h8, h9, h10, h11, h12⟩ := h
  have e : ∀ a, a ≠ 12 → (j_up I 12 1 v) a = I a := fun a ha => ju_row _ _ ha
  have e' : ∀ a, a ≠ 66 → (j_up N 66 35 w) a = N a := fun a ha => ju_row _ _ ha
  have em : mbq (j_up N 66 35 w) = mbq N := by funext i; unfold mbq; rw [e' 76 (by omega)]
  have ef : ffq (j_up N 66 35 w) = ffq N := by funext i; unfold ffq; rw [e' 75 (by omega), em]
  refine ⟨h1, h2, h3, by rw [e X (by omega)]; exact h4, by rw [e X (by omega)]; exact h5, by rw [e X (by omega)]; exact h6, by rw [e X (by omega)]; exact h7, by rw [e X (by omega)]; exact h8, by rw [ju_cell _ _ (by omega)]; exact h9, by rw [em]; exact h10, by rw [ef]; exact h11, fun i hi => ?_⟩
  obtain ⟨x1, x2, x3, x4, x5, x6, x7⟩ := h12 i hi
  unfold LnR
  rw [e' 75 (by omega), e' 76 (by omega), e (X + 1) (by omega), e (X + 3) (by omega), em, ef]
  refine ⟨x1, x2, x3, x4, x5, fun g => ?_, LW_fr x7 (Nat.le_refl _) (Nat.le_refl _) (by rw [e (X + 7) (by omega)]) (by rw [e (X + 8) (by omega)]) (by rw [e (X + 9) (by omega)]) (fun j _ => by rw [e (X + 10) (by omega)]) (by rw [e' 80 (by omega)]) (by rw [e' 81 (by omega)]) (by rw [e' 82 (by omega)]) (fun j _ => by rw [e' 83 (by omega)])⟩
  have hf := x6 g
  unfold FW at hf ⊢
  rw [e' 77 (by omega), e' 78 (by omega), e' 79 (by omega), e (X + 4) (by omega), e (X + 5) (by omega), e (X + 6) (by omega)]
  exact hf
