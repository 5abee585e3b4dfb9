theorem ls_y {X k0 x0 r0 : Nat} (hX : X = 44 ∨ X = 55) (hx : x0 = 15 ∨ x0 = 16) (hr : r0 = 33 ∨ r0 = 34) {tx : Nat → Nat} {m l fi ff mb cs q : Nat} {I I' N N' : JI} {L L' Lc : JL} (h : LSt X tx m l fi ff mb cs q I Lc N) (hC : yC X k0 x0 I I') (hR : yR r0 N N' L L') : LSt X tx m l fi ff mb cs q I' Lc N' := by
  obtain ⟨h1, h2, h3, h4, h5, h6, h7, h8, h9, h10, h11, h12⟩ := h
  have em : mbq N' = mbq N := by funext i; unfold mbq; rw [hR.1 76 (by omega)]
  have ef : ffq N' = ffq N := by funext i; unfold ffq; rw [hR.1 75 (by omega), em]
  refine ⟨h1, h2, h3, by rw [hC.2.2 10 (by omega)]; exact h4, by rw [hC.2.2 11 (by omega)]; exact h5, by rw [hC.2.2 12 (by omega)]; exact h6, by rw [hC.2.2 13 (by omega)]; exact h7, by rw [hC.2.2 14 (by omega)]; exact h8, by rw [hR.2.1 28 (by omega) (by omega)]; exact h9, by rw [em]; exact h10, by rw [ef]; exact h11, fun i hi => ?_⟩
  obtain ⟨x1, x2, x3, x4, x5, x6, x7⟩ := h12 i hi
  unfold LnR
  rw [hR.1 75 (by omega), hR.1 76 (by omega), hC.1 (X + 1) (by omega) (by omega), hC.1 (X + 3) (by omega) (by omega), em, ef]
  refine ⟨x1, x2, x3, x4, x5, fun g => ?_, LW_fr x7 (Nat.le_refl _) (Nat.le_refl _) (by rw [hC.1 (X + 7) (by omega) (by omega)]) (by rw [hC.1 (X + 8) (by omega) (by omega)]) (by rw [hC.1 (X + 9) (by omega) (by omega)]) (fun j _ => by rw [hC.1 (X + 10) (by omega) (by omega)]) (by rw [hR.1 80 (by omega)]) (by rw [hR.1 81 (by omega)]) (by rw [hR.1 82 (by omega)]) (fun j _ => by rw [hR.1 83 (by omega)])⟩
  have hf := x6 g
  unfold FW at hf ⊢
  rw [hR.1 77 (by omega), hR.1 78 (by omega), hR.1 79 (by omega), hC.1 (X + 4) (by omega) (by omega), hC.1 (X + 5) (by omega) (by omega), hC.1 (X + 6) (by omega) (by omega)]
  exact hf
theorem j01 (p : Bool) : jm_b01 (bI p) = bI p := by cases p <;> decide
/-- the price, for the loop -/
theorem j_lprice {X : Nat} (hX : X = 44 ∨ X = 55) {D : JG} {S : JS} (d9 : D 12 9 = some X) (sX : S[X]? = some (4, 17)) {tx : Nat → Nat} {m b l fi ff mb cs q : Nat} {p2 : Bool} {I N : JI} {L Lc : JL} (hS : LPs X tx m b l fi ff mb cs q false p2 I Lc N L) (hbm : b < m) : ∃ I' N' L' v, fX8_readPrice I D S = some I' ∧ CFr X I I' Lc Lc ∧ RFr N N' L L' ∧ (fX12_nextToken N L).bind (fun q => fX12_readsWay (nI 1) q.1 q.2) = some (v, N', L') ∧ ((v = nI 0 ∧ ∃ f, FL I' tx m f ∧ N' 66 17 = nI f) ∨ (v = nI 1 ∧ ∃ b', b < b' ∧ LPs X tx m b' l fi ff mb cs q true p2 I' Lc N' L')) := by
  obtain ⟨hI, hN, hL, hcs, hq, h7, h8, h15, h16⟩ := hS
  obtain ⟨I', N', L', v, x1, x2, x3, x4, x5⟩ := j_price hX d9 sX hI hN hbm (by rw [h7]; decide)
  refine ⟨I', N', L', v, x1, CFr_y hX (Or.inl rfl) (Or.inl rfl) x3 Lc, RFr_y (Or.inl rfl) x4, x2, ?_⟩
  rcases x5 with ⟨e, b', y1, y2, y3, y4, p, y5, y6⟩ | x5
  · refine Or.inr ⟨e, b', y1, y2, y3, ls_y hX (Or.inl rfl) (Or.inl rfl) hL x3 x4, by omega, by omega, by rw [y4]; decide, ?_, ⟨p, by rw [y5]; exact j01 p, y6⟩, ?_⟩
    · rw [x3.2.1 8 (by omega) (by omega)]; exact h8
    · rw [x3.2.2 16 (by omega), x4.2.1 34 (by omega) (by omega)]; exact h16
  · exact Or.inl x5
theorem j_lparts {X : Nat} (hX : X = 44 ∨ X = 55) {D : JG} {S : JS} (d9 : D 12 9 = some X) (sX : S[X]? = some (4, 17)) {tx : Nat → Nat} {m b l fi ff mb cs q : Nat} {p1 : Bool} {I N : JI} {L Lc : JL} (hS : LPs X tx m b l fi ff mb cs q p1 false I Lc N L) (hbm : b < m) : ∃ I' N' L' v, fX8_readParts I D S = some I' ∧ CFr X I I' Lc Lc ∧ RFr N N' L L' ∧ (fX12_nextToken N L).bind (fun q => fX12_readsWay (nI 0) q.1 q.2) = some (v, N', L') ∧ ((v = nI 0 ∧ ∃ f, FL I' tx m f ∧ N' 66 17 = nI f) ∨ (v = nI 1 ∧ ∃ b', b < b' ∧ LPs X tx m b' l fi ff mb cs q p1 true I' Lc N' L')) := by
  obtain ⟨hI, hN, hL, hcs, hq, h7, h8, h15, h16⟩ := hS
  obtain ⟨I', N', L', v, x1, x2, x3, x4, x5⟩ := j_parts hX d9 sX hI hN hbm (by rw [h8]; decide)
  refine ⟨I', N', L', v, x1, CFr_y hX (Or.inr rfl) (Or.inr rfl) x3 Lc, RFr_y (Or.inr rfl) x4, x2, ?_⟩
  rcases x5 with ⟨e, b', y1, y2, y3, y4, p, y5, y6⟩ | x5
  · refine Or.inr ⟨e, b', y1, y2, y3, ls_y hX (Or.inr rfl) (Or.inr rfl) hL x3 x4, by omega, by omega, ?_, by rw [y4]; decide, ?_, ⟨p, by rw [y5]; exact j01 p, y6⟩⟩
    · rw [x3.2.1 7 (by omega) (by omega)]; exact h7
    · rw [x3.2.2 15 (by omega), x4.2.1 33 (by omega) (by omega)]; exact h15
  · exact Or.inl x5
