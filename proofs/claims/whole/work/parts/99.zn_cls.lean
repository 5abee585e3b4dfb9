/-- the class's turn of the loop, by its token -/
theorem c_turn {X : Nat} {D : JG} {S : JS} {tx : Nat → Nat} {m b c n : Nat} {I : JI} {Lc : JL} (hI : LC I tx m b) (hc : c ≤ 1000) : (lT tx m b = 33 → fX8_read_38 X (n + 1) (nI c) I Lc D S = some (nI 0, j_up I 12 1 (0 : Int32), Lc, D)) ∧ (lT tx m b ≠ 33 → lT tx m b ≠ 20 → fX8_read_38 X (n + 1) (nI c) I Lc D S = fX8_read_101 X (fX8_read_38 X n) (nI c) (0 : Int32) I Lc D S) ∧ (lT tx m b = 20 → fX8_read_38 X (n + 1) (nI c) I Lc D S = fX8_read_68 X (fX8_read_38 X n) (nI c) (1 : Int32) I Lc D S) := by
  have hlt : lT tx m b < 127 := lT_lt hI.1
  have e4 : I 12 4 = nI (lT tx m b) := hI.2.2.2.2.2.1
  have c1 : ¬ (1000 : Int32) < nI c := nI_nlt (a := 1000) (b := c) (by omega) (by omega)
  have ne : ∀ k, k < 127 → lT tx m b ≠ k → ¬ nI (lT tx m b) = nI k := fun k hk h e => h ((nI_eq (by omega) (by omega)).mp e)
  refine ⟨fun h => ?_, fun h1 h2 => ?_, fun h => ?_⟩
  · have e6 : (j_up I 12 1 (0 : Int32)) 12 6 = nI 0 := by rw [ju_cell _ _ (by omega)]; exact hI.2.2.2.2.2.2.2
    rw [fX8_read_38, if_neg c1, e4, h, if_pos (by decide), e6]
  · rw [fX8_read_38, if_neg c1, e4, if_neg (show ¬ nI (lT tx m b) = (33 : Int32) from ne 33 (by omega) h1), if_neg (show ¬ nI (lT tx m b) = (20 : Int32) from ne 20 (by omega) h2)]
    unfold fX8_read_68
    rw [if_pos rfl, if_pos rfl]
  · rw [fX8_read_38, if_neg c1, e4, h, if_neg (by decide), if_pos (by decide)]
theorem c_101 {X : Nat} {D : JG} {S : JS} {k : Int32 → JI → JL → JG → JS → Option (Int32 × JI × JL × JG)} {tx : Nat → Nat} {m b c : Nat} {my : Bool} {I : JI} {Lc : JL} (hI : LC I tx m b) : (lT tx m b = 18 ∨ lT tx m b = 19 → fX8_read_101 X k (nI c) (bI my) I Lc D S = (fX8_readRule (bI my) I Lc D S).bind (fun q8 => k (nI (c + 1)) q8.1 q8.2 D S)) ∧ (lT tx m b = 1 → my = false → fX8_read_101 X k (nI c) (bI my) I Lc D S = (fX8_readPrice I D S).bind (fun q8 => k (nI (c + 1)) q8 Lc D S)) ∧ (lT tx m b = 21 → my = false → fX8_read_101 X k (nI c) (bI my) I Lc D S = (fX8_readParts I D S).bind (fun q8 => k (nI (c + 1)) q8 Lc D S)) ∧ (lT tx m b ≠ 18 → lT tx m b ≠ 19 → (my = false → lT tx m b ≠ 1 ∧ lT tx m b ≠ 21) → fX8_read_101 X k (nI c) (bI my) I Lc D S = (fX8_wrong (1 : Int32) I).bind (fun q8 => k (nI (c + 1)) q8 Lc D S)) := by
  have hlt : lT tx m b < 127 := lT_lt hI.1
  have e4 : I 12 4 = nI (lT tx m b) := hI.2.2.2.2.2.1
  have ne : ∀ k, k < 127 → lT tx m b ≠ k → ¬ nI (lT tx m b) = nI k := fun k hk h e => h ((nI_eq (by omega) (by omega)).mp e)
  have hbt : ¬ bI true = (0 : Int32) := by decide
  have hbf : bI false = (0 : Int32) := by decide
  have ec : nI c + (1 : Int32) = nI (c + 1) := nI_add _ 1
  unfold fX8_read_101 fX8_read_146
  rw [e4, ec]
  refine ⟨fun h => ?_, fun h hm => ?_, fun h hm => ?_, fun h1 h2 h3 => ?_⟩
  · rcases h with h | h
    · rw [h, if_pos (show nI 18 = (18 : Int32) from rfl)]
    · rw [h, if_neg (by decide), if_pos (show nI 19 = (19 : Int32) from rfl)]
  · subst hm
    rw [h, if_neg (by decide), if_neg (by decide), if_pos (show nI 1 = (1 : Int32) from rfl), if_pos hbf]
  · subst hm
    rw [h, if_neg (by decide), if_neg (by decide), if_neg (by decide), if_pos (show nI 21 = (21 : Int32) from rfl), if_pos hbf]
  · rw [if_neg (show ¬ nI (lT tx m b) = (18 : Int32) from ne 18 (by omega) h1), if_neg (show ¬ nI (lT tx m b) = (19 : Int32) from ne 19 (by omega) h2)]
    cases my
    · obtain ⟨h4, h5⟩ := h3 rfl
      rw [if_neg (show ¬ nI (lT tx m b) = (1 : Int32) from ne 1 (by omega) h4), if_neg (show ¬ nI (lT tx m b) = (21 : Int32) from ne 21 (by omega) h5)]
    · rw [if_neg hbt, if_neg hbt]
      by_cases g1 : nI (lT tx m b) = (1 : Int32)
      · rw [if_pos g1]
        by_cases g2 : nI (lT tx m b) = (21 : Int32)
        · rw [if_pos g2]
        · rw [if_neg g2]
      · rw [if_neg g1]
        by_cases g2 : nI (lT tx m b) = (21 : Int32)
        · rw [if_pos g2]
        · rw [if_neg g2]
