/-! ===== the lines of a law ===== -/
theorem seg_mem {R : Nat → Int32} : ∀ (l : List Nat) (c k : Nat), seg R c l → k ∈ l → ∃ j, c ≤ j ∧ j < c + l.length ∧ R j = nI k := by
  intro l
  induction l with
  | nil => intro c k _ h; exact absurd h (by simp)
  | cons a l ih =>
    intro c k hs h
    rw [List.length_cons]
    rcases List.mem_cons.mp h with h | h
    · exact ⟨c, Nat.le_refl _, by omega, by rw [h]; exact hs.1⟩
    · obtain ⟨j, j1, j2, j3⟩ := ih (c + 1) k hs.2 h
      exact ⟨j, by omega, by omega, j3⟩
def ecF (X l : Nat) (I I' : JI) : Prop := (∀ a, a ≠ X + 8 → a ≠ X + 9 → I' a = I a) ∧ ∀ j, j ≠ l → I' (X + 8) j = I (X + 8) j ∧ I' (X + 9) j = I (X + 9) j
theorem ec_17 {X l c : Nat} (hl : l < 18) (hc : c ≤ 1000) : ∀ e a, a + e = c → ∀ n, e < n → ∀ I, I X 10 = nI c → ∃ I', fX4_endCondition_17 X n (nI l) (nI a) I = some I' ∧ (∀ r, r ≠ X + 9 → I' r = I r) ∧ (∀ j, j ≠ l → I' (X + 9) j = I (X + 9) j) ∧ (jm_b01 (I' (X + 9) l) = nI 0 → jm_b01 (I (X + 9) l) = nI 0 ∧ ∀ j, a ≤ j → j < c → ¬ ((10009 : Int32) ≤ I (X + 10) j ∧ I (X + 10) j ≤ (10012 : Int32))) := by
  intro e
  induction e with
  | zero =>
    intro a ha n hn I e10
    obtain ⟨n', rfl⟩ := suc_of hn
    refine ⟨I, ?_, fun _ _ => rfl, fun _ _ => rfl, fun h => ⟨h, fun j j1 j2 => absurd j2 (by omega)⟩⟩
    rw [fX4_endCondition_17, e10, if_pos (nI_le (by omega) (by omega))]
  | succ e ih =>
    intro a ha n hn I e10
    obtain ⟨n', rfl⟩ := suc_of hn
    have c1 : ¬ nI c ≤ nI a := nI_ge (a := a) (b := c) (by omega) (by omega)
    have e54 : ∀ s0 : Int32, ∃ v : Int32, fX4_endCondition_54 X (fX4_endCondition_17 X n') (nI l) (nI a) s0 I = fX4_endCondition_17 X n' (nI l) (nI (a + 1)) (j_up I (X + 9) l v) ∧ (jm_b01 v = nI 0 → jm_b01 (I (X + 9) l) = nI 0 ∧ s0 = 0) := by
      intro s0
      unfold fX4_endCondition_54
      rw [jg_in hl (by decide), nI_clamp (by omega), show nI a + (1 : Int32) = nI (a + 1) from nI_add _ 1]
      by_cases g1 : jm_b01 (I (X + 9) l) = 0
      · rw [if_pos g1]
        by_cases g2 : s0 = 0
        · rw [if_pos g2, jg_in hl (by decide)]
          exact ⟨0, rfl, fun _ => ⟨g1, g2⟩⟩
        · rw [if_neg g2, jg_in hl (by decide)]
          exact ⟨1, rfl, fun h => absurd h (by decide)⟩
      · rw [if_neg g1, jg_in hl (by decide)]
        exact ⟨1, rfl, fun h => absurd h (by decide)⟩
    have go : ∀ s0 : Int32, (s0 = 0 → ¬ ((10009 : Int32) ≤ I (X + 10) a ∧ I (X + 10) a ≤ (10012 : Int32))) → ∃ I', fX4_endCondition_54 X (fX4_endCondition_17 X n') (nI l) (nI a) s0 I = some I' ∧ (∀ r, r ≠ X + 9 → I' r = I r) ∧ (∀ j, j ≠ l → I' (X + 9) j = I (X + 9) j) ∧ (jm_b01 (I' (X + 9) l) = nI 0 → jm_b01 (I (X + 9) l) = nI 0 ∧ ∀ j, a ≤ j → j < c → ¬ ((10009 : Int32) ≤ I (X + 10) j ∧ I (X + 10) j ≤ (10012 : Int32))) := by
      intro s0 hs0
      obtain ⟨v, v1, v2⟩ := e54 s0
      obtain ⟨I', h1, h2, h3, h4⟩ := ih (a + 1) (by omega) n' (by omega) (j_up I (X + 9) l v) (by rw [ju_row _ _ (by omega)]; exact e10)
      refine ⟨I', by rw [v1, h1], fun r hr => by rw [h2 r hr, ju_row _ _ hr], fun j hj => by rw [h3 j hj, ju_cell _ _ hj], fun h => ?_⟩
      obtain ⟨h5, h6⟩ := h4 h
      rw [ju_same] at h5
      obtain ⟨v3, v4⟩ := v2 h5
      refine ⟨v3, fun j j1 j2 => ?_⟩
      by_cases cj : j = a
      · rw [cj]; exact hs0 v4
      · have := h6 j (by omega) j2
        rw [ju_row _ _ (by omega)] at this
        exact this
    rw [fX4_endCondition_17, e10, if_neg c1, jg_in (show a < 1000 by omega) (by decide), nI_clamp (by omega)]
    by_cases g1 : I (X + 10) a < (10009 : Int32)
    · rw [if_pos g1]
      exact go 0 (fun _ h => absurd h.1 (by rw [Int32.not_le]; exact g1))
    · rw [if_neg g1, jg_in (show a < 1000 by omega) (by decide)]
      by_cases g2 : (10012 : Int32) < I (X + 10) a
      · rw [if_pos g2]
        exact go 0 (fun _ h => absurd h.2 (by rw [Int32.not_le]; exact g2))
      · rw [if_neg g2]
        exact go 1 (fun h => absurd h (by decide))
theorem ec_eq {X l c a : Nat} {I : JI} (hl : l < 18) (hc : c ≤ 1000) (hac : a ≤ c) (e10 : I X 10 = nI c) (e7 : I (X + 7) l = nI a) : ∃ I', fX4_endCondition X (nI l) I = some I' ∧ ecF X l I I' ∧ I' (X + 8) l = nI c ∧ (jm_b01 (I' (X + 9) l) = nI 0 → ∀ j, a ≤ j → j < c → ¬ ((10009 : Int32) ≤ I (X + 10) j ∧ I (X + 10) j ≤ (10012 : Int32))) := by
  obtain ⟨I', h1, h2, h3, h4⟩ := ec_17 (X := X) hl hc (c - a) a (by omega) 100000 (by omega) (j_up I (X + 8) l (nI c)) (by rw [ju_row _ _ (by omega)]; exact e10)
  refine ⟨I', ?_, ⟨fun r r1 r2 => by rw [h2 r r2, ju_row _ _ r1], fun j hj => ⟨by rw [h2 _ (by omega), ju_cell _ _ hj], by rw [h3 j hj, ju_row _ _ (by omega)]⟩⟩, by rw [h2 _ (by omega), ju_same], fun h j j1 j2 => ?_⟩
  · unfold fX4_endCondition
    rw [jg_in hl (by decide), jg_in hl (by decide), nI_clamp (by omega), e10, ju_row _ _ (show X + 7 ≠ X + 8 by omega), e7, h1]
  · have := (h4 h).2 j j1 j2
    rw [ju_row _ _ (by omega)] at this
    exact this
