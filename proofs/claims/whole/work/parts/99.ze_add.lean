/-- a line is added -/
def ALn (X l cs fi ff mb : Nat) (s0 : Bool) (my : Bool) (I I' : JI) (L L' : JL) : Prop := (∀ a, a ≠ X → a ≠ X + 1 → a ≠ X + 3 → a ≠ X + 5 → a ≠ X + 7 → a ≠ X + 8 → a ≠ X + 9 → I' a = I a) ∧ (∀ k, k < 11 ∨ 14 < k → I' X k = I X k) ∧ (∀ a j, a ≠ X → j ≠ l → I' a j = I a j) ∧ I' (X + 1) l = bI s0 ∧ I' (X + 3) l = (if (s0 && !my) = true then nI ff else -nI 1) ∧ I' (X + 5) l = nI 0 ∧ I' (X + 7) l = nI cs ∧ I' (X + 8) l = nI cs ∧ I' X 11 = nI (l + 1) ∧ I' X 12 = nI (if my = true then fi else fi + 1) ∧ I' X 13 = nI (if (s0 && !my) = true then ff + 1 else ff) ∧ I' X 14 = nI (if my = true then mb + 1 else mb) ∧ (∀ a, a ≠ X + 2 → L' a = L a) ∧ (∀ j, j ≠ l → L' (X + 2) j = L (X + 2) j) ∧ L' (X + 2) l = (if my = true then jm_sets mb else -1)
theorem al_eq {X l cs fi ff mb : Nat} (hX : X = 44 ∨ X = 55) {s0 my : Bool} {I : JI} {L : JL} (hl : l < 18) (e10 : I X 10 = nI cs) (e11 : I X 11 = nI l) (e12 : I X 12 = nI fi) (e13 : I X 13 = nI ff) (e14 : I X 14 = nI mb) (hm : my = true → mb < 6) : ∃ I' L', fX4_addLine X (bI s0) (bI my) I L = some (nI l, I', L') ∧ ALn X l cs fi ff mb s0 my I I' L L' := by
  have hb : decide (jm_b01 (bI s0) = bI s0) = true := by cases s0 <;> decide
  have z0 : nI 0 = 0 := rfl
  have z1 : nI 1 = 1 := rfl
  have ht : ∀ x : Option (Int32 × JI × JL), j_g true x = x := fun x => rfl
  unfold fX4_addLine
  simp only [e11, jg_in hl (show 18 < 2 ^ 31 by decide), nI_clamp (show l < 2 ^ 31 by omega), hb, ht]
  cases my with
  | false =>
    rw [if_pos (show bI false = (0 : Int32) by decide)]
    cases s0 with
    | false =>
      rw [if_pos (show bI false = (0 : Int32) by decide)]
      refine ⟨_, _, rfl, ?_⟩
      unfold ALn
      rcases hX with rfl | rfl
      · refine ⟨fun a h1 h2 h3 h4 h5 h6 h7 => ?_, fun k hk => ?_, fun a j h1 h2 => ?_, ?_, ?_, ?_, ?_, ?_, ?_, ?_, ?_, ?_, fun a ha => ?_, fun j hj => ?_, ?_⟩
        · funext j; simp [j_up, h1, h2, h3, h4, h5, h6, h7]
        · have hk4 : k ≠ 11 ∧ k ≠ 12 ∧ k ≠ 13 ∧ k ≠ 14 := by omega
          simp [j_up, hk4]
        · simp [j_up, h1, h2]
        · simp [j_up]
        · simp [j_up, e13, z1]
        · simp [j_up, z0]
        · simp [j_up, e10]
        · simp [j_up, e10]
        · simp [j_up, e11, nI_1]
        · simp [j_up, e12, nI_1]
        · simp [j_up, e13, nI_1]
        · simp [j_up, e14, nI_1]
        · funext j; simp [j_up, ha]
        · simp [j_up, hj]
        · simp [j_up]
      · refine ⟨fun a h1 h2 h3 h4 h5 h6 h7 => ?_, fun k hk => ?_, fun a j h1 h2 => ?_, ?_, ?_, ?_, ?_, ?_, ?_, ?_, ?_, ?_, fun a ha => ?_, fun j hj => ?_, ?_⟩
        · funext j; simp [j_up, h1, h2, h3, h4, h5, h6, h7]
        · have hk4 : k ≠ 11 ∧ k ≠ 12 ∧ k ≠ 13 ∧ k ≠ 14 := by omega
          simp [j_up, hk4]
        · simp [j_up, h1, h2]
        · simp [j_up]
        · simp [j_up, e13, z1]
        · simp [j_up, z0]
        · simp [j_up, e10]
        · simp [j_up, e10]
        · simp [j_up, e11, nI_1]
        · simp [j_up, e12, nI_1]
        · simp [j_up, e13, nI_1]
        · simp [j_up, e14, nI_1]
        · funext j; simp [j_up, ha]
        · simp [j_up, hj]
        · simp [j_up]
    | true =>
      rw [if_neg (show ¬ bI true = (0 : Int32) by decide)]
      refine ⟨_, _, rfl, ?_⟩
      unfold ALn
      rcases hX with rfl | rfl
      · refine ⟨fun a h1 h2 h3 h4 h5 h6 h7 => ?_, fun k hk => ?_, fun a j h1 h2 => ?_, ?_, ?_, ?_, ?_, ?_, ?_, ?_, ?_, ?_, fun a ha => ?_, fun j hj => ?_, ?_⟩
        · funext j; simp [j_up, h1, h2, h3, h4, h5, h6, h7]
        · have hk4 : k ≠ 11 ∧ k ≠ 12 ∧ k ≠ 13 ∧ k ≠ 14 := by omega
          simp [j_up, hk4]
        · simp [j_up, h1, h2]
        · simp [j_up]
        · simp [j_up, e13, z1]
        · simp [j_up, z0]
        · simp [j_up, e10]
        · simp [j_up, e10]
        · simp [j_up, e11, nI_1]
        · simp [j_up, e12, nI_1]
        · simp [j_up, e13, nI_1]
        · simp [j_up, e14, nI_1]
        · funext j; simp [j_up, ha]
        · simp [j_up, hj]
        · simp [j_up]
      · refine ⟨fun a h1 h2 h3 h4 h5 h6 h7 => ?_, fun k hk => ?_, fun a j h1 h2 => ?_, ?_, ?_, ?_, ?_, ?_, ?_, ?_, ?_, ?_, fun a ha => ?_, fun j hj => ?_, ?_⟩
        · funext j; simp [j_up, h1, h2, h3, h4, h5, h6, h7]
        · have hk4 : k ≠ 11 ∧ k ≠ 12 ∧ k ≠ 13 ∧ k ≠ 14 := by omega
          simp [j_up, hk4]
        · simp [j_up, h1, h2]
        · simp [j_up]
        · simp [j_up, e13, z1]
        · simp [j_up, z0]
        · simp [j_up, e10]
        · simp [j_up, e10]
        · simp [j_up, e11, nI_1]
        · simp [j_up, e12, nI_1]
        · simp [j_up, e13, nI_1]
        · simp [j_up, e14, nI_1]
        · funext j; simp [j_up, ha]
        · simp [j_up, hj]
        · simp [j_up]
  | true =>
    have hm' := hm rfl
    rw [if_neg (show ¬ bI true = (0 : Int32) by decide)]
    have e14' : ∀ J : JI, J X 14 = nI mb → ∀ x : Option (Int32 × JI × JL), j_g (j_in (J X 14) 6) x = x := fun J hJ x => by rw [hJ]; exact jg_in hm' (by decide)
    rw [e14' _ (by rcases hX with rfl | rfl <;> simp [j_up, e14])]
    cases s0 with
    | false =>
      refine ⟨_, _, rfl, ?_⟩
      unfold ALn
      rcases hX with rfl | rfl
      · refine ⟨fun a h1 h2 h3 h4 h5 h6 h7 => ?_, fun k hk => ?_, fun a j h1 h2 => ?_, ?_, ?_, ?_, ?_, ?_, ?_, ?_, ?_, ?_, fun a ha => ?_, fun j hj => ?_, ?_⟩
        · funext j; simp [j_up, h1, h2, h3, h4, h5, h6, h7]
        · have hk4 : k ≠ 11 ∧ k ≠ 12 ∧ k ≠ 13 ∧ k ≠ 14 := by omega
          simp [j_up, hk4]
        · simp [j_up, h1, h2]
        · simp [j_up]
        · simp [j_up, e13, z1]
        · simp [j_up, z0]
        · simp [j_up, e10]
        · simp [j_up, e10]
        · simp [j_up, e11, nI_1]
        · simp [j_up, e12, nI_1]
        · simp [j_up, e13, nI_1]
        · simp [j_up, e14, nI_1]
        · funext j; simp [j_up, ha]
        · simp [j_up, hj]
        · simp [j_up, e14, nI_clamp (show mb < 2 ^ 31 by omega)]
      · refine ⟨fun a h1 h2 h3 h4 h5 h6 h7 => ?_, fun k hk => ?_, fun a j h1 h2 => ?_, ?_, ?_, ?_, ?_, ?_, ?_, ?_, ?_, ?_, fun a ha => ?_, fun j hj => ?_, ?_⟩
        · funext j; simp [j_up, h1, h2, h3, h4, h5, h6, h7]
        · have hk4 : k ≠ 11 ∧ k ≠ 12 ∧ k ≠ 13 ∧ k ≠ 14 := by omega
          simp [j_up, hk4]
        · simp [j_up, h1, h2]
        · simp [j_up]
        · simp [j_up, e13, z1]
        · simp [j_up, z0]
        · simp [j_up, e10]
        · simp [j_up, e10]
        · simp [j_up, e11, nI_1]
        · simp [j_up, e12, nI_1]
        · simp [j_up, e13, nI_1]
        · simp [j_up, e14, nI_1]
        · funext j; simp [j_up, ha]
        · simp [j_up, hj]
        · simp [j_up, e14, nI_clamp (show mb < 2 ^ 31 by omega)]
    | true =>
      refine ⟨_, _, rfl, ?_⟩
      unfold ALn
      rcases hX with rfl | rfl
      · refine ⟨fun a h1 h2 h3 h4 h5 h6 h7 => ?_, fun k hk => ?_, fun a j h1 h2 => ?_, ?_, ?_, ?_, ?_, ?_, ?_, ?_, ?_, ?_, fun a ha => ?_, fun j hj => ?_, ?_⟩
        · funext j; simp [j_up, h1, h2, h3, h4, h5, h6, h7]
        · have hk4 : k ≠ 11 ∧ k ≠ 12 ∧ k ≠ 13 ∧ k ≠ 14 := by omega
          simp [j_up, hk4]
        · simp [j_up, h1, h2]
        · simp [j_up]
        · simp [j_up, e13, z1]
        · simp [j_up, z0]
        · simp [j_up, e10]
        · simp [j_up, e10]
        · simp [j_up, e11, nI_1]
        · simp [j_up, e12, nI_1]
        · simp [j_up, e13, nI_1]
        · simp [j_up, e14, nI_1]
        · funext j; simp [j_up, ha]
        · simp [j_up, hj]
        · simp [j_up, e14, nI_clamp (show mb < 2 ^ 31 by omega)]
      · refine ⟨fun a h1 h2 h3 h4 h5 h6 h7 => ?_, fun k hk => ?_, fun a j h1 h2 => ?_, ?_, ?_, ?_, ?_, ?_, ?_, ?_, ?_, ?_, fun a ha => ?_, fun j hj => ?_, ?_⟩
        · funext j; simp [j_up, h1, h2, h3, h4, h5, h6, h7]
        · have hk4 : k ≠ 11 ∧ k ≠ 12 ∧ k ≠ 13 ∧ k ≠ 14 := by omega
          simp [j_up, hk4]
        · simp [j_up, h1, h2]
        · simp [j_up]
        · simp [j_up, e13, z1]
        · simp [j_up, z0]
        · simp [j_up, e10]
        · simp [j_up, e10]
        · simp [j_up, e11, nI_1]
        · simp [j_up, e12, nI_1]
        · simp [j_up, e13, nI_1]
        · simp [j_up, e14, nI_1]
        · funext j; simp [j_up, ha]
        · simp [j_up, hj]
        · simp [j_up, e14, nI_clamp (show mb < 2 ^ 31 by omega)]
