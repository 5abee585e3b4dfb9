theorem aLp_cc {tx : Nat → Nat} {m : Nat} {rc : Nat → AR} {x : Nat} : ∀ n acc, 1 ≤ acc.2.2.1.length → (aLp tx m rc x n acc).1 = 0 → 1 ≤ (aLp tx m rc x n acc).2.2.1.length := by
  intro n
  induction n with
  | zero => intro acc h _; exact h
  | succ n ih =>
    intro acc h h0
    rw [aLp] at h0 ⊢
    by_cases c : lev (lT tx m acc.2.1) = x
    · rw [if_pos c] at h0 ⊢
      by_cases r0 : (rc (nxB tx m acc.2.1)).1 = 0
      · rw [aBd_0 r0] at h0 ⊢
        refine ih _ ?_ h0
        show 1 ≤ (acc.2.2.1 ++ ((rc (nxB tx m acc.2.1)).2.2.1 ++ [20000 + lT tx m acc.2.1])).length
        rw [List.length_append]
        omega
      · rw [aBd_n r0] at h0
        exact absurd h0 r0
    · rw [if_neg c] at h0 ⊢
      exact h
theorem aR_cc {tx : Nat → Nat} {m : Nat} : ∀ z w x y b, (aR tx m z w x y b).1 = 0 → 1 ≤ (aR tx m z w x y b).2.2.1.length := by
  intro z
  induction z with
  | zero => intro w x y b h; rw [aR] at h; exact absurd h (by decide)
  | succ z ih =>
    intro w x y b h
    rw [aR] at h ⊢
    by_cases cw : w = 0
    · rw [if_pos cw] at h ⊢
      by_cases cx : x < 4
      · rw [if_pos cx] at h ⊢
        by_cases r0 : (aR tx m z 0 (x + 1) y b).1 = 0
        · rw [aBd_0 r0] at h ⊢
          exact aLp_cc _ _ (ih 0 (x + 1) y b r0) h
        · rw [aBd_n r0] at h
          exact absurd h r0
      · rw [if_neg cx] at h ⊢
        exact ih 1 y 0 b h
    · rw [if_neg cw] at h ⊢
      unfold aPc at h ⊢
      split at h
      · exact absurd (show 1 + 16 * b = 0 from h) (by omega)
      · rename_i c1
        rw [if_neg c1]
        split at h
        · exact absurd (show 5 + 16 * b = 0 from h) (by omega)
        · rename_i c2
          rw [if_neg c2]
          split at h
          · rename_i c3; rw [if_pos c3]; exact Nat.le_refl _
          · rename_i c3
            rw [if_neg c3]
            split at h
            · rename_i c4; rw [if_pos c4]; exact Nat.le_refl _
            · rename_i c4
              rw [if_neg c4]
              split at h
              · rename_i c5
                rw [if_pos c5]
                by_cases r0 : (aR tx m z 1 (x + 1) 0 (nxB tx m b)).1 = 0
                · rw [aBd_0 r0]
                  show 1 ≤ ((aR tx m z 1 (x + 1) 0 (nxB tx m b)).2.2.1 ++ [20030]).length
                  rw [List.length_append, List.length_singleton]; omega
                · rw [aBd_n r0] at h; exact absurd h r0
              · rename_i c5
                rw [if_neg c5]
                by_cases r0 : (aR tx m z 0 0 (x + 1) (nxB tx m b)).1 = 0
                · rw [aBd_0 r0] at h ⊢
                  split at h
                  · rename_i c6
                    rw [if_pos c6]
                    exact ih 0 0 (x + 1) _ r0
                  · exact absurd (show 1 + 16 * (aR tx m z 0 0 (x + 1) (nxB tx m b)).2.1 = 0 from h) (by omega)
                · rw [aBd_n r0] at h; exact absurd h r0
/-- a line's condition, as both keep it -/
theorem ev_end {tx : Nat → Nat} {m z b : Nat} {X i cf c0 : Nat} {M : JI} (hX : X = 44 ∨ X = 55) (hi : i < 18) (h0 : (aR tx m z 0 0 0 b).1 = 0) (e7 : M (X + 7) i = nI cf) (e8 : M (X + 8) i = nI (cf + (aR tx m z 0 0 0 b).2.2.1.length)) (h8 : cf + (aR tx m z 0 0 0 b).2.2.1.length ≤ 1000) (hc : seg (M (X + 10)) cf (aR tx m z 0 0 0 b).2.2.1) (e81 : M 81 i = nI c0) (e82 : M 82 i = nI (c0 + (aR tx m z 0 0 0 b).2.2.2.1.length)) (h82 : c0 + (aR tx m z 0 0 0 b).2.2.2.1.length ≤ 1000) (hr : seg (M 83) c0 (aR tx m z 0 0 0 b).2.2.2.1) (hp : jm_b01 (M (X + 9) i) = nI 0 → ∀ k, k ∈ (aR tx m z 0 0 0 b).2.2.1 → ¬ (10009 ≤ k ∧ k ≤ 10012)) : M (X + 7) i ≠ M (X + 8) i ∧ ∃ E, lwE X M i E := by
  obtain ⟨V, a1, a2, a3⟩ := ev_all (tx := tx) (m := m) z 0 0 0 b (Or.inl ⟨rfl, by omega⟩) (by omega) (by omega) h0
  have hl := aR_cc z 0 0 0 b h0
  rw [if_pos rfl] at a2
  generalize aR tx m z 0 0 0 b = r at *
  refine ⟨?_, V, fun N D S hN hD hS => ?_, fun N h81 h82' h83 => ?_, a3.1, fun hb => a3.2 (hp hb)⟩
  · rw [e7, e8]
    intro e
    have := (nI_eq (by omega) (by omega)).mp e
    omega
  · obtain ⟨r', b1, b2, b3⟩ := a1 X N D S 0 cf (cf + r.2.2.1.length) hX hD hS (by rw [hN]; exact hc) (Nat.le_refl _) h8 (by rw [use_0]; omega)
    refine ⟨r', ?_⟩
    unfold fX3_value
    rw [e7, e8, show (100000 : Nat) = (99999 - r.2.2.1.length + 1) + r.2.2.1.length by omega, show (0 : Int32) = nI 0 from rfl, b1, fX3_value_5, if_pos (nI_le (Nat.le_refl _) (by omega)), show (0 : Int32) = nI 0 from rfl, jg_in (show 0 < 64 by omega) (by decide), nI_clamp (by omega), jr_at, b2]
  · have hO : dF N (opS N 0) 0 := dF_op (dF_rfl N 0)
    have hs : seg (opS N 0 83) c0 r.2.2.2.1 := by
      rw [hO.1 83 (by omega)]
      exact seg_cong _ _ (fun j j1 j2 => h83 j (by omega)) hr
    obtain ⟨N2, b1, b2, b3⟩ := a2 i c0 (c0 + r.2.2.2.1.length) (opS N 0) (by omega) (by rw [hO.1 82 (by omega), h82']; exact e82) (by omega) hs (Nat.le_refl _) (Or.inl rfl) (by
      unfold opS
      refine ⟨fun _ => ?_, fun _ => ⟨?_, ?_⟩, fun _ => ?_, fun _ => ?_⟩ <;> simp [j_up])
    have h95 : f95 (opS N 0) = fun k => N 95 (k + 1) := by unfold f95; rw [hO.1 95 (by omega)]
    rw [h95] at b3
    have b3' : cKep N2 0 = V (fun k => N 95 (k + 1)) := b3
    have hT : dF N2 (teS N2 0) 0 := dF_te (dF_rfl N2 0)
    refine ⟨teS N2 0, ?_, fun a ha => by rw [hT.1 a ha, b2.1 a ha, hO.1 a ha]⟩
    unfold fX12_worth
    have eo : fX12_opens (0 : Int32) N = some (opS N 0) := op_eq (d := 0) (by omega)
    have et : fX12_tests (0 : Int32) N2 = some (teS N2 0) := te_eq (d := 0) (by omega)
    rw [eo, Option.bind_some, jg_in (show i < 36 by omega) (by decide), nI_clamp (by omega), hO.1 81 (by omega), h81, e81, show (100000 : Nat) = (99999 - r.2.2.2.1.length + 1) + r.2.2.2.1.length by omega, show (0 : Int32) = nI 0 from rfl, b1, fX12_worth_14, jg_in (show i < 36 by omega) (by decide), nI_clamp (by omega), b2.1 82 (by omega), hO.1 82 (by omega), h82', e82, if_pos (nI_le (Nat.le_refl _) (by omega))]
    unfold fX12_worth_335
    rw [et, Option.bind_some, show (0 : Int32) = nI 0 from rfl, jg_in (show 0 < 7 by omega) (by decide), nI_clamp (by omega), (te_r N2 0).1, b3']
