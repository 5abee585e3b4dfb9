/-- the reference's turn of the loop, by its token -/
theorem r_turn {tx : Nat → Nat} {m b n mb : Nat} {l1 l2 l3 : Int32} {N : JI} {L : JL} (hN : LR N L tx m b) (hmb : mb ≤ 6) : (lT tx m b = 33 → fX12_readsAll_48 (n + 1) l1 l2 l3 (nI mb) N L = fX12_readsAll_322 l3 (nI mb) N L) ∧ (lT tx m b = 1 → fX12_readsAll_48 (n + 1) l1 l2 l3 (nI mb) N L = fX12_readsAll_79 (fX12_readsAll_48 n) l1 l2 l3 (nI mb) (bI true) N L) ∧ (lT tx m b = 21 → fX12_readsAll_48 (n + 1) l1 l2 l3 (nI mb) N L = fX12_readsAll_79 (fX12_readsAll_48 n) l1 l2 l3 (nI mb) (bI false) N L) ∧ (lT tx m b = 20 → mb = 6 → fX12_readsAll_48 (n + 1) l1 l2 l3 (nI mb) N L = some (nI 0, j_up N 66 17 (nI (5 + 16 * b)), L)) ∧ (lT tx m b = 20 → mb < 6 → fX12_readsAll_48 (n + 1) l1 l2 l3 (nI mb) N L = (fX12_nextToken N L).bind (fun q5 => fX12_readsAll_177 (fX12_readsAll_48 n) l1 l2 l3 (nI mb) (bI true) q5.1 q5.2)) ∧ (lT tx m b ≠ 33 → lT tx m b ≠ 1 → lT tx m b ≠ 21 → lT tx m b ≠ 20 → fX12_readsAll_48 (n + 1) l1 l2 l3 (nI mb) N L = fX12_readsAll_177 (fX12_readsAll_48 n) l1 l2 l3 (nI mb) (bI false) N L) := by
  obtain ⟨-, k1, -, -, -, -, -, -, -, -, -, -, -, -, -, -, -, -, -, -, k20, k21, -⟩ := kc_val
  have w1 : fX12_isWord (8863997 : Int64) N L = some (bI (decide (lT tx m b = 1))) := by have := RT_word hN.2.2.2 (k := 1) (by omega); rw [k1] at this; exact this
  have w20 : fX12_isWord (6946700 : Int64) N L = some (bI (decide (lT tx m b = 20))) := by have := RT_word hN.2.2.2 (k := 20) (by omega); rw [k20] at this; exact this
  have w21 : fX12_isWord (8536420 : Int64) N L = some (bI (decide (lT tx m b = 21))) := by have := RT_word hN.2.2.2 (k := 21) (by omega); rw [k21] at this; exact this
  have h0 := RT_zero hN.2.2.2
  have hf : fX12_fails (5 : Int32) N = some (nI 0, j_up N 66 17 (nI (5 + 16 * b))) := LR_fails hN 5
  have hbt : ¬ bI true = (0 : Int32) := by decide
  have hbf : bI false = (0 : Int32) := by decide
  refine ⟨fun h => ?_, fun h => ?_, fun h => ?_, fun h h6 => ?_, fun h h6 => ?_, fun g1 g2 g3 g4 => ?_⟩
  · rw [fX12_readsAll_48, if_pos (by rw [h0]; exact h)]
  · rw [fX12_readsAll_48, if_neg (by rw [h0]; omega), w1, decide_eq_true h, Option.bind_some, if_neg hbt]
  · rw [fX12_readsAll_48, if_neg (by rw [h0]; omega), w1, decide_eq_false (show ¬ lT tx m b = 1 by omega), Option.bind_some, if_pos hbf, w21, decide_eq_true h, Option.bind_some, if_neg hbt]
  · rw [fX12_readsAll_48, if_neg (by rw [h0]; omega), w1, decide_eq_false (show ¬ lT tx m b = 1 by omega), Option.bind_some, if_pos hbf, w21, decide_eq_false (show ¬ lT tx m b = 21 by omega), Option.bind_some, if_pos hbf, w20, decide_eq_true h, Option.bind_some, if_neg hbt, h6, if_pos (show nI 6 = (6 : Int32) from rfl), hf, Option.bind_some]; rfl
  · rw [fX12_readsAll_48, if_neg (by rw [h0]; omega), w1, decide_eq_false (show ¬ lT tx m b = 1 by omega), Option.bind_some, if_pos hbf, w21, decide_eq_false (show ¬ lT tx m b = 21 by omega), Option.bind_some, if_pos hbf, w20, decide_eq_true h, Option.bind_some, if_neg hbt, if_neg (show ¬ nI mb = (6 : Int32) from fun e => absurd ((nI_eq (b := 6) (by omega) (by omega)).mp e) (by omega))]
  · rw [fX12_readsAll_48, if_neg (by rw [h0]; exact g1), w1, decide_eq_false g2, Option.bind_some, if_pos hbf, w21, decide_eq_false g3, Option.bind_some, if_pos hbf, w20, decide_eq_false g4, Option.bind_some, if_pos hbf]
