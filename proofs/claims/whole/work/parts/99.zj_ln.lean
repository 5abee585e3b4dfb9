def LPs (X : Nat) (tx : Nat → Nat) (m b l fi ff mb cs q : Nat) (p1 p2 : Bool) (I : JI) (Lc : JL) (N : JI) (L : JL) : Prop := LC I tx m b ∧ LR N L tx m b ∧ LSt X tx m l fi ff mb cs q I Lc N ∧ cs ≤ b ∧ q ≤ b ∧ jm_b01 (I 12 7) = bI p1 ∧ jm_b01 (I 12 8) = bI p2 ∧ (∃ p, jm_b01 (I X 15) = bI p ∧ N 66 33 = bI p) ∧ ∃ p, jm_b01 (I X 16) = bI p ∧ N 66 34 = bI p
/-- the reference at a rule's word -/
theorem r_177 {tx : Nat → Nat} {m b fi mb : Nat} {s0 my : Bool} {N : JI} {L : JL} {k48 : Int32 → Int32 → Int32 → Int32 → JI → JL → Option (Int32 × JI × JL)} {l1 l2 : Int32} (hN : LR N L tx m b) (ht : lT tx m b = if s0 = true then 18 else 19) (hfm : fi + mb < 18) (hfi : my = false → fi ≠ 12) (hf12 : fi ≤ 12) : fX12_readsAll_177 k48 l1 l2 (nI fi) (nI mb) (bI my) N L = ((fX12_nextToken (j_up (j_up N 75 (18 + (fi + mb)) (bI !s0)) 76 (18 + (fi + mb)) (bI my)) L).bind (fun q17 => if bI s0 = 0 then fX12_readsWhen (nI (18 + (fi + mb))) q17.1 q17.2 else fX12_readsFirst (nI (18 + (fi + mb))) q17.1 q17.2)).bind (fun q => if q.1 = 0 then some ((0 : Int32), q.2.1, q.2.2) else k48 l1 l2 (nI (if my = true then fi else fi + 1)) (nI (if my = true then mb + 1 else mb)) q.2.1 q.2.2) := by
  obtain ⟨-, -, -, -, -, -, -, -, -, -, -, -, -, -, -, -, -, -, k18, k19, -⟩ := kc_val
  have w18 : fX12_isWord (3379448 : Int64) N L = some (bI (decide (lT tx m b = 18))) := by have := RT_word hN.2.2.2 (k := 18) (by omega); rw [k18] at this; exact this
  have w19 : fX12_isWord (131360 : Int64) N L = some (bI (decide (lT tx m b = 19))) := by have := RT_word hN.2.2.2 (k := 19) (by omega); rw [k19] at this; exact this
  have hbt : ¬ bI true = (0 : Int32) := by decide
  have hbf : bI false = (0 : Int32) := by decide
  have h207 : fX12_readsAll_177 k48 l1 l2 (nI fi) (nI mb) (bI my) N L = fX12_readsAll_224 k48 l1 l2 (nI fi) (nI mb) (bI my) (bI s0) N L := by
    have h7 : ∀ x, fX12_readsAll_207 k48 l1 l2 (nI fi) (nI mb) (bI my) x N L = fX12_readsAll_224 k48 l1 l2 (nI fi) (nI mb) (bI my) x N L := by
      intro x
      unfold fX12_readsAll_207
      cases my
      · rw [if_pos hbf, if_neg (show ¬ nI fi = (12 : Int32) from fun e => hfi rfl ((nI_eq (b := 12) (by omega) (by omega)).mp e))]
      · rw [if_neg hbt]
    unfold fX12_readsAll_177
    rw [w18, w19, ht]
    cases s0
    · show fX12_readsAll_207 k48 l1 l2 (nI fi) (nI mb) (bI my) (bI false) N L = _
      rw [h7]
    · show fX12_readsAll_207 k48 l1 l2 (nI fi) (nI mb) (bI my) (bI true) N L = _
      rw [h7]
  have eidx : ((18 : Int32) + nI fi) + nI mb = nI (18 + (fi + mb)) := by
    rw [show (18 : Int32) = nI 18 from rfl, nI_add, nI_add, Nat.add_assoc]
  have hb : decide (jm_b01 (bI my) = bI my) = true := by cases my <;> decide
  have ht' : ∀ x : Option (Int32 × JI × JL), j_g true x = x := fun x => rfl
  have h302 : ∀ (N' : JI) (L' : JL), (if bI my = 0 then (fX12_readsAll_302 k48 l1 l2 (nI mb) (bI my) (1 : Int32) (nI fi) N' L') else (fX12_readsAll_302 k48 l1 l2 (nI mb) (bI my) (0 : Int32) (nI fi) N' L')) = k48 l1 l2 (nI (if my = true then fi else fi + 1)) (nI (if my = true then mb + 1 else mb)) N' L' := by
    intro N' L'
    unfold fX12_readsAll_302
    cases my
    · rw [if_pos hbf, if_pos hbf, show nI fi + (1 : Int32) = nI (fi + 1) from nI_add _ 1, show nI mb + (0 : Int32) = nI mb from nI_add mb 0]; rfl
    · rw [if_neg hbt, if_neg hbt, show nI mb + (1 : Int32) = nI (mb + 1) from nI_add _ 1, show nI fi + (0 : Int32) = nI fi from nI_add fi 0]; rfl
  rw [h207]
  unfold fX12_readsAll_224 fX12_readsAll_249
  rw [eidx]
  simp only [jg_in (show 18 + (fi + mb) < 36 by omega) (show 36 < 2 ^ 31 by decide), nI_clamp (show 18 + (fi + mb) < 2 ^ 31 by omega), hb, ht', h302]
  cases s0
  · rw [if_pos hbf, Option.bind_assoc]
    simp only [hbf, if_true]
    rfl
  · rw [if_neg hbt, Option.bind_assoc]
    simp only [hbt, if_false]
    rfl
