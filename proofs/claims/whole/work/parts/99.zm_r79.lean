theorem r_price {k48 : Int32 → Int32 → Int32 → Int32 → JI → JL → Option (Int32 × JI × JL)} {l3 l4 : Int32} {p2 : Bool} {N : JI} {L : JL} : fX12_readsAll_79 k48 (bI false) (bI p2) l3 l4 (bI true) N L = ((fX12_nextToken N L).bind (fun q => fX12_readsWay (nI 1) q.1 q.2)).bind (fun q16 => if q16.1 = 0 then some ((0 : Int32), q16.2.1, q16.2.2) else k48 (bI true) (bI p2) l3 l4 q16.2.1 q16.2.2) := by
  have hbt : ¬ bI true = (0 : Int32) := by decide
  have hbf : bI false = (0 : Int32) := by decide
  unfold fX12_readsAll_79 fX12_readsAll_101 fX12_readsAll_115 fX12_readsAll_125
  rw [Option.bind_assoc, if_neg hbt, if_pos hbf, if_pos hbf, if_neg hbt]
  cases p2
  · rw [if_pos hbf, if_neg hbt]; rfl
  · rw [if_neg hbt]; rfl
theorem r_parts {k48 : Int32 → Int32 → Int32 → Int32 → JI → JL → Option (Int32 × JI × JL)} {l3 l4 : Int32} {p1 : Bool} {N : JI} {L : JL} : fX12_readsAll_79 k48 (bI p1) (bI false) l3 l4 (bI false) N L = ((fX12_nextToken N L).bind (fun q => fX12_readsWay (nI 0) q.1 q.2)).bind (fun q16 => if q16.1 = 0 then some ((0 : Int32), q16.2.1, q16.2.2) else k48 (bI p1) (bI true) l3 l4 q16.2.1 q16.2.2) := by
  have hbt : ¬ bI true = (0 : Int32) := by decide
  have hbf : bI false = (0 : Int32) := by decide
  unfold fX12_readsAll_79 fX12_readsAll_101 fX12_readsAll_115 fX12_readsAll_125
  rw [Option.bind_assoc, if_pos hbf, if_pos hbf]
  cases p1
  · rw [if_pos hbf, if_pos hbf, if_pos hbf, if_pos hbf]; rfl
  · rw [if_neg hbt, if_pos hbf, if_pos hbf]; rfl
theorem r_79f {k48 : Int32 → Int32 → Int32 → Int32 → JI → JL → Option (Int32 × JI × JL)} {l3 l4 l : Int32} {tx : Nat → Nat} {m b : Nat} {N : JI} {L : JL} (hN : LR N L tx m b) : fX12_readsAll_79 k48 (bI true) l l3 l4 (bI true) N L = some (nI 0, j_up N 66 17 (nI (3 + 16 * b)), L) ∧ fX12_readsAll_79 k48 l (bI true) l3 l4 (bI false) N L = some (nI 0, j_up N 66 17 (nI (3 + 16 * b)), L) := by
  have hf : fX12_fails (3 : Int32) N = some (nI 0, j_up N 66 17 (nI (3 + 16 * b))) := LR_fails hN 3
  have hbt : ¬ bI true = (0 : Int32) := by decide
  have hbf : bI false = (0 : Int32) := by decide
  unfold fX12_readsAll_79
  rw [hf]
  refine ⟨?_, ?_⟩
  · rw [if_neg hbt, if_neg hbt]; rfl
  · rw [if_pos hbf, if_neg hbt]; rfl
