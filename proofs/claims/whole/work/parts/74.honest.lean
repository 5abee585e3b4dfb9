theorem ob_far2 {n : Nat} {D42 D43 D31 : Nat → Option Nat} {S : JS} (h16 : vOb n D42 D43 D31 S) {s s' b b' : Nat} (hs : s < 50) (hs' : s' < 50) (hne : s' ≠ s) (hb : slA D42 D43 D31 s = some b) (hb' : slA D42 D43 D31 s' = some b') : ∀ i j, i < slN s → j < slN s' → b' + j ≠ b + i := by
  intro i j hi hj
  rcases h16.2.2.2.2 s' s b' b hs' hs hne hb' hb with h | h <;> omega
theorem sl31 {D42 D43 D31 : Nat → Option Nat} {k b : Nat} (h : D31 k = some b) : slA D42 D43 D31 (44 + k) = some b := by
  unfold slA; rw [if_neg (by omega), if_neg (by omega), show 44 + k - 44 = k by omega]; exact h
theorem sl43 {D42 D43 D31 : Nat → Option Nat} {k b : Nat} (hk : k < 4) (h : D43 k = some b) : slA D42 D43 D31 (40 + k) = some b := by
  unfold slA; rw [if_neg (by omega), if_pos (by omega), show 40 + k - 40 = k by omega]; exact h
theorem sl42 {D42 D43 D31 : Nat → Option Nat} {k b : Nat} (hk : k < 40) (h : D42 k = some b) : slA D42 D43 D31 k = some b := by
  unfold slA; rw [if_pos hk]; exact h
theorem n31 (k : Nat) : slN (44 + k) = 1 := by unfold slN; rw [if_neg (by omega), if_neg (by omega)]
theorem n43 {k : Nat} (hk : k < 4) : slN (40 + k) = 7 := by unfold slN; rw [if_neg (by omega), if_pos (by omega)]
theorem n42 {k : Nat} (hk : k < 40) : slN k = 6 := by unfold slN; rw [if_pos hk]
/-- rows of other slots, when only one slot's rows change -/
theorem oth_rows {n : Nat} {M M2 : JI} {D42 D43 D31 : Nat → Option Nat} {S : JS} (h16 : vOb n D42 D43 D31 S) {s0 b0 : Nat} (hs0 : s0 < 50) (hb0 : slA D42 D43 D31 s0 = some b0) (f1 : ∀ a, 137 ≤ a → (a < b0 ∨ b0 + slN s0 ≤ a) → M2 a = M a) {s b : Nat} (hs : s < 50) (hne : s ≠ s0) (hb : slA D42 D43 D31 s = some b) : ∀ i, i < slN s → rg pD M2 (b + i) = rg pD M (b + i) := by
  intro i hi
  have h1 := h16.2.2.2.1 s b hs hb
  rw [rgD_at (by omega), rgD_at (by omega)]
  refine f1 _ (by omega) ?_
  rcases h16.2.2.2.2 s s0 b b0 hs hs0 hne hb hb0 with h | h <;> omega
theorem ps_oth {n : Nat} {M M2 : JI} {D : JG} {S : JS} {s0 b0 : Nat} {c0 c66 : Int32} {J : JI} (h16 : vOb n (D 42) (D 43) (D 31) S) (hs0 : s0 < 50) (h40 : 40 ≤ s0) (hb0 : slA (D 42) (D 43) (D 31) s0 = some b0) (f1 : ∀ a, 137 ≤ a → (a < b0 ∨ b0 + slN s0 ≤ a) → M2 a = M a) (h13 : vPs c0 c66 J (rg pD M) (D 42)) : vPs c0 c66 J (rg pD M2) (D 42) := by
  obtain ⟨m, hm, e0, e66, hp⟩ := h13
  refine ⟨m, hm, e0, e66, fun k hk => ?_⟩
  obtain ⟨b, hb, h137, v⟩ := hp k hk
  have ro := oth_rows h16 hs0 hb0 f1 (s := k) (by omega) (by omega) (sl42 (by omega) hb)
  rw [n42 (by omega)] at ro
  have r0 := ro 0 (by omega)
  rw [Nat.add_zero] at r0
  refine ⟨b, hb, h137, ?_⟩
  rw [r0, ro 1 (by omega), ro 2 (by omega), ro 3 (by omega), ro 4 (by omega), ro 5 (by omega)]
  exact v
theorem mk_oth {n n' : Nat} {M M2 : JI} {D : JG} {S : JS} {s0 b0 : Nat} {c0 c66 cP t : Int32} {J : JI} (h16 : vOb n (D 42) (D 43) (D 31) S) (hs0 : s0 < 50) (h40 : s0 < 40 ∨ 44 ≤ s0) (hb0 : slA (D 42) (D 43) (D 31) s0 = some b0) (f1 : ∀ a, 137 ≤ a → (a < b0 ∨ b0 + slN s0 ≤ a) → M2 a = M a) (h15 : vMk n' c0 c66 cP t J (rg pD M) (D 43)) : vMk n' c0 c66 cP t J (rg pD M2) (D 43) := by
  obtain ⟨l, hl, e0, e66, cP', hcP, ecP, ld, pm, hmk, hord⟩ := h15
  refine ⟨l, hl, e0, e66, cP', hcP, ecP, ld, pm, fun j hj => ?_, hord⟩
  obtain ⟨a1, a2, a3, a4⟩ := hmk j hj
  refine ⟨a1, a2, a3, fun b hb => ?_⟩
  obtain ⟨c1, c2, c3⟩ := a4 b hb
  have ro := oth_rows h16 hs0 hb0 f1 (s := 40 + j) (by omega) (by omega) (sl43 hj hb)
  rw [n43 hj] at ro
  have r0 := ro 0 (by omega)
  rw [Nat.add_zero] at r0
  refine ⟨c1, by rw [r0]; exact c2, fun hne => ⟨(c3 hne).1, ?_⟩⟩
  rw [r0, ro 2 (by omega), ro 3 (by omega), ro 4 (by omega), ro 5 (by omega), ro 6 (by omega)]
  exact (c3 hne).2
theorem ho_oth {n : Nat} {M M2 : JI} {D : JG} {S : JS} {s0 b0 : Nat} {t c0 c66 : Int32} {J : JI} (h16 : vOb n (D 42) (D 43) (D 31) S) (hs0 : s0 < 44) (hb0 : slA (D 42) (D 43) (D 31) s0 = some b0) (f1 : ∀ a, 137 ≤ a → (a < b0 ∨ b0 + slN s0 ≤ a) → M2 a = M a) (h14 : vHo t c0 c66 J (rg pD M) (D 31)) : vHo t c0 c66 J (rg pD M2) (D 31) := by
  obtain ⟨m, hm, e0, e66, hp⟩ := h14
  refine ⟨m, hm, e0, e66, fun k hk => ?_⟩
  obtain ⟨b, hb, h137, v⟩ := hp k hk
  have ro := oth_rows h16 (by omega) hb0 f1 (s := 44 + k) (by omega) (by omega) (sl31 hb)
  rw [n31] at ro
  have r0 := ro 0 (by omega)
  rw [Nat.add_zero] at r0
  refine ⟨b, hb, h137, ?_⟩
  rw [r0]; exact v
