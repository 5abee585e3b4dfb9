/-! ===== the loop over a law's lines ===== -/
def CFr (X : Nat) (I I' : JI) (Lc Lc' : JL) : Prop := (∀ a, a ≠ 12 → (a < X ∨ X + 10 < a) → I' a = I a) ∧ (∀ k, (k = 0 ∨ 8 < k) → I' 12 k = I 12 k) ∧ (∀ k, (k < 10 ∨ 16 < k) → I' X k = I X k) ∧ ∀ a, a ≠ X + 2 → Lc' a = Lc a
def RFr (N N' : JI) (L L' : JL) : Prop := (∀ a, a ≠ 66 → (a < 75 ∨ 85 < a) → N' a = N a) ∧ (∀ k, (k < 12 ∨ (17 < k ∧ k ≠ 28 ∧ k ≠ 33 ∧ k ≠ 34 ∧ k ≠ 35)) → N' 66 k = N 66 k) ∧ (∀ a, a ≠ 66 → L' a = L a) ∧ (∀ a j, 75 ≤ a → a ≤ 82 → j < 18 → N' a j = N a j) ∧ ∀ j, j < 1000 → N' 83 j = N 83 j
theorem CFr_rfl (X : Nat) (I : JI) (Lc : JL) : CFr X I I Lc Lc := ⟨fun _ _ _ => rfl, fun _ _ => rfl, fun _ _ => rfl, fun _ _ => rfl⟩
theorem RFr_rfl (N : JI) (L : JL) : RFr N N L L := ⟨fun _ _ _ => rfl, fun _ _ => rfl, fun _ _ => rfl, fun _ _ _ _ _ => rfl, fun _ _ => rfl⟩
theorem CFr_tr {X : Nat} {I I' I'' : JI} {Lc Lc' Lc'' : JL} (h : CFr X I I' Lc Lc') (h' : CFr X I' I'' Lc' Lc'') : CFr X I I'' Lc Lc'' := ⟨fun a h1 h2 => (h'.1 a h1 h2).trans (h.1 a h1 h2), fun k hk => (h'.2.1 k hk).trans (h.2.1 k hk), fun k hk => (h'.2.2.1 k hk).trans (h.2.2.1 k hk), fun a ha => (h'.2.2.2 a ha).trans (h.2.2.2 a ha)⟩
theorem RFr_tr {N N' N'' : JI} {L L' L'' : JL} (h : RFr N N' L L') (h' : RFr N' N'' L' L'') : RFr N N'' L L'' := ⟨fun a h1 h2 => (h'.1 a h1 h2).trans (h.1 a h1 h2), fun k hk => (h'.2.1 k hk).trans (h.2.1 k hk), fun a ha => (h'.2.2.1 a ha).trans (h.2.2.1 a ha), fun a j h1 h2 h3 => (h'.2.2.2.1 a j h1 h2 h3).trans (h.2.2.2.1 a j h1 h2 h3), fun j hj => (h'.2.2.2.2 j hj).trans (h.2.2.2.2 j hj)⟩
theorem CFr_w {X : Nat} (hX : X = 44 ∨ X = 55) {I I' : JI} (h : cW I I') (Lc : JL) : CFr X I I' Lc Lc := ⟨fun a h1 _ => h.1 a h1, fun k hk => h.2 k (by omega), fun k _ => by rw [h.1 X (by omega)], fun _ _ => rfl⟩
theorem CFr_y {X k0 x0 : Nat} (hX : X = 44 ∨ X = 55) (hk : k0 = 7 ∨ k0 = 8) (hx : x0 = 15 ∨ x0 = 16) {I I' : JI} (h : yC X k0 x0 I I') (Lc : JL) : CFr X I I' Lc Lc := ⟨fun a h1 h2 => h.1 a h1 (by omega), fun k hk' => h.2.1 k (by omega) (by omega), fun k hk' => h.2.2 k (by omega), fun _ _ => rfl⟩
theorem CFr_l {X l : Nat} (hX : X = 44 ∨ X = 55) {I I' : JI} (h : lC X l I I') (Lc : JL) : CFr X I I' Lc Lc := ⟨fun a h1 h2 => h.1 a h1 (by omega) (by omega) (by omega) (by omega) (by omega) (by omega) (by omega), fun k hk => h.2.1 k (by omega), fun k hk => h.2.2.1 k (by omega), fun _ _ => rfl⟩
theorem CFr_a {X l cs fi ff mb : Nat} (hX : X = 44 ∨ X = 55) {s0 my : Bool} {I I' : JI} {Lc Lc' : JL} (h : ALn X l cs fi ff mb s0 my I I' Lc Lc') : CFr X I I' Lc Lc' := by
  obtain ⟨z1, z2, z3, z4, z5, z6, z7, z8, z9, z10, z11, z12, z13, z14, z15⟩ := h
  exact ⟨fun a h1 h2 => z1 a (by omega) (by omega) (by omega) (by omega) (by omega) (by omega) (by omega), fun k _ => by rw [z1 12 (by omega) (by omega) (by omega) (by omega) (by omega) (by omega) (by omega)], fun k hk => z2 k (by omega), z13⟩
theorem CFr_1 {X : Nat} (hX : X = 44 ∨ X = 55) (I : JI) (v : Int32) (Lc : JL) : CFr X I (j_up I 12 1 v) Lc Lc := ⟨fun a h1 _ => ju_row _ _ h1, fun k hk => ju_cell _ _ (by omega), fun k _ => by rw [ju_row _ _ (by omega)], fun _ _ => rfl⟩
theorem RFr_n {N N' : JI} {L L' : JL} (h : rN N N' L L') : RFr N N' L L' := ⟨fun a h1 _ => h.1 a h1, fun k hk => h.2.1 k (by omega), h.2.2, fun a j h1 h2 _ => by rw [h.1 a (by omega)], fun j _ => by rw [h.1 83 (by omega)]⟩
theorem RFr_y {k0 : Nat} (hk : k0 = 33 ∨ k0 = 34) {N N' : JI} {L L' : JL} (h : yR k0 N N' L L') : RFr N N' L L' := ⟨fun a h1 _ => h.1 a h1, fun k hk' => h.2.1 k (by omega) (by omega), h.2.2, fun a j h1 h2 _ => by rw [h.1 a (by omega)], fun j _ => by rw [h.1 83 (by omega)]⟩
theorem RFr_l {l : Nat} {N N' : JI} {L L' : JL} (h : lR l N N' L L') : RFr N N' L L' := ⟨fun a h1 h2 => h.1 a h1 (by omega), fun k hk => h.2.1 k (by omega), h.2.2.1, fun a j h1 h2 h3 => by
  by_cases c : a < 77
  · rw [h.1 a (by omega) (by omega)]
  · exact h.2.2.2.2 a j (by omega) h2 (by omega), h.2.2.2.1⟩
theorem RFr_7 {l a : Nat} (ha : a = 75 ∨ a = 76) (N : JI) (L : JL) (v : Int32) : RFr N (j_up N a (18 + l) v) L L := ⟨fun a' h1 h2 => ju_row _ _ (by omega), fun k _ => by rw [ju_row _ _ (by omega)], fun _ _ => rfl, fun a' j h1 h2 h3 => by
  by_cases c : a' = a
  · rw [c, ju_cell _ _ (by omega)]
  · rw [ju_row _ _ c], fun j _ => by rw [ju_row _ _ (by omega)]⟩
theorem RFr_f (N : JI) (L : JL) (k : Nat) (hk : k = 17 ∨ k = 35) (v : Int32) : RFr N (j_up N 66 k v) L L := ⟨fun a h1 _ => ju_row _ _ h1, fun k' hk' => ju_cell _ _ (by omega), fun _ _ => rfl, fun a j h1 h2 _ => by rw [ju_row _ _ (by omega)], fun j _ => by rw [ju_row _ _ (by omega)]⟩
/-- the class's loop ends behind a fault -/
theorem e_fl {tx : Nat → Nat} {m f X : Nat} {I : JI} (h : FL I tx m f) (n : Nat) (c : Int32) (Lc : JL) (D : JG) (S : JS) : fX8_read_38 X (n + 1) c I Lc D S = some (nI f, j_up I 12 1 (0 : Int32), Lc, D) := by
  have e6 : (j_up I 12 1 (0 : Int32)) 12 6 = nI f := by rw [ju_cell _ _ (by omega)]; exact h.2.2.2.2.1
  rw [fX8_read_38, e6]
  by_cases c1 : (1000 : Int32) < c
  · rw [if_pos c1]
  · rw [if_neg c1, h.2.2.2.1, if_pos (by decide)]
theorem e_101 {X : Nat} (hX : X = 44 ∨ X = 55) {tx : Nat → Nat} {m f : Nat} {I : JI} (h : FL I tx m f) (n : Nat) (c l3 : Int32) (Lc : JL) (D : JG) (S : JS) : ∃ I', fX8_read_101 X (fX8_read_38 X (n + 1)) c l3 I Lc D S = some (nI f, I', Lc, D) ∧ CFr X I I' Lc Lc ∧ I' 12 1 = nI 0 := by
  obtain ⟨I1, a1, a2, a3⟩ := FL_wrong h 1
  refine ⟨j_up I1 12 1 (0 : Int32), ?_, CFr_tr (CFr_w hX a2 Lc) (CFr_1 hX I1 _ Lc), ju_same _ _ _ _⟩
  unfold fX8_read_101 fX8_read_146
  rw [h.2.2.2.1, if_neg (by decide), if_neg (by decide), if_neg (by decide), if_neg (by decide), a1, Option.bind_some, e_fl a3]
