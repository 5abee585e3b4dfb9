theorem jm_at {S T : JS} (i : Nat) : (S ++ T)[S.length + i]? = T[i]? := by
  rw [List.getElem?_append_right (by omega)]
  congr 1
  omega
theorem lay_len {G : JG} {S : JS} (h : Lay G S) : 136 ≤ S.length := by
  obtain ⟨S1, rfl⟩ := h.2.1
  rw [List.length_append, show lay_S.length = 136 from rfl]
  omega
theorem lay_G_lt : ∀ q ∈ lay_G, q.1 < 136 := by decide +kernel
theorem lay_app {G G' : JG} {S T : JS} (h : Lay G S) (hG : ∀ a k, a < S.length → G' a k = G a k) (h1 : ∀ j, T[j]? = some (1, 4) → (G' (S.length + j) 0 = some (S.length + j + 1) ∧ T[j + 1]? = some (20, 192)) ∧ (G' (S.length + j) 1 = some (S.length + j + 2) ∧ T[j + 2]? = some (20, 12)) ∧ (G' (S.length + j) 2 = some (S.length + j + 3) ∧ T[j + 3]? = some (20, 16)) ∧ (G' (S.length + j) 3 = some (S.length + j + 4) ∧ T[j + 4]? = some (20, 16))) (h4 : ∀ j, T[j]? = some (4, 17) → (G' (S.length + j) 0 = some (S.length + j + 1) ∧ T[j + 1]? = some (21, 18)) ∧ (G' (S.length + j) 1 = some (S.length + j + 2) ∧ T[j + 2]? = some (23, 18)) ∧ (G' (S.length + j) 2 = some (S.length + j + 3) ∧ T[j + 3]? = some (20, 18)) ∧ (G' (S.length + j) 3 = some (S.length + j + 4) ∧ T[j + 4]? = some (20, 18)) ∧ (G' (S.length + j) 4 = some (S.length + j + 5) ∧ T[j + 5]? = some (20, 18)) ∧ (G' (S.length + j) 5 = some (S.length + j + 6) ∧ T[j + 6]? = some (20, 18)) ∧ (G' (S.length + j) 6 = some (S.length + j + 7) ∧ T[j + 7]? = some (20, 18)) ∧ (G' (S.length + j) 7 = some (S.length + j + 8) ∧ T[j + 8]? = some (20, 18)) ∧ (G' (S.length + j) 8 = some (S.length + j + 9) ∧ T[j + 9]? = some (21, 18)) ∧ (G' (S.length + j) 9 = some (S.length + j + 10) ∧ T[j + 10]? = some (20, 1000))) (h5 : ∀ j, T[j]? = some (5, 6) → (G' (S.length + j) 0 = some (S.length + j + 1) ∧ T[j + 1]? = some (1, 4)) ∧ (G' (S.length + j) 1 = some (S.length + j + 6) ∧ T[j + 6]? = some (20, 760))) (h7 : ∀ j, T[j]? = some (7, 9) → (G' (S.length + j) 0 = some (S.length + j + 1) ∧ T[j + 1]? = some (0, 7)) ∧ (G' (S.length + j) 1 = some (S.length + j + 2) ∧ T[j + 2]? = some (20, 16)) ∧ (G' (S.length + j) 2 = some (S.length + j + 3) ∧ T[j + 3]? = some (20, 16)) ∧ (G' (S.length + j) 3 = some (S.length + j + 4) ∧ T[j + 4]? = some (20, 16)) ∧ (G' (S.length + j) 4 = some (S.length + j + 5) ∧ T[j + 5]? = some (20, 19))) : Lay G' (S ++ T) := by
  have hl := lay_len h
  refine ⟨fun q hq => ?_, ?_, fun t ht => ?_, fun t ht => ?_, fun t ht => ?_, fun t ht => ?_⟩
  · rw [hG _ _ (by have := lay_G_lt q hq; omega)]
    exact h.1 q hq
  · obtain ⟨S1, rfl⟩ := h.2.1
    exact ⟨S1 ++ T, by simp⟩
  · by_cases hlt : t < S.length
    · rw [List.getElem?_append_left hlt] at ht
      have hh := h.2.2.1 t ht
      simp only [hG _ _ hlt]
      exact ⟨⟨hh.1.1, jm_pre hh.1.2⟩, ⟨hh.2.1.1, jm_pre hh.2.1.2⟩, ⟨hh.2.2.1.1, jm_pre hh.2.2.1.2⟩, ⟨hh.2.2.2.1, jm_pre hh.2.2.2.2⟩⟩
    · obtain ⟨j, rfl⟩ := Nat.exists_eq_add_of_le (Nat.le_of_not_lt hlt)
      rw [jm_at] at ht
      have hh := h1 j ht
      exact ⟨⟨hh.1.1, by rw [Nat.add_assoc, jm_at]; exact hh.1.2⟩, ⟨hh.2.1.1, by rw [Nat.add_assoc, jm_at]; exact hh.2.1.2⟩, ⟨hh.2.2.1.1, by rw [Nat.add_assoc, jm_at]; exact hh.2.2.1.2⟩, ⟨hh.2.2.2.1, by rw [Nat.add_assoc, jm_at]; exact hh.2.2.2.2⟩⟩
  · by_cases hlt : t < S.length
    · rw [List.getElem?_append_left hlt] at ht
      have hh := h.2.2.2.1 t ht
      simp only [hG _ _ hlt]
      exact ⟨⟨hh.1.1, jm_pre hh.1.2⟩, ⟨hh.2.1.1, jm_pre hh.2.1.2⟩, ⟨hh.2.2.1.1, jm_pre hh.2.2.1.2⟩, ⟨hh.2.2.2.1.1, jm_pre hh.2.2.2.1.2⟩, ⟨hh.2.2.2.2.1.1, jm_pre hh.2.2.2.2.1.2⟩, ⟨hh.2.2.2.2.2.1.1, jm_pre hh.2.2.2.2.2.1.2⟩, ⟨hh.2.2.2.2.2.2.1.1, jm_pre hh.2.2.2.2.2.2.1.2⟩, ⟨hh.2.2.2.2.2.2.2.1.1, jm_pre hh.2.2.2.2.2.2.2.1.2⟩, ⟨hh.2.2.2.2.2.2.2.2.1.1, jm_pre hh.2.2.2.2.2.2.2.2.1.2⟩, ⟨hh.2.2.2.2.2.2.2.2.2.1, jm_pre hh.2.2.2.2.2.2.2.2.2.2⟩⟩
    · obtain ⟨j, rfl⟩ := Nat.exists_eq_add_of_le (Nat.le_of_not_lt hlt)
      rw [jm_at] at ht
      have hh := h4 j ht
      exact ⟨⟨hh.1.1, by rw [Nat.add_assoc, jm_at]; exact hh.1.2⟩, ⟨hh.2.1.1, by rw [Nat.add_assoc, jm_at]; exact hh.2.1.2⟩, ⟨hh.2.2.1.1, by rw [Nat.add_assoc, jm_at]; exact hh.2.2.1.2⟩, ⟨hh.2.2.2.1.1, by rw [Nat.add_assoc, jm_at]; exact hh.2.2.2.1.2⟩, ⟨hh.2.2.2.2.1.1, by rw [Nat.add_assoc, jm_at]; exact hh.2.2.2.2.1.2⟩, ⟨hh.2.2.2.2.2.1.1, by rw [Nat.add_assoc, jm_at]; exact hh.2.2.2.2.2.1.2⟩, ⟨hh.2.2.2.2.2.2.1.1, by rw [Nat.add_assoc, jm_at]; exact hh.2.2.2.2.2.2.1.2⟩, ⟨hh.2.2.2.2.2.2.2.1.1, by rw [Nat.add_assoc, jm_at]; exact hh.2.2.2.2.2.2.2.1.2⟩, ⟨hh.2.2.2.2.2.2.2.2.1.1, by rw [Nat.add_assoc, jm_at]; exact hh.2.2.2.2.2.2.2.2.1.2⟩, ⟨hh.2.2.2.2.2.2.2.2.2.1, by rw [Nat.add_assoc, jm_at]; exact hh.2.2.2.2.2.2.2.2.2.2⟩⟩
  · by_cases hlt : t < S.length
    · rw [List.getElem?_append_left hlt] at ht
      have hh := h.2.2.2.2.1 t ht
      simp only [hG _ _ hlt]
      exact ⟨⟨hh.1.1, jm_pre hh.1.2⟩, ⟨hh.2.1, jm_pre hh.2.2⟩⟩
    · obtain ⟨j, rfl⟩ := Nat.exists_eq_add_of_le (Nat.le_of_not_lt hlt)
      rw [jm_at] at ht
      have hh := h5 j ht
      exact ⟨⟨hh.1.1, by rw [Nat.add_assoc, jm_at]; exact hh.1.2⟩, ⟨hh.2.1, by rw [Nat.add_assoc, jm_at]; exact hh.2.2⟩⟩
  · by_cases hlt : t < S.length
    · rw [List.getElem?_append_left hlt] at ht
      have hh := h.2.2.2.2.2 t ht
      simp only [hG _ _ hlt]
      exact ⟨⟨hh.1.1, jm_pre hh.1.2⟩, ⟨hh.2.1.1, jm_pre hh.2.1.2⟩, ⟨hh.2.2.1.1, jm_pre hh.2.2.1.2⟩, ⟨hh.2.2.2.1.1, jm_pre hh.2.2.2.1.2⟩, ⟨hh.2.2.2.2.1, jm_pre hh.2.2.2.2.2⟩⟩
    · obtain ⟨j, rfl⟩ := Nat.exists_eq_add_of_le (Nat.le_of_not_lt hlt)
      rw [jm_at] at ht
      have hh := h7 j ht
      exact ⟨⟨hh.1.1, by rw [Nat.add_assoc, jm_at]; exact hh.1.2⟩, ⟨hh.2.1.1, by rw [Nat.add_assoc, jm_at]; exact hh.2.1.2⟩, ⟨hh.2.2.1.1, by rw [Nat.add_assoc, jm_at]; exact hh.2.2.1.2⟩, ⟨hh.2.2.2.1.1, by rw [Nat.add_assoc, jm_at]; exact hh.2.2.2.1.2⟩, ⟨hh.2.2.2.2.1, by rw [Nat.add_assoc, jm_at]; exact hh.2.2.2.2.2⟩⟩
theorem lyX0_init {G : JG} {S : JS} {q : Unit} (hL : Lay G S) (h : fX0_init S.length = some q) : Lay (j_clr G S.length none) (S ++ [(0, 7)]) := by
  refine lay_app hL (fun a k hl => j_clr_ne (by omega)) ?_ ?_ ?_ ?_ <;>
  · intro j hj
    match j, hj with
    | 0, hj => simp at hj
    | j + 1, hj => simp at hj
theorem lyX7_init {I : JI} {L : JL} {G D : JG} {S : JS} {q : JI × JL × JG × JG × JS} (hL : Lay G S) (h : fX7_init S.length (j_clr I S.length 0) (j_clr L S.length 0) (j_clr G S.length none) (j_clr D S.length none) (S ++ [(7, 9)]) = some q) : Lay q.2.2.1 q.2.2.2.2 := by
  unfold fX7_init fX0_init at h
  cases h
  have hS : (((((S ++ [(7, 9)]) ++ [(0, 7)]) ++ [(20, 16)]) ++ [(20, 16)]) ++ [(20, 16)]) ++ [(20, 19)] = S ++ [(7, 9), (0, 7), (20, 16), (20, 16), (20, 16), (20, 19)] := by simp
  show Lay _ ((((((S ++ [(7, 9)]) ++ [(0, 7)]) ++ [(20, 16)]) ++ [(20, 16)]) ++ [(20, 16)]) ++ [(20, 19)])
  rw [hS]
  refine lay_app hL (fun a k hl => ?_) ?_ ?_ ?_ ?_
  · simp [j_up, j_clr, show a ≠ S.length by omega, show a ≠ S.length + 1 by omega]
  · intro j hj
    match j, hj with
    | 0, hj => simp at hj
    | 1, hj => simp at hj
    | 2, hj => simp at hj
    | 3, hj => simp at hj
    | 4, hj => simp at hj
    | 5, hj => simp at hj
    | j + 6, hj => simp at hj
  · intro j hj
    match j, hj with
    | 0, hj => simp at hj
    | 1, hj => simp at hj
    | 2, hj => simp at hj
    | 3, hj => simp at hj
    | 4, hj => simp at hj
    | 5, hj => simp at hj
    | j + 6, hj => simp at hj
  · intro j hj
    match j, hj with
    | 0, hj => simp at hj
    | 1, hj => simp at hj
    | 2, hj => simp at hj
    | 3, hj => simp at hj
    | 4, hj => simp at hj
    | 5, hj => simp at hj
    | j + 6, hj => simp at hj
  · intro j hj
    match j, hj with
    | 0, hj => simp [j_up, j_clr]
    | 1, hj => simp at hj
    | 2, hj => simp at hj
    | 3, hj => simp at hj
    | 4, hj => simp at hj
    | 5, hj => simp at hj
    | j + 6, hj => simp at hj
theorem lyX5_init {I : JI} {L : JL} {G D : JG} {S : JS} {q : JI × JL × JG × JG × JS} (hL : Lay G S) (h : fX5_init S.length (j_clr I S.length 0) (j_clr L S.length 0) (j_clr G S.length none) (j_clr D S.length none) (S ++ [(5, 6)]) = some q) : Lay q.2.2.1 q.2.2.2.2 := by
  unfold fX5_init fX1_init at h
  obtain ⟨q1, h1, h⟩ := j_bs h
  cases h1
  obtain ⟨-, h⟩ := j_gs h
  obtain ⟨-, h⟩ := j_gs h
  cases h
  have hS : ((((((S ++ [(5, 6)]) ++ [(1, 4)]) ++ [(20, 192)]) ++ [(20, 12)]) ++ [(20, 16)]) ++ [(20, 16)]) ++ [(20, 760)] = S ++ [(5, 6), (1, 4), (20, 192), (20, 12), (20, 16), (20, 16), (20, 760)] := by simp
  show Lay _ (((((((S ++ [(5, 6)]) ++ [(1, 4)]) ++ [(20, 192)]) ++ [(20, 12)]) ++ [(20, 16)]) ++ [(20, 16)]) ++ [(20, 760)])
  rw [hS]
  refine lay_app hL (fun a k hl => ?_) ?_ ?_ ?_ ?_
  · simp [j_up, j_clr, show a ≠ S.length by omega, show a ≠ S.length + 1 by omega]
  · intro j hj
    match j, hj with
    | 0, hj => simp at hj
    | 1, hj => simp [j_up, j_clr]
    | 2, hj => simp at hj
    | 3, hj => simp at hj
    | 4, hj => simp at hj
    | 5, hj => simp at hj
    | 6, hj => simp at hj
    | j + 7, hj => simp at hj
  · intro j hj
    match j, hj with
    | 0, hj => simp at hj
    | 1, hj => simp at hj
    | 2, hj => simp at hj
    | 3, hj => simp at hj
    | 4, hj => simp at hj
    | 5, hj => simp at hj
    | 6, hj => simp at hj
    | j + 7, hj => simp at hj
  · intro j hj
    match j, hj with
    | 0, hj => simp [j_up, j_clr]
    | 1, hj => simp at hj
    | 2, hj => simp at hj
    | 3, hj => simp at hj
    | 4, hj => simp at hj
    | 5, hj => simp at hj
    | 6, hj => simp at hj
    | j + 7, hj => simp at hj
  · intro j hj
    match j, hj with
    | 0, hj => simp at hj
    | 1, hj => simp at hj
    | 2, hj => simp at hj
    | 3, hj => simp at hj
    | 4, hj => simp at hj
    | 5, hj => simp at hj
    | 6, hj => simp at hj
    | j + 7, hj => simp at hj
