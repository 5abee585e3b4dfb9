theorem inv_look {n : Nat} {M : JI} {L L1 : JL} {D : JG} {S S1 : JS} {k : Int32} (h : Inv n M L D S) (hS : (k = nI 0 ∧ S1 = S) ∨ (k = nI 1 ∧ S1 = S ++ [(90, 6)])) (hL : ∃ v, L1 = j_up L 136 0 v ∨ L1 = L) : Inv (n + 1) (j_up M 66 0 k) L1 D S1 := by
  have h' := inv_thr h k
  obtain ⟨h1, h2, h3, h4, h5, h6, h7, h8, h9, h10, h11, h12, h13, h14, h15, h16, h17, h18, h19⟩ := h'
  obtain ⟨g1, g2, g3, g4, g5, g6, g7, g8, g9, g10, g11, g12, g13, g14, g15, g16, g17, g18, g19⟩ := h
  have hL46 : L1 46 = L 46 := by
    rcases hL with ⟨v, rfl | rfl⟩
    · exact ju_row _ _ (by omega)
    · rfl
  have hL57 : L1 57 = L 57 := by
    rcases hL with ⟨v, rfl | rfl⟩
    · exact ju_row _ _ (by omega)
    · rfl
  have h16' : vOb (n + 1) (D 42) (D 43) (D 31) S1 := by
    rcases hS with ⟨-, rfl⟩ | ⟨-, rfl⟩
    · exact h16
    · obtain ⟨⟨T, hT⟩, a2, a3, a4, a5⟩ := g16
      refine ⟨⟨T ++ [(90, 6)], by rw [hT]; simp⟩, ?_, ?_, fun s b hs hb => ?_, a5⟩
      · rw [List.length_append]; simp; omega
      · unfold jm_sl at a3 ⊢
        rw [List.map_append, List.sum_append]; simp; omega
      · obtain ⟨c1, c2, c3⟩ := a4 s b hs hb
        refine ⟨c1, by rw [List.length_append]; omega, ?_⟩
        rw [List.getElem?_append_left (by
          have := (List.getElem?_eq_some_iff.mp c3).1
          exact this)]
        exact c3
  refine ⟨h1, h2, h3, h4, h5, h6, h7, h8, h9, h10, h11, ?_, h13, h14, h15, h16', h17, h18, h19⟩
  rw [hL46, hL57]
  exact h12
theorem ord_in {M M' : JI} {b k : Nat} (hk : k < 40) (hr : ∀ q, q < 16 → M (b + 2) q = M' 109 (16 * k + q)) (i : Int32) (r : Nat) {k4 : Int32 → Int32 → Int32 → JI → Option (Int32)} {k24 : Int32 → Int32 → Int32 → Int32 → JI → Option (Int32 × JI)} (hc : ∀ c, ∃ x, k4 i c (nI (r + 1)) M = some x ∧ k24 (nI k) i c (nI (r + 1)) M' = some (x, M')) : ∀ d q, q + d = 16 → ∀ n, d < n → ∀ c, ∃ x, fX7_comerAt_13 b k4 n i c (nI r) (nI q) M = some x ∧ fX12_order_34 k24 n (nI k) i c (nI r) (nI q) M' = some (x, M') := by
  intro d
  have er : nI r + (1 : Int32) = nI (r + 1) := nI_1 r
  induction d with
  | zero =>
    intro q hq n hn c
    obtain ⟨n', rfl⟩ := suc_of hn
    have : q = 16 := by omega
    subst this
    obtain ⟨x, x1, x2⟩ := hc c
    refine ⟨x, ?_, ?_⟩
    · rw [fX7_comerAt_13, if_pos (by decide), fX7_comerAt_48, er, x1]
    · rw [fX12_order_34, if_pos (by decide), fX12_order_78, er, x2]
  | succ d ih =>
    intro q hq n hn c
    obtain ⟨n', rfl⟩ := suc_of hn
    have e1 : nI q + (1 : Int32) = nI (q + 1) := nI_1 q
    have g : ¬ (16 : Int32) ≤ nI q := nI_ge (b := 16) (by omega) (by omega)
    rw [fX7_comerAt_13, fX12_order_34, if_neg g, if_neg g, jg_in (by omega) (by decide), at16, jg_in (by omega) (by decide), nI_clamp (by omega), nI_clamp (by omega), ← hr q (by omega), e1]
    by_cases c1 : M (b + 2) q = nI r
    · rw [if_pos c1, if_pos c1]
      by_cases c2 : c = i
      · rw [if_pos c2, if_pos c2]
        exact ⟨_, rfl, rfl⟩
      · rw [if_neg c2, if_neg c2]
        exact ih (q + 1) (by omega) n' (by omega) _
    · rw [if_neg c1, if_neg c1]
      exact ih (q + 1) (by omega) n' (by omega) _
theorem ord_out {M M' : JI} {b k : Nat} (hk : k < 40) (hr : ∀ q, q < 16 → M (b + 2) q = M' 109 (16 * k + q)) (i : Int32) : ∀ d r, r + d = 18 → ∀ n, d < n → ∀ c, ∃ x, fX7_comerAt_4 b n i c (nI r) M = some x ∧ fX12_order_24 n (nI k) i c (nI r) M' = some (x, M') := by
  intro d
  induction d with
  | zero =>
    intro r hr' n hn c
    obtain ⟨n', rfl⟩ := suc_of hn
    have : r = 18 := by omega
    subst this
    exact ⟨-1, by rw [fX7_comerAt_4, if_pos (by decide)], by rw [fX12_order_24, if_pos (by decide)]⟩
  | succ d ih =>
    intro r hr' n hn c
    obtain ⟨n', rfl⟩ := suc_of hn
    have g : ¬ (18 : Int32) ≤ nI r := nI_ge (b := 18) (by omega) (by omega)
    rw [fX7_comerAt_4, fX12_order_24, if_neg g, if_neg g]
    exact ord_in hk hr i r (fun c => ih (r + 1) (by omega) n' (by omega) c) 16 0 (by omega) 100000 (by omega) c
theorem op_order {n : Nat} {M : JI} {L : JL} {D : JG} {S : JS} (h : Inv n M L D S) (x y : Int32) : ∃ r M2, fX11_order x y M D S = some r ∧ fX12_order x y M = some (r, M2) ∧ Inv (n + 1) M2 L D S := by
  have hh := h
  obtain ⟨h1, h2, h3, h4, h5, h6, h7, h8, h9, h10, h11, h12, h13, h14, h15, h16, h17, h18, h19⟩ := hh
  unfold fX11_order fX12_order
  rcases pa_cases h13 h16 x with ⟨x1, x2⟩ | ⟨m, k, b, hm, e0, hk, rfl, hb, h137, hS, x1, x2, V⟩
  · exact ⟨-nI 1, j_up M 66 0 (nI 0), by rw [x1]; rfl, by rw [x2 _ (ju_cell _ _ (by omega))]; rfl, inv_thr h _⟩
  · have x2' := x2 (j_up M 66 0 (0 : Int32)) (ju_cell _ _ (by omega))
    by_cases c : 0 ≤ y
    · obtain ⟨-, -, -, -, -, -, -, -, -, -, -, -, s, -, vq⟩ := V
      obtain ⟨r, r1, r2⟩ := ord_out (M := M) (M' := j_up M 66 0 (nI 0)) (b := b) (k := k) (by omega) (fun q hq => by rw [ju_row _ _ (by omega)]; exact (vq q hq).1.symm) y 18 0 (by omega) 100000 (by omega) (nI 0)
      refine ⟨r, j_up M 66 0 (nI 0), ?_, ?_, inv_thr h _⟩
      · rw [x1, Option.bind_some, jo_s, jg_d hS, if_pos c]
        unfold fX7_comerAt
        have r1' : fX7_comerAt_4 b 100000 y 0 0 M = some r := r1
        rw [r1']; rfl
      · rw [x2', Option.bind_some, if_neg (by decide), if_pos c]
        exact r2
    · exact ⟨-nI 1, j_up M 66 0 (nI 0), by rw [x1, Option.bind_some, jo_s, jg_d hS, if_neg c]; rfl, by rw [x2', Option.bind_some, if_neg (by decide), if_neg c]; rfl, inv_thr h _⟩
theorem vP1_sameJ {k : Nat} {B0 B1 B2 B3 B4 B5 : Nat → Int32} {J J' : JI} (h1 : ∀ a, 96 ≤ a → a ≤ 108 → J' a k = J a k) (h2 : ∀ a q, 109 ≤ a → a ≤ 113 → q < 16 → J' a (16 * k + q) = J a (16 * k + q)) (v : vP1 k B0 B1 B2 B3 B4 B5 J) : vP1 k B0 B1 B2 B3 B4 B5 J' := by
  unfold vP1 at v ⊢
  rw [h1 96 (by omega) (by omega), h1 97 (by omega) (by omega), h1 98 (by omega) (by omega), h1 99 (by omega) (by omega), h1 100 (by omega) (by omega), h1 101 (by omega) (by omega), h1 102 (by omega) (by omega), h1 103 (by omega) (by omega), h1 104 (by omega) (by omega), h1 105 (by omega) (by omega), h1 106 (by omega) (by omega), h1 107 (by omega) (by omega), h1 108 (by omega) (by omega)]
  obtain ⟨v1, v2, v3, v4, v5, v6, v7, v8, v9, v10, v11, v12, s, es, vq⟩ := v
  refine ⟨v1, v2, v3, v4, v5, v6, v7, v8, v9, v10, v11, v12, s, es, fun q hq => ?_⟩
  have := vq q hq
  unfold vP2 at this ⊢
  rw [h2 109 q (by omega) (by omega) hq, h2 110 q (by omega) (by omega) hq, h2 111 q (by omega) (by omega) hq, h2 112 q (by omega) (by omega) hq, h2 113 q (by omega) (by omega) hq]
  exact this
theorem ob_far {n : Nat} {D42 D43 D31 : Nat → Option Nat} {S : JS} (h16 : vOb n D42 D43 D31 S) {k b s b' : Nat} (hk : k < 40) (hb : D42 k = some b) (hs : s < 50) (hsk : s ≠ k) (hb' : slA D42 D43 D31 s = some b') : ∀ i j, i < 6 → j < slN s → b' + j ≠ b + i := by
  intro i j hi hj
  have e : slA D42 D43 D31 k = some b := by unfold slA; rw [if_pos hk]; exact hb
  have e6 : slN k = 6 := by unfold slN; rw [if_pos hk]
  rcases h16.2.2.2.2 s k b' b hs (by omega) hsk hb' e with h | h <;> omega
theorem st_set {n : Nat} {M M2 : JI} {D : JG} {S : JS} {k b : Nat} (h13 : vPs (M 0 12) (M 66 52) (rg pP M) (rg pD M) (D 42)) (h16 : vOb n (D 42) (D 43) (D 31) S) (hk : k < 40) (hb : D 42 k = some b) (h137 : 137 ≤ b) (f1 : ∀ a, 137 ≤ a → a ≠ b + 5 → M2 a = M a) (f2 : ∀ a j, 96 ≤ a → a ≤ 108 → j ≠ k → M2 a j = M a j) (f3 : ∀ a j q, 109 ≤ a → a ≤ 113 → j ≠ k → q < 16 → M2 a (16 * j + q) = M a (16 * j + q)) (self : vP1 k (M2 b) (M2 (b + 1)) (M2 (b + 2)) (M2 (b + 3)) (M2 (b + 4)) (M2 (b + 5)) M2) :
    vPs (M 0 12) (M 66 52) (rg pP M2) (rg pD M2) (D 42) ∧ (∀ t c c' J, vHo t c c' J (rg pD M) (D 31) → vHo t c c' J (rg pD M2) (D 31)) ∧ ∀ n c c' c2 t J, vMk n c c' c2 t J (rg pD M) (D 43) → vMk n c c' c2 t J (rg pD M2) (D 43) := by
  have row : ∀ a, 137 ≤ a → a ≠ b + 5 → rg pD M2 a = rg pD M a := fun a h h' => by rw [rgD_at h, rgD_at h, f1 a h h']
  refine ⟨?_, ?_, ?_⟩
  · obtain ⟨m, hm, e0, e66, hp⟩ := h13
    refine ⟨m, hm, e0, e66, fun j hj => ?_⟩
    by_cases hjk : j = k
    · subst hjk
      refine ⟨b, hb, h137, ?_⟩
      rw [rgD_at h137, rgD_at (by omega), rgD_at (by omega), rgD_at (by omega), rgD_at (by omega), rgD_at (by omega)]
      exact vP1_J' self
    · obtain ⟨b', hb', h137', v⟩ := hp j hj
      have far := ob_far h16 hk hb (s := j) (by omega) hjk (by unfold slA; rw [if_pos (by omega)]; exact hb')
      have e6 : slN j = 6 := by unfold slN; rw [if_pos (by omega)]
      rw [e6] at far
      refine ⟨b', hb', h137', ?_⟩
      rw [row b' h137' (by have := far 5 0 (by omega) (by omega); omega), row (b' + 1) (by omega) (far 5 1 (by omega) (by omega)), row (b' + 2) (by omega) (far 5 2 (by omega) (by omega)), row (b' + 3) (by omega) (far 5 3 (by omega) (by omega)), row (b' + 4) (by omega) (far 5 4 (by omega) (by omega)), row (b' + 5) (by omega) (far 5 5 (by omega) (by omega))]
      exact vP1_J' (vP1_sameJ (fun a h1 h2 => f2 a j h1 h2 hjk) (fun a q h1 h2 hq => f3 a j q h1 h2 hjk hq) (vP1_J v))
  · rintro t c c' J ⟨m, hm, e0, e66, hp⟩
    refine ⟨m, hm, e0, e66, fun j hj => ?_⟩
    obtain ⟨b', hb', h137', v⟩ := hp j hj
    have far := ob_far h16 hk hb (s := 44 + j) (by omega) (by omega) (by unfold slA; rw [if_neg (by omega), if_neg (by omega), show 44 + j - 44 = j by omega]; exact hb')
    have e6 : slN (44 + j) = 1 := by unfold slN; rw [if_neg (by omega), if_neg (by omega)]
    rw [e6] at far
    refine ⟨b', hb', h137', ?_⟩
    rw [row b' h137' (by have := far 5 0 (by omega) (by omega); omega)]
    exact v
  · rintro n c c' c2 t J ⟨l, hl, e0, e66, cP', hcP, ecP, ld, pm, hmk, hord⟩
    refine ⟨l, hl, e0, e66, cP', hcP, ecP, ld, pm, fun j hj => ?_, hord⟩
    obtain ⟨a1, a2, a3, a4⟩ := hmk j hj
    refine ⟨a1, a2, a3, fun b' hb' => ?_⟩
    obtain ⟨c1, c2, c3⟩ := a4 b' hb'
    have far := ob_far h16 hk hb (s := 40 + j) (by omega) (by omega) (by unfold slA; rw [if_neg (by omega), if_pos (by omega), show 40 + j - 40 = j by omega]; exact hb')
    have e6 : slN (40 + j) = 7 := by unfold slN; rw [if_neg (by omega), if_pos (by omega)]
    rw [e6] at far
    refine ⟨c1, ?_, fun hne => ?_⟩
    · rw [row b' c1 (by have := far 5 0 (by omega) (by omega); omega)]
      exact c2
    · rw [row b' c1 (by have := far 5 0 (by omega) (by omega); omega), row (b' + 2) (by omega) (far 5 2 (by omega) (by omega)), row (b' + 3) (by omega) (far 5 3 (by omega) (by omega)), row (b' + 4) (by omega) (far 5 4 (by omega) (by omega)), row (b' + 5) (by omega) (far 5 5 (by omega) (by omega)), row (b' + 6) (by omega) (far 5 6 (by omega) (by omega))]
      exact c3 hne
