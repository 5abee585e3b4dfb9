/-! ===== a law's whole text read ===== -/
def RFs (N N' : JI) (L L' : JL) : Prop := (∀ a, a ≠ 66 → (a < 75 ∨ 85 < a) → N' a = N a) ∧ (∀ k, ((k < 12 ∧ k ≠ 9 ∧ k ≠ 11) ∨ (17 < k ∧ k ≠ 28 ∧ k ≠ 33 ∧ k ≠ 34 ∧ k ≠ 35)) → N' 66 k = N 66 k) ∧ (∀ a, a ≠ 66 → L' a = L a) ∧ (∀ a j, 75 ≤ a → a ≤ 82 → j < 18 → N' a j = N a j) ∧ (∀ j, j < 1000 → N' 83 j = N 83 j) ∧ N' 66 9 = nI 0
def stR (N : JI) (m : Nat) : JI := j_up (j_up (j_up (j_up (j_up (j_up N 66 33 (0 : Int32)) 66 34 (0 : Int32)) 66 28 (1000 : Int32)) 66 11 (nI m)) 66 9 (0 : Int32)) 66 12 (0 : Int32)
def stC1 (X : Nat) (I : JI) : JI := j_up (j_up (j_up (j_up (j_up (j_up (j_up I X 10 (0 : Int32)) X 11 (0 : Int32)) X 12 (0 : Int32)) X 13 (0 : Int32)) X 14 (0 : Int32)) X 15 (0 : Int32)) X 16 (0 : Int32)
def stC (X : Nat) (I : JI) : JI := j_up (j_up (j_up (j_up (stC1 X I) 12 7 (0 : Int32)) 12 8 (0 : Int32)) 12 6 (0 : Int32)) 12 2 (0 : Int32)
theorem stC1_f {X : Nat} (I : JI) : (∀ a, a ≠ X → stC1 X I a = I a) ∧ (∀ k, (k < 10 ∨ 16 < k) → stC1 X I X k = I X k) ∧ ∀ k, 10 ≤ k → k ≤ 16 → stC1 X I X k = nI 0 := by
  refine ⟨fun a ha => ?_, fun k hk => ?_, fun k h1 h2 => ?_⟩
  · unfold stC1
    rw [ju_row _ _ ha, ju_row _ _ ha, ju_row _ _ ha, ju_row _ _ ha, ju_row _ _ ha, ju_row _ _ ha, ju_row _ _ ha]
  · unfold stC1
    rw [ju_cell _ _ (by omega), ju_cell _ _ (by omega), ju_cell _ _ (by omega), ju_cell _ _ (by omega), ju_cell _ _ (by omega), ju_cell _ _ (by omega), ju_cell _ _ (by omega)]
  · have hk : k = 10 ∨ k = 11 ∨ k = 12 ∨ k = 13 ∨ k = 14 ∨ k = 15 ∨ k = 16 := by omega
    unfold stC1
    rcases hk with rfl | rfl | rfl | rfl | rfl | rfl | rfl
    · rw [ju_cell _ _ (by omega), ju_cell _ _ (by omega), ju_cell _ _ (by omega), ju_cell _ _ (by omega), ju_cell _ _ (by omega), ju_cell _ _ (by omega), ju_same]; rfl
    · rw [ju_cell _ _ (by omega), ju_cell _ _ (by omega), ju_cell _ _ (by omega), ju_cell _ _ (by omega), ju_cell _ _ (by omega), ju_same]; rfl
    · rw [ju_cell _ _ (by omega), ju_cell _ _ (by omega), ju_cell _ _ (by omega), ju_cell _ _ (by omega), ju_same]; rfl
    · rw [ju_cell _ _ (by omega), ju_cell _ _ (by omega), ju_cell _ _ (by omega), ju_same]; rfl
    · rw [ju_cell _ _ (by omega), ju_cell _ _ (by omega), ju_same]; rfl
    · rw [ju_cell _ _ (by omega), ju_same]; rfl
    · rw [ju_same]; rfl
theorem stC_f {X : Nat} (hX : X = 44 ∨ X = 55) (I : JI) : (∀ a, a ≠ X → a ≠ 12 → stC X I a = I a) ∧ (∀ k, (k < 10 ∨ 16 < k) → stC X I X k = I X k) ∧ (∀ k, 10 ≤ k → k ≤ 16 → stC X I X k = nI 0) ∧ (∀ k, k ≠ 2 → k ≠ 6 → k ≠ 7 → k ≠ 8 → stC X I 12 k = I 12 k) ∧ stC X I 12 2 = nI 0 ∧ stC X I 12 6 = nI 0 ∧ stC X I 12 7 = nI 0 ∧ stC X I 12 8 = nI 0 := by
  obtain ⟨h1, h2, h3⟩ := stC1_f (X := X) I
  have e : ∀ a, a ≠ 12 → stC X I a = stC1 X I a := fun a ha => by unfold stC; rw [ju_row _ _ ha, ju_row _ _ ha, ju_row _ _ ha, ju_row _ _ ha]
  refine ⟨fun a ha hb => by rw [e a hb, h1 a ha], fun k hk => by rw [e X (by omega), h2 k hk], fun k ha hb => by rw [e X (by omega), h3 k ha hb], fun k k2 k6 k7 k8 => ?_, ?_, ?_, ?_, ?_⟩
  · unfold stC
    rw [ju_cell _ _ k2, ju_cell _ _ k6, ju_cell _ _ k8, ju_cell _ _ k7, h1 12 (by omega)]
  · unfold stC; rw [ju_same]; rfl
  · unfold stC; rw [ju_cell _ _ (by omega), ju_same]; rfl
  · unfold stC; rw [ju_cell _ _ (by omega), ju_cell _ _ (by omega), ju_cell _ _ (by omega), ju_same]; rfl
  · unfold stC; rw [ju_cell _ _ (by omega), ju_cell _ _ (by omega), ju_same]; rfl
theorem stR_f (N : JI) (m : Nat) : (∀ a, a ≠ 66 → stR N m a = N a) ∧ (∀ k, k ≠ 9 → k ≠ 11 → k ≠ 12 → k ≠ 28 → k ≠ 33 → k ≠ 34 → stR N m 66 k = N 66 k) ∧ stR N m 66 9 = nI 0 ∧ stR N m 66 11 = nI m ∧ stR N m 66 12 = nI 0 ∧ stR N m 66 28 = nI 1000 ∧ stR N m 66 33 = nI 0 ∧ stR N m 66 34 = nI 0 := by
  unfold stR
  refine ⟨fun a ha => ?_, fun k k9 k11 k12 k28 k33 k34 => ?_, ?_, ?_, ?_, ?_, ?_, ?_⟩
  · rw [ju_row _ _ ha, ju_row _ _ ha, ju_row _ _ ha, ju_row _ _ ha, ju_row _ _ ha, ju_row _ _ ha]
  · rw [ju_cell _ _ k12, ju_cell _ _ k9, ju_cell _ _ k11, ju_cell _ _ k28, ju_cell _ _ k34, ju_cell _ _ k33]
  · rw [ju_cell _ _ (by omega), ju_same]; rfl
  · rw [ju_cell _ _ (by omega), ju_cell _ _ (by omega), ju_same]
  · rw [ju_same]; rfl
  · rw [ju_cell _ _ (by omega), ju_cell _ _ (by omega), ju_cell _ _ (by omega), ju_same]; rfl
  · rw [ju_cell _ _ (by omega), ju_cell _ _ (by omega), ju_cell _ _ (by omega), ju_cell _ _ (by omega), ju_cell _ _ (by omega), ju_same]; rfl
  · rw [ju_cell _ _ (by omega), ju_cell _ _ (by omega), ju_cell _ _ (by omega), ju_cell _ _ (by omega), ju_same]; rfl
theorem j_read {X : Nat} (hX : X = 44 ∨ X = 55) {D : JG} {S : JS} (sX : S[X]? = some (4, 17)) {tx : Nat → Nat} {m : Nat} {M N : JI} {Lc L : JL} (hc : txR (M 13) tx m) (h1 : M 12 1 = nI m) (hr : txR (N 74) tx m) (h9 : N 66 9 = nI m) : ∃ r M1 Lc1 N' L' v, fX8_read X M Lc D S = some (r, M1, Lc1, j_up D 12 9 (some X)) ∧ fX12_readsAll N L = some (v, N', L') ∧ CFr X M M1 Lc Lc1 ∧ M1 12 1 = nI 0 ∧ RFs N N' L L' ∧ ((v = nI 1 ∧ r = nI 0 ∧ ∃ l fi ff mb cs q, LSt X tx m l fi ff mb cs q M1 Lc1 N' ∧ cs ≤ 1000 ∧ q ≤ 1000 ∧ N' 66 35 = nI l ∧ (∃ p, jm_b01 (M1 X 15) = bI p ∧ N' 66 33 = bI p) ∧ ∃ p, jm_b01 (M1 X 16) = bI p ∧ N' 66 34 = bI p) ∨ (v = nI 0 ∧ ∃ f, 1 ≤ f ∧ f < 20000 ∧ r = nI f ∧ N' 66 17 = nI f)) := by
  have hm := hc.1
  have hX12 : X ≠ 12 := by omega
  have hb : lB tx m 0 ≤ m := (rn_le (P := isBl) (tx := tx) (show 0 ≤ m by omega)).2
  obtain ⟨c1, c2, c3, c4, c5, c6, c7, c8⟩ := stC_f hX M
  obtain ⟨r1, r2, r3, r4, r5, r6, r7, r8⟩ := stR_f N m
  obtain ⟨I1, a1, a2, a3, a4, a5, a6⟩ := cnx_0 (tx := tx) (m := m) m 0 (by omega) 100000 (by omega) (stC X M) (by rw [c1 13 (by omega) (by omega)]; exact hc) (by rw [c4 1 (by omega) (by omega) (by omega) (by omega)]; exact h1) c5
  obtain ⟨N1, L1, b1, b2, b3⟩ := rnx_0 (tx := tx) (m := m) m 0 (by omega) 100000 (by omega) (stR N m) L (by rw [r1 74 (by omega)]; exact hr) r4 r5
  have a1' : fX8_next (stC X M) = some I1 := a1
  have b1' : fX12_nextToken (stR N m) L = some (N1, L1) := b1
  have hP : LPs X tx m (lB tx m 0) 0 0 0 0 0 0 false false I1 Lc N1 L1 := by
    refine ⟨⟨by rw [a2.1 13 (by omega), c1 13 (by omega) (by omega)]; exact hc, hb, by rw [a2.2 1 (by omega), c4 1 (by omega) (by omega) (by omega) (by omega)]; exact h1, a4, a3, a5, a6, by rw [a2.2 6 (by omega)]; exact c6⟩, ⟨by rw [b2.1 74 (by omega), r1 74 (by omega)]; exact hr, hb, by rw [b2.2.1 11 (by omega)]; exact r4, b3⟩, ⟨rfl, by omega, by omega, ?_, ?_, ?_, ?_, ?_, by rw [b2.2.1 28 (by omega)]; exact r6, rfl, rfl, fun i hi => absurd hi (by omega)⟩, by omega, by omega, ?_, ?_, ⟨false, ?_, by rw [b2.2.1 33 (by omega)]; exact r7⟩, ⟨false, ?_, by rw [b2.2.1 34 (by omega)]; exact r8⟩⟩
    · rw [a2.1 X (by omega)]; exact c3 10 (by omega) (by omega)
    · rw [a2.1 X (by omega)]; exact c3 11 (by omega) (by omega)
    · rw [a2.1 X (by omega)]; exact c3 12 (by omega) (by omega)
    · rw [a2.1 X (by omega)]; exact c3 13 (by omega) (by omega)
    · rw [a2.1 X (by omega)]; exact c3 14 (by omega) (by omega)
    · rw [a2.2 7 (by omega), c7]; decide
    · rw [a2.2 8 (by omega), c8]; decide
    · rw [a2.1 X (by omega), c3 15 (by omega) (by omega)]; decide
    · rw [a2.1 X (by omega), c3 16 (by omega) (by omega)]; decide
  obtain ⟨r, I', Lc', N', L', v, x1, x2, x3, x4, x5, x6⟩ := j_loop hX (D := j_up D 12 9 (some X)) (ju_same _ _ _ _) sX (m - lB tx m 0) (lB tx m 0) 0 0 0 0 0 0 0 false false I1 Lc N1 L1 (Nat.le_refl _) (Nat.zero_le _) hP 100000 100000 (by omega) (by omega)
  refine ⟨r, I', Lc', N', L', v, ?_, ?_, CFr_tr ⟨fun a ha hb => ?_, fun k hk => ?_, fun k hk => ?_, fun _ _ => rfl⟩ x3, x5, ⟨fun a ha hb => ?_, fun k hk => ?_, fun a ha => ?_, fun a j ha hb hj => ?_, fun j hj => ?_, ?_⟩, x6⟩
  · unfold fX8_read
    rw [jo_some (ju_same D 12 9 (some X)), sX, show decide (some (4, 17) = some ((4, 17) : Nat × Nat)) = true by decide]
    rw [show ∀ x : Option (Int32 × JI × JL × JG), j_g true x = x from fun x => rfl, show fX4_empty X M = some (stC1 X M) from rfl, Option.bind_some]
    show (fX8_next (stC X M)).bind _ = _
    rw [a1', Option.bind_some]
    exact x1
  · unfold fX12_readsAll
    have e9 : (j_up (j_up (j_up N 66 33 (0 : Int32)) 66 34 (0 : Int32)) 66 28 (1000 : Int32)) 66 9 = nI m := by
      rw [ju_cell _ _ (by omega), ju_cell _ _ (by omega), ju_cell _ _ (by omega)]; exact h9
    rw [e9]
    show (fX12_nextToken (stR N m) L).bind _ = _
    rw [b1', Option.bind_some]
    exact x2
  · rw [a2.1 a ha, c1 a (by omega) ha]
  · rw [a2.2 k (by omega), c4 k (by omega) (by omega) (by omega) (by omega)]
  · rw [a2.1 X hX12, c2 k hk]
  · rw [x4.1 a ha hb, b2.1 a ha, r1 a ha]
  · rw [x4.2.1 k (by omega), b2.2.1 k (by omega), r2 k (by omega) (by omega) (by omega) (by omega) (by omega) (by omega)]
  · rw [x4.2.2.1 a ha, b2.2.2 a ha]
  · rw [x4.2.2.2.1 a j ha hb hj, b2.1 a (by omega), r1 a (by omega)]
  · rw [x4.2.2.2.2 j hj, b2.1 83 (by omega), r1 83 (by omega)]
  · rw [x4.2.1 9 (by omega), b2.2.1 9 (by omega)]; exact r3
