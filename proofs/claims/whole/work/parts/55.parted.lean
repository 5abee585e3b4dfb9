theorem pd_sum {M M' : JI} {k b u : Nat} {s : Bool} {g R : Int32} (hk : k < 40) (hu : u < 16) (hJ : ∀ a, 96 ≤ a → a ≤ 113 → M' a = M a) (es : M 108 k = bI s) (vq : ∀ q, q < 16 → vP2 (16 * k + q) q s g (M (b + 2)) (M (b + 3)) (M (b + 4)) (M (b + 5)) M) (hR : R ≠ -nI 1) (hRu : M 109 (16 * k + u) = R) : ∀ d q, q + d = 16 → ∀ n, d < n → ∀ A, A ≤ 144 * q → ∃ A', A ≤ A' ∧ A' ≤ 2304 ∧ (q ≤ u → 0 < A') ∧ fX7_weightsOf_4 b n R (nI A) (nI q) M = some (nI A') ∧ fX12_parted_37 n (nI k) (nI u) R (nI A) (nI (16 * k + q)) M' = fX12_parted_91 (nI k) (nI u) R (nI A') M' := by
  have e16 : (16 : Int32) * nI k + (16 : Int32) = nI (16 * k + 16) := at16 k 16
  intro d
  induction d with
  | zero =>
    intro q hq n hn A hA
    obtain ⟨n', rfl⟩ := suc_of hn
    have : q = 16 := by omega
    subst this
    refine ⟨A, by omega, by omega, by omega, ?_, ?_⟩
    · rw [fX7_weightsOf_4, if_pos (by decide)]
    · rw [fX12_parted_37, e16, if_pos (nI_le (Nat.le_refl _) (by omega))]
  | succ d ih =>
    intro q hq n hn A hA
    obtain ⟨n', rfl⟩ := suc_of hn
    have e1 : nI q + (1 : Int32) = nI (q + 1) := nI_1 q
    have e2 : nI (16 * k + q) + (1 : Int32) = nI (16 * k + (q + 1)) := nI_1 _
    have g1 : ¬ (16 : Int32) ≤ nI q := nI_ge (b := 16) (by omega) (by omega)
    have g2 : ¬ nI (16 * k + 16) ≤ nI (16 * k + q) := nI_ge (by omega) (by omega)
    obtain ⟨w1, w2, w3, w4, w5, w6⟩ := vq q (by omega)
    rw [fX7_weightsOf_4, fX12_parted_37, if_neg g1, e16, if_neg g2, jg_in (by omega) (by decide), jg_in (by omega) (by decide), jg_in (by omega) (by decide), jg_in (by omega) (by decide), jg_in (by omega) (by decide), nI_clamp (by omega), nI_clamp (by omega), nI_clamp (by omega), hJ 109 (by omega) (by omega), hJ 108 (by omega) (by omega), hJ 111 (by omega) (by omega), ← w1, e1, e2, es, bI_b01]
    by_cases c : M 109 (16 * k + q) = R
    · obtain ⟨-, w, hw1, hw2, w7, w8, -⟩ := w6 (by rw [c]; exact hR)
      rw [if_pos c, if_pos c, w7, w8]
      cases s with
      | true =>
        obtain ⟨A', a1, a2, a3, a4, a5⟩ := ih (q + 1) (by omega) n' (by omega) (A + w) (by omega)
        refine ⟨A', by omega, a2, fun _ => by omega, ?_, ?_⟩
        · rw [if_pos rfl, nI_add, a4]
        · rw [if_neg (by decide), nI_add, a5]
      | false =>
        obtain ⟨A', a1, a2, a3, a4, a5⟩ := ih (q + 1) (by omega) n' (by omega) (A + 1) (by omega)
        refine ⟨A', by omega, a2, fun _ => by omega, ?_, ?_⟩
        · rw [if_neg (by simp), nI_add, a4]
        · rw [if_pos (by decide), nI_1, a5]
    · obtain ⟨A', a1, a2, a3, a4, a5⟩ := ih (q + 1) (by omega) n' (by omega) A (by omega)
      refine ⟨A', a1, a2, fun h => ?_, ?_, ?_⟩
      · apply a3
        have : q ≠ u := by
          intro e
          subst e
          exact c hRu
        omega
      · rw [if_neg c, a4]
      · rw [if_neg c, a5]
theorem pd_loop {M M' : JI} {k b u w A : Nat} {s : Bool} {g R : Int32} (hk : k < 40) (hu : u < 16) (hJ : ∀ a, 96 ≤ a → a ≤ 113 → M' a = M a) (es : M 108 k = bI s) (vq : ∀ q, q < 16 → vP2 (16 * k + q) q s g (M (b + 2)) (M (b + 3)) (M (b + 4)) (M (b + 5)) M) (hR : R ≠ -nI 1) (hRu : M 109 (16 * k + u) = R) (hA : 0 < A) (hA2 : A ≤ 2304) (ew : M 99 k = nI w) (ew' : M (b + 1) 3 = nI w) : ∀ d q, q + d = 16 → ∀ n, d < n → ∀ l c : Int32, ∃ x, fX7_portion_31 b n (nI u) (nI A) l c (nI q) M = some x ∧ fX12_parted_105 n (nI k) (nI u) R (nI A) l c (nI q) M' = some (x, M') := by
  have hA0 : ¬ nI A = 0 := nI_ne0 hA (by omega)
  have gA : ∀ {α : Type} (z : Option α), j_g (decide (¬ nI A = 0)) z = z := fun z => jg_d hA0
  have gk : ∀ {α : Type} (z : Option α), j_g (j_in (nI k) 40) z = z := fun z => jg_in (by omega) (by decide)
  have ek : (nI k).toNatClampNeg = k := nI_clamp (by omega)
  have hv : ∀ q, q < 16 → M 109 (16 * k + q) = R → M (b + 4) q = if s then M 111 (16 * k + q) else nI 1 := by
    intro q hq hc
    obtain ⟨w1, w2, w3, w4, w5, w6⟩ := vq q hq
    obtain ⟨-, w, hw1, hw2, w7, w8, -⟩ := w6 (by rw [hc]; exact hR)
    rw [w7, w8]
  intro d
  induction d with
  | zero =>
    intro q hq n hn l c
    obtain ⟨n', rfl⟩ := suc_of hn
    have : q = 16 := by omega
    subst this
    rw [fX7_portion_31, fX12_parted_105, if_pos (by decide), if_pos (by decide)]
    unfold fX7_portion_96 fX12_parted_185 fX12_parted_215
    rw [jg_in hu (by decide), gA, gk, gk, ek, at16, jg_in (by omega) (by decide), nI_clamp (by omega), nI_clamp (by omega), hJ 108 (by omega) (by omega), hJ 99 (by omega) (by omega), hJ 111 (by omega) (by omega), es, bI_b01, ew, ew', hv u hu hRu, gA, gA]
    by_cases cc : l ≤ c
    · simp only [cc, if_true]
      cases s
      · exact ⟨_, rfl, rfl⟩
      · exact ⟨_, rfl, rfl⟩
    · simp only [cc, if_false]
      cases s
      · exact ⟨_, rfl, rfl⟩
      · exact ⟨_, rfl, rfl⟩
  | succ d ih =>
    intro q hq n hn l c
    obtain ⟨n', rfl⟩ := suc_of hn
    have e1 : nI q + (1 : Int32) = nI (q + 1) := nI_1 q
    have g1 : ¬ (16 : Int32) ≤ nI q := nI_ge (b := 16) (by omega) (by omega)
    obtain ⟨w1, -⟩ := vq q (by omega)
    obtain ⟨u1, -⟩ := vq u hu
    have c0 : c + (0 : Int32) = c := Int32.add_zero c
    rw [fX7_portion_31, fX12_parted_105, if_neg g1, if_neg g1, at16]
    simp (disch := omega) only [jg_in, gA, nI_clamp]
    rw [hJ 109 (by omega) (by omega), hJ 108 (by omega) (by omega), hJ 111 (by omega) (by omega), hJ 99 (by omega) (by omega), ← w1, ← u1, hRu, e1, es, bI_b01, ew, ew', c0]
    unfold fX12_parted_163
    rw [gA, gA, e1]
    by_cases cc : M 109 (16 * k + q) = R
    · rw [if_pos cc, if_pos cc, hv q (by omega) cc]
      by_cases c2 : nI u ≤ nI q
      · simp only [c2, if_true]
        cases s
        · exact ih (q + 1) (by omega) n' (by omega) (l - nI w * nI 1 / nI A) c
        · exact ih (q + 1) (by omega) n' (by omega) (l - nI w * M 111 (16 * k + q) / nI A) c
      · simp only [c2, if_false]
        cases s
        · exact ih (q + 1) (by omega) n' (by omega) (l - nI w * nI 1 / nI A) (c + 1)
        · exact ih (q + 1) (by omega) n' (by omega) (l - nI w * M 111 (16 * k + q) / nI A) (c + 1)
    · rw [if_neg cc, if_neg cc]
      exact ih (q + 1) (by omega) n' (by omega) _ _
theorem op_parted {n : Nat} {M : JI} {L : JL} {D : JG} {S : JS} (h : Inv n M L D S) (x y : Int32) : ∃ r M2, fX11_parted x y M D S = some r ∧ fX12_parted x y M = some (r, M2) ∧ Inv (n + 1) M2 L D S := by
  have hh := h
  obtain ⟨h1, h2, h3, h4, h5, h6, h7, h8, h9, h10, h11, h12, h13, h14, h15, h16, h17, h18, h19⟩ := hh
  unfold fX11_parted fX12_parted fX12_mays
  rcases pa_cases h13 h16 x with ⟨x1, x2⟩ | ⟨m, k, b, hm, e0, hk, rfl, hb, h137, hS, x1, x2, V⟩
  · exact ⟨-nI 1, j_up M 66 0 (nI 0), by rw [x1]; rfl, by rw [x2 _ (ju_cell _ _ (by omega))]; rfl, inv_thr h _⟩
  · have x2' := x2 (j_up M 66 0 (0 : Int32)) (ju_cell _ _ (by omega))
    rcases ps_cases y with ⟨y1, y2⟩ | ⟨u, hu, rfl, y1, y2⟩
    · exact ⟨-nI 1, j_up M 66 0 (nI 0), by rw [x1, Option.bind_some, jo_s, jg_d hS, y1]; rfl, by rw [x2', y2]; rfl, inv_thr h _⟩
    · obtain ⟨-, -, -, ⟨w, -, hw, ew, ew'⟩, -, -, -, -, -, -, -, -, s, es, vq⟩ := V
      obtain ⟨w1, w2, -⟩ := vq u hu
      have hJ : ∀ a, 96 ≤ a → a ≤ 113 → (j_up M 66 0 (0 : Int32)) a = M a := fun a _ _ => ju_row _ _ (by omega)
      by_cases c : M 109 (16 * k + u) = -nI 1
      · refine ⟨-nI 1, j_up M 66 0 (nI 0), ?_, ?_, inv_thr h _⟩
        · rw [x1, Option.bind_some, jo_s, jg_d hS, y1, Option.bind_some, if_neg (by decide), jg_in hu (by decide), nI_clamp (by omega), ← w1, li_1, if_pos c]
        · rw [x2', Option.bind_some, if_neg (by decide), y2, Option.bind_some, if_neg (by decide), at16, jg_in (by omega) (by decide), nI_clamp (by omega), ju_row _ _ (show (109 : Nat) ≠ 66 by omega), if_pos ((okR_neg w2 (by omega)).1.mpr c)]; rfl
      · have c' : ¬ M 109 (16 * k + u) < 0 := fun hc => c ((okR_neg w2 (by omega)).1.mp hc)
        obtain ⟨A, -, a2, a3, a4, a5⟩ := pd_sum (M' := j_up M 66 0 (0 : Int32)) (show k < 40 by omega) hu hJ es vq c rfl 16 0 (by omega) 100000 (by omega) 0 (by omega)
        obtain ⟨r, r1, r2⟩ := pd_loop (M' := j_up M 66 0 (0 : Int32)) (show k < 40 by omega) hu hJ es vq c rfl (a3 (by omega)) a2 ew ew' 16 0 (by omega) 100000 (by omega) (nI w) (nI 0)
        have hA0 : (0 : Int32) < nI A := nI_lt (a := 0) (a3 (by omega)) (by omega)
        have e160 : (16 : Int32) * nI k = nI (16 * k + 0) := by
          show nI 16 * nI k = _
          rw [pk_mul, Nat.add_zero]
        refine ⟨r, j_up M 66 0 (nI 0), ?_, ?_, inv_thr h _⟩
        · rw [x1, Option.bind_some, jo_s, jg_d hS, y1, Option.bind_some, if_neg (by decide), jg_in hu (by decide), nI_clamp (by omega), ← w1, li_1, if_neg c]
          unfold fX7_portion fX7_weightsOf
          have a4' : fX7_weightsOf_4 b 100000 (M 109 (16 * k + u)) 0 0 M = some (nI A) := a4
          have r1' : fX7_portion_31 b 100000 (nI u) (nI A) (nI w) 0 0 M = some r := r1
          rw [jg_in hu (by decide), nI_clamp (by omega), ← w1, a4', Option.bind_some, if_pos hA0, ew', r1']; rfl
        · rw [x2', Option.bind_some, if_neg (by decide), y2, Option.bind_some, if_neg (by decide), at16, jg_in (by omega) (by decide), nI_clamp (by omega), ju_row _ _ (show (109 : Nat) ≠ 66 by omega), if_neg c', Option.bind_some, if_neg (by decide), jg_in (by omega) (by decide), e160]
          have a5' : fX12_parted_37 100000 (nI k) (nI u) (M 109 (16 * k + u)) 0 (nI (16 * k + 0)) (j_up M 66 0 (0 : Int32)) = _ := a5
          rw [a5']
          unfold fX12_parted_91
          rw [jg_in (by omega) (by decide), nI_clamp (by omega), hJ 99 (by omega) (by omega), ew]
          exact r2
