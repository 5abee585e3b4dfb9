def Dep (cc : List Nat) (V : FV) : Prop := (∀ f g : Nat → Int32, (∀ k, k < 14 → f k = g k) → V f = V g) ∧ ((∀ k, k ∈ cc → ¬ (10009 ≤ k ∧ k ≤ 10012)) → ∀ f g : Nat → Int32, (∀ k, k < 9 ∨ k = 13 → f k = g k) → V f = V g)
def use (w x y : Nat) : Nat := if w = 0 then (4 - x) + 1 + 4 * (5 - y) else 1 + 4 * (5 - x)
def EvP (w x y : Nat) (r : AR) : Prop := r.1 = 0 → ∃ V : FV, CPv r.2.2.1 V (use w x y) ∧ (if w = 0 then RPl y x r.2.2.2.1 V else RPp x r.2.2.2.1 V) ∧ Dep r.2.2.1 V
theorem use_0 {x y : Nat} : use 0 x y = (4 - x) + 1 + 4 * (5 - y) := if_pos rfl
theorem use_1 {x y : Nat} : use 1 x y = 1 + 4 * (5 - x) := if_neg (by decide)
theorem dep_bin {ca cb : List Nat} {t : Nat} {V W : FV} (h1 : Dep ca V) (h2 : Dep cb W) : Dep (ca ++ (cb ++ [20000 + t])) (fun f => bop t (V f) (W f)) := by
  refine ⟨fun f g h => (show bop t (V f) (W f) = bop t (V g) (W g) by rw [h1.1 f g h, h2.1 f g h]), fun hk f g h => ?_⟩
  show bop t (V f) (W f) = bop t (V g) (W g)
  rw [h1.2 (fun k hk' => hk k (List.mem_append.mpr (Or.inl hk'))) f g h, h2.2 (fun k hk' => hk k (List.mem_append.mpr (Or.inr (List.mem_append.mpr (Or.inl hk'))))) f g h]
theorem ev_step {x y t : Nat} {ra rb : AR} (hx : x < 4) (hy : y ≤ 5) (ht : lev t = x) (hA : if x = 1 then EvP 0 2 y ra else EvP 0 x y ra) (hB : EvP 0 (x + 1) y rb) (a0 : ra.1 = 0) (b0 : rb.1 = 0) {b' : Nat} {cf : Bool} : EvP 0 x y (0, b', ra.2.2.1 ++ (rb.2.2.1 ++ [20000 + t]), ra.2.2.2.1 ++ (rop t :: rb.2.2.2.1), cf) := by
  obtain ⟨W, b1, b2, b3⟩ := hB b0
  rw [if_pos rfl] at b2
  rw [use_0] at b1
  have hA' : ∃ V : FV, CPv ra.2.2.1 V (use 0 x y) ∧ (if x = 1 then RPl y 2 ra.2.2.2.1 V else RPl y x ra.2.2.2.1 V) ∧ Dep ra.2.2.1 V := by
    by_cases c : x = 1
    · rw [if_pos c] at hA
      obtain ⟨V, a1, a2, a3⟩ := hA a0
      rw [if_pos rfl] at a2
      rw [use_0] at a1
      exact ⟨V, cp_mono a1 (by rw [use_0]; omega), by rw [if_pos c]; exact a2, a3⟩
    · rw [if_neg c] at hA
      obtain ⟨V, a1, a2, a3⟩ := hA a0
      rw [if_pos rfl] at a2
      exact ⟨V, a1, by rw [if_neg c]; exact a2, a3⟩
  obtain ⟨V, a1, a2, a3⟩ := hA'
  rw [use_0] at a1
  intro _
  refine ⟨fun f => bop t (V f) (W f), ?_, ?_, dep_bin a3 b3⟩
  · have := cp_bin (u := 4 - (x + 1) + 1 + 4 * (5 - y)) (t := t) (cp_mono a1 (by omega)) b1 (by omega) (by omega)
    rw [use_0]
    exact cp_mono this (by omega)
  · rw [if_pos rfl]
    rcases (by omega : x = 0 ∨ x = 1 ∨ x = 2 ∨ x = 3) with rfl | rfl | rfl | rfl
    · rw [if_neg (by decide)] at a2
      exact rl_s0 hy ht a2 b2
    · rw [if_pos rfl] at a2
      exact rl_s1 hy ht a2 b2
    · rw [if_neg (by decide)] at a2
      exact rl_s2 hy ht a2 b2
    · rw [if_neg (by decide)] at a2
      exact rl_s3 hy ht a2 b2
theorem ev_weak {x y : Nat} {r : AR} (hx : x < 4) (h : EvP 0 (x + 1) y r) : EvP 0 x y r := by
  intro h0
  obtain ⟨V, a1, a2, a3⟩ := h h0
  rw [if_pos rfl] at a2
  rw [use_0] at a1
  refine ⟨V, cp_mono a1 (by rw [use_0]; omega), ?_, a3⟩
  rw [if_pos rfl]
  exact rl_weak hx a2
theorem ev_loop {tx : Nat → Nat} {m : Nat} {rc : Nat → AR} {x y : Nat} (hx : x < 4) (hx1 : x ≠ 1) (hy : y ≤ 5) (hrc : ∀ b, EvP 0 (x + 1) y (rc b)) : ∀ n acc, acc.1 = 0 → EvP 0 x y acc → EvP 0 x y (aLp tx m rc x n acc) := by
  intro n
  induction n with
  | zero => intro acc _ h; exact h
  | succ n ih =>
    intro acc h0 h
    rw [aLp]
    by_cases c : lev (lT tx m acc.2.1) = x
    · rw [if_pos c]
      by_cases r0 : (rc (nxB tx m acc.2.1)).1 = 0
      · rw [aBd_0 r0]
        exact ih _ rfl (ev_step hx hy c (by rw [if_neg hx1]; exact h) (hrc _) h0 r0)
      · rw [aBd_n r0]
        exact fun h => absurd h r0
    · rw [if_neg c]; exact h
theorem ev_loop1 {tx : Nat → Nat} {m : Nat} {rc : Nat → AR} {y : Nat} (hy : y ≤ 5) (hrc : ∀ b, EvP 0 2 y (rc b)) {acc : AR} (h0 : acc.1 = 0) (h : EvP 0 2 y acc) : EvP 0 1 y (aLp tx m rc 1 1 acc) := by
  rw [aLp]
  by_cases c : lev (lT tx m acc.2.1) = 1
  · rw [if_pos c]
    by_cases r0 : (rc (nxB tx m acc.2.1)).1 = 0
    · rw [aBd_0 r0, aLp]
      exact ev_step (by omega) hy c (by rw [if_pos rfl]; exact h) (hrc _) h0 r0
    · rw [aBd_n r0]
      exact fun h => absurd h r0
  · rw [if_neg c]
    exact ev_weak (by omega) h
theorem lV_lt {tx : Nat → Nat} {m b : Nat} (h : lT tx m b = 32) : lV tx m b ≤ 9999 := by
  unfold lT at h
  by_cases c : m ≤ b
  · rw [if_pos c] at h; omega
  · rw [if_neg c] at h
    by_cases c1 : isL (tx b) = true
    · rw [if_pos c1] at h
      exfalso
      split at h
      · rcases tkW_le (vB 27 (fun i => tx (b + i) - 96) (rnE isL tx m b - b)) with h' | h' <;> omega
      · omega
    · rw [if_neg c1] at h
      by_cases c2 : isDg (tx b) = true
      · rw [if_pos c2] at h
        by_cases c3 : rnE isDg tx m b - b ≤ 4
        · unfold lV
          have h1 := vB_lt (B := 10) (f := fun i => tx (b + i) - 48) (by omega) (rnE isDg tx m b - b) (fun i hi => by
            have := rn_in (P := isDg) (tx := tx) (m := m) (i := b) (k := b + i) (by omega) (by omega)
            unfold isDg at this
            rw [Bool.and_eq_true, decide_eq_true_eq, decide_eq_true_eq] at this
            show tx (b + i) - 48 < 10
            omega)
          have h2 : 10 ^ (rnE isDg tx m b - b) ≤ 10 ^ 4 := Nat.pow_le_pow_right (by omega) c3
          have h3 : (10 : Nat) ^ 4 = 10000 := by decide
          omega
        · rw [if_neg c3] at h; omega
      · rw [if_neg c2] at h
        by_cases c3 : isSg (tx b) = true
        · rw [if_pos c3] at h
          have := (sg_ge c3).1
          omega
        · rw [if_neg c3] at h; omega
/-- what is read is worth the same to both -/
theorem ev_all {tx : Nat → Nat} {m : Nat} : ∀ z w x y b, ((w = 0 ∧ x ≤ 4) ∨ w = 1) → x ≤ 5 → y ≤ 5 → EvP w x y (aR tx m z w x y b) := by
  intro z
  induction z with
  | zero => intro w x y b _ _ _ h; rw [aR] at h; exact absurd h (by decide)
  | succ z ih =>
    intro w x y b hw hx5 hy
    rcases hw with ⟨rfl, hx⟩ | rfl
    · rw [aR, if_pos rfl]
      by_cases cx : x < 4
      · rw [if_pos cx]
        have ihx : ∀ b, EvP 0 (x + 1) y (aR tx m z 0 (x + 1) y b) := fun b => ih 0 (x + 1) y b (Or.inl ⟨rfl, by omega⟩) (by omega) hy
        by_cases r0 : (aR tx m z 0 (x + 1) y b).1 = 0
        · rw [aBd_0 r0]
          by_cases c1 : x = 1
          · subst c1
            rw [if_pos rfl]
            exact ev_loop1 hy ihx r0 (ihx b)
          · rw [if_neg c1]
            exact ev_loop cx c1 hy ihx 1000 _ r0 (ev_weak cx (ihx b))
        · rw [aBd_n r0]
          exact fun h => absurd h r0
      · rw [if_neg cx]
        have h4 : x = 4 := by omega
        subst h4
        intro h0
        obtain ⟨V, a1, a2, a3⟩ := ih 1 y 0 b (Or.inr rfl) hy (by omega) h0
        rw [if_neg (by decide)] at a2
        rw [use_1] at a1
        exact ⟨V, cp_mono a1 (by rw [use_0]; omega), by rw [if_pos rfl]; exact rl_4 a2, a3⟩
    · rw [aR, if_neg (by decide)]
      intro h0
      have key : ∃ V : FV, CPv (aPc tx m (aR tx m z) x b).2.2.1 V (1 + 4 * (5 - x)) ∧ RPp x (aPc tx m (aR tx m z) x b).2.2.2.1 V ∧ Dep (aPc tx m (aR tx m z) x b).2.2.1 V := by
        unfold aPc at h0 ⊢
        by_cases c1 : 14 ≤ lT tx m b ∧ lT tx m b ≠ 32 ∧ lT tx m b ≠ 30 ∧ lT tx m b ≠ 40
        · rw [if_pos c1] at h0
          have h' : 1 + 16 * b = 0 := h0
          omega
        · rw [if_neg c1] at h0 ⊢
          by_cases c2 : 5 ≤ x
          · rw [if_pos c2] at h0
            have h' : 5 + 16 * b = 0 := h0
            omega
          · rw [if_neg c2] at h0 ⊢
            by_cases c3 : lT tx m b = 32
            · rw [if_pos c3]
              exact ⟨_, cp_num (lV_lt c3) (by omega), rp_num (by omega) (lV_lt c3), fun f g _ => rfl, fun _ f g _ => rfl⟩
            · rw [if_neg c3] at h0 ⊢
              by_cases c4 : lT tx m b < 14
              · rw [if_pos c4]
                refine ⟨_, cp_fact c4 (by omega), rp_fact (by omega) c4, fun f g h => h _ c4, fun hk f g h => h _ ?_⟩
                have := hk (10000 + lT tx m b) (List.mem_singleton.mpr rfl)
                omega
              · rw [if_neg c4] at h0 ⊢
                by_cases c5 : lT tx m b = 30
                · rw [if_pos c5] at h0 ⊢
                  by_cases r0 : (aR tx m z 1 (x + 1) 0 (nxB tx m b)).1 = 0
                  · rw [aBd_0 r0]
                    obtain ⟨V, a1, a2, a3⟩ := ih 1 (x + 1) 0 (nxB tx m b) (Or.inr rfl) (by omega) (by omega) r0
                    rw [if_neg (by decide)] at a2
                    rw [use_1] at a1
                    refine ⟨fun f => neg1 (V f), cp_mono (cp_not a1 (by omega)) (by omega), rp_not (by omega) a2, fun f g h => ?_, fun hk f g h => ?_⟩
                    · show neg1 (V f) = neg1 (V g)
                      rw [a3.1 f g h]
                    · show neg1 (V f) = neg1 (V g)
                      rw [a3.2 (fun k hk' => hk k (List.mem_append.mpr (Or.inl hk'))) f g h]
                  · rw [aBd_n r0] at h0
                    exact absurd h0 r0
                · rw [if_neg c5] at h0 ⊢
                  by_cases r0 : (aR tx m z 0 0 (x + 1) (nxB tx m b)).1 = 0
                  · rw [aBd_0 r0] at h0 ⊢
                    by_cases c6 : lT tx m (aR tx m z 0 0 (x + 1) (nxB tx m b)).2.1 = 41
                    · rw [if_pos c6]
                      obtain ⟨V, a1, a2, a3⟩ := ih 0 0 (x + 1) (nxB tx m b) (Or.inl ⟨rfl, by omega⟩) (by omega) (by omega) r0
                      rw [if_pos rfl] at a2
                      rw [use_0] at a1
                      exact ⟨V, cp_mono a1 (by omega), rp_par (by omega) a2, a3⟩
                    · rw [if_neg c6] at h0
                      have h' : 1 + 16 * (aR tx m z 0 0 (x + 1) (nxB tx m b)).2.1 = 0 := h0
                      omega
                  · rw [aBd_n r0] at h0
                    exact absurd h0 r0
      obtain ⟨V, a1, a2, a3⟩ := key
      exact ⟨V, by rw [use_1]; exact a1, by rw [if_neg (by decide)]; exact a2, a3⟩
