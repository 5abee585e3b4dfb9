/-! ===== counting bits ===== -/
def all2 (f : Nat → Bool) : Nat → Nat → Bool
  | 0, b => f b
  | k + 1, b => all2 f k b && all2 f k (b + 2 ^ k)
theorem all2_ok (f : Nat → Bool) : ∀ k b, all2 f k b = true → ∀ x, b ≤ x → x < b + 2 ^ k → f x = true := by
  intro k
  induction k with
  | zero =>
    intro b h x h1 h2
    have : x = b := by simp at h2; omega
    subst this; exact h
  | succ k ih =>
    intro b h x h1 h2
    rw [all2, Bool.and_eq_true] at h
    by_cases c : x < b + 2 ^ k
    · exact ih b h.1 x h1 c
    · exact ih (b + 2 ^ k) h.2 x (by omega) (by rw [Nat.pow_succ] at h2; omega)
theorem bc_12 : all2 (fun v => decide (fJ6_bitCount_0f7a4 (nI v) = some (nI (fb_ct (fun i => v.testBit i) 12)))) 12 0 = true := by decide +kernel
