/-! ===== what holds at the start ===== -/
def zr (M : JI) (a : Nat) : Nat → Bool
  | 0 => true
  | n + 1 => decide (M a n = nI 0) && zr M a n
def zn (D : JG) (a : Nat) : Nat → Bool
  | 0 => true
  | n + 1 => decide (D a n = none) && zn D a n
def zo (M : JI) (a : Nat) : Nat → Bool
  | 0 => true
  | n + 1 => decide (M a n = nI 1) && zo M a n
theorem zr_at {M : JI} {a : Nat} : ∀ {n : Nat}, zr M a n = true → ∀ k, k < n → M a k = nI 0
  | 0, _, k, hk => absurd hk (by omega)
  | n + 1, h, k, hk => by
    rw [zr, Bool.and_eq_true] at h
    by_cases c : k = n
    · rw [c]; exact of_decide_eq_true h.1
    · exact zr_at h.2 k (by omega)
theorem zn_at {D : JG} {a : Nat} : ∀ {n : Nat}, zn D a n = true → ∀ k, k < n → D a k = none
  | 0, _, k, hk => absurd hk (by omega)
  | n + 1, h, k, hk => by
    rw [zn, Bool.and_eq_true] at h
    by_cases c : k = n
    · rw [c]; exact of_decide_eq_true h.1
    · exact zn_at h.2 k (by omega)
theorem zo_at {M : JI} {a : Nat} : ∀ {n : Nat}, zo M a n = true → ∀ k, k < n → M a k = nI 1
  | 0, _, k, hk => absurd hk (by omega)
  | n + 1, h, k, hk => by
    rw [zo, Bool.and_eq_true] at h
    by_cases c : k = n
    · rw [c]; exact of_decide_eq_true h.1
    · exact zo_at h.2 k (by omega)
def st1 (q : JI × JL × JG × JG × JS) : Bool := decide (q.1 1 5 = nI 0) && decide (q.1 1 6 = nI 0) && decide (q.1 1 7 = nI 65535) && decide (q.1 1 8 = nI 0) && decide (q.1 1 9 = nI 0) && decide (q.1 66 8 = nI 0) && decide (q.1 66 9 = nI 0) && decide (q.1 12 1 = nI 0) && decide (q.1 20 19 = -nI 1) && decide (q.1 30 12 = -nI 1) && decide (q.1 33 14 = -nI 1) && decide (q.1 30 6 = nI 0) && decide (q.1 66 81 = nI 0) && decide (q.1 66 88 = nI 0) && decide (q.1 66 52 = nI 0) && decide (q.1 0 12 = nI 0) && decide (q.1 0 13 = nI 0)
def st2 (q : JI × JL × JG × JG × JS) : Bool := decide (q.1 66 18 = nI 0) && decide (q.1 66 29 = nI 0) && decide (q.1 66 30 = nI 0) && decide (q.1 44 11 = nI 0) && decide (q.1 44 12 = nI 0) && decide (q.1 44 14 = nI 0) && decide (q.1 44 15 = nI 0) && decide (q.1 44 16 = nI 0) && decide (q.2.2.2.1 0 10 = some 44) && decide (q.2.2.2.1 0 11 = some 55) && decide (q.2.2.2.1 15 5 = some 44)
def st3 (q : JI × JL × JG × JG × JS) : Bool := zr q.1 67 12 && zr q.1 68 192 && zr q.1 8 192 && zr q.1 9 12 && zr q.1 10 16 && zr q.1 11 16
def st4 (q : JI × JL × JG × JG × JS) : Bool := zr q.1 2 48 && zr q.1 3 12 && zr q.1 69 144 && zr q.1 4 12 && zr q.1 70 144 && zr q.1 5 256 && zr q.1 6 16 && zr q.1 71 256
def st5 (q : JI × JL × JG × JG × JS) : Bool := zr q.1 72 16 && zo q.1 73 16 && zr q.1 127 4 && zn q.2.2.2.1 42 40 && zn q.2.2.2.1 43 4 && zn q.2.2.2.1 31 6 && decide (q.2.2.2.2 = lay_S ++ [(23, 1)])
theorem i3_1 : i_3.map st1 = some true := by decide +kernel
theorem i3_2 : i_3.map st2 = some true := by decide +kernel
theorem i3_3 : i_3.map st3 = some true := by decide +kernel
theorem i3_4 : i_3.map st4 = some true := by decide +kernel
theorem i3_5 : i_3.map st5 = some true := by decide +kernel
