/-! ===== the law's text: tokens ===== -/
def isL (c : Nat) : Bool := decide (97 ≤ c) && decide (c ≤ 122)
def isDg (c : Nat) : Bool := decide (48 ≤ c) && decide (c ≤ 57)
def isSg (c : Nat) : Bool := (decide (40 ≤ c) && decide (c ≤ 43)) || decide (c = 45) || (decide (59 ≤ c) && decide (c ≤ 61))
def isBl (c : Nat) : Bool := decide (c = 10) || decide (c = 32)
def rnE (P : Nat → Bool) (tx : Nat → Nat) (m i : Nat) : Nat := i + fa_first (fun d => !P (tx (i + d))) (m - i)
theorem rn_le {P : Nat → Bool} {tx : Nat → Nat} {m i : Nat} (h : i ≤ m) : i ≤ rnE P tx m i ∧ rnE P tx m i ≤ m := by
  unfold rnE
  have := fa_first_le (fun d => !P (tx (i + d))) (m - i)
  omega
theorem rn_stop {P : Nat → Bool} {tx : Nat → Nat} {m i : Nat} (h : ¬ (i < m ∧ P (tx i) = true)) : rnE P tx m i = i := by
  unfold rnE
  by_cases c : i < m
  · have hp : P (tx i) = false := by
      cases e : P (tx i) with
      | false => rfl
      | true => exact absurd ⟨c, e⟩ h
    have : fa_first (fun d => !P (tx (i + d))) (m - i) = 0 := ff_is (fun j hj => absurd hj (by omega)) (by rw [Nat.add_zero, hp]; rfl) (by omega)
    rw [this, Nat.add_zero]
  · rw [show m - i = 0 by omega]
    have := fa_first_le (fun d => !P (tx (i + d))) 0
    omega
theorem ff_shift {P : Nat → Bool} {n : Nat} (h0 : P 0 = false) : fa_first P (n + 1) = fa_first (fun d => P (d + 1)) n + 1 := by
  have hle := fa_first_le (fun d => P (d + 1)) n
  by_cases c : fa_first (fun d => P (d + 1)) n < n
  · refine ff_is (fun i hi => ?_) (fa_first_yes (fun d => P (d + 1)) n c) (by omega)
    cases i with
    | zero => exact h0
    | succ i => exact fa_first_no (fun d => P (d + 1)) n i (by omega)
  · have e : fa_first (fun d => P (d + 1)) n = n := by omega
    rw [e]
    refine ff_none (fun i hi => ?_)
    cases i with
    | zero => exact h0
    | succ i => exact fa_first_no (fun d => P (d + 1)) n i (by omega)
theorem rn_go {P : Nat → Bool} {tx : Nat → Nat} {m i : Nat} (h : i < m) (hp : P (tx i) = true) : rnE P tx m i = rnE P tx m (i + 1) := by
  unfold rnE
  rw [show m - i = (m - (i + 1)) + 1 by omega, ff_shift (by rw [Nat.add_zero, hp]; rfl)]
  have : (fun d => !P (tx (i + (d + 1)))) = fun d => !P (tx (i + 1 + d)) := by
    funext d
    rw [show i + (d + 1) = i + 1 + d by omega]
  rw [this]
  omega
theorem rn_in {P : Nat → Bool} {tx : Nat → Nat} {m i k : Nat} (h1 : i ≤ k) (h2 : k < rnE P tx m i) : P (tx k) = true := by
  unfold rnE at h2
  have := fa_first_no (fun d => !P (tx (i + d))) (m - i) (k - i) (by omega)
  have h3 : (!P (tx (i + (k - i)))) = false := this
  rw [show i + (k - i) = k by omega] at h3
  simpa using h3
/-- digits, from the left -/
def vB (B : Nat) (f : Nat → Nat) : Nat → Nat
  | 0 => 0
  | n + 1 => vB B f n * B + f n
theorem vB_cong {B : Nat} {f g : Nat → Nat} : ∀ n, (∀ i, i < n → f i = g i) → vB B f n = vB B g n := by
  intro n
  induction n with
  | zero => intro _; rfl
  | succ n ih =>
    intro h
    rw [vB, vB, ih (fun i hi => h i (by omega)), h n (by omega)]
theorem vB_uni {f g : Nat → Nat} : ∀ n n', (∀ i, i < n → 1 ≤ f i ∧ f i ≤ 26) → (∀ i, i < n' → 1 ≤ g i ∧ g i ≤ 26) → vB 27 f n = vB 27 g n' → n = n' ∧ ∀ i, i < n → f i = g i := by
  intro n
  induction n with
  | zero =>
    intro n' h1 h2 e
    cases n' with
    | zero => exact ⟨rfl, fun i hi => absurd hi (by omega)⟩
    | succ n' =>
      have := h2 n' (by omega)
      rw [vB, vB] at e
      omega
  | succ n ih =>
    intro n' h1 h2 e
    cases n' with
    | zero =>
      have := h1 n (by omega)
      rw [vB, vB] at e
      omega
    | succ n' =>
      have q1 := h1 n (by omega)
      have q2 := h2 n' (by omega)
      rw [vB, vB] at e
      obtain ⟨e1, e2⟩ := ih n' (fun i hi => h1 i (by omega)) (fun i hi => h2 i (by omega)) (by omega)
      subst e1
      refine ⟨rfl, fun i hi => ?_⟩
      by_cases c : i = n
      · rw [c]; omega
      · exact e2 i (by omega)
theorem vB_lt {B : Nat} {f : Nat → Nat} (hB : 1 ≤ B) : ∀ n, (∀ i, i < n → f i < B) → vB B f n < B ^ n := by
  intro n
  induction n with
  | zero => intro _; simp [vB]
  | succ n ih =>
    intro h
    have h1 := ih (fun i hi => h i (by omega))
    have h2 := h n (by omega)
    rw [vB, Nat.pow_succ]
    have : vB B f n * B + B ≤ B ^ n * B := by
      have : (vB B f n + 1) * B ≤ B ^ n * B := Nat.mul_le_mul_right B (by omega)
      rw [Nat.add_mul, Nat.one_mul] at this
      exact this
    omega
/-- the table's words -/
def wbN (j : Nat) : Nat := (jm_wb.getD j 0).toNatClampNeg
def lnW (k : Nat) : Nat := fb_ct (fun i => !decide (wbN (8 * k + i) = 32)) 8
def kc (k : Nat) : Nat := vB 27 (fun i => wbN (8 * k + i) - 96) (lnW k)
theorem wb_ok : ∀ k, k < 31 → (1 ≤ lnW k ∧ lnW k ≤ 8) ∧ ∀ i, i < 8 → jm_wb.getD (8 * k + i) 0 = nI (wbN (8 * k + i)) ∧ (i < lnW k → 97 ≤ wbN (8 * k + i) ∧ wbN (8 * k + i) ≤ 122) ∧ (lnW k ≤ i → wbN (8 * k + i) = 32) := by decide +kernel
theorem kc_inj : ∀ k, k < 31 → ∀ j, j < 31 → kc k = kc j → k = j := by decide +kernel
theorem kc_val : kc 0 = 14 ∧ kc 1 = 8863997 ∧ kc 2 = 315904 ∧ kc 3 = 5948362 ∧ kc 4 = 82236848 ∧ kc 5 = 5878 ∧ kc 6 = 375035 ∧ kc 7 = 144524 ∧ kc 8 = 390787 ∧ kc 9 = 279346 ∧ kc 10 = 4555648 ∧ kc 11 = 312409 ∧ kc 12 = 60203876 ∧ kc 13 = 2968 ∧ kc 14 = 8276 ∧ kc 15 = 10256063 ∧ kc 16 = 380651 ∧ kc 17 = 12257559 ∧ kc 18 = 3379448 ∧ kc 19 = 131360 ∧ kc 20 = 6946700 ∧ kc 21 = 8536420 ∧ kc 22 = 419 ∧ kc 23 = 335207579 ∧ kc 24 = 458690 ∧ kc 25 = 404923 ∧ kc 26 = 4350799 ∧ kc 27 = 276913720 ∧ kc 28 = 1111 ∧ kc 29 = 423 ∧ kc 30 = 10631 := by decide +kernel
def tkW (v : Nat) : Nat := if fa_first (fun k => decide (kc k = v)) 31 < 31 then fa_first (fun k => decide (kc k = v)) 31 else 34
theorem tkW_iff {v k : Nat} (hk : k < 31) : tkW v = k ↔ kc k = v := by
  unfold tkW
  constructor
  · intro h
    by_cases c : fa_first (fun k => decide (kc k = v)) 31 < 31
    · rw [if_pos c] at h
      have := fa_first_yes (fun k => decide (kc k = v)) 31 c
      rw [h] at this
      exact of_decide_eq_true this
    · rw [if_neg c] at h; omega
  · intro h
    have e : fa_first (fun k => decide (kc k = v)) 31 = k := ff_is (fun i hi => by
      refine decide_eq_false (fun e => ?_)
      have := kc_inj i (by omega) k hk (by rw [e, h])
      omega) (decide_eq_true h) hk
    rw [e, if_pos hk]
theorem tkW_le (v : Nat) : tkW v < 31 ∨ tkW v = 34 := by
  unfold tkW
  split
  · left; assumption
  · right; rfl
/-- a word of the text is the k-th of the table, by letters and by its number -/
theorem wd_iff {tx : Nat → Nat} {b n k : Nat} (hk : k < 31) (hn : n ≤ 8) (hl : ∀ i, i < n → isL (tx (b + i)) = true) : (∀ i, i < 8 → (if i < n then tx (b + i) else 32) = wbN (8 * k + i)) ↔ vB 27 (fun i => tx (b + i) - 96) n = kc k := by
  obtain ⟨⟨w1, w2⟩, w3⟩ := wb_ok k hk
  have hl' : ∀ i, i < n → 97 ≤ tx (b + i) ∧ tx (b + i) ≤ 122 := by
    intro i hi
    have := hl i hi
    unfold isL at this
    simpa using this
  unfold kc
  constructor
  · intro h
    have e : n = lnW k := by
      by_cases c1 : n < lnW k
      · have q1 := h n (by omega)
        rw [if_neg (by omega)] at q1
        have := (w3 n (by omega)).2.1 c1
        omega
      · by_cases c2 : lnW k < n
        · have q1 := h (lnW k) (by omega)
          rw [if_pos c2, (w3 (lnW k) (by omega)).2.2 (Nat.le_refl _)] at q1
          have := hl' (lnW k) c2
          omega
        · omega
    rw [← e]
    refine vB_cong n (fun i hi => ?_)
    have q1 := h i (by omega)
    rw [if_pos hi] at q1
    show tx (b + i) - 96 = wbN (8 * k + i) - 96
    rw [q1]
  · intro h i hi
    obtain ⟨e1, e2⟩ := vB_uni n (lnW k) (fun i hi => by
      have := hl' i hi
      show 1 ≤ tx (b + i) - 96 ∧ tx (b + i) - 96 ≤ 26
      omega) (fun i hi => by
      have := (w3 i (by omega)).2.1 hi
      show 1 ≤ wbN (8 * k + i) - 96 ∧ wbN (8 * k + i) - 96 ≤ 26
      omega) h
    by_cases c : i < n
    · rw [if_pos c]
      have q1 := e2 i c
      have q1' : tx (b + i) - 96 = wbN (8 * k + i) - 96 := q1
      have := hl' i c
      have := (w3 i hi).2.1 (by omega)
      omega
    · rw [if_neg c, (w3 i hi).2.2 (by omega)]
/-- the token that stands at b -/
def lE (tx : Nat → Nat) (m b : Nat) : Nat := if m ≤ b then b else if isL (tx b) = true then rnE isL tx m b else if isDg (tx b) = true then rnE isDg tx m b else b + 1
def lT (tx : Nat → Nat) (m b : Nat) : Nat := if m ≤ b then 33 else if isL (tx b) = true then (if rnE isL tx m b - b ≤ 8 then tkW (vB 27 (fun i => tx (b + i) - 96) (rnE isL tx m b - b)) else 34) else if isDg (tx b) = true then (if rnE isDg tx m b - b ≤ 4 then 32 else 34) else if isSg (tx b) = true then tx b else 34
def lV (tx : Nat → Nat) (m b : Nat) : Nat := vB 10 (fun i => tx (b + i) - 48) (rnE isDg tx m b - b)
def lB (tx : Nat → Nat) (m i : Nat) : Nat := rnE isBl tx m i
theorem lE_ok {tx : Nat → Nat} {m b : Nat} (h : b < m) : b < lE tx m b ∧ lE tx m b ≤ m := by
  unfold lE
  rw [if_neg (by omega)]
  by_cases c1 : isL (tx b) = true
  · rw [if_pos c1, rn_go h c1]
    have := rn_le (P := isL) (tx := tx) (m := m) (i := b + 1) (by omega)
    omega
  · rw [if_neg c1]
    by_cases c2 : isDg (tx b) = true
    · rw [if_pos c2, rn_go h c2]
      have := rn_le (P := isDg) (tx := tx) (m := m) (i := b + 1) (by omega)
      omega
    · rw [if_neg c2]; omega
/-! the class -/
def txR (r : Nat → Int32) (tx : Nat → Nat) (m : Nat) : Prop := m ≤ 1000 ∧ ∀ k, k < m → r k = nI (tx k) ∧ tx k ≤ 126
theorem cL_eq (c : Nat) (h : c ≤ 126) : fX8_isLetter (nI c) = some (bI (isL c)) := by
  unfold fX8_isLetter isL
  by_cases c1 : c < 97
  · have h1 : nI c < (97 : Int32) := nI_lt (b := 97) c1 (by omega)
    rw [if_pos h1, decide_eq_false (by omega)]; rfl
  · have h1 : ¬ nI c < (97 : Int32) := nI_nlt (b := 97) (by omega) (by omega)
    rw [if_neg h1, decide_eq_true (show 97 ≤ c by omega)]
    by_cases c2 : c ≤ 122
    · have h2 : ¬ (122 : Int32) < nI c := nI_nlt (a := 122) (by omega) (by omega)
      rw [if_neg h2, decide_eq_true c2]; rfl
    · have h2 : (122 : Int32) < nI c := nI_lt (a := 122) (by omega) (by omega)
      rw [if_pos h2, decide_eq_false c2]; rfl
theorem cD_eq (c : Nat) (h : c ≤ 126) : fX8_isDigit (nI c) = some (bI (isDg c)) := by
  unfold fX8_isDigit isDg
  by_cases c1 : c < 48
  · have h1 : nI c < (48 : Int32) := nI_lt (b := 48) c1 (by omega)
    rw [if_pos h1, decide_eq_false (by omega)]; rfl
  · have h1 : ¬ nI c < (48 : Int32) := nI_nlt (b := 48) (by omega) (by omega)
    rw [if_neg h1, decide_eq_true (show 48 ≤ c by omega)]
    by_cases c2 : c ≤ 57
    · have h2 : ¬ (57 : Int32) < nI c := nI_nlt (a := 57) (by omega) (by omega)
      rw [if_neg h2, decide_eq_true c2]; rfl
    · have h2 : (57 : Int32) < nI c := nI_lt (a := 57) (by omega) (by omega)
      rw [if_pos h2, decide_eq_false c2]; rfl
theorem cS_eq : ∀ c, c < 127 → fX8_isSign (nI c) = some (bI (isSg c)) := by decide +kernel
def cN (I I' : JI) : Prop := (∀ a, a ≠ 12 → I' a = I a) ∧ ∀ k, (k < 2 ∨ 5 < k) → I' 12 k = I 12 k
theorem cN_rfl (I : JI) : cN I I := ⟨fun _ _ => rfl, fun _ _ => rfl⟩
theorem cN_tr {I I' I'' : JI} (h : cN I I') (h' : cN I' I'') : cN I I'' := ⟨fun a ha => (h'.1 a ha).trans (h.1 a ha), fun k hk => (h'.2 k hk).trans (h.2 k hk)⟩
theorem cN_up (I : JI) {k : Nat} (v : Int32) (hk : 2 ≤ k ∧ k ≤ 5) : cN I (j_up I 12 k v) := ⟨fun a ha => ju_row _ _ ha, fun j hj => ju_cell _ _ (by omega)⟩
theorem ciw_2 {tx : Nat → Nat} {m b e k : Nat} (hk : k < 31) (he : e ≤ m) (hbe : b ≤ e) {I : JI} (hI : txR (I 13) tx m) (e2 : I 12 2 = nI e) (e3 : I 12 3 = nI b) : ∀ d i, i + d = 8 → ∀ n, d < n → (∀ j, j < i → (if j < e - b then tx (b + j) else 32) = wbN (8 * k + j)) → ∃ z : Bool, fX8_isWord_2 n (nI k) (nI i) I = some (bI z) ∧ (z = true ↔ ∀ j, j < 8 → (if j < e - b then tx (b + j) else 32) = wbN (8 * k + j)) := by
  have hm := hI.1
  intro d
  induction d with
  | zero =>
    intro i hi n hn hj
    obtain ⟨n', rfl⟩ := suc_of hn
    refine ⟨true, ?_, ⟨fun _ j hj8 => hj j (by omega), fun _ => rfl⟩⟩
    rw [fX8_isWord_2, if_pos (show (8 : Int32) ≤ nI i by rw [show i = 8 by omega]; decide)]; rfl
  | succ d ih =>
    intro i hi n hn hj
    obtain ⟨n', rfl⟩ := suc_of hn
    have c : ¬ (8 : Int32) ≤ nI i := nI_ge (b := 8) (by omega) (by omega)
    have h8 : nI k * (8 : Int32) + nI i = nI (8 * k + i) := by
      show nI k * nI 8 + nI i = _
      rw [pk_mul, nI_add, Nat.mul_comm]
    have hw := (wb_ok k hk).2 i (by omega)
    have hwl : wbN (8 * k + i) ≤ 122 := by
      by_cases q : i < lnW k
      · exact (hw.2.1 q).2
      · rw [hw.2.2 (by omega)]; omega
    have key : ∀ s, s ≤ 126 → s = (if i < e - b then tx (b + i) else 32) → ∃ z : Bool, fX8_isWord_37 (fX8_isWord_2 n') (nI k) (nI i) (nI s) I = some (bI z) ∧ (z = true ↔ ∀ j, j < 8 → (if j < e - b then tx (b + j) else 32) = wbN (8 * k + j)) := by
      intro s hs1 hs2
      unfold fX8_isWord_37
      rw [h8, jg_in (show 8 * k + i < 248 by omega) (by decide), nI_clamp (by omega), hw.1, show nI i + (1 : Int32) = nI (i + 1) from nI_add _ 1]
      by_cases ce : s = wbN (8 * k + i)
      · rw [if_pos (by rw [ce])]
        exact ih (i + 1) (by omega) n' (by omega) (fun j hji => by
          by_cases cj : j = i
          · rw [cj, ← hs2]; exact ce
          · exact hj j (by omega))
      · rw [if_neg (fun x => ce ((nI_eq (by omega) (by omega)).mp x))]
        refine ⟨false, rfl, ⟨fun h => absurd h (by simp), fun h => ?_⟩⟩
        have := h i (by omega)
        rw [← hs2] at this
        exact absurd this ce
    rw [fX8_isWord_2, if_neg c, e2, e3, nI_add]
    by_cases cl : e ≤ b + i
    · rw [if_pos (nI_le cl (by omega))]
      exact key 32 (by omega) (by rw [if_neg (by omega)])
    · rw [if_neg (nI_ge (by omega) (by omega)), jg_in (show b + i < 1000 by omega) (by decide), nI_clamp (by omega), (hI.2 (b + i) (by omega)).1]
      exact key (tx (b + i)) (hI.2 (b + i) (by omega)).2 (by rw [if_pos (by omega)])
theorem ctw_47 {tx : Nat → Nat} {m b e : Nat} (he : e ≤ m) (hbe : b ≤ e) (hl : ∀ i, i < e - b → isL (tx (b + i)) = true) : ∀ d k, k + d = 31 → ∀ n, d < n → ∀ I, txR (I 13) tx m → I 12 2 = nI e → I 12 3 = nI b → (I 12 4 = nI 34 ∧ (e - b ≤ 8 → ∀ j, j < k → kc j ≠ vB 27 (fun i => tx (b + i) - 96) (e - b)) ∨ (e - b ≤ 8 ∧ ∃ j, j < k ∧ I 12 4 = nI j ∧ kc j = vB 27 (fun i => tx (b + i) - 96) (e - b))) → ∃ I', fX8_takeWord_47 n (nI k) I = some I' ∧ cN I I' ∧ I' 12 2 = nI e ∧ I' 12 3 = nI b ∧ I' 12 4 = nI (if e - b ≤ 8 then tkW (vB 27 (fun i => tx (b + i) - 96) (e - b)) else 34) := by
  intro d
  induction d with
  | zero =>
    intro k hk n hn I hI e2 e3 h4
    obtain ⟨n', rfl⟩ := suc_of hn
    have : k = 31 := by omega
    subst this
    refine ⟨I, ?_, cN_rfl I, e2, e3, ?_⟩
    · rw [fX8_takeWord_47, if_pos (by decide)]
    · rcases h4 with ⟨q1, q2⟩ | ⟨q0, j, q1, q2, q3⟩
      · rw [q1]
        by_cases c8 : e - b ≤ 8
        · rw [if_pos c8]
          rcases tkW_le (vB 27 (fun i => tx (b + i) - 96) (e - b)) with h | h
          · exact absurd ((tkW_iff h).mp rfl) (q2 c8 _ h)
          · rw [h]
        · rw [if_neg c8]
      · rw [q2, if_pos q0, (tkW_iff q1).mpr q3]
  | succ d ih =>
    intro k hk n hn I hI e2 e3 h4
    obtain ⟨n', rfl⟩ := suc_of hn
    have c : ¬ (31 : Int32) ≤ nI k := nI_ge (b := 31) (by omega) (by omega)
    have hm := hI.1
    rw [fX8_takeWord_47, if_neg c, e2, e3, pk_sub hbe]
    by_cases c8 : e - b ≤ 8
    · have c8' : ¬ (8 : Int32) < nI (e - b) := nI_nlt (a := 8) (by omega) (by omega)
      rw [if_neg c8']
      obtain ⟨z, a1, a2⟩ := ciw_2 (k := k) (by omega) he hbe hI e2 e3 8 0 (by omega) 100000 (by omega) (fun j hj => absurd hj (by omega))
      have a1' : fX8_isWord (nI k) I = some (bI z) := a1
      rw [wd_iff (by omega) c8 hl] at a2
      rw [a1', Option.bind_some, show nI k + (1 : Int32) = nI (k + 1) from nI_add _ 1]
      cases z with
      | false =>
        have hne : vB 27 (fun i => tx (b + i) - 96) (e - b) ≠ kc k := fun h => absurd (a2.mpr h) (by simp)
        rw [if_pos (show bI false = 0 by decide)]
        refine ih (k + 1) (by omega) n' (by omega) I hI e2 e3 ?_
        rcases h4 with ⟨q1, q2⟩ | ⟨q0, j, q1, q2, q3⟩
        · refine Or.inl ⟨q1, fun _ j hj => ?_⟩
          by_cases cj : j = k
          · rw [cj]; exact fun h => hne h.symm
          · exact q2 c8 j (by omega)
        · exact Or.inr ⟨q0, j, by omega, q2, q3⟩
      | true =>
        have heq := a2.mp rfl
        rw [if_neg (show ¬ bI true = 0 by decide)]
        obtain ⟨I', b1, b2, b3, b4, b5⟩ := ih (k + 1) (by omega) n' (by omega) (j_up I 12 4 (nI k)) (by rw [ju_row _ _ (by omega)]; exact hI) (by rw [ju_cell _ _ (by omega)]; exact e2) (by rw [ju_cell _ _ (by omega)]; exact e3) (Or.inr ⟨c8, k, by omega, ju_same _ _ _ _, heq.symm⟩)
        exact ⟨I', b1, cN_tr (cN_up I (nI k) (by omega)) b2, b3, b4, b5⟩
    · have c8' : (8 : Int32) < nI (e - b) := nI_lt (a := 8) (by omega) (by omega)
      rw [if_pos c8']
      refine ⟨I, rfl, cN_rfl I, e2, e3, ?_⟩
      rw [if_neg c8]
      rcases h4 with ⟨q1, -⟩ | ⟨q0, -⟩
      · exact q1
      · exact absurd q0 c8
theorem ctw_0 {tx : Nat → Nat} {m b : Nat} : ∀ d i, i + d = m → ∀ n, d < n → ∀ I, txR (I 13) tx m → I 12 1 = nI m → I 12 2 = nI i → ∃ I', fX8_takeWord_0 n I = fX8_takeWord_39 I' ∧ cN I I' ∧ I' 12 2 = nI (rnE isL tx m i) ∧ I' 12 3 = I 12 3 := by
  intro d
  induction d with
  | zero =>
    intro i hi n hn I hI e1 e2
    obtain ⟨n', rfl⟩ := suc_of hn
    have hm := hI.1
    refine ⟨I, ?_, cN_rfl I, ?_, rfl⟩
    · rw [fX8_takeWord_0, e1, e2, if_pos (nI_le (by omega) (by omega))]
    · rw [rn_stop (by omega), e2]
  | succ d ih =>
    intro i hi n hn I hI e1 e2
    obtain ⟨n', rfl⟩ := suc_of hn
    have hm := hI.1
    obtain ⟨t1, t2⟩ := hI.2 i (by omega)
    rw [fX8_takeWord_0, e1, e2, if_neg (nI_ge (by omega) (by omega)), jg_in (show i < 1000 by omega) (by decide), nI_clamp (by omega), t1, cL_eq _ t2, Option.bind_some, show nI i + (1 : Int32) = nI (i + 1) from nI_add _ 1]
    cases c : isL (tx i) with
    | false =>
      rw [if_pos (show bI false = 0 by decide)]
      exact ⟨I, rfl, cN_rfl I, by rw [rn_stop (by rw [c]; simp), e2], rfl⟩
    | true =>
      rw [if_neg (show ¬ bI true = 0 by decide)]
      obtain ⟨I', a1, a2, a3, a4⟩ := ih (i + 1) (by omega) n' (by omega) (j_up I 12 2 (nI (i + 1))) (by rw [ju_row _ _ (by omega)]; exact hI) (by rw [ju_cell _ _ (by omega)]; exact e1) (ju_same _ _ _ _)
      exact ⟨I', a1, cN_tr (cN_up I _ (by omega)) a2, by rw [a3, rn_go (by omega) c], by rw [a4, ju_cell _ _ (by omega)]⟩
theorem ctn_5 {tx : Nat → Nat} {m b : Nat} : ∀ d i, i + d = m → b ≤ i → ∀ n, d < n → ∀ I, txR (I 13) tx m → I 12 1 = nI m → I 12 2 = nI i → (∀ j, b ≤ j → j < i → isDg (tx j) = true) → I 12 5 = nI (vB 10 (fun k => tx (b + k) - 48) (i - b)) → ∃ I', fX8_takeNumber_5 n I = fX8_takeNumber_68 I' ∧ cN I I' ∧ I' 12 2 = nI (rnE isDg tx m i) ∧ I' 12 3 = I 12 3 ∧ I' 12 5 = nI (vB 10 (fun k => tx (b + k) - 48) (rnE isDg tx m i - b)) := by
  intro d
  induction d with
  | zero =>
    intro i hi hb n hn I hI e1 e2 hd e5
    obtain ⟨n', rfl⟩ := suc_of hn
    have hm := hI.1
    have hs : rnE isDg tx m i = i := rn_stop (by omega)
    refine ⟨I, ?_, cN_rfl I, by rw [hs, e2], rfl, by rw [hs]; exact e5⟩
    rw [fX8_takeNumber_5, e1, e2, if_pos (nI_le (by omega) (by omega))]
  | succ d ih =>
    intro i hi hb n hn I hI e1 e2 hd e5
    obtain ⟨n', rfl⟩ := suc_of hn
    have hm := hI.1
    obtain ⟨t1, t2⟩ := hI.2 i (by omega)
    rw [fX8_takeNumber_5, e1, e2, if_neg (nI_ge (by omega) (by omega)), jg_in (show i < 1000 by omega) (by decide), nI_clamp (by omega), t1, cD_eq _ t2, Option.bind_some]
    cases c : isDg (tx i) with
    | false =>
      have hs : rnE isDg tx m i = i := rn_stop (by rw [c]; simp)
      rw [if_pos (show bI false = 0 by decide)]
      exact ⟨I, rfl, cN_rfl I, by rw [hs, e2], rfl, by rw [hs]; exact e5⟩
    | true =>
      have hdi : 48 ≤ tx i := by unfold isDg at c; simp at c; exact c.1
      rw [if_neg (show ¬ bI true = 0 by decide), jg_in (show i < 1000 by omega) (by decide), ju_cell _ _ (show (2 : Nat) ≠ 5 by omega), e2, show nI i + (1 : Int32) = nI (i + 1) from nI_add _ 1, e5]
      have hv : nI (vB 10 (fun k => tx (b + k) - 48) (i - b)) * (10 : Int32) + nI (tx i) - (48 : Int32) = nI (vB 10 (fun k => tx (b + k) - 48) (i + 1 - b)) := by
        rw [show i + 1 - b = (i - b) + 1 by omega, vB, show b + (i - b) = i by omega]
        show nI _ * nI 10 + nI (tx i) - nI 48 = _
        rw [pk_mul, nI_add, pk_sub (by omega)]
        congr 1
        omega
      rw [hv]
      obtain ⟨I', a1, a2, a3, a4, a5⟩ := ih (i + 1) (by omega) (by omega) n' (by omega) (j_up (j_up I 12 5 (nI (vB 10 (fun k => tx (b + k) - 48) (i + 1 - b)))) 12 2 (nI (i + 1))) (by rw [ju_row _ _ (by omega), ju_row _ _ (by omega)]; exact hI) (by rw [ju_cell _ _ (by omega), ju_cell _ _ (by omega)]; exact e1) (ju_same _ _ _ _) (fun j j1 j2 => by
        by_cases cj : j = i
        · rw [cj]; exact c
        · exact hd j j1 (by omega)) (by rw [ju_cell _ _ (by omega), ju_same])
      exact ⟨I', a1, cN_tr (cN_up I _ (by omega)) (cN_tr (cN_up _ _ (by omega)) a2), by rw [a3, rn_go (by omega) c], by rw [a4, ju_cell _ _ (by omega), ju_cell _ _ (by omega)], by rw [a5, rn_go (by omega) c]⟩
theorem cnx_52 {tx : Nat → Nat} {m b : Nat} (hb : b ≤ m) {I : JI} (hI : txR (I 13) tx m) (e1 : I 12 1 = nI m) (e2 : I 12 2 = nI b) : ∃ I', fX8_next_52 I = some I' ∧ cN I I' ∧ I' 12 3 = nI b ∧ I' 12 2 = nI (lE tx m b) ∧ I' 12 4 = nI (lT tx m b) ∧ (lT tx m b = 32 → I' 12 5 = nI (lV tx m b)) := by
  have hm := hI.1
  unfold fX8_next_52
  rw [e2]
  generalize hI0 : j_up I 12 3 (nI b) = I0
  have c0 : cN I I0 := by rw [← hI0]; exact cN_up I _ (by omega)
  have e03 : I0 12 3 = nI b := by rw [← hI0, ju_same]
  have e02 : I0 12 2 = nI b := by rw [← hI0, ju_cell _ _ (by omega)]; exact e2
  have e01 : I0 12 1 = nI m := by rw [← hI0, ju_cell _ _ (by omega)]; exact e1
  have hI0t : txR (I0 13) tx m := by rw [← hI0, ju_row _ _ (by omega)]; exact hI
  rw [e02, e01]
  unfold lE lT
  by_cases cm : m ≤ b
  · rw [if_neg (nI_nlt cm (by omega)), if_pos cm, if_pos cm]
    refine ⟨j_up I0 12 4 (33 : Int32), rfl, cN_tr c0 (cN_up I0 _ (by omega)), by rw [ju_cell _ _ (by omega)]; exact e03, by rw [ju_cell _ _ (by omega)]; exact e02, ju_same _ _ _ _, fun h => absurd h (by omega)⟩
  · rw [if_pos (nI_lt (by omega) (by omega)), if_neg cm, if_neg cm, jg_in (show b < 1000 by omega) (by decide), nI_clamp (by omega)]
    obtain ⟨t1, t2⟩ := hI0t.2 b (by omega)
    rw [t1, cL_eq _ t2, Option.bind_some]
    cases cl : isL (tx b) with
    | true =>
      rw [if_neg (show ¬ bI true = 0 by decide), if_pos rfl, if_pos rfl]
      obtain ⟨I1, a1, a2, a3, a4⟩ := ctw_0 (tx := tx) (m := m) (b := b) (m - b) b (by omega) 100000 (by omega) I0 hI0t e01 e02
      have a1' : fX8_takeWord I0 = fX8_takeWord_39 I1 := a1
      obtain ⟨r1, r2⟩ := rn_le (P := isL) (tx := tx) hb
      have hI1 : txR ((j_up I1 12 4 (34 : Int32)) 13) tx m := by rw [ju_row _ _ (by omega), a2.1 13 (by omega)]; exact hI0t
      obtain ⟨I2, b1, b2, b3, b4, b5⟩ := ctw_47 (b := b) (e := rnE isL tx m b) r2 r1 (fun i hi => rn_in (m := m) (i := b) (by omega) (by omega)) 31 0 (by omega) 100000 (by omega) (j_up I1 12 4 (34 : Int32)) hI1 (by rw [ju_cell _ _ (by omega)]; exact a3) (by rw [ju_cell _ _ (by omega), a4]; exact e03) (Or.inl ⟨ju_same _ _ _ _, fun _ j hj => absurd hj (by omega)⟩)
      rw [a1']
      unfold fX8_takeWord_39
      rw [show (0 : Int32) = nI 0 from rfl, b1]
      refine ⟨I2, rfl, cN_tr c0 (cN_tr a2 (cN_tr (cN_up I1 _ (by omega)) b2)), b4, b3, b5, fun h => ?_⟩
      split at h
      · rcases tkW_le (vB 27 (fun i => tx (b + i) - 96) (rnE isL tx m b - b)) with h' | h' <;> omega
      · omega
    | false =>
      rw [if_pos (show bI false = 0 by decide), if_neg (show ¬ false = true by simp), if_neg (show ¬ false = true by simp), jg_in (show b < 1000 by omega) (by decide), cD_eq _ t2, Option.bind_some]
      cases cd : isDg (tx b) with
      | true =>
        rw [if_neg (show ¬ bI true = 0 by decide), if_pos rfl, if_pos rfl]
        obtain ⟨I1, a1, a2, a3, a4, a5⟩ := ctn_5 (tx := tx) (m := m) (b := b) (m - b) b (by omega) (Nat.le_refl _) 100000 (by omega) (j_up I0 12 5 (0 : Int32)) (by rw [ju_row _ _ (by omega)]; exact hI0t) (by rw [ju_cell _ _ (by omega)]; exact e01) (by rw [ju_cell _ _ (by omega)]; exact e02) (fun j j1 j2 => absurd j2 (by omega)) (by rw [ju_same, Nat.sub_self]; rfl)
        have a1' : fX8_takeNumber I0 = fX8_takeNumber_68 I1 := a1
        obtain ⟨r1, r2⟩ := rn_le (P := isDg) (tx := tx) hb
        have a4' : I1 12 3 = nI b := by rw [a4, ju_cell _ _ (by omega)]; exact e03
        rw [a1']
        unfold fX8_takeNumber_68
        rw [a3, a4', pk_sub r1]
        have hc : cN I I1 := cN_tr c0 (cN_tr (cN_up I0 _ (by omega)) a2)
        by_cases c4 : rnE isDg tx m b - b ≤ 4
        · have c4' : nI (rnE isDg tx m b - b) ≤ (4 : Int32) := nI_le (b := 4) c4 (by omega)
          rw [if_pos c4', if_pos c4]
          exact ⟨j_up I1 12 4 (32 : Int32), rfl, cN_tr hc (cN_up I1 _ (by omega)), by rw [ju_cell _ _ (by omega)]; exact a4', by rw [ju_cell _ _ (by omega)]; exact a3, ju_same _ _ _ _, fun _ => by rw [ju_cell _ _ (by omega)]; exact a5⟩
        · have c4' : ¬ nI (rnE isDg tx m b - b) ≤ (4 : Int32) := nI_ge (a := 4) (by omega) (by omega)
          rw [if_neg c4', if_neg c4]
          exact ⟨j_up I1 12 4 (34 : Int32), rfl, cN_tr hc (cN_up I1 _ (by omega)), by rw [ju_cell _ _ (by omega)]; exact a4', by rw [ju_cell _ _ (by omega)]; exact a3, ju_same _ _ _ _, fun h => absurd h (by omega)⟩
      | false =>
        rw [if_pos (show bI false = 0 by decide), if_neg (show ¬ false = true by simp), if_neg (show ¬ false = true by simp), jg_in (show b < 1000 by omega) (by decide), cS_eq _ (by omega), Option.bind_some]
        cases cs : isSg (tx b) with
        | false =>
          rw [if_pos (show bI false = 0 by decide), if_neg (show ¬ false = true by simp), ju_cell _ _ (show (2 : Nat) ≠ 4 by omega), e02, show nI b + (1 : Int32) = nI (b + 1) from nI_add _ 1]
          exact ⟨_, rfl, cN_tr c0 (cN_tr (cN_up I0 _ (by omega)) (cN_up _ _ (by omega))), by rw [ju_cell _ _ (by omega), ju_cell _ _ (by omega)]; exact e03, ju_same _ _ _ _, by rw [ju_cell _ _ (by omega), ju_same]; rfl, fun h => absurd h (by omega)⟩
        | true =>
          rw [if_neg (show ¬ bI true = 0 by decide), if_pos rfl, jg_in (show b < 1000 by omega) (by decide), ju_cell _ _ (show (2 : Nat) ≠ 4 by omega), e02, show nI b + (1 : Int32) = nI (b + 1) from nI_add _ 1]
          refine ⟨_, rfl, cN_tr c0 (cN_tr (cN_up I0 _ (by omega)) (cN_up _ _ (by omega))), by rw [ju_cell _ _ (by omega), ju_cell _ _ (by omega)]; exact e03, ju_same _ _ _ _, by rw [ju_cell _ _ (by omega), ju_same], fun h => ?_⟩
          unfold isSg at cs
          rw [h] at cs
          exact absurd cs (by decide)
theorem cnx_0 {tx : Nat → Nat} {m : Nat} : ∀ d i, i + d = m → ∀ n, d < n → ∀ I, txR (I 13) tx m → I 12 1 = nI m → I 12 2 = nI i → ∃ I', fX8_next_0 n I = some I' ∧ cN I I' ∧ I' 12 3 = nI (lB tx m i) ∧ I' 12 2 = nI (lE tx m (lB tx m i)) ∧ I' 12 4 = nI (lT tx m (lB tx m i)) ∧ (lT tx m (lB tx m i) = 32 → I' 12 5 = nI (lV tx m (lB tx m i))) := by
  intro d
  induction d with
  | zero =>
    intro i hi n hn I hI e1 e2
    obtain ⟨n', rfl⟩ := suc_of hn
    have hm := hI.1
    have hs : lB tx m i = i := rn_stop (by omega)
    rw [fX8_next_0, e1, e2, if_pos (nI_le (by omega) (by omega)), hs]
    exact cnx_52 (by omega) hI e1 e2
  | succ d ih =>
    intro i hi n hn I hI e1 e2
    obtain ⟨n', rfl⟩ := suc_of hn
    have hm := hI.1
    obtain ⟨t1, t2⟩ := hI.2 i (by omega)
    have go : isBl (tx i) = true → ∃ I', fX8_next_0 n' (j_up I 12 2 (nI i + (1 : Int32))) = some I' ∧ cN I I' ∧ I' 12 3 = nI (lB tx m i) ∧ I' 12 2 = nI (lE tx m (lB tx m i)) ∧ I' 12 4 = nI (lT tx m (lB tx m i)) ∧ (lT tx m (lB tx m i) = 32 → I' 12 5 = nI (lV tx m (lB tx m i))) := by
      intro hb
      rw [show nI i + (1 : Int32) = nI (i + 1) from nI_add _ 1]
      have hs : lB tx m i = lB tx m (i + 1) := rn_go (by omega) hb
      obtain ⟨I', a1, a2, a3⟩ := ih (i + 1) (by omega) n' (by omega) (j_up I 12 2 (nI (i + 1))) (by rw [ju_row _ _ (by omega)]; exact hI) (by rw [ju_cell _ _ (by omega)]; exact e1) (ju_same _ _ _ _)
      rw [hs]
      exact ⟨I', a1, cN_tr (cN_up I _ (by omega)) a2, a3⟩
    rw [fX8_next_0, e1, e2, if_neg (nI_ge (by omega) (by omega)), jg_in (show i < 1000 by omega) (by decide), jg_in (show i < 1000 by omega) (by decide), nI_clamp (by omega), t1]
    by_cases c10 : tx i = 10
    · rw [if_pos (by rw [c10]; rfl)]
      exact go (by unfold isBl; rw [c10]; rfl)
    · rw [if_neg (show ¬ nI (tx i) = (10 : Int32) from fun x => c10 ((nI_eq (b := 10) (by omega) (by omega)).mp x))]
      by_cases c32 : tx i = 32
      · rw [if_pos (by rw [c32]; rfl)]
        exact go (by unfold isBl; rw [c32]; rfl)
      · rw [if_neg (show ¬ nI (tx i) = (32 : Int32) from fun x => c32 ((nI_eq (b := 32) (by omega) (by omega)).mp x))]
        have hs : lB tx m i = i := rn_stop (by unfold isBl; rw [decide_eq_false c10, decide_eq_false c32]; simp)
        rw [hs]
        exact cnx_52 (by omega) hI e1 e2
