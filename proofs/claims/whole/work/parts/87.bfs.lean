/-! ===== the search over what is left of two parcels, with no memory ===== -/
abbrev Bf : Type := Nat × (Nat → Nat) × (Nat → Bool) × (Nat → Nat) × (Nat → Nat) × (Nat → Nat)
def bN (B : Bf) : Nat := B.1
def bQ (B : Bf) : Nat → Nat := B.2.1
def bm (B : Bf) : Nat → Bool := B.2.2.1
def bS (B : Bf) : Nat → Nat := B.2.2.2.1
def bV (B : Bf) : Nat → Nat := B.2.2.2.2.1
def bD (B : Bf) : Nat → Nat := B.2.2.2.2.2
abbrev BU : Type := Nat → Nat → Nat → Nat → Bool
def bto (w s n : Nat) : Nat := if w = 0 then s - 13 * n else s - n
def blim (w s : Nat) : Nat := if w = 0 then s / 13 else s % 13
def bpush (B : Bf) (s w n fm : Nat) : Bf := (bN B + 1, fun k => if k = bN B then bto w s n else bQ B k, fun k => if k = bto w s n then true else bm B k, fun k => if k = bto w s n then s else bS B k, fun k => if k = bto w s n then 39 * w + 3 * n + fm else bV B k, fun k => if k = bto w s n then bD B s + 1 else bD B k)
def btry (U : BU) (s w n : Nat) (B : Bf) : Bf := if bm B (bto w s n) = true then B else if fa_first (U w s n) 3 < 3 then bpush B s w n (fa_first (U w s n) 3) else B
def btryN (U : BU) (s w : Nat) : Nat → Bf → Bf
  | 0, B => B
  | m + 1, B => btry U s w (m + 1) (btryN U s w m B)
def bpop (U : BU) (s : Nat) (B : Bf) : Bf := btryN U s 1 (s % 13) (btryN U s 0 (s / 13) B)
def bspr (U : BU) (s : Nat) (B : Bf) : Bf := btryN U s 1 (s % 13) (btryN U s 0 (s / 13 - 1) B)
def brun (U : BU) : Nat → Nat → Bf → Option Nat × Bf
  | 0, _, B => (none, B)
  | n + 1, k, B => if bN B ≤ k then (none, B) else if bQ B k < 13 then (some (bQ B k), B) else brun U n (k + 1) (bpop U (bQ B k) B)
def BI (a b : Nat) (B : Bf) : Prop :=
  bN B = fb_ct (bm B) 169 ∧ (∀ k, k < bN B → bm B (bQ B k) = true) ∧ (∀ s, bm B s = true → s < 169 ∧ s / 13 ≤ a ∧ s % 13 ≤ b ∧ s / 13 + s % 13 + bD B s ≤ a + b) ∧
  (∀ s, bm B s = true → bD B s = 0 ∨ (bm B (bS B s) = true ∧ bD B (bS B s) + 1 = bD B s ∧ ∃ w n fm, w < 2 ∧ 1 ≤ n ∧ n ≤ 12 ∧ fm < 3 ∧ bV B s = 39 * w + 3 * n + fm)) ∧ ∀ x, bm B x = true → ∃ k, k < bN B ∧ bQ B k = x
def EX (B B' : Bf) : Prop := (∀ s, bm B s = true → bm B' s = true ∧ bS B' s = bS B s ∧ bV B' s = bV B s ∧ bD B' s = bD B s) ∧ bN B ≤ bN B' ∧ ∀ k, k < bN B → bQ B' k = bQ B k
theorem EX_rfl (B : Bf) : EX B B := ⟨fun _ h => ⟨h, rfl, rfl, rfl⟩, Nat.le_refl _, fun _ _ => rfl⟩
theorem EX_tr {A B C : Bf} (h : EX A B) (h' : EX B C) : EX A C := by
  refine ⟨fun s hs => ?_, Nat.le_trans h.2.1 h'.2.1, fun k hk => ?_⟩
  · obtain ⟨a1, a2, a3, a4⟩ := h.1 s hs
    obtain ⟨b1, b2, b3, b4⟩ := h'.1 s a1
    exact ⟨b1, b2.trans a2, b3.trans a3, b4.trans a4⟩
  · have := h.2.1
    rw [h'.2.2 k (by omega), h.2.2 k hk]
theorem bto_ok {w s n : Nat} (hs : s < 169) (hn1 : 1 ≤ n) (hn : n ≤ blim w s) : bto w s n < s ∧ bto w s n / 13 + bto w s n % 13 + n = s / 13 + s % 13 ∧ bto w s n / 13 ≤ s / 13 ∧ bto w s n % 13 ≤ s % 13 ∧ n ≤ 12 ∧ (w ≠ 0 → bto w s n / 13 = s / 13) ∧ (w = 0 → bto w s n / 13 = s / 13 - n ∧ bto w s n % 13 = s % 13) := by
  unfold bto blim at *
  by_cases c : w = 0
  · rw [if_pos c] at hn ⊢
    refine ⟨?_, ?_, ?_, ?_, ?_, ?_, ?_⟩ <;> omega
  · rw [if_neg c] at hn ⊢
    refine ⟨?_, ?_, ?_, ?_, ?_, ?_, ?_⟩ <;> omega
theorem bpush_ok {a b : Nat} {B : Bf} (hB : BI a b B) {s w n fm : Nat} (hs : bm B s = true) (hw : w < 2) (hn1 : 1 ≤ n) (hn : n ≤ blim w s) (hfm : fm < 3) (hto : bm B (bto w s n) = false) : BI a b (bpush B s w n fm) ∧ EX B (bpush B s w n fm) ∧ bN B < 169 := by
  obtain ⟨h1, h2, h3, h4, h5⟩ := hB
  obtain ⟨s1, s2, s3, s4⟩ := h3 s hs
  obtain ⟨t1, t2, t3, t4, t5, t6, t7⟩ := bto_ok s1 hn1 hn
  have hne : ∀ x, bm B x = true → x ≠ bto w s n := fun x hx e => by rw [e, hto] at hx; exact absurd hx (by simp)
  have hct := fb_ct_upd (bm B) true (i := bto w s n) (n := 169) (by omega)
  rw [hto] at hct
  simp only [Bool.false_eq_true, if_false, if_true, Nat.add_zero] at hct
  have hle := fb_ct_le (fun k => if k = bto w s n then true else bm B k) 169
  refine ⟨⟨?_, fun k hk => ?_, fun x hx => ?_, fun x hx => ?_, fun x hx => ?_⟩, ⟨fun x hx => ?_, Nat.le_succ _, fun k hk => ?_⟩, by omega⟩
  · show bN B + 1 = fb_ct (fun k => if k = bto w s n then true else bm B k) 169
    omega
  · show (if (if k = bN B then bto w s n else bQ B k) = bto w s n then true else bm B (if k = bN B then bto w s n else bQ B k)) = true
    by_cases c : k = bN B
    · rw [if_pos c, if_pos rfl]
    · rw [if_neg c]
      have hk' : k < bN B + 1 := hk
      split
      · rfl
      · exact h2 k (by omega)
  · have hx' : (if x = bto w s n then true else bm B x) = true := hx
    show x < 169 ∧ x / 13 ≤ a ∧ x % 13 ≤ b ∧ x / 13 + x % 13 + (if x = bto w s n then bD B s + 1 else bD B x) ≤ a + b
    by_cases c : x = bto w s n
    · rw [if_pos c]
      subst c
      refine ⟨by omega, by omega, by omega, by omega⟩
    · rw [if_neg c] at hx' ⊢
      exact h3 x hx'
  · have hx' : (if x = bto w s n then true else bm B x) = true := hx
    show (if x = bto w s n then bD B s + 1 else bD B x) = 0 ∨ ((if (if x = bto w s n then s else bS B x) = bto w s n then true else bm B (if x = bto w s n then s else bS B x)) = true ∧ (if (if x = bto w s n then s else bS B x) = bto w s n then bD B s + 1 else bD B (if x = bto w s n then s else bS B x)) + 1 = (if x = bto w s n then bD B s + 1 else bD B x) ∧ ∃ w' n' fm', w' < 2 ∧ 1 ≤ n' ∧ n' ≤ 12 ∧ fm' < 3 ∧ (if x = bto w s n then 39 * w + 3 * n + fm else bV B x) = 39 * w' + 3 * n' + fm')
    by_cases c : x = bto w s n
    · right
      rw [if_pos c, if_pos c, if_pos c, if_neg (hne s hs), if_neg (hne s hs)]
      exact ⟨hs, rfl, w, n, fm, hw, hn1, t5, hfm, rfl⟩
    · rw [if_neg c] at hx'
      rw [if_neg c, if_neg c, if_neg c]
      rcases h4 x hx' with e | ⟨e1, e2, e3⟩
      · exact Or.inl e
      · right
        rw [if_neg (hne _ e1), if_neg (hne _ e1)]
        exact ⟨e1, e2, e3⟩
  · have hx' : (if x = bto w s n then true else bm B x) = true := hx
    show ∃ k, k < bN B + 1 ∧ (if k = bN B then bto w s n else bQ B k) = x
    by_cases c : x = bto w s n
    · exact ⟨bN B, by omega, by rw [if_pos rfl, c]⟩
    · rw [if_neg c] at hx'
      obtain ⟨k, k1, k2⟩ := h5 x hx'
      exact ⟨k, by omega, by rw [if_neg (by omega)]; exact k2⟩
  · have c := hne x hx
    refine ⟨?_, ?_, ?_, ?_⟩
    · show (if x = bto w s n then true else bm B x) = true
      rw [if_neg c]; exact hx
    · show (if x = bto w s n then s else bS B x) = _
      rw [if_neg c]
    · show (if x = bto w s n then 39 * w + 3 * n + fm else bV B x) = _
      rw [if_neg c]
    · show (if x = bto w s n then bD B s + 1 else bD B x) = _
      rw [if_neg c]
  · show (if k = bN B then bto w s n else bQ B k) = _
    rw [if_neg (by omega)]
/-- what comes of trying the moves of one kind up to m -/
def TN (U : BU) (s w m : Nat) (B B' : Bf) : Prop :=
  EX B B' ∧ (∀ n, 1 ≤ n → n ≤ m → fa_first (U w s n) 3 < 3 → bm B' (bto w s n) = true) ∧ (∀ x, bm B' x = true → bm B x = true ∨ ∃ n, 1 ≤ n ∧ n ≤ m ∧ x = bto w s n ∧ fa_first (U w s n) 3 < 3) ∧ ∀ k, bN B ≤ k → k < bN B' → bD B' (bQ B' k) = bD B s + 1
theorem btryN_ok {U : BU} {a b s w : Nat} (hw : w < 2) : ∀ (m : Nat) {B : Bf}, BI a b B → bm B s = true → m ≤ blim w s → BI a b (btryN U s w m B) ∧ TN U s w m B (btryN U s w m B) := by
  intro m
  induction m with
  | zero => intro B hB hs hm; exact ⟨hB, EX_rfl B, fun n h1 h2 => absurd h2 (by omega), fun x hx => Or.inl hx, fun k h1 h2 => absurd h2 (by show ¬ k < bN B; omega)⟩
  | succ m ih =>
    intro B hB hs hm
    obtain ⟨i1, i2, i3, i4, i5⟩ := ih hB hs (by omega)
    show BI a b (btry U s w (m + 1) (btryN U s w m B)) ∧ TN U s w (m + 1) B (btry U s w (m + 1) (btryN U s w m B))
    generalize btryN U s w m B = C at i1 i2 i3 i4 i5
    obtain ⟨hsC, -, -, hdC⟩ := i2.1 s hs
    unfold btry
    by_cases c : bm C (bto w s (m + 1)) = true
    · rw [if_pos c]
      refine ⟨i1, i2, fun n h1 h2 h3 => ?_, fun x hx => ?_, i5⟩
      · by_cases e : n = m + 1
        · rw [e]; exact c
        · exact i3 n h1 (by omega) h3
      · rcases i4 x hx with e | ⟨n, n1, n2, n3⟩
        · exact Or.inl e
        · exact Or.inr ⟨n, n1, by omega, n3⟩
    · rw [if_neg c]
      by_cases o : fa_first (U w s (m + 1)) 3 < 3
      · rw [if_pos o]
        obtain ⟨p1, p2, p3⟩ := bpush_ok i1 hsC hw (by omega) hm o (by simpa using c)
        refine ⟨p1, EX_tr i2 p2, fun n h1 h2 h3 => ?_, fun x hx => ?_, fun k h1 h2 => ?_⟩
        · by_cases e : n = m + 1
          · rw [e]
            show (if bto w s (m + 1) = bto w s (m + 1) then true else _) = true
            rw [if_pos rfl]
          · exact (p2.1 _ (i3 n h1 (by omega) h3)).1
        · have hx' : (if x = bto w s (m + 1) then true else bm C x) = true := hx
          by_cases e : x = bto w s (m + 1)
          · exact Or.inr ⟨m + 1, by omega, Nat.le_refl _, e, o⟩
          · rw [if_neg e] at hx'
            rcases i4 x hx' with e | ⟨n, n1, n2, n3⟩
            · exact Or.inl e
            · exact Or.inr ⟨n, n1, by omega, n3⟩
        · have h2' : k < bN C + 1 := h2
          by_cases e : k = bN C
          · show (if (if k = bN C then bto w s (m + 1) else bQ C k) = bto w s (m + 1) then bD C s + 1 else _) = _
            rw [if_pos e, if_pos rfl, hdC]
          · have hk : k < bN C := by omega
            have := i5 k h1 hk
            have hm := i1.2.1 k hk
            rw [p2.2.2 k hk, (p2.1 _ hm).2.2.2]
            exact this
      · rw [if_neg o]
        refine ⟨i1, i2, fun n h1 h2 h3 => ?_, fun x hx => ?_, i5⟩
        · by_cases e : n = m + 1
          · rw [e] at h3; exact absurd h3 o
          · exact i3 n h1 (by omega) h3
        · rcases i4 x hx with e | ⟨n, n1, n2, n3⟩
          · exact Or.inl e
          · exact Or.inr ⟨n, n1, by omega, n3⟩
/-- two kinds, one behind the other -/
theorem btwo_ok {U : BU} {a b s m0 : Nat} {B : Bf} (hB : BI a b B) (hs : bm B s = true) (h0 : m0 ≤ s / 13) : BI a b (btryN U s 1 (s % 13) (btryN U s 0 m0 B)) ∧ EX B (btryN U s 1 (s % 13) (btryN U s 0 m0 B)) ∧ (∀ n, 1 ≤ n → n ≤ m0 → fa_first (U 0 s n) 3 < 3 → bm (btryN U s 1 (s % 13) (btryN U s 0 m0 B)) (bto 0 s n) = true) ∧ (∀ n, 1 ≤ n → n ≤ s % 13 → fa_first (U 1 s n) 3 < 3 → bm (btryN U s 1 (s % 13) (btryN U s 0 m0 B)) (bto 1 s n) = true) ∧ (∀ x, bm (btryN U s 1 (s % 13) (btryN U s 0 m0 B)) x = true → bm B x = true ∨ (∃ n, 1 ≤ n ∧ n ≤ m0 ∧ x = bto 0 s n ∧ fa_first (U 0 s n) 3 < 3) ∨ ∃ n, 1 ≤ n ∧ n ≤ s % 13 ∧ x = bto 1 s n ∧ fa_first (U 1 s n) 3 < 3) ∧ ∀ k, bN B ≤ k → k < bN (btryN U s 1 (s % 13) (btryN U s 0 m0 B)) → bD (btryN U s 1 (s % 13) (btryN U s 0 m0 B)) (bQ (btryN U s 1 (s % 13) (btryN U s 0 m0 B)) k) = bD B s + 1 := by
  obtain ⟨i1, i2, i3, i4, i5⟩ := btryN_ok (U := U) (a := a) (b := b) (s := s) (w := 0) (by omega) m0 hB hs (by unfold blim; rw [if_pos rfl]; exact h0)
  generalize btryN U s 0 m0 B = C at i1 i2 i3 i4 i5 ⊢
  obtain ⟨hsC, -, -, hdC⟩ := i2.1 s hs
  obtain ⟨j1, j2, j3, j4, j5⟩ := btryN_ok (U := U) (a := a) (b := b) (s := s) (w := 1) (by omega) (s % 13) i1 hsC (by unfold blim; rw [if_neg (by decide)]; exact Nat.le_refl _)
  generalize btryN U s 1 (s % 13) C = F at j1 j2 j3 j4 j5 ⊢
  refine ⟨j1, EX_tr i2 j2, fun n h1 h2 h3 => (j2.1 _ (i3 n h1 h2 h3)).1, j3, fun x hx => ?_, fun k h1 h2 => ?_⟩
  · rcases j4 x hx with e | e
    · rcases i4 x e with e | e
      · exact Or.inl e
      · exact Or.inr (Or.inl e)
    · exact Or.inr (Or.inr e)
  · by_cases c : k < bN C
    · have := i5 k h1 c
      have hm := i1.2.1 k c
      rw [j2.2.2 k c, (j2.1 _ hm).2.2.2]
      exact this
    · rw [j5 k (by omega) h2, hdC]
theorem bpop_spr {U : BU} {s : Nat} {B : Bf} (hs : 13 ≤ s) (hn : ¬ fa_first (U 0 s (s / 13)) 3 < 3) : bpop U s B = bspr U s B := by
  unfold bpop bspr
  have e : s / 13 = (s / 13 - 1) + 1 := by omega
  have : btryN U s 0 (s / 13) B = btryN U s 0 (s / 13 - 1) B := by
    rw [e]
    show btry U s 0 (s / 13 - 1 + 1) (btryN U s 0 (s / 13 - 1) B) = btryN U s 0 (s / 13 - 1 + 1 - 1) B
    rw [show s / 13 - 1 + 1 - 1 = s / 13 - 1 by omega]
    unfold btry
    rw [← e]
    split
    · rfl
    · first | rfl | rw [if_neg hn]
  rw [this]
/-- the run goes on to the first of the queue that ends it -/
theorem brun_to {U : BU} {a b : Nat} : ∀ d k j, k + d = j → ∀ n, d < n → ∀ B, BI a b B → j < bN B → bQ B j < 13 → (∀ i, k ≤ i → i < j → 13 ≤ bQ B i) → ∃ B', brun U n k B = (some (bQ B j), B') ∧ EX B B' ∧ BI a b B' := by
  intro d
  induction d with
  | zero =>
    intro k j hkj n hn B hB hj hq hi
    obtain ⟨n', rfl⟩ := suc_of hn
    refine ⟨B, ?_, EX_rfl B, hB⟩
    rw [brun, if_neg (by omega), show k = j by omega, if_pos hq]
  | succ d ih =>
    intro k j hkj n hn B hB hj hq hi
    obtain ⟨n', rfl⟩ := suc_of hn
    have hk : 13 ≤ bQ B k := hi k (Nat.le_refl _) (by omega)
    obtain ⟨p1, p2, -⟩ := btwo_ok (U := U) hB (hB.2.1 k (by omega)) (Nat.le_refl (bQ B k / 13))
    have hp : btryN U (bQ B k) 1 (bQ B k % 13) (btryN U (bQ B k) 0 (bQ B k / 13) B) = bpop U (bQ B k) B := rfl
    rw [hp] at p1 p2
    have hle := p2.2.1
    obtain ⟨B', e1, e2, e3⟩ := ih (k + 1) j (by omega) n' (by omega) (bpop U (bQ B k) B) p1 (by omega) (by rw [p2.2.2 j hj]; exact hq) (fun i i1 i2 => by rw [p2.2.2 i (by omega)]; exact hi i (by omega) i2)
    refine ⟨B', ?_, EX_tr p2 e2, e3⟩
    rw [brun, if_neg (by omega), if_neg (by omega), e1, p2.2.2 j hj]
