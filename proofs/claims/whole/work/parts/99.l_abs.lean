/-! ===== a condition read with no memory ===== -/
abbrev AR : Type := Nat × Nat × List Nat × List Nat × Bool
def lev (t : Nat) : Nat := if t = 28 ∨ t = 29 then 0 else if t = 60 ∨ t = 61 then 1 else if t = 43 ∨ t = 45 then 2 else if t = 42 then 3 else 4
def rop (t : Nat) : Nat := if t = 28 then 26 else if t = 29 then 27 else if t = 60 then 24 else if t = 61 then 25 else if t = 43 then 20 else if t = 45 then 21 else 22
def aBd (r : AR) (k : AR → AR) : AR := if r.1 = 0 then k r else r
theorem aBd_0 {r : AR} {k : AR → AR} (h : r.1 = 0) : aBd r k = k r := if_pos h
theorem aBd_n {r : AR} {k : AR → AR} (h : r.1 ≠ 0) : aBd r k = r := if_neg h
def aLp (tx : Nat → Nat) (m : Nat) (rc : Nat → AR) (x : Nat) : Nat → AR → AR
  | 0, acc => acc
  | n + 1, acc => if lev (lT tx m acc.2.1) = x then aBd (rc (nxB tx m acc.2.1)) (fun r => aLp tx m rc x n (0, r.2.1, acc.2.2.1 ++ (r.2.2.1 ++ [20000 + lT tx m acc.2.1]), acc.2.2.2.1 ++ (rop (lT tx m acc.2.1) :: r.2.2.2.1), if x = 1 then true else r.2.2.2.2)) else acc
def aPc (tx : Nat → Nat) (m : Nat) (rc : Nat → Nat → Nat → Nat → AR) (x b : Nat) : AR :=
  if 14 ≤ lT tx m b ∧ lT tx m b ≠ 32 ∧ lT tx m b ≠ 30 ∧ lT tx m b ≠ 40 then (1 + 16 * b, 0, [], [], false)
  else if 5 ≤ x then (5 + 16 * b, 0, [], [], false)
  else if lT tx m b = 32 then (0, nxB tx m b, [lV tx m b], [100 + lV tx m b], false)
  else if lT tx m b < 14 then (0, nxB tx m b, [10000 + lT tx m b], [lT tx m b + 1], false)
  else if lT tx m b = 30 then aBd (rc 1 (x + 1) 0 (nxB tx m b)) (fun r => (0, r.2.1, r.2.2.1 ++ [20030], 30 :: r.2.2.2.1, false))
  else aBd (rc 0 0 (x + 1) (nxB tx m b)) (fun r => if lT tx m r.2.1 = 41 then (0, nxB tx m r.2.1, r.2.2.1, 28 :: (r.2.2.2.1 ++ [29]), false) else (1 + 16 * r.2.1, 0, [], [], false))
def aR (tx : Nat → Nat) (m : Nat) : Nat → Nat → Nat → Nat → Nat → AR
  | 0, _, _, _, _ => (1, 0, [], [], false)
  | z + 1, w, x, y, b => if w = 0 then (if x < 4 then aBd (aR tx m z 0 (x + 1) y b) (fun r => aLp tx m (aR tx m z 0 (x + 1) y) x (if x = 1 then 1 else 1000) r) else aR tx m z 1 y 0 b) else aPc tx m (aR tx m z) x b
def need (w x y : Nat) : Nat := if w = 0 then (4 - x) + 1 + (6 * (5 - y) + 1) else 6 * (5 - x) + 1
/-- where a good reading stands -/
def PosOK (m b : Nat) (r : AR) : Prop := b < r.2.1 ∧ r.2.1 ≤ m ∧ r.2.2.1.length + b ≤ r.2.1 ∧ r.2.2.2.1.length + b ≤ r.2.1 ∧ 1 ≤ r.2.2.2.1.length
theorem PosOK_mk {m b f b' : Nat} {cc rc : List Nat} {cf : Bool} (h1 : b < b') (h2 : b' ≤ m) (h3 : cc.length + b ≤ b') (h4 : rc.length + b ≤ b') (h5 : 1 ≤ rc.length) : PosOK m b (f, b', cc, rc, cf) := ⟨h1, h2, h3, h4, h5⟩
theorem aLp_pos {tx : Nat → Nat} {m : Nat} {rc : Nat → AR} {x b0 : Nat} (hrc : ∀ b, b ≤ m → (rc b).1 = 0 → PosOK m b (rc b)) : ∀ n acc, PosOK m b0 acc → (aLp tx m rc x n acc).1 = 0 → PosOK m b0 (aLp tx m rc x n acc) := by
  intro n
  induction n with
  | zero => intro acc h _; exact h
  | succ n ih =>
    intro acc h h0
    rw [aLp] at h0 ⊢
    by_cases c : lev (lT tx m acc.2.1) = x
    · rw [if_pos c] at h0 ⊢
      by_cases r0 : (rc (nxB tx m acc.2.1)).1 = 0
      · rw [aBd_0 r0] at h0 ⊢
        refine ih _ ?_ h0
        by_cases cm : acc.2.1 < m
        · obtain ⟨n1, n2⟩ := nxB_ok (tx := tx) cm
          obtain ⟨p1, p2, p3, p4, p5⟩ := hrc _ n2 r0
          obtain ⟨q1, q2, q3, q4, q5⟩ := h
          exact PosOK_mk (by omega) p2 (by rw [List.length_append, List.length_append, List.length_singleton]; omega) (by rw [List.length_append, List.length_cons]; omega) (by rw [List.length_append, List.length_cons]; omega)
        · have hle := h.2.1
          have hT : lT tx m acc.2.1 = 33 := by unfold lT; rw [if_pos (by omega)]
          exfalso
          have hl : (rc (nxB tx m acc.2.1)).2.1 ≤ m ∧ nxB tx m acc.2.1 < (rc (nxB tx m acc.2.1)).2.1 := by
            have hE : lE tx m acc.2.1 = acc.2.1 := by unfold lE; rw [if_pos (by omega)]
            have hn : nxB tx m acc.2.1 ≤ m := by
              unfold nxB lB
              rw [hE]
              exact (rn_le hle).2
            obtain ⟨p1, p2, -⟩ := hrc _ hn r0
            exact ⟨p2, p1⟩
          have hn2 : m ≤ nxB tx m acc.2.1 := by
            have hE : lE tx m acc.2.1 = acc.2.1 := by unfold lE; rw [if_pos (by omega)]
            have := (rn_le (P := isBl) (tx := tx) hle).1
            unfold nxB lB
            rw [hE]
            omega
          omega
      · rw [aBd_n r0] at h0
        exact absurd h0 r0
    · rw [if_neg c] at h0 ⊢
      exact h
theorem aR_pos {tx : Nat → Nat} {m : Nat} : ∀ z w x y b, b ≤ m → (aR tx m z w x y b).1 = 0 → PosOK m b (aR tx m z w x y b) := by
  intro z
  induction z with
  | zero => intro w x y b _ h; rw [aR] at h; exact absurd h (by decide)
  | succ z ih =>
    intro w x y b hb h
    rw [aR] at h ⊢
    by_cases cw : w = 0
    · rw [if_pos cw] at h ⊢
      by_cases cx : x < 4
      · rw [if_pos cx] at h ⊢
        by_cases r0 : (aR tx m z 0 (x + 1) y b).1 = 0
        · rw [aBd_0 r0] at h ⊢
          exact aLp_pos (fun b' hb' h' => ih 0 (x + 1) y b' hb' h') _ _ (ih 0 (x + 1) y b hb r0) h
        · rw [aBd_n r0] at h
          exact absurd h r0
      · rw [if_neg cx] at h ⊢
        exact ih 1 y 0 b hb h
    · rw [if_neg cw] at h ⊢
      unfold aPc at h ⊢
      by_cases c1 : 14 ≤ lT tx m b ∧ lT tx m b ≠ 32 ∧ lT tx m b ≠ 30 ∧ lT tx m b ≠ 40
      · rw [if_pos c1] at h
        have h' : 1 + 16 * b = 0 := h
        omega
      · rw [if_neg c1] at h ⊢
        have hbm : b < m := lT_33 (tx := tx) (by omega) hb
        obtain ⟨n1, n2⟩ := nxB_ok (tx := tx) hbm
        by_cases c2 : 5 ≤ x
        · rw [if_pos c2] at h
          have h' : 5 + 16 * b = 0 := h
          omega
        · rw [if_neg c2] at h ⊢
          by_cases c3 : lT tx m b = 32
          · rw [if_pos c3]
            exact PosOK_mk n1 n2 (by rw [List.length_singleton]; omega) (by rw [List.length_singleton]; omega) (Nat.le_refl _)
          · rw [if_neg c3] at h ⊢
            by_cases c4 : lT tx m b < 14
            · rw [if_pos c4]
              exact PosOK_mk n1 n2 (by rw [List.length_singleton]; omega) (by rw [List.length_singleton]; omega) (Nat.le_refl _)
            · rw [if_neg c4] at h ⊢
              by_cases c5 : lT tx m b = 30
              · rw [if_pos c5] at h ⊢
                by_cases r0 : (aR tx m z 1 (x + 1) 0 (nxB tx m b)).1 = 0
                · rw [aBd_0 r0]
                  obtain ⟨p1, p2, p3, p4, p5⟩ := ih 1 (x + 1) 0 _ n2 r0
                  exact PosOK_mk (by omega) p2 (by rw [List.length_append, List.length_singleton]; omega) (by rw [List.length_cons]; omega) (by rw [List.length_cons]; omega)
                · rw [aBd_n r0] at h
                  exact absurd h r0
              · rw [if_neg c5] at h ⊢
                by_cases r0 : (aR tx m z 0 0 (x + 1) (nxB tx m b)).1 = 0
                · rw [aBd_0 r0] at h ⊢
                  obtain ⟨p1, p2, p3, p4, p5⟩ := ih 0 0 (x + 1) _ n2 r0
                  by_cases c6 : lT tx m (aR tx m z 0 0 (x + 1) (nxB tx m b)).2.1 = 41
                  · rw [if_pos c6]
                    have hq : (aR tx m z 0 0 (x + 1) (nxB tx m b)).2.1 < m := lT_33 (tx := tx) (by omega) p2
                    obtain ⟨n3, n4⟩ := nxB_ok (tx := tx) hq
                    exact PosOK_mk (by omega) n4 (by omega) (by rw [List.length_cons, List.length_append, List.length_singleton]; omega) (by rw [List.length_cons]; omega)
                  · rw [if_neg c6] at h
                    have h' : 1 + 16 * (aR tx m z 0 0 (x + 1) (nxB tx m b)).2.1 = 0 := h
                    omega
                · rw [aBd_n r0] at h
                  exact absurd h r0
/-- what can't stand behind a reading of one level -/
def ExOK (tx : Nat → Nat) (m x : Nat) (r : AR) : Prop := ∀ l, x ≤ l → l < 4 → lev (lT tx m r.2.1) = l → l = 1 ∧ r.2.2.2.2 = true
theorem aLp_ex {tx : Nat → Nat} {m : Nat} (hm : m ≤ 1000) {rc : Nat → AR} {x b0 : Nat} (hx : x < 4) (hrc : ∀ b, b ≤ m → (rc b).1 = 0 → PosOK m b (rc b)) (hre : ∀ b, b ≤ m → (rc b).1 = 0 → ExOK tx m (x + 1) (rc b)) : ∀ n acc, PosOK m b0 acc → (x = 1 ∨ 1001 ≤ n + acc.2.1) → (x = 1 → n ≤ 1 ∧ (n = 0 → acc.2.2.2.2 = true)) → ExOK tx m (x + 1) acc → (aLp tx m rc x n acc).1 = 0 → ExOK tx m x (aLp tx m rc x n acc) := by
  intro n
  induction n with
  | zero =>
    intro acc hp hb h1 he h0
    rw [aLp]
    rcases hb with hb | hb
    · intro l l1 l2 l3
      by_cases cl : l = x
      · exact ⟨by omega, (h1 hb).2 rfl⟩
      · exact he l (by omega) l2 l3
    · have := hp.2.1
      omega
  | succ n ih =>
    intro acc hp hb h1 he h0
    rw [aLp] at h0 ⊢
    by_cases c : lev (lT tx m acc.2.1) = x
    · rw [if_pos c] at h0 ⊢
      by_cases r0 : (rc (nxB tx m acc.2.1)).1 = 0
      · rw [aBd_0 r0] at h0 ⊢
        have hle := hp.2.1
        have hbm : acc.2.1 < m := lT_33 (tx := tx) (by intro e; rw [e] at c; have h33 : lev 33 = 4 := (by decide); omega) hle
        obtain ⟨n1, n2⟩ := nxB_ok (tx := tx) hbm
        obtain ⟨p1, p2, p3, p4, p5⟩ := hrc _ n2 r0
        obtain ⟨q1, q2, q3, q4, q5⟩ := hp
        refine ih _ (PosOK_mk (by omega) p2 (by rw [List.length_append, List.length_append, List.length_singleton]; omega) (by rw [List.length_append, List.length_cons]; omega) (by rw [List.length_append, List.length_cons]; omega)) ?_ ?_ ?_ h0
        · rcases hb with hb | hb
          · exact Or.inl hb
          · right
            show 1001 ≤ n + (rc (nxB tx m acc.2.1)).2.1
            omega
        · intro hx1
          obtain ⟨g1, g2⟩ := h1 hx1
          refine ⟨by omega, fun _ => ?_⟩
          show (if x = 1 then true else _) = true
          rw [if_pos hx1]
        · intro l l1 l2 l3
          obtain ⟨z1, z2⟩ := hre _ n2 r0 l l1 l2 l3
          refine ⟨z1, ?_⟩
          show (if x = 1 then true else (rc (nxB tx m acc.2.1)).2.2.2.2) = true
          split
          · rfl
          · exact z2
      · rw [aBd_n r0] at h0
        exact absurd h0 r0
    · rw [if_neg c] at h0 ⊢
      intro l l1 l2 l3
      by_cases cl : l = x
      · rw [cl] at l3; exact absurd l3 c
      · exact he l (by omega) l2 l3
theorem aR_ex {tx : Nat → Nat} {m : Nat} (hm : m ≤ 1000) : ∀ z x y b, x ≤ 4 → b ≤ m → (aR tx m z 0 x y b).1 = 0 → ExOK tx m x (aR tx m z 0 x y b) := by
  intro z
  induction z with
  | zero => intro x y b _ _ h; rw [aR] at h; exact absurd h (by decide)
  | succ z ih =>
    intro x y b hx hb h
    rw [aR, if_pos rfl] at h ⊢
    by_cases cx : x < 4
    · rw [if_pos cx] at h ⊢
      by_cases r0 : (aR tx m z 0 (x + 1) y b).1 = 0
      · rw [aBd_0 r0] at h ⊢
        have hp := aR_pos z 0 (x + 1) y b hb r0
        refine aLp_ex hm cx (fun b' hb' h' => aR_pos z 0 (x + 1) y b' hb' h') (fun b' hb' h' => ih (x + 1) y b' (by omega) hb' h') _ _ hp ?_ ?_ (ih (x + 1) y b (by omega) hb r0) h
        · by_cases c1 : x = 1
          · exact Or.inl c1
          · right
            rw [if_neg c1]
            have := hp.1
            omega
        · intro h1
          rw [if_pos h1]
          exact ⟨Nat.le_refl _, fun e => absurd e (by omega)⟩
      · rw [aBd_n r0] at h
        exact absurd h r0
    · intro l l1 l2
      omega
/-- codes in a row of the memory -/
def seg (R : Nat → Int32) : Nat → List Nat → Prop
  | _, [] => True
  | c, x :: l => R c = nI x ∧ seg R (c + 1) l
theorem seg_app {R : Nat → Int32} : ∀ (l1 l2 : List Nat) (c : Nat), seg R c (l1 ++ l2) ↔ seg R c l1 ∧ seg R (c + l1.length) l2 := by
  intro l1
  induction l1 with
  | nil => intro l2 c; rw [List.nil_append, List.length_nil, Nat.add_zero]; exact ⟨fun h => ⟨trivial, h⟩, fun h => h.2⟩
  | cons a l1 ih =>
    intro l2 c
    rw [List.cons_append, List.length_cons, seg, seg, ih, show c + 1 + l1.length = c + (l1.length + 1) by omega]
    exact ⟨fun ⟨h1, h2, h3⟩ => ⟨⟨h1, h2⟩, h3⟩, fun ⟨⟨h1, h2⟩, h3⟩ => ⟨h1, h2, h3⟩⟩
theorem seg_cong {R R' : Nat → Int32} : ∀ (l : List Nat) (c : Nat), (∀ j, c ≤ j → j < c + l.length → R' j = R j) → seg R c l → seg R' c l := by
  intro l
  induction l with
  | nil => intro c _ _; trivial
  | cons a l ih =>
    intro c h hs
    rw [seg] at hs ⊢
    rw [List.length_cons] at h
    exact ⟨by rw [h c (Nat.le_refl _) (by omega)]; exact hs.1, ih (c + 1) (fun j h1 h2 => h j (by omega) (by omega)) hs.2⟩
