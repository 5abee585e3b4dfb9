/-! ===== what is asked about, laid out on both sides ===== -/
def fbS (h : Nat → Nat → Nat) (p f g fm : Nat) (nn pr pd now : Int32) (k : Nat) : Int32 := if k = 0 then nn else if k = 1 then pr else if k = 2 then pd else if k = 3 then nI (h p f) - nn else if k = 4 then nI (fb_sm (fun p => h p f) 12) - nn else if k = 5 then nI (owS h g) else if k = 6 + fm then nI 1 else if k = 13 then now else nI 0
theorem st4_loop {D : JG} {S : JS} {t : Nat} {h : Nat → Nat → Nat} {r69 r70 r71 : Nat → Int32} (hd : D 15 6 = some t) (hs : S[t]? = some (1, 4)) (ht : t = 7 ∨ t = 21 ∨ t = 34) {p f : Nat} (hp : p < 12) (hf : f < 16) : ∀ d k, k + d = 4 → ∀ n, d < n → ∀ M : JI, vHd (M (t + 1)) (M (t + 2)) (M (t + 3)) (M (t + 4)) h → vSide (M 2) (M 3) r69 → vWet (M 4) r70 → vDeg (M 5) (M 6) r71 → (∀ who i, who < k → bt (M 18 who) i = (decide (i < 16) && decide (0 < wtS r69 r70 r71 h who p f i))) → ∃ r, fX3_settle_8 t n (nI p) (nI f) (nI k) M D S = some (jr M 18 r, D) ∧ ∀ who i, who < 4 → bt (r who) i = (decide (i < 16) && decide (0 < wtS r69 r70 r71 h who p f i)) := by
  intro d
  induction d with
  | zero =>
    intro k hk n hn M h3 h4 h5 h6 ha
    obtain ⟨n', rfl⟩ := suc_of hn
    have : k = 4 := by omega
    subst this
    refine ⟨M 18, ?_, ha⟩
    rw [fX3_settle_8, if_pos (by decide), ← jr1_of (fun a _ => rfl)]
  | succ d ih =>
    intro k hk n hn M h3 h4 h5 h6 ha
    obtain ⟨n', rfl⟩ := suc_of hn
    have e1 : nI k + (1 : Int32) = nI (k + 1) := nI_1 k
    obtain ⟨y, ey, hy⟩ := sd_bits (M := M) (t := t) h3 h4 h5 h6 (who := k) (by omega) hp hf
    rw [fX3_settle_8, if_neg (show ¬ (4 : Int32) ≤ nI k from nI_ge (b := 4) (by omega) (by omega)), hd, jo_s, jg_d hs, ey, Option.bind_some, jg_in (by omega) (by decide), nI_clamp (by omega), e1]
    obtain ⟨r, r1, r2⟩ := ih (k + 1) (by omega) n' (by omega) (j_up M 18 k y) (by rw [ju_row _ _ (by omega), ju_row _ _ (by omega), ju_row _ _ (by omega), ju_row _ _ (by omega)]; exact h3) (by rw [ju_row _ _ (by omega), ju_row _ _ (by omega)]; exact h4) (by rw [ju_row _ _ (by omega)]; exact h5) (by rw [ju_row _ _ (by omega), ju_row _ _ (by omega)]; exact h6) (fun who i hw => by
      by_cases e : who = k
      · subst e; rw [ju_same]; exact hy i
      · rw [ju_cell _ _ e]; exact ha who i (by omega))
    refine ⟨r, ?_, r2⟩
    rw [r1]
    congr 2
    funext a
    unfold jr
    by_cases e : a = 18
    · rw [if_pos e, if_pos e]
    · rw [if_neg e, if_neg e, ju_row _ _ e]
theorem set_eq {M : JI} {D : JG} {S : JS} {t : Nat} {h : Nat → Nat → Nat} {r69 r70 r71 : Nat → Int32} (hs : S[t]? = some (1, 4)) (ht : t = 7 ∨ t = 21 ∨ t = 34) {p f : Nat} (hp : p < 12) (hf : f < 16) (h3 : vHd (M (t + 1)) (M (t + 2)) (M (t + 3)) (M (t + 4)) h) (h4 : vSide (M 2) (M 3) r69) (h5 : vWet (M 4) r70) (h6 : vDeg (M 5) (M 6) r71) : ∃ r, fX3_settle t (nI p) (nI f) M D S = some (jr M 18 r, j_up D 15 6 (some t)) ∧ ∀ who i, who < 4 → bt (r who) i = (decide (i < 16) && decide (0 < wtS r69 r70 r71 h who p f i)) :=
  st4_loop (ju_same _ _ _ _) hs ht hp hf 4 0 (by omega) 100000 (by omega) M h3 h4 h5 h6 (fun who i hw => absurd hw (by omega))
theorem flag_loop {D : JG} {S : JS} {dq l1 : Nat} {fm : Nat} (hd : D 15 7 = some dq) (hs : S[dq]? = some (0, 7)) (hdq : dq ≠ 16) (hfm : fm < 3) : ∀ d k, k + d = 3 → ∀ n, d < n → ∀ M : JI, M dq 4 = nI fm → ∃ M', fX3_ask_131 l1 n (nI k) M D S = some (M', D) ∧ (∀ a, a ≠ 16 → M' a = M a) ∧ (∀ j, j < 3 → k ≤ j → M' 16 (6 + j) = nI (if j = fm then 1 else 0)) ∧ M' 16 13 = M 1 8 ∧ ∀ j, j ≠ 13 → ¬ (6 + k ≤ j ∧ j < 9) → M' 16 j = M 16 j := by
  intro d
  induction d with
  | zero =>
    intro k hk n hn M h4
    obtain ⟨n', rfl⟩ := suc_of hn
    have : k = 3 := by omega
    subst this
    have c13 : (13 : Int32).toNatClampNeg = 13 := by decide
    have g13 : ∀ {α : Type} (z : Option α), j_g (j_in (13 : Int32) 14) z = z := fun z => jg_in (k := 13) (by omega) (by decide)
    refine ⟨j_up M 16 13 (M 1 8), ?_, fun a ha => ju_row _ _ ha, fun j h1 h2 => by omega, ju_same _ _ _ _, fun j h1 h2 => ju_cell _ _ h1⟩
    rw [fX3_ask_131, if_pos (by decide), fX3_ask_167, g13, c13]
  | succ d ih =>
    intro k hk n hn M h4
    obtain ⟨n', rfl⟩ := suc_of hn
    have e1 : nI k + (1 : Int32) = nI (k + 1) := nI_1 k
    have e6 : (6 : Int32) + nI k = nI (6 + k) := by show nI 6 + nI k = _; rw [nI_add]
    rw [fX3_ask_131, if_neg (show ¬ (3 : Int32) ≤ nI k from nI_ge (b := 3) (by omega) (by omega)), hd, jo_s, jg_d hs, h4, e6, jg_in (by omega) (by decide), jg_in (by omega) (by decide), nI_clamp (by omega), e1]
    have fin : ∀ v : Int32, v = nI (if k = fm then 1 else 0) → ∃ M', fX3_ask_131 l1 n' (nI (k + 1)) (j_up M 16 (6 + k) v) D S = some (M', D) ∧ (∀ a, a ≠ 16 → M' a = M a) ∧ (∀ j, j < 3 → k ≤ j → M' 16 (6 + j) = nI (if j = fm then 1 else 0)) ∧ M' 16 13 = M 1 8 ∧ ∀ j, j ≠ 13 → ¬ (6 + k ≤ j ∧ j < 9) → M' 16 j = M 16 j := by
      intro v hv
      obtain ⟨M', m1, m2, m3, m4, m5⟩ := ih (k + 1) (by omega) n' (by omega) (j_up M 16 (6 + k) v) (by rw [ju_row _ _ hdq]; exact h4)
      refine ⟨M', m1, fun a ha => by rw [m2 a ha, ju_row _ _ ha], fun j h1 h2 => ?_, by rw [m4, ju_row _ _ (by omega)], fun j h1 h2 => by rw [m5 j h1 (by omega), ju_cell _ _ (by omega)]⟩
      by_cases e : j = k
      · subst e
        rw [m5 (6 + j) (by omega) (by omega), ju_same, hv]
      · exact m3 j h1 (by omega)
    by_cases c : k = fm
    · rw [if_pos (by rw [c])]
      exact fin _ (by rw [if_pos c]; rfl)
    · rw [if_neg (fun h => c ((nI_eq (by omega) (by omega)).mp h))]
      exact fin _ (by rw [if_neg c]; rfl)
set_option maxHeartbeats 4000000 in
theorem ask_eq {M : JI} {D : JG} {S : JS} {t dq : Nat} {h : Nat → Nat → Nat} (hd : D 15 6 = some t) (hs : S[t]? = some (1, 4)) (hsq : S[dq]? = some (0, 7)) (ht : t = 7 ∨ t = 21 ∨ t = 34) (hdq : dq = 14 ∨ dq = 26 ∨ dq = 39 ∨ 137 ≤ dq) {p f g fm : Nat} (hp : p < 12) (hf : f < 16) (hg : g < 16) (hfm : fm < 3) (q0 : M dq 0 = nI p) (q1 : M dq 1 = nI f) (q2 : M dq 2 = nI g) (q4 : M dq 4 = nI fm) (h3 : vHd (M (t + 1)) (M (t + 2)) (M (t + 3)) (M (t + 4)) h) :
    ∃ r, fX3_ask dq M D S = some (jr M 16 r, j_up D 15 7 (some dq)) ∧ ∀ k, (k < 9 ∨ k = 13) → r k = fbS h p f g fm (M dq 3) (M dq 5) (M dq 6) (M 1 8) k := by
  have e7 : (j_up D 15 7 (some dq)) 15 7 = some dq := ju_same _ _ _ _
  have e6 : (j_up D 15 7 (some dq)) 15 6 = some t := by rw [ju_cell _ _ (by omega)]; exact hd
  have c0 : (0 : Int32).toNatClampNeg = 0 := by decide
  have c1 : (1 : Int32).toNatClampNeg = 1 := by decide
  have c2 : (2 : Int32).toNatClampNeg = 2 := by decide
  have c3 : (3 : Int32).toNatClampNeg = 3 := by decide
  have c4 : (4 : Int32).toNatClampNeg = 4 := by decide
  have c5 : (5 : Int32).toNatClampNeg = 5 := by decide
  have g0 : ∀ {α : Type} (z : Option α), j_g (j_in (0 : Int32) 14) z = z := fun z => jg_in (k := 0) (by omega) (by decide)
  have g1 : ∀ {α : Type} (z : Option α), j_g (j_in (1 : Int32) 14) z = z := fun z => jg_in (k := 1) (by omega) (by decide)
  have g2 : ∀ {α : Type} (z : Option α), j_g (j_in (2 : Int32) 14) z = z := fun z => jg_in (k := 2) (by omega) (by decide)
  have g3 : ∀ {α : Type} (z : Option α), j_g (j_in (3 : Int32) 14) z = z := fun z => jg_in (k := 3) (by omega) (by decide)
  have g4 : ∀ {α : Type} (z : Option α), j_g (j_in (4 : Int32) 14) z = z := fun z => jg_in (k := 4) (by omega) (by decide)
  have g5 : ∀ {α : Type} (z : Option α), j_g (j_in (5 : Int32) 14) z = z := fun z => jg_in (k := 5) (by omega) (by decide)
  have gt : ∀ {α : Type} (z : Option α), j_g (decide (S[t]? = some (1, 4))) z = z := fun z => jg_d hs
  have gd : ∀ {α : Type} (z : Option α), j_g (decide (S[dq]? = some (0, 7))) z = z := fun z => jg_d hsq
  have rq : ∀ (N : JI) (k : Nat) (v : Int32), (j_up N 16 k v) dq = N dq := fun N k v => ju_row _ _ (by omega)
  have r3 : ∀ (N : JI) (k : Nat) (v : Int32), (j_up N 16 k v) (t + 3) = N (t + 3) := fun N k v => ju_row _ _ (by omega)
  have r4 : ∀ (N : JI) (k : Nat) (v : Int32), (j_up N 16 k v) (t + 4) = N (t + 4) := fun N k v => ju_row _ _ (by omega)
  unfold fX3_ask
  simp only [e7, e6, jo_s, gt, gd, c0, c1, c2, c3, c4, c5, g0, g1, g2, g3, g4, g5, rq, r3, r4, q0, q1, q2]
  rw [of_eq (h := h) (t := t) (by
    intro p' q' hp' hq'
    rw [ju_row _ _ (by omega), ju_row _ _ (by omega), ju_row _ _ (by omega)]
    exact h3.1 p' q' hp' hq') hp hf, Option.bind_some, jg_in hf (by decide), jg_in hg (by decide), nI_clamp (by omega), nI_clamp (by omega), h3.2.2.1 g hg, h3.2.2.2 f hf]
  obtain ⟨M', m1, m2, m3, m4, m5⟩ := flag_loop (l1 := dq) (D := j_up D 15 7 (some dq)) (S := S) (dq := dq) (fm := fm) e7 hsq (by omega) hfm 3 0 (by omega) 100000 (by omega) (j_up (j_up (j_up (j_up (j_up (j_up M 16 0 (M dq 3)) 16 1 (M dq 5)) 16 2 (M dq 6)) 16 3 (nI (h p f) - M dq 3)) 16 4 (nI (fb_sm (fun p => h p f) 12) - M dq 3)) 16 5 (nI (owS h g))) (by simp only [rq]; exact q4)
  refine ⟨M' 16, ?_, fun k hk => ?_⟩
  · refine Eq.trans m1 ?_
    congr 2
    refine (jr1_of (M := M) (t := 16) (fun a ha => ?_))
    rw [m2 a ha, ju_row _ _ ha, ju_row _ _ ha, ju_row _ _ ha, ju_row _ _ ha, ju_row _ _ ha, ju_row _ _ ha]
  · unfold fbS
    by_cases k13 : k = 13
    · subst k13
      rw [if_neg (by omega), if_neg (by omega), if_neg (by omega), if_neg (by omega), if_neg (by omega), if_neg (by omega), if_neg (by omega), if_pos rfl, m4, ju_row _ _ (by omega), ju_row _ _ (by omega), ju_row _ _ (by omega), ju_row _ _ (by omega), ju_row _ _ (by omega), ju_row _ _ (by omega)]
    · by_cases k6 : k < 6
      · rw [m5 k k13 (by omega)]
        have hk6 : k = 0 ∨ k = 1 ∨ k = 2 ∨ k = 3 ∨ k = 4 ∨ k = 5 := by omega
        rcases hk6 with rfl | rfl | rfl | rfl | rfl | rfl
        · rw [if_pos rfl, ju_cell _ _ (by omega), ju_cell _ _ (by omega), ju_cell _ _ (by omega), ju_cell _ _ (by omega), ju_cell _ _ (by omega), ju_same]
        · rw [if_neg (by omega), if_pos rfl, ju_cell _ _ (by omega), ju_cell _ _ (by omega), ju_cell _ _ (by omega), ju_cell _ _ (by omega), ju_same]
        · rw [if_neg (by omega), if_neg (by omega), if_pos rfl, ju_cell _ _ (by omega), ju_cell _ _ (by omega), ju_cell _ _ (by omega), ju_same]
        · rw [if_neg (by omega), if_neg (by omega), if_neg (by omega), if_pos rfl, ju_cell _ _ (by omega), ju_cell _ _ (by omega), ju_same]
        · rw [if_neg (by omega), if_neg (by omega), if_neg (by omega), if_neg (by omega), if_pos rfl, ju_cell _ _ (by omega), ju_same]
        · rw [if_neg (by omega), if_neg (by omega), if_neg (by omega), if_neg (by omega), if_neg (by omega), if_pos rfl, ju_same]
      · rw [if_neg (by omega), if_neg (by omega), if_neg (by omega), if_neg (by omega), if_neg (by omega), if_neg (by omega)]
        have := m3 (k - 6) (by omega) (by omega)
        rw [show 6 + (k - 6) = k by omega] at this
        rw [this]
        by_cases c : k - 6 = fm
        · rw [if_pos c, if_pos (by omega)]
        · rw [if_neg c, if_neg (by omega), if_neg k13]
