theorem cfb_90 {I : JI} : ∀ d k, k + d = 64 → ∀ n, d < n → ∀ L : JL, (∀ x, x < k → L 41 x = 0) → ∃ L', fX2_begin_90 n (nI k) I L = fX2_begin_112 I L' ∧ (∀ c, c ≠ 41 → L' c = L c) ∧ ∀ x, x < 64 → L' 41 x = 0 := by
  intro d
  induction d with
  | zero =>
    intro k hk n hn L hL
    obtain ⟨n', rfl⟩ := suc_of hn
    have : k = 64 := by omega
    subst this
    refine ⟨L, ?_, fun _ _ => rfl, hL⟩
    rw [fX2_begin_90, if_pos (by decide)]
  | succ d ih =>
    intro k hk n hn L hL
    obtain ⟨n', rfl⟩ := suc_of hn
    have c : ¬ (64 : Int32) ≤ nI k := nI_ge (b := 64) (by omega) (by omega)
    rw [fX2_begin_90, if_neg c, jg_in (show k < 64 by omega) (by decide), nI_clamp (by omega), show nI k + (1 : Int32) = nI (k + 1) from nI_add _ 1]
    obtain ⟨L', a1, a2, a3⟩ := ih (k + 1) (by omega) n' (by omega) (j_up L 41 k (0 : Int64)) (fun x hx => by
      rw [ju_at]
      show (if x = k then (0 : Int64) else L 41 x) = 0
      split
      · rfl
      · exact hL x (by omega))
    exact ⟨L', a1, fun c hc => by rw [a2 c hc, ju_row _ _ hc], a3⟩
theorem dec_succ {P : Nat → Bool} {i k : Nat} (ci : ¬ i = k) : (decide (i < k + 1) && P i) = (decide (i < k) && P i) := by
  by_cases h : i < k
  · rw [decide_eq_true h, decide_eq_true (by omega)]
  · rw [decide_eq_false h, decide_eq_false (by omega)]
theorem cfb_12 {h : Nat → Nat → Nat} {g : Nat} (H : FB h g) (hs : ∀ p, p < 12 → fb_sm (h p) 16 = 12 ∨ fb_sm (h p) 16 = 0) {L : JL} : ∀ d k, k + d = 12 → ∀ n, d < n → ∀ I, I 33 11 = nI g → (∀ p i, p < 12 → bt (I 9 p) i = (decide (i < 16) && decide (0 < h p i))) → (∀ p, p < k → I 40 p = slV h p) → (∀ i, bt (I 33 8) i = (decide (i < k) && decide (slF h i = g))) → (∀ i, bt (I 33 9) i = (decide (i < k) && FS h g i)) → ∃ I', fX2_begin_12 n (nI k) I L = fX2_begin_88 I' L ∧ (∀ a, a ≠ 33 → a ≠ 40 → I' a = I a) ∧ (∀ k, k ≠ 8 → k ≠ 9 → I' 33 k = I 33 k) ∧ (∀ p, p < 12 → I' 40 p = slV h p) ∧ (∀ i, bt (I' 33 8) i = (decide (i < 12) && decide (slF h i = g))) ∧ ∀ i, bt (I' 33 9) i = (decide (i < 12) && FS h g i) := by
  intro d
  induction d with
  | zero =>
    intro k hk n hn I e11 e9 e40 b8 b9
    obtain ⟨n', rfl⟩ := suc_of hn
    have : k = 12 := by omega
    subst this
    refine ⟨I, ?_, fun _ _ _ => rfl, fun _ _ _ => rfl, e40, b8, b9⟩
    rw [fX2_begin_12, if_pos (by decide)]
  | succ d ih =>
    intro k hk n hn I e11 e9 e40 b8 b9
    obtain ⟨n', rfl⟩ := suc_of hn
    have c : ¬ (12 : Int32) ≤ nI k := nI_ge (b := 12) (by omega) (by omega)
    have en : nI k + (1 : Int32) = nI (k + 1) := nI_add _ 1
    have g12 : ∀ {α : Type} (z : Option α), j_g (j_in (nI k) 12) z = z := fun z => jg_in (by omega) (by decide)
    have ho := onl_eq (I := I) (t := 7) H (show k < 12 by omega) (hs k (by omega)) (fun i => e9 k i (by omega))
    rw [fX2_begin_12, if_neg c, ho, Option.bind_some]
    simp only [g12]
    rw [nI_clamp (show k < 2 ^ 31 by omega), ju_same, ju_row _ _ (show (33 : Nat) ≠ 40 by omega), e11, en]
    generalize hI1 : j_up I 40 k (slV h k) = I1
    have r1 : ∀ a, a ≠ 40 → I1 a = I a := fun a ha => by rw [← hI1, ju_row _ _ ha]
    have r40 : ∀ p, p < k + 1 → I1 40 p = slV h p := by
      intro p hp
      rw [← hI1, ju_at]
      show (if p = k then slV h k else I 40 p) = _
      split
      · rename_i e; rw [e]
      · exact e40 p (by omega)
    by_cases cg : slF h k = g
    · have e1 : slV h k = nI g := by unfold slV; rw [cg, if_pos H.1]
      have hFk : FS h g k = false := by unfold FS; rw [decide_eq_true cg]; simp
      rw [if_pos e1]
      obtain ⟨I', a1, a2, a3, a4, a5, a6⟩ := ih (k + 1) (by omega) n' (by omega) (j_up I1 33 8 (I 33 8 ||| ((1 : Int32) <<< (nI k &&& 31)))) (by rw [ju_cell _ _ (by omega), r1 33 (by omega)]; exact e11) (fun p i hp => by rw [ju_row _ _ (by omega), r1 9 (by omega)]; exact e9 p i hp) (fun p hp => by rw [ju_row _ _ (by omega)]; exact r40 p hp) (fun i => by
        rw [ju_same, show bt (I 33 8 ||| ((1 : Int32) <<< (nI k &&& 31))) i = (bt (I 33 8) i || decide (i = k)) from bt_set (I 33 8) (by omega) i, b8 i]
        by_cases ci : i = k
        · subst ci; rw [decide_eq_true cg]; simp
        · rw [dec_succ (P := fun i => decide (slF h i = g)) ci]; simp [ci]) (fun i => by
        rw [ju_cell _ _ (by omega), r1 33 (by omega), b9 i]
        by_cases ci : i = k
        · subst ci; rw [hFk]; simp
        · rw [dec_succ (P := FS h g) ci])
      refine ⟨I', ?_, fun a z1 z2 => by rw [a2 a z1 z2, ju_row _ _ z1, r1 a z2], fun j z1 z2 => by rw [a3 j z1 z2, ju_cell _ _ z1, r1 33 (by omega)], a4, a5, a6⟩
      exact a1
    · have e1 : ¬ slV h k = nI g := by
        unfold slV
        split
        · exact fun e => cg ((nI_eq (by omega) (by have := H.1; omega)).mp e)
        · rw [nm_ne2 (by have := H.1; omega)]; simp
      rw [if_neg e1]
      have b8' : ∀ i, bt (I1 33 8) i = (decide (i < k + 1) && decide (slF h i = g)) := by
        intro i
        rw [r1 33 (by omega), b8 i]
        by_cases ci : i = k
        · subst ci; rw [decide_eq_false cg]; simp
        · rw [dec_succ (P := fun i => decide (slF h i = g)) ci]
      by_cases c1 : slF h k < 16
      · have e2 : ¬ slV h k = (-1 : Int32) := by
          unfold slV
          rw [if_pos c1, show (-1 : Int32) = -nI 1 from rfl, nm_ne (by omega)]; simp
        have hFk : FS h g k = true := by unfold FS; rw [decide_eq_true c1, decide_eq_false cg]; rfl
        rw [if_neg e2]
        obtain ⟨I', a1, a2, a3, a4, a5, a6⟩ := ih (k + 1) (by omega) n' (by omega) (j_up I1 33 9 (I 33 9 ||| ((1 : Int32) <<< (nI k &&& 31)))) (by rw [ju_cell _ _ (by omega), r1 33 (by omega)]; exact e11) (fun p i hp => by rw [ju_row _ _ (by omega), r1 9 (by omega)]; exact e9 p i hp) (fun p hp => by rw [ju_row _ _ (by omega)]; exact r40 p hp) (fun i => by rw [ju_cell _ _ (by omega)]; exact b8' i) (fun i => by
          rw [ju_same, show bt (I 33 9 ||| ((1 : Int32) <<< (nI k &&& 31))) i = (bt (I 33 9) i || decide (i = k)) from bt_set (I 33 9) (by omega) i, b9 i]
          by_cases ci : i = k
          · subst ci; rw [hFk]; simp
          · rw [dec_succ (P := FS h g) ci]; simp [ci])
        refine ⟨I', ?_, fun a z1 z2 => by rw [a2 a z1 z2, ju_row _ _ z1, r1 a z2], fun j z1 z2 => by rw [a3 j z1 z2, ju_cell _ _ z2, r1 33 (by omega)], a4, a5, a6⟩
        exact a1
      · have e2 : slV h k = (-1 : Int32) := by unfold slV; rw [if_neg c1]; rfl
        have hFk : FS h g k = false := by unfold FS; rw [decide_eq_false c1]; rfl
        rw [if_pos e2]
        obtain ⟨I', a1, a2, a3, a4, a5, a6⟩ := ih (k + 1) (by omega) n' (by omega) I1 (by rw [r1 33 (by omega)]; exact e11) (fun p i hp => by rw [r1 9 (by omega)]; exact e9 p i hp) r40 b8' (fun i => by
          rw [r1 33 (by omega), b9 i]
          by_cases ci : i = k
          · subst ci; rw [hFk]; simp
          · rw [dec_succ (P := FS h g) ci])
        exact ⟨I', a1, fun a z1 z2 => by rw [a2 a z1 z2, r1 a z2], fun j z1 z2 => by rw [a3 j z1 z2, r1 33 (by omega)], a4, a5, a6⟩
theorem far_69 {h : Nat → Nat → Nat} {g : Nat} (hg : g < 16) {l4 : Int32} {N : JI} (h120 : ∀ p, p < 12 → N 120 p = slV h p) : ∀ d k, k + d = 12 → ∀ n, d < n → ∀ x, ∃ y, fX12_far_69 n (nI g) l4 x (nI k) N = fX12_far_102 l4 y N ∧ ∀ i, bt y i = (bt x i || (decide (k ≤ i) && (decide (i < 12) && decide (slF h i = g)))) := by
  intro d
  induction d with
  | zero =>
    intro k hk n hn x
    obtain ⟨n', rfl⟩ := suc_of hn
    have : k = 12 := by omega
    subst this
    refine ⟨x, ?_, fun i => ?_⟩
    · rw [fX12_far_69, if_pos (by decide)]
    · by_cases c : i < 12
      · rw [decide_eq_false (show ¬ 12 ≤ i by omega)]; simp
      · rw [decide_eq_false c]; simp
  | succ d ih =>
    intro k hk n hn x
    obtain ⟨n', rfl⟩ := suc_of hn
    have c : ¬ (12 : Int32) ≤ nI k := nI_ge (b := 12) (by omega) (by omega)
    rw [fX12_far_69, if_neg c, jg_in (show k < 12 by omega) (by decide), nI_clamp (by omega), h120 k (by omega), show nI k + (1 : Int32) = nI (k + 1) from nI_add _ 1]
    have hd : ∀ i, i ≠ k → decide (k ≤ i) = decide (k + 1 ≤ i) := by
      intro i hi
      by_cases c : k ≤ i
      · rw [decide_eq_true c, decide_eq_true (by omega)]
      · rw [decide_eq_false c, decide_eq_false (by omega)]
    by_cases cg : slF h k = g
    · have e1 : slV h k = nI g := by unfold slV; rw [cg, if_pos hg]
      rw [if_pos e1]
      obtain ⟨y, a1, a2⟩ := ih (k + 1) (by omega) n' (by omega) (x ||| ((1 : Int32) <<< (nI k &&& 31)))
      refine ⟨y, a1, fun i => ?_⟩
      rw [a2 i, show bt (x ||| ((1 : Int32) <<< (nI k &&& 31))) i = (bt x i || decide (i = k)) from bt_set x (by omega) i]
      by_cases ci : i = k
      · subst ci; rw [decide_eq_true cg, decide_eq_true (show i < 12 by omega)]; simp
      · rw [hd i ci]; simp [ci]
    · have e1 : ¬ slV h k = nI g := by
        unfold slV
        split
        · exact fun e => cg ((nI_eq (by omega) (by omega)).mp e)
        · rw [nm_ne2 (by omega)]; simp
      rw [if_neg e1]
      obtain ⟨y, a1, a2⟩ := ih (k + 1) (by omega) n' (by omega) x
      refine ⟨y, a1, fun i => ?_⟩
      rw [a2 i]
      by_cases ci : i = k
      · subst ci; rw [decide_eq_false cg]; simp
      · rw [hd i ci]
/-- searched anew -/
theorem far_50 {n : Nat} {M : JI} {L : JL} {D : JG} {S : JS} (h : Inv n M L D S) {g yrs ec : Nat} (hg : g < 16) (hy : yrs ≤ 9) : ∃ I' L' D', fX2_find_50 (nI g) (nI yrs) (nI ec) M L D S = some (I', L', D') ∧ (∀ c, (c < 16 ∨ (18 < c ∧ c < 33) ∨ c = 34 ∨ 40 < c) → I' c = M c) ∧ I' 33 14 = M 1 9 ∧ (I' 33 11 = nI g ∧ I' 33 12 = nI yrs ∧ I' 33 13 = nI ec) ∧ dS D D' ∧ ML41 L L' ∧ cFar (I' 33) (rg pE M) (M 73) (M 67) := by
  obtain ⟨X, ln, E, x1, d5, W⟩ := wb_inv h
  obtain ⟨h1, h2, h3, h4, h5, h6, h7, h8, h9, h10, h11, h12, h13, h14, h15, h16, h17, h18, h19⟩ := h
  have hsum : ∀ p, p < 12 → fb_sm (hN (M 68) p) 16 = 12 ∨ fb_sm (hN (M 68) p) 16 = 0 := fun p hp => by rw [h2.2 p hp]; split <;> omega
  have H : FB (hN (M 68)) g := ⟨hg, fun p q a b => (h2.1 p q a b).2, fun p hp => by have := hsum p hp; omega⟩
  have hz : ∀ p, p < 12 → bt (M 1 5) p = false → slF (hN (M 68)) p = 16 := by
    intro p hp hb
    have hs0 : fb_sm (hN (M 68) p) 16 = 0 := by rw [h2.2 p hp, hb]; rfl
    exact ff_none (fun i hi => by rw [fb_sm_zero hs0 i hi]; rfl)
  generalize hI0 : j_up (j_up (j_up (j_up (j_up M 33 11 (nI g)) 33 12 (nI yrs)) 33 13 (nI ec)) 33 8 (0 : Int32)) 33 9 (0 : Int32) = I0
  have r0 : ∀ c, c ≠ 33 → I0 c = M c := fun c hc => by rw [← hI0, ju_row _ _ hc, ju_row _ _ hc, ju_row _ _ hc, ju_row _ _ hc, ju_row _ _ hc]
  have k11 : I0 33 11 = nI g := by rw [← hI0, ju_cell _ _ (by omega), ju_cell _ _ (by omega), ju_cell _ _ (by omega), ju_cell _ _ (by omega), ju_same]
  have k12 : I0 33 12 = nI yrs := by rw [← hI0, ju_cell _ _ (by omega), ju_cell _ _ (by omega), ju_cell _ _ (by omega), ju_same]
  have k13 : I0 33 13 = nI ec := by rw [← hI0, ju_cell _ _ (by omega), ju_cell _ _ (by omega), ju_same]
  have k8 : I0 33 8 = 0 := by rw [← hI0, ju_cell _ _ (by omega), ju_same]
  have k9 : I0 33 9 = 0 := by rw [← hI0, ju_same]
  obtain ⟨I1, a1, a2, a3, a4, a5, a6⟩ := cfb_12 (L := L) H hsum 12 0 (by omega) 100000 (by omega) I0 k11 (fun p i hp => by rw [r0 9 (by omega)]; exact h3.2.1 p i hp) (fun p hp => absurd hp (by omega)) (fun i => by rw [k8, show bt (0 : Int32) i = false from bt_zero i]; simp) (fun i => by rw [k9, show bt (0 : Int32) i = false from bt_zero i]; simp)
  obtain ⟨L1, b1, b2, b3⟩ := cfb_90 (I := I1) 64 0 (by omega) 100000 (by omega) L (fun x hx => absurd hx (by omega))
  obtain ⟨I2, c1, c2, c3, c4, c5, c6⟩ := cp_eq I1 (t := 34) (u := 7) (by omega)
  have hbegin : fX2_begin (j_up (j_up (j_up M 33 11 (nI g)) 33 12 (nI yrs)) 33 13 (nI ec)) L = some (j_up I2 33 7 (0 : Int32), L1) := by
    unfold fX2_begin
    rw [hI0, show (0 : Int32) = nI 0 from rfl]
    refine Eq.trans a1 ?_
    unfold fX2_begin_88
    refine Eq.trans b1 ?_
    unfold fX2_begin_112
    rw [c1]; rfl
  have r2 : ∀ a, (a < 35 ∨ 38 < a) → I2 a = I1 a := fun a ha => c2 a (by omega) (by omega) (by omega) (by omega)
  obtain ⟨F, F1, F2⟩ := low12 (x := I1 33 9) (fun i hi => by rw [a6 i, decide_eq_false (by omega)]; rfl)
  have hFb : ∀ i, i < 12 → F.testBit i = FS (hN (M 68)) g i := by
    intro i hi
    have := a6 i
    rw [F2, bt_nJ _ (by omega), decide_eq_true hi, Bool.true_and] at this
    exact this
  generalize hI3 : j_up (j_up I2 33 7 (0 : Int32)) 33 10 (0 : Int32) = I3
  have r3 : ∀ a, a ≠ 33 → (a < 35 ∨ 38 < a) → I3 a = I1 a := fun a z1 z2 => by rw [← hI3, ju_row _ _ z1, ju_row _ _ z1, r2 a z2]
  have r333 : ∀ k, k ≠ 7 → k ≠ 10 → I3 33 k = I1 33 k := fun k z1 z2 => by rw [← hI3, ju_cell _ _ z2, ju_cell _ _ z1, r2 33 (by omega)]
  have hCF : CF M I3 D X (hN (M 68)) g ec yrs 0 := by
    refine ⟨fun a ha => by rw [r3 a (by omega) (by omega), a2 a (by omega) (by omega), r0 a (by omega)], ⟨by rw [r333 11 (by omega) (by omega), a3 11 (by omega) (by omega)]; exact k11, by rw [r333 12 (by omega) (by omega), a3 12 (by omega) (by omega)]; exact k12, by rw [r333 13 (by omega) (by omega), a3 13 (by omega) (by omega)]; exact k13, by rw [← hI3, ju_cell _ _ (by omega), ju_same]; rfl⟩, fun p hp => by rw [r3 40 (by omega) (by omega)]; exact a4 p hp, ?_, ⟨by omega, fun i hi => by simp at hi⟩, d5⟩
    rw [hv_0, ← hI3, ju_row _ _ (by omega), ju_row _ _ (by omega), ju_row _ _ (by omega), ju_row _ _ (by omega), ju_row _ _ (by omega), ju_row _ _ (by omega), ju_row _ _ (by omega), ju_row _ _ (by omega)]
    refine vHd_rows (r8 := M 8) (r9 := M 9) (r10 := M 10) (r11 := M 11) (fun k hk => ?_) (fun k hk => ?_) (fun k hk => ?_) (fun k hk => ?_) h3
    · rw [c3 k hk, a2 8 (by omega) (by omega), r0 8 (by omega)]
    · rw [c4 k hk, a2 9 (by omega) (by omega), r0 9 (by omega)]
    · rw [c5 k hk, a2 10 (by omega) (by omega), r0 10 (by omega)]
    · rw [c6 k hk, a2 11 (by omega) (by omega), r0 11 (by omega)]
  have hrb0 : ∀ t, t < 4096 → rb (j_up L1 41 0 (1 : Int64)) t = (decide (t ≤ 0) && CA (GT M ln E (hN (M 68)) g ec (M 1 7)) (FS (hN (M 68)) g) yrs t) := by
    intro t ht
    unfold rb
    rw [ju_at]
    show bL (if t / 64 = 0 then (1 : Int64) else L1 41 (t / 64)) (t % 64) = _
    by_cases c : t / 64 = 0
    · rw [if_pos c, bL_one _ (by omega)]
      by_cases t0 : t = 0
      · rw [t0, CA_0]; rfl
      · rw [decide_eq_false (by omega), decide_eq_false (by omega)]; rfl
    · rw [if_neg c, b3 _ (by omega), bL_zero, decide_eq_false (by omega)]; rfl
  obtain ⟨I4, L4, D4, bs, e1, e2, e3, e4, e5, e6⟩ := cfs_16 (ec := ec) W H hy F1 hFb 4095 1 (by omega) 100000 (by omega) I3 (j_up L1 41 0 (1 : Int64)) D 0 0 0 hCF (fun c hc => by rw [ju_row _ _ hc]; exact b2 c hc) (by rw [r333 9 (by omega) (by omega)]; exact F2) (by rw [← hI3, ju_same]; rfl) (by omega) (fun i hi => by simp at hi) (by omega) hrb0 ⟨by omega, by omega, CA_0, fun t t1 t2 t3 => by rw [show t = 0 by omega]; exact Or.inr ⟨rfl, Nat.le_refl _⟩⟩
  have hsearch : fX2_search (j_up I2 33 7 (0 : Int32)) L1 D S = some (I4, L4, D4) := by
    unfold fX2_search
    have g0 : ∀ {α : Type} (z : Option α), j_g (j_in (0 : Int32) 64) z = z := fun z => jg_in (k := 0) (N := 64) (by omega) (by decide)
    rw [g0, show (0 : Int32).toNatClampNeg = 0 by decide, hI3]
    exact e1
  have f4 : ∀ c, (c < 16 ∨ (18 < c ∧ c < 33) ∨ c = 34 ∨ 40 < c) → I4 c = M c := fun c hc => by rw [e2.1 c (by omega), r3 c (by omega) (by omega), a2 c (by omega) (by omega), r0 c (by omega)]
  have f33 : ∀ k, k ≠ 7 → k ≠ 10 → I4 33 k = I1 33 k := fun k z1 z2 => by rw [e2.2 k z1 z2, r333 k z1 z2]
  refine ⟨j_up I4 33 14 (M 1 9), L4, D4, ?_, fun c hc => by rw [ju_row _ _ (by omega)]; exact f4 c hc, ju_same _ _ _ _, ⟨?_, ?_, ?_⟩, e3, e4, ?_⟩
  · unfold fX2_find_50
    rw [hbegin, Option.bind_some]
    dsimp only
    rw [hsearch, Option.bind_some]
    dsimp only
    rw [f4 1 (by omega)]
  · rw [ju_cell _ _ (by omega), f33 11 (by omega) (by omega), a3 11 (by omega) (by omega), k11]
  · rw [ju_cell _ _ (by omega), f33 12 (by omega) (by omega), a3 12 (by omega) (by omega), k12]
  · rw [ju_cell _ _ (by omega), f33 13 (by omega) (by omega), a3 13 (by omega) (by omega), k13]
  · intro N hNE n73 n67
    obtain ⟨n1, n2⟩ := nS_of hNE
    obtain ⟨bs', N', q1, q2, q3, q4⟩ := gf_eq (ec := ec) (yrs := yrs) (Wc := M 1 7) (t := M 1 5) W H hy h1 hz n1 n67 (fun q hq => by rw [n73]; exact h8 q hq) (by rw [n2]; exact tw_rep h2)
    have hbb : bs' = bs := BS_uni q2 e6
    subst hbb
    have hb4 := q2.1
    have t11 : (j_up I4 33 14 (M 1 9)) 33 11 = nI g := by rw [ju_cell _ _ (by omega), f33 11 (by omega) (by omega), a3 11 (by omega) (by omega), k11]
    have t12 : (j_up I4 33 14 (M 1 9)) 33 12 = nI yrs := by rw [ju_cell _ _ (by omega), f33 12 (by omega) (by omega), a3 12 (by omega) (by omega), k12]
    have t13 : (j_up I4 33 14 (M 1 9)) 33 13 = nI ec := by rw [ju_cell _ _ (by omega), f33 13 (by omega) (by omega), a3 13 (by omega) (by omega), k13]
    have t10 : (j_up I4 33 14 (M 1 9)) 33 10 = nI bs' := by rw [ju_cell _ _ (by omega)]; exact e5
    have t8 : (j_up I4 33 14 (M 1 9)) 33 8 = I1 33 8 := by rw [ju_cell _ _ (by omega), f33 8 (by omega) (by omega)]
    rw [t11, t12, t13, t10, t8]
    have hob : ∀ i, 12 ≤ i → bt (I1 33 8 ||| nI bs') i = false := by
      intro i hi
      rw [b_or, a5 i, bt_hi hb4 i hi, decide_eq_false (by omega)]; rfl
    refine ⟨N', nI (fb_ct (bt (I1 33 8 ||| nI bs')) 12), nI (pc bs'), q1, q3, bits_n bs', bc_n hb4, fun l4 => ?_, bits_eq _, bc_eq hob⟩
    obtain ⟨y, y1, y2⟩ := far_69 hg (l4 := l4) q4 12 0 (by omega) 100000 (by omega) (nI bs')
    have hy : y = I1 33 8 ||| nI bs' := by
      apply b_ext
      intro i hi
      rw [y2 i, b_or, a5 i, decide_eq_true (Nat.zero_le i), Bool.true_and, Bool.or_comm]
    rw [← hy]
    exact y1
theorem ff_cases (l1 l2 l3 : Int32) (I : JI) (L : JL) (D : JG) (S : JS) : ((I 33 11 = l1 ∧ I 33 12 = l2 ∧ I 33 13 = l3 ∧ I 33 14 = I 1 9) ∧ fX2_find l1 l2 l3 I L D S = some (I, L, D)) ∨ fX2_find l1 l2 l3 I L D S = fX2_find_50 l1 l2 l3 I L D S := by
  unfold fX2_find fX2_find_29
  by_cases c1 : I 33 11 = l1
  · rw [if_pos c1]
    by_cases c2 : I 33 12 = l2
    · rw [if_pos c2]
      by_cases c3 : I 33 13 = l3
      · rw [if_pos c3, if_neg (by decide)]
        by_cases c5 : I 33 14 = I 1 9
        · rw [if_pos c5]; exact Or.inl ⟨⟨c1, c2, c3, c5⟩, rfl⟩
        · rw [if_neg c5]; exact Or.inr rfl
      · rw [if_neg c3, if_pos rfl]; exact Or.inr rfl
    · rw [if_neg c2, if_pos rfl]; exact Or.inr rfl
  · rw [if_neg c1, if_pos rfl]; exact Or.inr rfl
theorem ffd_eq {n : Nat} {M : JI} {L : JL} {D : JG} {S : JS} (h : Inv n M L D S) {g yrs ec : Nat} (hg : g < 16) (hy : yrs ≤ 9) : ∃ I' L' D', fX2_find (nI g) (nI yrs) (nI ec) M L D S = some (I', L', D') ∧ (I' 33 11 = nI g ∧ I' 33 12 = nI yrs ∧ I' 33 13 = nI ec) ∧ cFar (I' 33) (rg pE M) (M 73) (M 67) ∧ (∀ c, (c < 14 ∨ 43 < c) → I' c = M c) ∧ ∀ N' : JI, xSm (j_up I' 66 0 (0 : Int32)) N' → Inv (n + 1) N' L' D' S := by
  have hh := h
  obtain ⟨h1, h2, h3, h4, h5, h6, h7, h8, h9, h10, h11, h12, h13, h14, h15, h16, h17, h18, h19⟩ := hh
  rcases ff_cases (nI g) (nI yrs) (nI ec) M L D S with ⟨⟨c1, c2, c3, c5⟩, e⟩ | e
  · refine ⟨M, L, D, e, ⟨c1, c2, c3⟩, h19 c5, fun _ _ => rfl, fun N' hx => ?_⟩
    have r : ∀ c, (c < 86 ∨ (95 < c ∧ c < 114) ∨ 120 < c) → c ≠ 66 → N' c = M c := fun c h1 h2 => by rw [hx.1 c h1 h2, ju_row _ _ h2]
    refine inv_gen h (fun c h1 h2 => r c (by omega) h2) (fun k k0 hk => by rw [hx.2 k hk, ju_cell _ _ k0]) (by rw [r 30 (by omega) (by omega)]) rfl rfl rfl rfl rfl rfl rfl ?_ ?_ ?_ ?_
    · rw [r 20 (by omega) (by omega), r 30 (by omega) (by omega), r 33 (by omega) (by omega)]; exact vChg_n h11
    · rw [r 20 (by omega) (by omega), r 28 (by omega) (by omega), r 29 (by omega) (by omega)]; exact h17
    · rw [r 30 (by omega) (by omega)]; exact h18
    · rw [r 33 (by omega) (by omega)]; exact h19
  · obtain ⟨I', L', D', a1, a2, a3, a4, a5, a6, a7⟩ := far_50 (ec := ec) h hg hy
    refine ⟨I', L', D', e.trans a1, a4, a7, fun c hc => a2 c (by omega), fun N' hx => ?_⟩
    have r : ∀ c, (c < 86 ∨ (95 < c ∧ c < 114) ∨ 120 < c) → c ≠ 66 → N' c = I' c := fun c h1 h2 => by rw [hx.1 c h1 h2, ju_row _ _ h2]
    obtain ⟨c, z1, z2, z3, z4, z5⟩ := vChg_n h11
    refine inv_gen h (fun c h1 h2 => by rw [r c (by omega) h2, a2 c (by omega)]) (fun k k0 hk => by rw [hx.2 k hk, ju_cell _ _ k0, a2 66 (by omega)]) (by rw [r 30 (by omega) (by omega), a2 30 (by omega)]) (a5.1 42 (by omega)) (a5.1 43 (by omega)) (a5.1 31 (by omega)) (a5.1 0 (by omega)) (a5.2 5 (by omega) (by omega)) (a6 46 (by omega)) (a6 57 (by omega)) ?_ ?_ ?_ ?_
    · rw [r 20 (by omega) (by omega), r 30 (by omega) (by omega), r 33 (by omega) (by omega), a3, a2 20 (by omega), a2 30 (by omega)]
      exact ⟨c, z1, z2, z3, z4, Or.inr ⟨c, Nat.le_refl _, z2⟩⟩
    · rw [r 20 (by omega) (by omega), r 28 (by omega) (by omega), r 29 (by omega) (by omega), a2 20 (by omega), a2 28 (by omega), a2 29 (by omega)]; exact h17
    · rw [r 30 (by omega) (by omega), a2 30 (by omega)]; exact h18
    · intro _
      rw [r 33 (by omega) (by omega)]
      exact a7
theorem op_far {n : Nat} {M : JI} {L : JL} {D : JG} {S : JS} (h : Inv n M L D S) (x1 x2 x3 x4 : Int32) : ∃ r M1 L1 D1 M2, fX11_far x1 x2 x3 x4 M L D S = some (r, M1, L1, D1) ∧ fX12_far x1 x2 x3 x4 M1 = some (r, M2) ∧ Inv (n + 1) M2 L1 D1 S := by
  have no : fX11_far x1 x2 x3 x4 M L D S = some (-nI 1, M, L, D) → fX12_far x1 x2 x3 x4 M = some (-nI 1, j_up M 66 0 (nI 0)) → ∃ r M1 L1 D1 M2, fX11_far x1 x2 x3 x4 M L D S = some (r, M1, L1, D1) ∧ fX12_far x1 x2 x3 x4 M1 = some (r, M2) ∧ Inv (n + 1) M2 L1 D1 S := fun a b => ⟨_, _, _, _, _, a, b, inv_thr h _⟩
  rcases ps_cases x1 with ⟨p1, p2⟩ | ⟨g, hg, rfl, p1, p2⟩
  · exact no (by unfold fX11_far; rw [p1]; rfl) (by unfold fX12_far; rw [p2]; rfl)
  · rcases wi_cases x2 1 9 (by omega) (by omega) with ⟨w1, w2⟩ | ⟨yrs, y1, y2, rfl, w1⟩
    · have w1' : fX12_within x2 (1 : Int32) (9 : Int32) = some (nI 0) := w1
      refine no ?_ (by unfold fX12_far; rw [p2, Option.bind_some, if_neg (by decide), w1']; rfl)
      unfold fX11_far
      rw [p1, Option.bind_some, if_neg (by decide)]
      rcases w2 with w2 | ⟨w2, w3⟩
      · have w2' : x2 < (1 : Int32) := w2
        rw [if_pos w2']; rfl
      · have w2' : ¬ x2 < (1 : Int32) := w2
        have w3' : (9 : Int32) < x2 := w3
        rw [if_neg w2', if_pos w3']; rfl
    · have w1' : fX12_within (nI yrs) (1 : Int32) (9 : Int32) = some (nI 1) := w1
      have s1 : ¬ nI yrs < (1 : Int32) := nI_nlt (b := 1) (by omega) (by omega)
      have s2 : ¬ (9 : Int32) < nI yrs := nI_nlt (a := 9) (by omega) (by omega)
      rcases wi_cases x3 0 800 (by omega) (by omega) with ⟨v1, v2⟩ | ⟨ec, e1, e2, rfl, v1⟩
      · have v1' : fX12_within x3 (0 : Int32) (800 : Int32) = some (nI 0) := v1
        refine no ?_ (by unfold fX12_far; rw [p2, Option.bind_some, if_neg (by decide), w1', Option.bind_some, if_neg (by decide), v1']; rfl)
        unfold fX11_far fX11_isEach
        rw [p1, Option.bind_some, if_neg (by decide), if_neg s1, if_neg s2]
        rcases v2 with v2 | ⟨v2, v3⟩
        · have v2' : x3 < (0 : Int32) := v2
          rw [if_pos v2']; rfl
        · have v2' : ¬ x3 < (0 : Int32) := v2
          have v3' : (800 : Int32) < x3 := v3
          rw [if_neg v2', if_pos v3']; rfl
      · have v1' : fX12_within (nI ec) (0 : Int32) (800 : Int32) = some (nI 1) := v1
        have s3 : fX11_isEach (nI ec) = some (nI 1) := by
          unfold fX11_isEach
          have z1 : ¬ nI ec < (0 : Int32) := nI_pos (by omega)
          have z2 : ¬ (800 : Int32) < nI ec := nI_nlt (a := 800) (by omega) (by omega)
          rw [if_neg z1, if_neg z2]; rfl
        rcases wi_cases x4 0 2 (by omega) (by omega) with ⟨u1, u2⟩ | ⟨w, f1, f2, rfl, u1⟩
        · have u1' : fX12_within x4 (0 : Int32) (2 : Int32) = some (nI 0) := u1
          refine no ?_ (by unfold fX12_far; rw [p2, Option.bind_some, if_neg (by decide), w1', Option.bind_some, if_neg (by decide), v1', Option.bind_some, if_neg (by decide), u1']; rfl)
          unfold fX11_far
          rw [p1, Option.bind_some, if_neg (by decide), if_neg s1, if_neg s2, s3, Option.bind_some, if_neg (by decide)]
          rcases u2 with u2 | ⟨u2, u3⟩
          · have u2' : x4 < (0 : Int32) := u2
            rw [if_pos u2']; rfl
          · have u2' : ¬ x4 < (0 : Int32) := u2
            have u3' : ¬ x4 ≤ (2 : Int32) := by
              intro hle
              have u3'' : (2 : Int32) < x4 := u3
              rw [fa_le] at hle
              rw [fa_lt] at u3''
              omega
            rw [if_neg u2', if_neg u3']; rfl
        · have u1' : fX12_within (nI w) (0 : Int32) (2 : Int32) = some (nI 1) := u1
          obtain ⟨I', L', D', b1, ⟨k1, k2, k3⟩, b3, b4, b5⟩ := ffd_eq (ec := ec) h hg y2
          have hrg : rg pE (j_up I' 66 0 (0 : Int32)) = rg pE M := by
            rw [rE_up (by omega)]
            exact rg_cong (fun a k hp => by unfold pE at hp; simp at hp; rw [b4 a (by omega)])
          obtain ⟨N', c0, c1, q1, q2, q3, q4, q5, q6, q7⟩ := b3 _ hrg (by rw [ju_row _ _ (by omega), b4 73 (by omega)]) (by rw [ju_row _ _ (by omega), b4 67 (by omega)])
          rw [k1, k2, k3] at q1
          rw [k1] at q5
          have z1 : ¬ nI w < (0 : Int32) := nI_pos (by omega)
          have z2 : nI w ≤ (2 : Int32) := nI_le (b := 2) f2 (by omega)
          have hw : w = 0 ∨ w = 1 ∨ w = 2 := by omega
          refine ⟨if nI w = 0 then c0 else if nI w = 1 then c1 else (I' 33 8 ||| I' 33 10), I', L', D', N', ?_, ?_, b5 N' q2⟩
          · unfold fX11_far
            rw [p1, Option.bind_some, if_neg (by decide), if_neg s1, if_neg s2, s3, Option.bind_some, if_neg (by decide), if_neg z1, if_pos z2, b1, Option.bind_some]
            dsimp only
            rcases hw with rfl | rfl | rfl
            · rw [if_pos (show nI 0 = (0 : Int32) from rfl), if_pos (show nI 0 = (0 : Int32) from rfl), q7]; rfl
            · rw [if_neg (show ¬ nI 1 = (0 : Int32) by decide), if_neg (show ¬ nI 1 = (0 : Int32) by decide), if_pos (show nI 1 = (1 : Int32) from rfl), if_pos (show nI 1 = (1 : Int32) from rfl), q4]; rfl
            · rw [if_neg (show ¬ nI 2 = (0 : Int32) by decide), if_neg (show ¬ nI 2 = (0 : Int32) by decide), if_neg (show ¬ nI 2 = (1 : Int32) by decide), if_neg (show ¬ nI 2 = (1 : Int32) by decide)]
          · unfold fX12_far
            rw [p2, Option.bind_some, if_neg (by decide), w1', Option.bind_some, if_neg (by decide), v1', Option.bind_some, if_neg (by decide), u1', Option.bind_some, if_neg (by decide), q1, Option.bind_some]
            dsimp only
            rcases hw with rfl | rfl | rfl
            · rw [if_neg (show ¬ nI 0 = (1 : Int32) by decide), if_pos (show nI 0 = (0 : Int32) from rfl), q5]
              unfold fX12_far_102
              rw [if_pos (show nI 0 = (0 : Int32) from rfl), q6]; rfl
            · rw [if_pos (show nI 1 = (1 : Int32) from rfl), if_neg (show ¬ nI 1 = (0 : Int32) by decide), q3]; rfl
            · rw [if_neg (show ¬ nI 2 = (1 : Int32) by decide), if_neg (show ¬ nI 2 = (0 : Int32) by decide), q5]
              unfold fX12_far_102
              rw [if_neg (show ¬ nI 2 = (0 : Int32) by decide), if_neg (show ¬ nI 2 = (1 : Int32) by decide)]
