theorem ff_none {P : Nat → Bool} {n : Nat} (h : ∀ i, i < n → P i = false) : fa_first P n = n := by
  have h1 := fa_first_le P n
  apply Classical.byContradiction
  intro hne
  have h2 := fa_first_yes P n (by omega)
  rw [h _ (by omega)] at h2
  exact absurd h2 (by simp)
theorem ff_is {P : Nat → Bool} {n k : Nat} (h : ∀ i, i < k → P i = false) (hk : P k = true) (hkn : k < n) : fa_first P n = k := by
  have h1 := fa_first_no P n k
  have h2 : ¬ k < fa_first P n := fun hlt => by rw [h1 hlt] at hk; exact absurd hk (by simp)
  apply Classical.byContradiction
  intro hne
  have h3 := fa_first_yes P n (by omega)
  rw [h _ (by omega)] at h3
  exact absurd h3 (by simp)
theorem ext_false {P : Nat → Bool} {k : Nat} (h : ∀ i, i < k → P i = false) (hk : P k = false) : ∀ i, i < k + 1 → P i = false := by
  intro i hi
  by_cases e : i = k
  · subst e; exact hk
  · exact h i (by omega)
theorem fr_loop {N0 : JI} {h : Nat → Nat → Nat} {ln p f g fm : Nat} {sm : Int32} {E : Nat → (Nat → Int32) → Int32} (B : RB N0 h ln p f g fm sm E) : ∀ d k, k + d = ln → ∀ n, d < n → ∀ N, rSame N0 N → (∀ i, i < k → (!kdR N0 i && acR N0 sm i && cnR N0 h p f E i g) = false) → ∃ N', fX12_isFree_2 n (nI k) N = some (bI (frR N0 h ln p f g sm E), N') ∧ rSame N0 N' := by
  have B0 := B
  obtain ⟨-, ⟨hp, hf, hg, hln, hfm⟩, ⟨b1, b2, b3, b4, b5, b6⟩, -, -, -, -, hl⟩ := B
  intro d
  induction d with
  | zero =>
    intro k hk n hn N hN hno
    obtain ⟨n', rfl⟩ := suc_of hn
    have : k = ln := by omega
    subst this
    refine ⟨N, ?_, hN⟩
    rw [fX12_isFree_2, hN.2.1 18 (by omega), b1, if_pos (nI_le (Nat.le_refl _) (by omega))]
    unfold frR
    rw [ff_none hno]; simp; rfl
  | succ d ih =>
    intro k hk n hn N hN hno
    obtain ⟨n', rfl⟩ := suc_of hn
    have e1 : nI k + (1 : Int32) = nI (k + 1) := nI_1 k
    rw [fX12_isFree_2, hN.2.1 18 (by omega), b1, if_neg (nI_ge (by omega) (by omega)), jg_in (by omega) (by decide), nI_clamp (by omega), hN.1 75 (by omega) (by omega), e1]
    rcases (hl k (by omega)).1 with c | c
    · have hk0 : kdR N0 k = true := by unfold kdR; rw [c]; simp
      rw [c, if_neg (by decide)]
      exact ih (k + 1) (by omega) n' (by omega) N hN (ext_false hno (by rw [hk0]; rfl))
    · have hk0 : kdR N0 k = false := by unfold kdR; rw [c]; decide
      rw [c, if_pos (by decide), fo_eq B0 (by omega) hN, Option.bind_some]
      by_cases ca : acR N0 sm k = true
      · rw [ca, if_neg (by decide), hN.2.1 48 (by omega), b4]
        obtain ⟨N', s1, s2⟩ := so_eq B0 (i := k) (q := g) (by omega) hg hN
        rw [s1, Option.bind_some]
        by_cases cc : cnR N0 h p f E k g = true
        · refine ⟨N', ?_, s2⟩
          rw [cc, if_neg (show ¬ bI true = 0 by decide)]
          unfold frR
          rw [ff_is hno (by rw [hk0, ca, cc]; rfl) (by omega)]
          have : k < ln := by omega
          simp [this]; rfl
        · have cc0 : cnR N0 h p f E k g = false := by simpa using cc
          rw [cc0, if_pos (show bI false = 0 by decide)]
          exact ih (k + 1) (by omega) n' (by omega) N' s2 (ext_false hno (by rw [cc0]; simp))
      · have ca0 : acR N0 sm k = false := by simpa using ca
        rw [ca0, if_pos (by decide)]
        exact ih (k + 1) (by omega) n' (by omega) N hN (ext_false hno (by rw [ca0]; simp))
theorem fr_eq {N0 : JI} {h : Nat → Nat → Nat} {ln p f g fm : Nat} {sm : Int32} {E : Nat → (Nat → Int32) → Int32} (B : RB N0 h ln p f g fm sm E) {N : JI} (hN : rSame N0 N) : ∃ N', fX12_isFree N = some (bI (frR N0 h ln p f g sm E), N') ∧ rSame N0 N' := by
  have hln := B.2.1.2.2.2.1
  exact fr_loop B ln 0 (by omega) 100000 (by omega) N hN (fun i hi => absurd hi (by omega))
def kaR (N : JI) (sm : Int32) (i : Nat) : Bool := kdR N i && acR N sm i
def rkR (N : JI) (sm : Int32) (ln l : Nat) : Int32 := if l < ln then nI (fb_ct (kaR N sm) l) else -nI 1
theorem rk_loop {N0 : JI} {h : Nat → Nat → Nat} {ln p f g fm : Nat} {sm : Int32} {E : Nat → (Nat → Int32) → Int32} (B : RB N0 h ln p f g fm sm E) {q : Nat} (hq : q < 16) : ∀ d k, k + d = ln → ∀ n, d < n → ∀ N, rSame N0 N → (∀ i, i < k → qyR N0 h p f fm sm E q i = false) → ∃ N', fX12_rankOf_14 n (nI q) (nI (fb_ct (kaR N0 sm) k)) (nI k) N = some (rkR N0 sm ln (fa_first (qyR N0 h p f fm sm E q) ln), N') ∧ rSame N0 N' ∧ (fa_first (qyR N0 h p f fm sm E q) ln < ln → N' 66 51 = nI (fa_first (qyR N0 h p f fm sm E q) ln)) := by
  have B0 := B
  obtain ⟨⟨e68, hb⟩, ⟨hp, hf, hg, hln, hfm⟩, ⟨b1, b2, b3, b4, b5, b6⟩, ⟨r2, r3, hsd⟩, ⟨r4, hwet⟩, ⟨r5, r6, hdeg⟩, -, hl⟩ := B
  intro d
  induction d with
  | zero =>
    intro k hk n hn N hN hno
    obtain ⟨n', rfl⟩ := suc_of hn
    have : k = ln := by omega
    subst this
    refine ⟨N, ?_, hN, fun hlt => ?_⟩
    · rw [fX12_rankOf_14, hN.2.1 18 (by omega), b1, if_pos (nI_le (Nat.le_refl _) (by omega)), ff_none hno]
      unfold rkR
      rw [if_neg (by omega)]; rfl
    · rw [ff_none hno] at hlt; omega
  | succ d ih =>
    intro k hk n hn N hN hno
    obtain ⟨n', rfl⟩ := suc_of hn
    have e1 : nI k + (1 : Int32) = nI (k + 1) := nI_1 k
    have ct1 : ∀ z : Bool, fb_ct (kaR N0 sm) (k + 1) = fb_ct (kaR N0 sm) k + (if z then 1 else 0) → nI (fb_ct (kaR N0 sm) (k + 1)) = if z then nI (fb_ct (kaR N0 sm) k) + 1 else nI (fb_ct (kaR N0 sm) k) := by
      intro z hz
      rw [hz]
      cases z with
      | true => rw [if_pos rfl, if_pos rfl]; exact (nI_1 _).symm
      | false => rfl
    rw [fX12_rankOf_14, hN.2.1 18 (by omega), b1, if_neg (nI_ge (by omega) (by omega)), jg_in (by omega) (by decide), nI_clamp (by omega), hN.1 75 (by omega) (by omega), hN.1 77 (by omega) (by omega), hN.1 78 (by omega) (by omega), e1]
    rcases (hl k (by omega)).1 with c | c
    · have hk0 : kdR N0 k = true := by unfold kdR; rw [c]; simp
      obtain ⟨w, hw, ew⟩ := (hl k (by omega)).2.2.2 c
      rw [c, if_neg (by decide), fo_eq B0 (by omega) hN, Option.bind_some]
      by_cases ca : acR N0 sm k = true
      · have hka : kaR N0 sm k = true := by unfold kaR; rw [hk0, ca]; rfl
        have hct : nI (fb_ct (kaR N0 sm) (k + 1)) = nI (fb_ct (kaR N0 sm) k) + 1 := ct1 true (by rw [fb_ct_succ, hka])
        rw [ca, if_neg (by decide), jg_in (by omega) (by decide), hN.2.1 49 (by omega), b5]
        by_cases cf : foR N0 fm k = true
        · rw [if_pos (show _ = (1 : Int32) by rw [li_31, li_1, bt_test1 _ (by omega)]; exact cf), jg_in (by omega) (by decide), hN.2.1 46 (by omega), hN.2.1 47 (by omega), b2, b3, ew]
          have hwt := wt_eq (M := N) (h := h) (by rw [hN.1 69 (by omega) (by omega)]; exact hsd) (by rw [hN.1 70 (by omega) (by omega)]; exact hwet) (by rw [hN.1 71 (by omega) (by omega)]; exact hdeg) (by rw [hN.1 68 (by omega) (by omega)]; exact e68) hw hp hf hq
          rw [hN.1 69 (by omega) (by omega), hN.1 70 (by omega) (by omega), hN.1 71 (by omega) (by omega)] at hwt
          have hle := wt_le (r69 := N0 69) (r70 := N0 70) (r71 := N0 71) hb (who := w) (s := f) hp hq
          have ewc : (N0 77 k).toNatClampNeg = w := by rw [ew]; exact nI_clamp (by omega)
          rw [hwt, Option.bind_some]
          by_cases cw : 0 < wtS (N0 69) (N0 70) (N0 71) h w p f q
          · have hwR : wtR N0 h p f k q = true := by unfold wtR; rw [ewc]; exact decide_eq_true cw
            rw [if_neg (show ¬ nI _ ≤ 0 from nI_nle cw (by omega))]
            obtain ⟨N', s1, s2⟩ := so_eq B0 (i := k) (q := q) (by omega) hq hN
            rw [s1, Option.bind_some]
            by_cases cc : cnR N0 h p f E k q = true
            · have hqy : qyR N0 h p f fm sm E q k = true := by unfold qyR; rw [hk0, ca, cf, hwR, cc]; rfl
              have hff := ff_is hno hqy (show k < ln by omega)
              refine ⟨j_up N' 66 51 (nI k), ?_, ⟨fun a h1 h2 => by rw [ju_row _ _ (by omega), s2.1 a h1 h2], fun j h1 => by rw [ju_cell _ _ h1, s2.2.1 j h1], fun j h1 => by rw [ju_row _ _ (by omega), s2.2.2 j h1]⟩, fun _ => ?_⟩
              · rw [cc, if_neg (show ¬ bI true = 0 by decide), hff]
                unfold rkR
                rw [if_pos (by omega)]
              · rw [ju_same, hff]
            · have cc0 : cnR N0 h p f E k q = false := by simpa using cc
              rw [cc0, if_pos (show bI false = 0 by decide), ← hct]
              exact ih (k + 1) (by omega) n' (by omega) N' s2 (ext_false hno (by unfold qyR; rw [cc0]; simp))
          · have hwR : wtR N0 h p f k q = false := by unfold wtR; rw [ewc]; exact decide_eq_false cw
            have w0 : wtS (N0 69) (N0 70) (N0 71) h w p f q = 0 := by omega
            rw [w0, if_pos (by decide), ← hct]
            exact ih (k + 1) (by omega) n' (by omega) N hN (ext_false hno (by unfold qyR; rw [hwR]; simp))
        · have cf0 : foR N0 fm k = false := by simpa using cf
          rw [if_neg (show ¬ _ = (1 : Int32) by rw [li_31, li_1, bt_test1 _ (by omega)]; exact cf), ← hct]
          exact ih (k + 1) (by omega) n' (by omega) N hN (ext_false hno (by unfold qyR; rw [cf0]; simp))
      · have ca0 : acR N0 sm k = false := by simpa using ca
        have hka : kaR N0 sm k = false := by unfold kaR; rw [ca0]; simp
        have hct : nI (fb_ct (kaR N0 sm) (k + 1)) = nI (fb_ct (kaR N0 sm) k) := ct1 false (by rw [fb_ct_succ, hka])
        rw [ca0, if_pos (by decide), ← hct]
        exact ih (k + 1) (by omega) n' (by omega) N hN (ext_false hno (by unfold qyR; rw [ca0]; simp))
    · have hk0 : kdR N0 k = false := by unfold kdR; rw [c]; decide
      have hka : kaR N0 sm k = false := by unfold kaR; rw [hk0]; simp
      have hct : nI (fb_ct (kaR N0 sm) (k + 1)) = nI (fb_ct (kaR N0 sm) k) := ct1 false (by rw [fb_ct_succ, hka])
      rw [c, if_pos (by decide), ← hct]
      exact ih (k + 1) (by omega) n' (by omega) N hN (ext_false hno (by unfold qyR; rw [hk0]; simp))
theorem rk_eq {N0 : JI} {h : Nat → Nat → Nat} {ln p f g fm : Nat} {sm : Int32} {E : Nat → (Nat → Int32) → Int32} (B : RB N0 h ln p f g fm sm E) {q : Nat} (hq : q < 16) {N : JI} (hN : rSame N0 N) : ∃ N', fX12_rankOf (nI q) N = some (rkR N0 sm ln (lfR N0 h ln p f fm sm E q), N') ∧ rSame N0 N' ∧ (lfR N0 h ln p f fm sm E q < ln → N' 66 51 = nI (lfR N0 h ln p f fm sm E q)) := by
  have hln := B.2.1.2.2.2.1
  have hf := B.2.1.2.1
  have b3 := B.2.2.1.2.2.1
  unfold fX12_rankOf lfR
  rw [hN.2.1 47 (by omega), b3]
  by_cases e : q = f
  · subst e
    refine ⟨N, ?_, hN, fun hlt => ?_⟩
    · rw [if_pos rfl, if_pos rfl]
      unfold rkR
      rw [if_neg (by omega)]; rfl
    · rw [if_pos rfl] at hlt; omega
  · rw [if_neg (fun h => e ((nI_eq (by omega) (by omega)).mp h)), if_neg e]
    exact rk_loop B hq ln 0 (by omega) 100000 (by omega) N hN (fun i hi => absurd hi (by omega))
theorem lf_le {N : JI} {h : Nat → Nat → Nat} {ln p f fm : Nat} {sm : Int32} {E : Nat → (Nat → Int32) → Int32} (q : Nat) : lfR N h ln p f fm sm E q ≤ ln := by
  unfold lfR
  split
  · exact Nat.le_refl _
  · exact fa_first_le _ _
theorem lf_ka {N : JI} {h : Nat → Nat → Nat} {ln p f fm : Nat} {sm : Int32} {E : Nat → (Nat → Int32) → Int32} {q : Nat} (hlt : lfR N h ln p f fm sm E q < ln) : kaR N sm (lfR N h ln p f fm sm E q) = true := by
  unfold lfR at hlt ⊢
  split at hlt
  · omega
  · rename_i e
    rw [if_neg e]
    have := fa_first_yes _ _ hlt
    unfold qyR at this
    unfold kaR
    simp only [Bool.and_eq_true] at this ⊢
    exact ⟨this.1.1.1.1, this.1.1.1.2⟩
theorem rk_lt {N : JI} {sm : Int32} {ln a b : Nat} (hln : ln ≤ 18) (ha : a < ln) (hb : b < ln) (hka : kaR N sm a = true) : (rkR N sm ln b ≤ rkR N sm ln a ↔ b ≤ a) := by
  unfold rkR
  rw [if_pos ha, if_pos hb]
  have l1 := fb_ct_le (kaR N sm) a
  have l2 := fb_ct_le (kaR N sm) b
  rw [nI_leI (by omega) (by omega)]
  constructor
  · intro h
    apply Classical.byContradiction
    intro hn
    have h1 := fb_ct_mono (kaR N sm) (show a + 1 ≤ b by omega)
    rw [fb_ct_succ, hka] at h1
    simp at h1
    omega
  · intro h
    exact fb_ct_mono _ h
theorem rk_neg {N : JI} {sm : Int32} {ln a : Nat} (hln : ln ≤ 18) : rkR N sm ln a < 0 ↔ ¬ a < ln := by
  unfold rkR
  by_cases ha : a < ln
  · rw [if_pos ha]
    have l1 := fb_ct_le (kaR N sm) a
    have := nI_pos (n := fb_ct (kaR N sm) a) (by omega)
    simp [ha, this]
  · rw [if_neg ha]
    simp [ha]; decide
theorem cf_eq {N0 : JI} {h : Nat → Nat → Nat} {ln p f g fm : Nat} {sm : Int32} {E : Nat → (Nat → Int32) → Int32} (B : RB N0 h ln p f g fm sm E) {q : Nat} (hq : q < 16) {N : JI} (hN : rSame N0 N) : fX12_comesFirst (nI q) (rkR N0 sm ln (lfR N0 h ln p f fm sm E q)) (rkR N0 sm ln (lfR N0 h ln p f fm sm E g)) N = some (bI (!decide (q = g) && decide (lfR N0 h ln p f fm sm E q < lfR N0 h ln p f fm sm E g))) := by
  have hln := B.2.1.2.2.2.1
  have hg := B.2.1.2.2.1
  have b4 := B.2.2.1.2.2.2.1
  unfold fX12_comesFirst
  rw [hN.2.1 48 (by omega), b4]
  by_cases e : q = g
  · subst e
    rw [if_pos rfl]; simp; rfl
  · rw [if_neg (fun h => e ((nI_eq (by omega) (by omega)).mp h))]
    have lq := lf_le (N := N0) (h := h) (ln := ln) (p := p) (f := f) (fm := fm) (sm := sm) (E := E) q
    have lg := lf_le (N := N0) (h := h) (ln := ln) (p := p) (f := f) (fm := fm) (sm := sm) (E := E) g
    generalize hA : lfR N0 h ln p f fm sm E q = A at *
    generalize hC : lfR N0 h ln p f fm sm E g = C at *
    by_cases cq : A < ln
    · rw [if_neg (fun hn => (rk_neg hln).mp hn cq)]
      by_cases cg : C < ln
      · rw [if_neg (fun hn => (rk_neg hln).mp hn cg)]
        have hka : kaR N0 sm A = true := by
          rw [← hA] at cq ⊢
          exact lf_ka cq
        have hrk := rk_lt (N := N0) (sm := sm) hln cq cg hka
        by_cases cl : C ≤ A
        · rw [if_pos (hrk.mpr cl)]
          have : ¬ A < C := by omega
          simp [this]; rfl
        · rw [if_neg (fun hh => cl (hrk.mp hh))]
          have : A < C := by omega
          simp [this, e]; rfl
      · rw [if_pos ((rk_neg hln).mpr cg)]
        have : A < C := by omega
        simp [this, e]; rfl
    · rw [if_pos ((rk_neg hln).mpr cq)]
      have : ¬ A < C := by omega
      simp [this]; rfl
def cmR (N : JI) (h : Nat → Nat → Nat) (ln p f g fm : Nat) (sm : Int32) (E : Nat → (Nat → Int32) → Int32) (q : Nat) : Bool := !frR N h ln p f g sm E && (!decide (q = g) && decide (lfR N h ln p f fm sm E q < lfR N h ln p f fm sm E g))
theorem cm_loop {N0 : JI} {h : Nat → Nat → Nat} {ln p f g fm : Nat} {sm : Int32} {E : Nat → (Nat → Int32) → Int32} (B : RB N0 h ln p f g fm sm E) : ∀ d k, k + d = 16 → ∀ n, d < n → ∀ N, rSame N0 N → ∀ acc : Int32, (∀ i, bt acc i = (decide (i < k) && (!decide (i = g) && decide (lfR N0 h ln p f fm sm E i < lfR N0 h ln p f fm sm E g)))) → ∃ x N', fX12_comers_22 n (rkR N0 sm ln (lfR N0 h ln p f fm sm E g)) acc (nI k) N = some (x, N') ∧ rSame N0 N' ∧ ∀ i, bt x i = (decide (i < 16) && (!decide (i = g) && decide (lfR N0 h ln p f fm sm E i < lfR N0 h ln p f fm sm E g))) := by
  intro d
  induction d with
  | zero =>
    intro k hk n hn N hN acc ha
    obtain ⟨n', rfl⟩ := suc_of hn
    have : k = 16 := by omega
    subst this
    exact ⟨acc, N, by rw [fX12_comers_22, if_pos (by decide)], hN, ha⟩
  | succ d ih =>
    intro k hk n hn N hN acc ha
    obtain ⟨n', rfl⟩ := suc_of hn
    have e1 : nI k + (1 : Int32) = nI (k + 1) := nI_1 k
    obtain ⟨N', r1, r2, -⟩ := rk_eq B (q := k) (by omega) hN
    rw [fX12_comers_22, if_neg (show ¬ (16 : Int32) ≤ nI k from nI_ge (b := 16) (by omega) (by omega)), r1, Option.bind_some, cf_eq B (by omega) r2, Option.bind_some, e1]
    by_cases c : (!decide (k = g) && decide (lfR N0 h ln p f fm sm E k < lfR N0 h ln p f fm sm E g)) = true
    · rw [c, if_neg (by decide)]
      refine ih (k + 1) (by omega) n' (by omega) N' r2 _ (fun i => ?_)
      rw [li_1, li_31, bt_set _ (by omega), ha i]
      by_cases e : i = k
      · subst e; rw [c]; simp
      · have : decide (i < k + 1) = decide (i < k) := by congr 1; apply propext; omega
        rw [this]; simp [e]
    · have c0 : (!decide (k = g) && decide (lfR N0 h ln p f fm sm E k < lfR N0 h ln p f fm sm E g)) = false := by simpa using c
      rw [c0, if_pos (by decide)]
      refine ih (k + 1) (by omega) n' (by omega) N' r2 _ (fun i => ?_)
      have : (acc ||| (0 : Int32)) = acc := b_ext (fun i _ => by rw [b_or, b_0]; simp)
      rw [this, ha i]
      by_cases e : i = k
      · subst e; rw [c0]; simp
      · have : decide (i < k + 1) = decide (i < k) := by congr 1; apply propext; omega
        rw [this]
theorem cmr_eq {N0 : JI} {h : Nat → Nat → Nat} {ln p f g fm : Nat} {sm : Int32} {E : Nat → (Nat → Int32) → Int32} (B : RB N0 h ln p f g fm sm E) {N : JI} (hN : rSame N0 N) : ∃ x N', fX12_comers N = some (x, N') ∧ rSame N0 N' ∧ ∀ i, bt x i = (decide (i < 16) && cmR N0 h ln p f g fm sm E i) := by
  have hg := B.2.1.2.2.1
  have b4 := B.2.2.1.2.2.2.1
  obtain ⟨N1, f1, f2⟩ := fr_eq B hN
  unfold fX12_comers
  rw [f1, Option.bind_some]
  by_cases c : frR N0 h ln p f g sm E = true
  · refine ⟨0, N1, by rw [c, if_neg (show ¬ bI true = 0 by decide)], f2, fun i => ?_⟩
    unfold cmR
    rw [c]
    have : bt 0 i = false := b_0 i
    rw [this]; simp
  · have c0 : frR N0 h ln p f g sm E = false := by simpa using c
    obtain ⟨N2, r1, r2, -⟩ := rk_eq B (q := g) hg f2
    obtain ⟨x, N3, m1, m2, m3⟩ := cm_loop B 16 0 (by omega) 100000 (by omega) N2 r2 0 (fun i => by
      have : bt 0 i = false := b_0 i
      rw [this]; simp)
    refine ⟨x, N3, ?_, m2, fun i => ?_⟩
    · rw [c0, if_pos (show bI false = 0 by decide)]
      show (fX12_rankOf (N1 66 48) N1).bind (fun q2 => fX12_comers_22 100000 q2.1 (0 : Int32) (0 : Int32) q2.2) = _
      rw [f2.2.1 48 (by omega), b4, r1, Option.bind_some]
      exact m1
    · rw [m3 i]
      unfold cmR
      rw [c0]; rfl
