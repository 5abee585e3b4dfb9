def coG (M0 : JI) (h : Nat → Nat → Nat) (ln p f g fm : Nat) (sm : Int32) (fb : Nat → Int32) (E : Nat → (Nat → Int32) → Int32) (q : Nat) : Bool := !frG M0 h ln p f g sm fb E && (!decide (q = g) && decide (lfG M0 h ln p f fm sm fb E q < lfG M0 h ln p f fm sm fb E g))
theorem opn_iff {M0 : JI} {h : Nat → Nat → Nat} {ln p f g fm : Nat} {fb : Nat → Int32} {E : Nat → (Nat → Int32) → Int32} {l3 W : Int32} {s : Nat} (hfg : f ≠ g) (hW : ∀ q, q < 16 → (bt W q = true ↔ bt l3 q = true ∧ q ≠ g ∧ q ≠ f)) : (∃ i, 0 ≤ i ∧ i < ln ∧ hwG M0 h p f fm fb E W s i ∧ qyG M0 h p f fm (nI s) fb E g i = false ∧ ∀ j, 0 ≤ j → j < i → qyG M0 h p f fm (nI s) fb E g j = false ∧ ¬ hwG M0 h p f fm fb E W s j) ↔ ∃ q, q < 16 ∧ bt l3 q = true ∧ q ≠ g ∧ lfG M0 h ln p f fm (nI s) fb E q < lfG M0 h ln p f fm (nI s) fb E g := by
  have eg : lfG M0 h ln p f fm (nI s) fb E g = fa_first (qyG M0 h p f fm (nI s) fb E g) ln := if_neg (fun e => hfg e.symm)
  rw [eg]
  have hgl := fa_first_le (qyG M0 h p f fm (nI s) fb E g) ln
  constructor
  · rintro ⟨i, -, hi, ⟨q, a1, a2, a3⟩, hg0, hj⟩
    obtain ⟨b1, b2, b3⟩ := (hW q a1).mp a2
    refine ⟨q, a1, b1, b2, ?_⟩
    have e1 : lfG M0 h ln p f fm (nI s) fb E q = i := by
      unfold lfG
      rw [if_neg b3]
      refine ff_is (fun j hji => ?_) a3 hi
      cases e : qyG M0 h p f fm (nI s) fb E q j with
      | false => rfl
      | true => exact absurd ⟨q, a1, a2, e⟩ (hj j (by omega) hji).2
    rw [e1]
    apply Classical.byContradiction
    intro hn
    have hy := fa_first_yes (qyG M0 h p f fm (nI s) fb E g) ln (by omega)
    by_cases e : fa_first (qyG M0 h p f fm (nI s) fb E g) ln = i
    · rw [e, hg0] at hy; exact absurd hy (by simp)
    · rw [(hj _ (by omega) (by omega)).1] at hy; exact absurd hy (by simp)
  · rintro ⟨q, a1, a2, a3, a4⟩
    have qf : q ≠ f := by
      intro e
      unfold lfG at a4
      rw [if_pos e] at a4
      omega
    have eq' : lfG M0 h ln p f fm (nI s) fb E q = fa_first (qyG M0 h p f fm (nI s) fb E q) ln := if_neg qf
    rw [eq'] at a4
    have hwq : hwG M0 h p f fm fb E W s (fa_first (qyG M0 h p f fm (nI s) fb E q) ln) := ⟨q, a1, (hW q a1).mpr ⟨a2, a3, qf⟩, fa_first_yes _ _ (by omega)⟩
    have least : ∀ m, hwG M0 h p f fm fb E W s m → ∃ i, i ≤ m ∧ hwG M0 h p f fm fb E W s i ∧ ∀ j, j < i → ¬ hwG M0 h p f fm fb E W s j := by
      intro m
      induction m using Nat.strongRecOn with
      | _ m ih =>
        intro hm
        by_cases e : ∃ j, j < m ∧ hwG M0 h p f fm fb E W s j
        · obtain ⟨j, j1, j2⟩ := e
          obtain ⟨i, i1, i2, i3⟩ := ih j j1 j2
          exact ⟨i, by omega, i2, i3⟩
        · exact ⟨m, Nat.le_refl _, hm, fun j hj hh => e ⟨j, hj, hh⟩⟩
    obtain ⟨i, i1, i2, i3⟩ := least _ hwq
    exact ⟨i, by omega, by omega, i2, fa_first_no _ ln i (by omega), fun j _ hj => ⟨fa_first_no _ ln j (by omega), i3 j hj⟩⟩
theorem os_eq {M0 : JI} {D : JG} {S : JS} {X t dq : Nat} {h : Nat → Nat → Nat} {ln p f g fm : Nat} {fb : Nat → Int32} {E : Nat → (Nat → Int32) → Int32} (B : CB M0 D S X t dq h ln p f g fm fb E) {L : JL} {l1 : Int64} {l3 : Int32} (hL : LSets X M0 L ln) {M : JI} (hM : jSame M0 M) : ∃ r M', fX3_openSets l1 l3 M L D S = some (r, M') ∧ cSame M M' ∧ ∀ s, s < 64 → (bL r s = true ↔ bL l1 s = true ∧ ¬ ∃ q, q < 16 ∧ bt l3 q = true ∧ coG M0 h ln p f g fm (nI s) fb E q = true) := by
  have B0 := B
  obtain ⟨⟨d1, d2, d3, s1, s2, s3⟩, ⟨hX, ht, hdq⟩, ⟨q0, q1, q2, q4⟩, ⟨hp, hf, hg, hfm, hln, hne⟩, -, -, -, -, -, -, -⟩ := B
  unfold fX3_openSets
  rw [d3, jo_s, jg_d s3, jo_s, jg_d s3, hM.1 dq (by omega) (by omega) (by omega) (by omega), q2, q1]
  obtain ⟨u, M1, a1, a2, a3⟩ := os1_loop B0 (l1 := l1) (W := (l3 &&& (((1 : Int32) <<< (nI g &&& 31)) ^^^ (-1 : Int32))) &&& (((1 : Int32) <<< (nI f &&& 31)) ^^^ (-1 : Int32))) hL ln 0 (by omega) 100000 (by omega) M 0 l1 hM
  rw [show (0 : Int32) = nI 0 from rfl, a1]
  unfold fX3_openSets_183
  obtain ⟨w, M2, b1, b2, b3⟩ := os2_loop B0 (l1 := l1) hL ln 0 (by omega) 100000 (by omega) M1 u (jSame_c hM a2)
  refine ⟨l1 &&& (w ^^^ (-1 : Int64)), M2, b1, cSame_tr a2 b2, fun s hs => ?_⟩
  rw [bL_and, bL_not _ hs, Bool.and_eq_true, Bool.not_eq_true']
  have hfr : frG M0 h ln p f g (nI s) fb E = false ↔ ∀ i, 0 ≤ i → i < ln → rfG M0 h p f g fb E s i = false := by
    unfold frG
    rw [decide_eq_false_iff_not]
    constructor
    · intro hn i _ hi
      exact fa_first_no (fun i => !kdR M0 i && acR M0 (nI s) i && cnG M0 h p f fb E i g) ln i (by omega)
    · intro hn hlt
      have := fa_first_yes (fun i => !kdR M0 i && acR M0 (nI s) i && cnG M0 h p f fb E i g) ln hlt
      have h2 := hn _ (Nat.zero_le _) hlt
      unfold rfG at h2
      exact absurd (h2.symm.trans this) (by simp)
  have hW : ∀ q, q < 16 → (bt ((l3 &&& (((1 : Int32) <<< (nI g &&& 31)) ^^^ (-1 : Int32))) &&& (((1 : Int32) <<< (nI f &&& 31)) ^^^ (-1 : Int32))) q = true ↔ bt l3 q = true ∧ q ≠ g ∧ q ≠ f) := by
    intro q hq
    rw [show bt ((l3 &&& (((1 : Int32) <<< (nI g &&& 31)) ^^^ (-1 : Int32))) &&& (((1 : Int32) <<< (nI f &&& 31)) ^^^ (-1 : Int32))) q = (bt (l3 &&& (((1 : Int32) <<< (nI g &&& 31)) ^^^ (-1 : Int32))) q && !decide (q = f)) from bt_clr _ (by omega) q, show bt (l3 &&& (((1 : Int32) <<< (nI g &&& 31)) ^^^ (-1 : Int32))) q = (bt l3 q && !decide (q = g)) from bt_clr _ (by omega) q]
    simp [and_assoc]
  have h1 := opn_iff (M0 := M0) (h := h) (ln := ln) (p := p) (fm := fm) (fb := fb) (E := E) (s := s) hne hW
  have h2 := a3 s hs
  rw [bL_zero, h1] at h2
  have h3 := b3 s hs
  rw [h2, ← hfr] at h3
  constructor
  · rintro ⟨c1, c2⟩
    refine ⟨c1, ?_⟩
    rintro ⟨q, e1, e2, e3⟩
    unfold coG at e3
    simp only [Bool.and_eq_true, Bool.not_eq_true', decide_eq_true_eq, decide_eq_false_iff_not] at e3
    have := h3.mpr ⟨Or.inr ⟨c1, q, e1, e2, e3.2.1, e3.2.2⟩, e3.1⟩
    rw [c2] at this
    exact absurd this (by simp)
  · rintro ⟨c1, c2⟩
    refine ⟨c1, ?_⟩
    cases e : bL w s with
    | false => rfl
    | true =>
      obtain ⟨e1, e2⟩ := h3.mp e
      rcases e1 with e1 | ⟨-, q, x1, x2, x3, x4⟩
      · exact absurd e1 (by simp)
      · exact absurd ⟨q, x1, x2, by unfold coG; rw [e2]; simp [x3, x4]⟩ c2
