def jSame (M0 M : JI) : Prop := (∀ a, a ≠ 15 → a ≠ 16 → a ≠ 17 → a ≠ 19 → M a = M0 a) ∧ ∀ k, (k < 9 ∨ 12 < k) → M 16 k = M0 16 k
theorem jSame_rfl (M : JI) : jSame M M := ⟨fun _ _ _ _ _ => rfl, fun _ _ => rfl⟩
theorem jSame_c {M0 M M' : JI} (h : jSame M0 M) (h' : cSame M M') : jSame M0 M' := ⟨fun a h1 h2 h3 h4 => (h'.1 a h2 h3).trans (h.1 a h1 h2 h3 h4), fun k h1 => (h'.2 k h1).trans (h.2 k h1)⟩
theorem jSame_up {M0 M : JI} (h : jSame M0 M) {a k : Nat} {v : Int32} (ha : a = 15 ∨ a = 19) : jSame M0 (j_up M a k v) := ⟨fun b h1 h2 h3 h4 => by rw [ju_row _ _ (by omega), h.1 b h1 h2 h3 h4], fun j h1 => by rw [ju_row _ _ (by omega), h.2 j h1]⟩
theorem CB_same {M0 : JI} {D : JG} {S : JS} {X t dq : Nat} {h : Nat → Nat → Nat} {ln p f g fm : Nat} {fb : Nat → Int32} {E : Nat → (Nat → Int32) → Int32} (B : CB M0 D S X t dq h ln p f g fm fb E) {M : JI} (hM : jSame M0 M) : CB M D S X t dq h ln p f g fm fb E := by
  obtain ⟨b1, ⟨hX, ht, hdq⟩, b3, b4, b5, b6, b7, b8, b9, b10, b11⟩ := B
  have e := hM.1
  have eff : lwFf M = lwFf M0 := by
    funext i; unfold lwFf lwMb; rw [e 75 (by omega) (by omega) (by omega) (by omega), e 76 (by omega) (by omega) (by omega) (by omega)]
  refine ⟨b1, ⟨hX, ht, hdq⟩, ?_, b4, ?_, ?_, ?_, fun k hk => ?_, ?_, ?_, fun i hi => ?_⟩
  · rw [e dq (by omega) (by omega) (by omega) (by omega)]; exact b3
  · rw [e (t + 1) (by omega) (by omega) (by omega) (by omega), e (t + 2) (by omega) (by omega) (by omega) (by omega), e (t + 3) (by omega) (by omega) (by omega) (by omega), e (t + 4) (by omega) (by omega) (by omega) (by omega)]; exact b5
  · rw [e 1 (by omega) (by omega) (by omega) (by omega), e 72 (by omega) (by omega) (by omega) (by omega)]; exact b6
  · rw [e 5 (by omega) (by omega) (by omega) (by omega), e 6 (by omega) (by omega) (by omega) (by omega), e 71 (by omega) (by omega) (by omega) (by omega)]; exact b7
  · rw [hM.2 k (by omega)]; exact b8 k hk
  · rw [e 18 (by omega) (by omega) (by omega) (by omega), e 69 (by omega) (by omega) (by omega) (by omega), e 70 (by omega) (by omega) (by omega) (by omega), e 71 (by omega) (by omega) (by omega) (by omega)]; exact b9
  · rw [e X (by omega) (by omega) (by omega) (by omega)]; exact b10
  · have hh := b11 i hi
    unfold kdR cE at hh ⊢
    rw [eff, e 75 (by omega) (by omega) (by omega) (by omega), e 76 (by omega) (by omega) (by omega) (by omega), e 77 (by omega) (by omega) (by omega) (by omega), e 78 (by omega) (by omega) (by omega) (by omega), e 80 (by omega) (by omega) (by omega) (by omega), e (X + 1) (by omega) (by omega) (by omega) (by omega), e (X + 3) (by omega) (by omega) (by omega) (by omega), e (X + 4) (by omega) (by omega) (by omega) (by omega), e (X + 5) (by omega) (by omega) (by omega) (by omega), e (X + 7) (by omega) (by omega) (by omega) (by omega), e (X + 8) (by omega) (by omega) (by omega) (by omega), e (X + 9) (by omega) (by omega) (by omega) (by omega), e (X + 10) (by omega) (by omega) (by omega) (by omega)]
    exact hh
theorem cnG_rows {M0 M : JI} {h : Nat → Nat → Nat} {p f : Nat} {fb : Nat → Int32} {E : Nat → (Nat → Int32) → Int32} (e71 : M 71 = M0 71) (e72 : M 72 = M0 72) (e80 : M 80 = M0 80) : cnG M h p f fb E = cnG M0 h p f fb E := by
  funext i q
  have : fcG M h p f fb q = fcG M0 h p f fb q := by funext k; unfold fcG; rw [e71, e72]
  unfold cnG
  rw [this, e80]
theorem ho2_eq {M0 : JI} {D : JG} {S : JS} {X t dq : Nat} {h : Nat → Nat → Nat} {ln p f g fm : Nat} {fb : Nat → Int32} {E : Nat → (Nat → Int32) → Int32} (B : CB M0 D S X t dq h ln p f g fm fb E) {i : Nat} (hi : i < ln) {P : Int32} (hP : ∀ j, 16 ≤ j → bt P j = false) {M : JI} (hM : jSame M0 M) : ∃ z M', fX3_holdsForOne (nI i) P M D S = some (bI z, M') ∧ cSame M M' ∧ (z = true ↔ ∃ q, q < 16 ∧ bt P q = true ∧ cnG M0 h p f fb E i q = true) := by
  have := ho1_eq (CB_same B hM) hi hP (cSame_rfl M)
  rw [cnG_rows (hM.1 71 (by omega) (by omega) (by omega) (by omega)) (hM.1 72 (by omega) (by omega) (by omega) (by omega)) (hM.1 80 (by omega) (by omega) (by omega) (by omega))] at this
  exact this
theorem bit_hi {q : Nat} (hq : q < 16) : ∀ j, 16 ≤ j → bt (nI 1 <<< (nI q &&& nI 31)) j = false := by
  intro j hj
  have h : bt (nI 1 <<< (nI q &&& nI 31)) j = decide (j = q) := bt_sh1 q (by omega) j
  rw [h]; simp; omega
theorem bit_one {q : Nat} (hq : q < 16) (j : Nat) : bt (nI 1 <<< (nI q &&& nI 31)) j = decide (j = q) := bt_sh1 q (by omega) j
theorem fon_eq {M : JI} {X i fm : Nat} {k : Bool} (hi : i < 18) (hfm : fm < 3) (h1 : jm_b01 (M (X + 1) i) = bI k) : fX4_isFirstOn X (nI i) (nI fm) M = some (bI (k && bt (M (X + 5) i) fm)) := by
  unfold fX4_isFirstOn
  rw [jg_in hi (by decide), jg_in hi (by decide), nI_clamp (by omega), h1, li_31, li_1, bt_val _ (by omega)]
  cases k with
  | false => rfl
  | true =>
    rw [if_neg (by decide)]
    cases bt (M (X + 5) i) fm <;> rfl
theorem ac0 (M : JI) (i : Nat) : acR M (nI 0) i = !lwMb M i := by
  unfold acR
  rw [bt_zero]; simp
theorem lnf_loop {M0 : JI} {D : JG} {S : JS} {X t dq : Nat} {h : Nat → Nat → Nat} {ln p f g fm : Nat} {fb : Nat → Int32} {E : Nat → (Nat → Int32) → Int32} (B : CB M0 D S X t dq h ln p f g fm fb E) {q : Nat} (hq : q < 16) : ∀ d k, k + d = ln → ∀ n, d < n → ∀ M, jSame M0 M → (∀ i, i < k → qyG M0 h p f fm (nI 0) fb E q i = false) → ∃ M', fX3_lineFor_2 n (nI q) (nI k) M D S = some (if fa_first (qyG M0 h p f fm (nI 0) fb E q) ln < ln then nI (fa_first (qyG M0 h p f fm (nI 0) fb E q) ln) else -nI 1, M') ∧ cSame M M' := by
  have B0 := B
  obtain ⟨⟨d1, d2, d3, s1, s2, s3⟩, ⟨hX, ht, hdq⟩, ⟨q0, q1, q2, q4⟩, ⟨hp, hf, hg, hfm, hln, hne⟩, -, -, -, -, b9, b10, hl⟩ := B
  intro d
  induction d with
  | zero =>
    intro k hk n hn M hM hno
    obtain ⟨n', rfl⟩ := suc_of hn
    have : k = ln := by omega
    subst this
    refine ⟨M, ?_, cSame_rfl M⟩
    rw [fX3_lineFor_2, d1, jo_s, jg_d s1, hM.1 X (by omega) (by omega) (by omega) (by omega), b10, if_pos (nI_le (Nat.le_refl _) (by omega)), ff_none hno, if_neg (by omega)]; rfl
  | succ d ih =>
    intro k hk n hn M hM hno
    obtain ⟨n', rfl⟩ := suc_of hn
    have e1 : nI k + (1 : Int32) = nI (k + 1) := nI_1 k
    obtain ⟨l1, l2, l3, l4, l5, l6⟩ := hl k (by omega)
    have l3' : jm_b01 (M (X + 1) k) = bI (kdR M0 k) := by rw [hM.1 (X + 1) (by omega) (by omega) (by omega) (by omega)]; exact l3
    rw [fX3_lineFor_2, d1, jo_s, jg_d s1, hM.1 X (by omega) (by omega) (by omega) (by omega), b10, if_neg (nI_ge (by omega) (by omega)), jo_s, jg_d s1, jg_in (by omega) (by decide), nI_clamp (by omega), hM.1 (X + 3) (by omega) (by omega) (by omega) (by omega), l4, e1, li_1]
    by_cases cff : lwFf M0 k = true
    · have hct := fb_ct_le (lwFf M0) k
      have hkd : kdR M0 k = true := by
        have := cff
        unfold lwFf at this
        simp only [Bool.and_eq_true] at this
        exact this.1
      have hmb : lwMb M0 k = false := by
        have := cff
        unfold lwFf at this
        simp only [Bool.and_eq_true] at this
        simpa using this.2
      have h75 : M0 75 k = nI 0 := by unfold kdR at hkd; simpa using hkd
      obtain ⟨⟨w, hw, w1, w2⟩, w3⟩ := l5 h75
      rw [if_pos cff, if_neg (by rw [nm_ne (by omega)]; simp), jo_s, jg_d s1, d3, jo_s, jg_d s3, hM.1 dq (by omega) (by omega) (by omega) (by omega), q4, fon_eq (by omega) hfm l3', hkd, Option.bind_some, hM.1 (X + 5) (by omega) (by omega) (by omega) (by omega), w3]
      by_cases cf : foR M0 fm k = true
      · have cf' : bt (M0 78 k) fm = true := cf
        rw [cf', if_neg (by decide), jo_s, jg_d s1, jg_in (by omega) (by decide), hM.1 (X + 4) (by omega) (by omega) (by omega) (by omega), w2, jg_in (by omega) (by decide), nI_clamp (by omega), hM.1 18 (by omega) (by omega) (by omega) (by omega)]
        obtain ⟨z, M', z1, z2, z3⟩ := ho2_eq B0 (i := k) (by omega) (P := M0 18 w &&& (nI 1 <<< (nI q &&& nI 31))) (fun j hj => by rw [b_and, bit_hi hq j hj]; simp) hM
        have z1' : fX3_holdsForOne (nI k) (M0 18 w &&& (nI 1 <<< (nI q &&& 31))) M D S = some (bI z, M') := z1
        rw [z1', Option.bind_some]
        have hz : z = qyG M0 h p f fm (nI 0) fb E q k := by
          apply Bool.eq_iff_iff.mpr
          rw [z3]
          unfold qyG
          rw [hkd, ac0, hmb, cf]
          simp only [Bool.not_false, Bool.true_and, Bool.and_eq_true]
          have hw' : wtR M0 h p f k q = bt (M0 18 w) q := by
            unfold wtR
            rw [w1, nI_clamp (by omega), b9 w q hw]; simp [hq]
          rw [hw']
          constructor
          · rintro ⟨q', hq', h1, h2⟩
            rw [b_and, bit_one hq] at h1
            simp only [Bool.and_eq_true, decide_eq_true_eq] at h1
            obtain ⟨h1, rfl⟩ := h1
            exact ⟨h1, h2⟩
          · rintro ⟨h1, h2⟩
            exact ⟨q, hq, by rw [b_and, bit_one hq, h1]; simp, h2⟩
        cases z with
        | true =>
          refine ⟨M', ?_, z2⟩
          rw [if_neg (show ¬ bI true = 0 by decide), ff_is hno hz.symm (by omega), if_pos (by omega)]
        | false =>
          rw [if_pos (show bI false = 0 by decide)]
          obtain ⟨M2, m1, m2⟩ := ih (k + 1) (by omega) n' (by omega) M' (jSame_c hM z2) (ext_false hno hz.symm)
          exact ⟨M2, m1, cSame_tr z2 m2⟩
      · have cf0 : foR M0 fm k = false := by simpa using cf
        have cf' : bt (M0 78 k) fm = false := cf0
        rw [cf', if_pos (by decide)]
        exact ih (k + 1) (by omega) n' (by omega) M hM (ext_false hno (by unfold qyG; rw [cf0]; simp))
    · have cff0 : lwFf M0 k = false := by simpa using cff
      rw [if_neg cff, if_pos rfl]
      refine ih (k + 1) (by omega) n' (by omega) M hM (ext_false hno ?_)
      have h2 : (kdR M0 k && !lwMb M0 k) = false := cff0
      unfold qyG
      rw [ac0, h2]; simp
theorem lnf_eq {M0 : JI} {D : JG} {S : JS} {X t dq : Nat} {h : Nat → Nat → Nat} {ln p f g fm : Nat} {fb : Nat → Int32} {E : Nat → (Nat → Int32) → Int32} (B : CB M0 D S X t dq h ln p f g fm fb E) {q : Nat} (hq : q < 16) {M : JI} (hM : jSame M0 M) : ∃ M', fX3_lineFor (nI q) M D S = some (if fa_first (qyG M0 h p f fm (nI 0) fb E q) ln < ln then nI (fa_first (qyG M0 h p f fm (nI 0) fb E q) ln) else -nI 1, M') ∧ cSame M M' := by
  have hln := B.2.2.2.1.2.2.2.2.1
  exact lnf_loop B hq ln 0 (by omega) 100000 (by omega) M hM (fun i hi => absurd hi (by omega))
def lfG (M : JI) (h : Nat → Nat → Nat) (ln p f fm : Nat) (sm : Int32) (fb : Nat → Int32) (E : Nat → (Nat → Int32) → Int32) (q : Nat) : Nat := if q = f then ln else fa_first (qyG M h p f fm sm fb E q) ln
def frG (M : JI) (h : Nat → Nat → Nat) (ln p f g : Nat) (sm : Int32) (fb : Nat → Int32) (E : Nat → (Nat → Int32) → Int32) : Bool := decide (fa_first (fun i => !kdR M i && acR M sm i && cnG M h p f fb E i g) ln < ln)
def lnV (ln l : Nat) : Int32 := if l < ln then nI l else -nI 1
/-- the comers' bits -/
theorem jc_loop {M0 : JI} {D : JG} {S : JS} {X t dq : Nat} {h : Nat → Nat → Nat} {ln p f g fm : Nat} {fb : Nat → Int32} {E : Nat → (Nat → Int32) → Int32} (B : CB M0 D S X t dq h ln p f g fm fb E) {L : JL} {u1 u2 : Nat} {lf : Nat → Nat} (hlf : ∀ q, lf q ≤ ln) {fr : Bool} {bd : Int32} (hbd : bd = if lf g < ln then nI (lf g) else nI 18) : ∀ d k, k + d = 16 → ∀ n, d < n → ∀ M, jSame M0 M → jm_b01 (M 15 8) = bI fr → (∀ q, q < 16 → M 19 q = lnV ln (lf q)) → (∀ i, bt (M 15 9) i = (decide (i < k) && (!fr && (!decide (i = g) && decide (lf i < lf g))))) → ∃ x, fX3_judgeAll_185 u1 u2 n bd (nI k) M L D S = some (j_up M 15 9 x, D) ∧ ∀ i, bt x i = (decide (i < 16) && (!fr && (!decide (i = g) && decide (lf i < lf g)))) := by
  obtain ⟨⟨d1, d2, d3, s1, s2, s3⟩, ⟨hX, ht, hdq⟩, ⟨q0, q1, q2, q4⟩, ⟨hp, hf, hg, hfm, hln, hne⟩, -, -, -, -, -, -, -⟩ := B
  have hid : ∀ M : JI, j_up M 15 9 (M 15 9) = M := by
    intro M
    funext a k
    by_cases e : a = 15 ∧ k = 9
    · rw [e.1, e.2, ju_same]
    · rw [j_up_ne _ _ e]
  intro d
  induction d with
  | zero =>
    intro k hk n hn M hM h8 h19 ha
    obtain ⟨n', rfl⟩ := suc_of hn
    have : k = 16 := by omega
    subst this
    refine ⟨M 15 9, ?_, ha⟩
    rw [fX3_judgeAll_185, if_pos (by decide), hid]
  | succ d ih =>
    intro k hk n hn M hM h8 h19 ha
    obtain ⟨n', rfl⟩ := suc_of hn
    have e1 : nI k + (1 : Int32) = nI (k + 1) := nI_1 k
    rw [fX3_judgeAll_185, if_neg (show ¬ (16 : Int32) ≤ nI k from nI_ge (b := 16) (by omega) (by omega)), h8, e1]
    have next : (!fr && (!decide (k = g) && decide (lf k < lf g))) = false → ∃ x, fX3_judgeAll_185 u1 u2 n' bd (nI (k + 1)) M L D S = some (j_up M 15 9 x, D) ∧ ∀ i, bt x i = (decide (i < 16) && (!fr && (!decide (i = g) && decide (lf i < lf g)))) := by
      intro hf0
      refine ih (k + 1) (by omega) n' (by omega) M hM h8 h19 (fun i => ?_)
      rw [ha i]
      by_cases e : i = k
      · subst e; rw [hf0]; simp
      · have : decide (i < k + 1) = decide (i < k) := by congr 1; apply propext; omega
        rw [this]
    cases fr with
    | true => rw [if_neg (by decide)]; exact next (by simp)
    | false =>
      rw [if_pos (by decide), d3, jo_s, jg_d s3, hM.1 dq (by omega) (by omega) (by omega) (by omega), q2]
      by_cases eg : k = g
      · rw [if_pos (by rw [eg])]
        exact next (by simp [eg])
      · rw [if_neg (fun h => eg ((nI_eq (by omega) (by omega)).mp h)), jg_in (by omega) (by decide), nI_clamp (by omega), h19 k (by omega), jg_in (by omega) (by decide), li_1]
        unfold lnV
        by_cases cl : lf k < ln
        · rw [if_pos cl, if_neg (by rw [nm_ne (by omega)]; simp)]
          have hg1 := hlf g
          have hcmp : bd ≤ nI (lf k) ↔ ¬ lf k < lf g := by
            rw [hbd]
            by_cases cg : lf g < ln
            · rw [if_pos cg, nI_leI (by omega) (by omega)]; omega
            · rw [if_neg cg, nI_leI (by omega) (by omega)]; omega
          by_cases cc : lf k < lf g
          · rw [if_neg (fun h => (hcmp.mp h) cc)]
            obtain ⟨x, x1, x2⟩ := ih (k + 1) (by omega) n' (by omega) (j_up M 15 9 (M 15 9 ||| (nI 1 <<< (nI k &&& nI 31)))) (jSame_up hM (Or.inl rfl)) (by rw [ju_cell _ _ (by omega)]; exact h8) (fun q hq => by rw [ju_row _ _ (by omega)]; exact h19 q hq) (fun i => by
              rw [ju_same, bt_set _ (by omega), ha i]
              by_cases e : i = k
              · subst e; simp [eg, cc]
              · have : decide (i < k + 1) = decide (i < k) := by congr 1; apply propext; omega
                rw [this]; simp [e])
            refine ⟨x, ?_, x2⟩
            refine x1.trans ?_
            congr 2
            funext a j
            by_cases e : a = 15 ∧ j = 9
            · rw [e.1, e.2, ju_same, ju_same]
            · rw [j_up_ne _ _ e, j_up_ne _ _ e, j_up_ne _ _ e]
          · rw [if_pos (hcmp.mpr cc)]
            exact next (by simp [cc])
        · rw [if_neg cl, if_pos rfl]
          have hg1 := hlf g
          exact next (by
            have : ¬ lf k < lf g := by omega
            simp [this])
theorem jl_loop {M0 : JI} {D : JG} {S : JS} {X t dq : Nat} {h : Nat → Nat → Nat} {ln p f g fm : Nat} {fb : Nat → Int32} {E : Nat → (Nat → Int32) → Int32} (B : CB M0 D S X t dq h ln p f g fm fb E) {L : JL} {u1 u2 : Nat} {b8 : Int32} : ∀ d k, k + d = 16 → ∀ n, d < n → ∀ M, jSame M0 M → M 15 8 = b8 → (∀ k, k ≠ 8 → M 15 k = M0 15 k) → (∀ q, q < k → M 19 q = lnV ln (lfG M0 h ln p f fm (nI 0) fb E q)) → ∃ M', fX3_judgeAll_105 u1 u2 n (nI k) M L D S = fX3_judgeAll_143 u1 u2 M' L D S ∧ jSame M0 M' ∧ M' 15 8 = b8 ∧ (∀ k, k ≠ 8 → M' 15 k = M0 15 k) ∧ ∀ q, q < 16 → M' 19 q = lnV ln (lfG M0 h ln p f fm (nI 0) fb E q) := by
  have B0 := B
  obtain ⟨⟨d1, d2, d3, s1, s2, s3⟩, ⟨hX, ht, hdq⟩, ⟨q0, q1, q2, q4⟩, ⟨hp, hf, hg, hfm, hln, hne⟩, -, -, -, -, -, -, -⟩ := B
  intro d
  induction d with
  | zero =>
    intro k hk n hn M hM h8 h15 ha
    obtain ⟨n', rfl⟩ := suc_of hn
    have : k = 16 := by omega
    subst this
    exact ⟨M, by rw [fX3_judgeAll_105, if_pos (by decide)], hM, h8, h15, ha⟩
  | succ d ih =>
    intro k hk n hn M hM h8 h15 ha
    obtain ⟨n', rfl⟩ := suc_of hn
    have e1 : nI k + (1 : Int32) = nI (k + 1) := nI_1 k
    rw [fX3_judgeAll_105, if_neg (show ¬ (16 : Int32) ≤ nI k from nI_ge (b := 16) (by omega) (by omega)), d3, jo_s, jg_d s3, hM.1 dq (by omega) (by omega) (by omega) (by omega), q1, e1]
    by_cases ef : k = f
    · rw [if_pos (by rw [ef]), jg_in (by omega) (by decide), nI_clamp (by omega)]
      refine ih (k + 1) (by omega) n' (by omega) _ (jSame_up hM (Or.inr rfl)) (by rw [ju_row _ _ (by omega)]; exact h8) (fun j hj => by rw [ju_row _ _ (by omega)]; exact h15 j hj) (fun q hq => ?_)
      by_cases e : q = k
      · subst e
        rw [ju_same]; unfold lfG lnV; rw [if_pos ef, if_neg (by omega)]; rfl
      · rw [ju_cell _ _ e]; exact ha q (by omega)
    · rw [if_neg (fun h => ef ((nI_eq (by omega) (by omega)).mp h))]
      obtain ⟨M', m1, m2⟩ := lnf_eq B0 (q := k) (by omega) hM
      rw [m1, Option.bind_some, jg_in (by omega) (by decide), nI_clamp (by omega)]
      refine ih (k + 1) (by omega) n' (by omega) _ (jSame_up (jSame_c hM m2) (Or.inr rfl)) (by rw [ju_row _ _ (by omega)]; show M' 15 8 = b8; rw [m2.1 15 (by omega) (by omega)]; exact h8) (fun j hj => by rw [ju_row _ _ (by omega)]; show M' 15 j = _; rw [m2.1 15 (by omega) (by omega)]; exact h15 j hj) (fun q hq => ?_)
      by_cases e : q = k
      · subst e
        rw [ju_same]; unfold lfG lnV; rw [if_neg ef]
      · rw [ju_cell _ _ e]
        show M' 19 q = _
        rw [m2.1 19 (by omega) (by omega)]
        exact ha q (by omega)
