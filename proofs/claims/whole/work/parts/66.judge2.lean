theorem set_ne : ∀ j, j < 6 → jm_sets j ≠ -1 := by decide +kernel
/-- the lines' facts on the class's side -/
def LWl (X : Nat) (M : JI) (E : Nat → (Nat → Int32) → Int32) (i : Nat) : Prop := (M 75 i = nI 0 ∨ M 75 i = nI 1) ∧ (M 76 i = nI 0 ∨ M 76 i = nI 1) ∧ jm_b01 (M (X + 1) i) = bI (kdR M i) ∧ M (X + 3) i = (if lwFf M i then nI (fb_ct (lwFf M) i) else -nI 1) ∧
    (M 75 i = nI 0 → (∃ w, w < 4 ∧ M 77 i = nI w ∧ M (X + 4) i = nI w) ∧ M (X + 5) i = M 78 i) ∧ ((M 80 i = nI 0 ∧ M (X + 7) i = M (X + 8) i) ∨ (M 80 i = nI 1 ∧ M (X + 7) i ≠ M (X + 8) i ∧ cE X M i (E i)))
def LSets (X : Nat) (M : JI) (L : JL) (ln : Nat) : Prop := (∀ i, i < ln → L (X + 2) i = (if lwMb M i then jm_sets (fb_ct (lwMb M) i) else -1)) ∧ fb_ct (lwMb M) ln ≤ 6
theorem mb_lt {M : JI} {ln i : Nat} (h : fb_ct (lwMb M) ln ≤ 6) (hi : i < ln) (hm : lwMb M i = true) : fb_ct (lwMb M) i < 6 := by
  have h1 := fb_ct_mono (lwMb M) (show i + 1 ≤ ln by omega)
  rw [fb_ct_succ, hm] at h1
  simp at h1
  omega
theorem jf_loop {M0 : JI} {D : JG} {S : JS} {X t dq : Nat} {h : Nat → Nat → Nat} {ln p f g fm : Nat} {fb : Nat → Int32} {E : Nat → (Nat → Int32) → Int32} (B : CB M0 D S X t dq h ln p f g fm fb E) {L : JL} {u1 u2 : Nat} (hL : LSets X M0 L ln) : ∀ d k, k + d = ln → ∀ n, d < n → ∀ M (z : Bool), jSame M0 M → M 15 8 = bI z → (∀ k, k ≠ 8 → M 15 k = M0 15 k) → (z = true ↔ ∃ i, i < k ∧ (!kdR M0 i && acR M0 (nI 0) i && cnG M0 h p f fb E i g) = true) → ∃ M', fX3_judgeAll_25 u1 u2 n (nI k) M L D S = fX3_judgeAll_103 u1 u2 M' L D S ∧ jSame M0 M' ∧ M' 15 8 = bI (frG M0 h ln p f g (nI 0) fb E) ∧ ∀ k, k ≠ 8 → M' 15 k = M0 15 k := by
  have B0 := B
  obtain ⟨⟨d1, d2, d3, s1, s2, s3⟩, ⟨hX, ht, hdq⟩, ⟨q0, q1, q2, q4⟩, ⟨hp, hf, hg, hfm, hln, hne⟩, -, -, -, -, -, b10, hl⟩ := B
  intro d
  induction d with
  | zero =>
    intro k hk n hn M z hM h8 h15 hz
    obtain ⟨n', rfl⟩ := suc_of hn
    have : k = ln := by omega
    subst this
    refine ⟨M, ?_, hM, ?_, h15⟩
    · rw [fX3_judgeAll_25, d1, jo_s, jg_d s1, hM.1 X (by omega) (by omega) (by omega) (by omega), b10, if_pos (nI_le (Nat.le_refl _) (by omega))]
    · rw [h8]
      congr 1
      apply Bool.eq_iff_iff.mpr
      rw [hz]
      unfold frG
      rw [decide_eq_true_eq]
      constructor
      · rintro ⟨i, hi, hP⟩
        apply Classical.byContradiction
        intro hn
        have := fa_first_no (fun i => !kdR M0 i && acR M0 (nI 0) i && cnG M0 h p f fb E i g) k i (by have := fa_first_le (fun i => !kdR M0 i && acR M0 (nI 0) i && cnG M0 h p f fb E i g) k; omega)
        rw [hP] at this
        exact absurd this (by simp)
      · intro hlt
        exact ⟨_, hlt, fa_first_yes _ _ hlt⟩
  | succ d ih =>
    intro k hk n hn M z hM h8 h15 hz
    obtain ⟨n', rfl⟩ := suc_of hn
    have e1 : nI k + (1 : Int32) = nI (k + 1) := nI_1 k
    obtain ⟨l1, l2, l3, l4, l5, l6⟩ := hl k (by omega)
    have keep : (!kdR M0 k && acR M0 (nI 0) k && cnG M0 h p f fb E k g) = false → ∃ M', fX3_judgeAll_25 u1 u2 n' (nI (k + 1)) M L D S = fX3_judgeAll_103 u1 u2 M' L D S ∧ jSame M0 M' ∧ M' 15 8 = bI (frG M0 h ln p f g (nI 0) fb E) ∧ ∀ k, k ≠ 8 → M' 15 k = M0 15 k := by
      intro hf0
      refine ih (k + 1) (by omega) n' (by omega) M z hM h8 h15 ?_
      rw [hz]
      constructor
      · rintro ⟨i, hi, h⟩; exact ⟨i, by omega, h⟩
      · rintro ⟨i, hi, h⟩
        by_cases e : i = k
        · subst e; rw [hf0] at h; exact absurd h (by simp)
        · exact ⟨i, by omega, h⟩
    rw [fX3_judgeAll_25, d1, jo_s, jg_d s1, hM.1 X (by omega) (by omega) (by omega) (by omega), b10, if_neg (nI_ge (by omega) (by omega)), jo_s, jg_d s1, jg_in (by omega) (by decide), nI_clamp (by omega), hM.1 (X + 1) (by omega) (by omega) (by omega) (by omega), l3, e1]
    by_cases ck : kdR M0 k = true
    · rw [ck, if_neg (by decide)]
      exact keep (by rw [ck]; rfl)
    · have ck0 : kdR M0 k = false := by simpa using ck
      rw [ck0, if_pos (by decide), jo_s, jg_d s1, jg_in (by omega) (by decide), hL.1 k (by omega)]
      by_cases cm : lwMb M0 k = true
      · rw [if_pos cm, if_neg (fun h => set_ne _ (mb_lt hL.2 (by omega) cm) ((lg_cmp_eq _ _).mp h))]
        exact keep (by rw [ac0, cm]; simp)
      · have cm0 : lwMb M0 k = false := by simpa using cm
        rw [if_neg cm, if_pos ((lg_cmp_eq _ _).mpr rfl), h8, bI_b01]
        cases z with
        | true =>
          rw [if_neg (by decide)]
          refine ih (k + 1) (by omega) n' (by omega) _ true (jSame_up hM (Or.inl rfl)) (by rw [ju_same]; rfl) (fun j hj => by rw [ju_cell _ _ hj]; exact h15 j hj) ⟨fun _ => ?_, fun _ => rfl⟩
          obtain ⟨i, hi, h⟩ := hz.mp rfl
          exact ⟨i, by omega, h⟩
        | false =>
          rw [if_pos (by decide), d3, jo_s, jg_d s3, hM.1 dq (by omega) (by omega) (by omega) (by omega), q2]
          obtain ⟨y, M', y1, y2, y3⟩ := ho2_eq B0 (i := k) (by omega) (P := nI 1 <<< (nI g &&& nI 31)) (bit_hi hg) hM
          have y1' : fX3_holdsForOne (nI k) ((1 : Int32) <<< (nI g &&& 31)) M D S = some (bI y, M') := y1
          rw [y1', Option.bind_some]
          have hy : y = cnG M0 h p f fb E k g := by
            apply Bool.eq_iff_iff.mpr
            rw [y3]
            constructor
            · rintro ⟨q', hq', h1, h2⟩
              rw [bit_one hg] at h1
              have : q' = g := by simpa using h1
              subst this; exact h2
            · intro h2
              exact ⟨g, hg, by rw [bit_one hg]; simp, h2⟩
          have hj' := jSame_c hM y2
          have go : ∀ v : Int32, v = bI y → ∃ M'', fX3_judgeAll_25 u1 u2 n' (nI (k + 1)) (j_up M' 15 8 v) L D S = fX3_judgeAll_103 u1 u2 M'' L D S ∧ jSame M0 M'' ∧ M'' 15 8 = bI (frG M0 h ln p f g (nI 0) fb E) ∧ ∀ k, k ≠ 8 → M'' 15 k = M0 15 k := by
            intro v hv
            refine ih (k + 1) (by omega) n' (by omega) _ y (jSame_up hj' (Or.inl rfl)) (by rw [ju_same, hv]) (fun j hj => by rw [ju_cell _ _ hj, y2.1 15 (by omega) (by omega)]; exact h15 j hj) ?_
            constructor
            · intro hyt
              exact ⟨k, by omega, by rw [ck0, ac0, cm0, ← hy, hyt]; rfl⟩
            · rintro ⟨i, hi, h⟩
              by_cases e : i = k
              · subst e
                rw [ck0, ac0, cm0, ← hy] at h
                simpa using h
              · have := hz.mpr ⟨i, by omega, h⟩
                exact absurd this (by simp)
          cases y with
          | true => rw [if_neg (show ¬ bI true = 0 by decide)]; exact go _ rfl
          | false => rw [if_pos (show bI false = 0 by decide)]; exact go _ rfl
/-- the whole judgment by the law in force -/
theorem ja_eq {M : JI} {L : JL} {D : JG} {S : JS} {X t dq : Nat} {h : Nat → Nat → Nat} {ln p f g fm : Nat} {E : Nat → (Nat → Int32) → Int32} (hA : CBa X t dq) (d5 : D 15 5 = some X) (s1 : S[X]? = some (4, 17)) (s2 : S[t]? = some (1, 4)) (s3 : S[dq]? = some (0, 7)) (q0 : M dq 0 = nI p) (q1 : M dq 1 = nI f) (q2 : M dq 2 = nI g) (q4 : M dq 4 = nI fm) (hp : p < 12) (hf : f < 16) (hg : g < 16) (hfm : fm < 3) (hln : ln ≤ 18) (hne : f ≠ g)
    (h3 : vHd (M (t + 1)) (M (t + 2)) (M (t + 3)) (M (t + 4)) h) (hb : ∀ p q, p < 12 → q < 16 → h p q ≤ 12) (h4 : vSide (M 2) (M 3) (M 69)) (h5 : vWet (M 4) (M 70)) (h6 : vDeg (M 5) (M 6) (M 71)) (h7 : vBits (M 1 6) (M 72)) (hX11 : M X 11 = nI ln) (hl : ∀ i, i < ln → LWl X M E i) (hL : LSets X M L ln) :
    ∃ M', fX3_judgeAll t dq M L D S = some (M', j_up (j_up D 15 6 (some t)) 15 7 (some dq)) ∧ (∀ a, a < 15 ∨ 19 < a → M' a = M a) ∧ (∀ k, k ≠ 8 → k ≠ 9 → M' 15 k = M 15 k) ∧ jm_b01 (M' 15 8) = bI (frG M h ln p f g (nI 0) (fbS h p f g fm (M dq 3) (M dq 5) (M dq 6) (M 1 8)) E) ∧
      (∀ q, q < 16 → M' 19 q = lnV ln (lfG M h ln p f fm (nI 0) (fbS h p f g fm (M dq 3) (M dq 5) (M dq 6) (M 1 8)) E q)) ∧
      ∀ i, bt (M' 15 9) i = (decide (i < 16) && (!frG M h ln p f g (nI 0) (fbS h p f g fm (M dq 3) (M dq 5) (M dq 6) (M 1 8)) E && (!decide (i = g) && decide (lfG M h ln p f fm (nI 0) (fbS h p f g fm (M dq 3) (M dq 5) (M dq 6) (M 1 8)) E i < lfG M h ln p f fm (nI 0) (fbS h p f g fm (M dq 3) (M dq 5) (M dq 6) (M 1 8)) E g)))) := by
  obtain ⟨hX, ht, hdq⟩ := hA
  obtain ⟨r, a1, a2⟩ := set_eq (M := M) (D := D) (S := S) s2 ht hp hf h3 h4 h5 h6
  have rq : (jr M 18 r) dq = M dq := jr_ne _ _ (by omega)
  obtain ⟨r', b1, b2⟩ := ask_eq (M := jr M 18 r) (D := j_up D 15 6 (some t)) (S := S) (t := t) (dq := dq) (h := h) (ju_same _ _ _ _) s2 s3 ht hdq hp hf hg hfm (by rw [rq]; exact q0) (by rw [rq]; exact q1) (by rw [rq]; exact q2) (by rw [rq]; exact q4) (by rw [jr_ne _ _ (by omega), jr_ne _ _ (by omega), jr_ne _ _ (by omega), jr_ne _ _ (by omega)]; exact h3)
  rw [rq, jr_ne _ _ (show (1 : Nat) ≠ 18 by omega)] at b2
  generalize hfb : fbS h p f g fm (M dq 3) (M dq 5) (M dq 6) (M 1 8) = fb at b2 ⊢
  generalize hM2 : j_up (jr (jr M 18 r) 16 r') 15 8 (nI 0) = M2
  have ro : ∀ a, a ≠ 15 → a ≠ 16 → a ≠ 18 → M2 a = M a := by
    intro a x1 x2 x3
    rw [← hM2, ju_row _ _ x1, jr_ne _ _ x2, jr_ne _ _ x3]
  have eff : lwFf M2 = lwFf M := by
    funext i; unfold lwFf lwMb; rw [ro 75 (by omega) (by omega) (by omega), ro 76 (by omega) (by omega) (by omega)]
  have emb : lwMb M2 = lwMb M := by
    funext i; unfold lwMb; rw [ro 76 (by omega) (by omega) (by omega)]
  generalize hD2 : j_up (j_up D 15 6 (some t)) 15 7 (some dq) = D2
  have B : CB M2 D2 S X t dq h ln p f g fm fb E := by
    refine ⟨⟨?_, ?_, ?_, s1, s2, s3⟩, ⟨hX, ht, hdq⟩, ?_, ⟨hp, hf, hg, hfm, hln, hne⟩, ⟨?_, hb⟩, ?_, ?_, fun k hk => ?_, ?_, ?_, fun i hi => ?_⟩
    · rw [← hD2, ju_cell _ _ (by omega), ju_cell _ _ (by omega)]; exact d5
    · rw [← hD2, ju_cell _ _ (by omega), ju_same]
    · rw [← hD2, ju_same]
    · rw [ro dq (by omega) (by omega) (by omega)]; exact ⟨q0, q1, q2, q4⟩
    · rw [ro (t + 1) (by omega) (by omega) (by omega), ro (t + 2) (by omega) (by omega) (by omega), ro (t + 3) (by omega) (by omega) (by omega), ro (t + 4) (by omega) (by omega) (by omega)]; exact h3
    · rw [ro 1 (by omega) (by omega) (by omega), ro 72 (by omega) (by omega) (by omega)]; exact h7
    · rw [ro 5 (by omega) (by omega) (by omega), ro 6 (by omega) (by omega) (by omega), ro 71 (by omega) (by omega) (by omega)]; exact h6
    · rw [← hM2, ju_row _ _ (by omega), jr_at]; exact b2 k hk
    · rw [ro 69 (by omega) (by omega) (by omega), ro 70 (by omega) (by omega) (by omega), ro 71 (by omega) (by omega) (by omega), ← hM2, ju_row _ _ (by omega), jr_ne _ _ (by omega), jr_at]; exact a2
    · rw [ro X (by omega) (by omega) (by omega)]; exact hX11
    · have hh := hl i hi
      unfold LWl kdR cE at hh
      unfold kdR cE
      rw [eff, ro 75 (by omega) (by omega) (by omega), ro 76 (by omega) (by omega) (by omega), ro 77 (by omega) (by omega) (by omega), ro 78 (by omega) (by omega) (by omega), ro 80 (by omega) (by omega) (by omega), ro (X + 1) (by omega) (by omega) (by omega), ro (X + 3) (by omega) (by omega) (by omega), ro (X + 4) (by omega) (by omega) (by omega), ro (X + 5) (by omega) (by omega) (by omega), ro (X + 7) (by omega) (by omega) (by omega), ro (X + 8) (by omega) (by omega) (by omega), ro (X + 9) (by omega) (by omega) (by omega), ro (X + 10) (by omega) (by omega) (by omega)]
      exact hh
  have hL2 : LSets X M2 L ln := by unfold LSets; rw [emb]; exact hL
  obtain ⟨M3, f1, f2, f3, f4⟩ := jf_loop B (u1 := t) (u2 := dq) hL2 ln 0 (by omega) 100000 (by omega) M2 false (jSame_rfl _) (by rw [← hM2, ju_same]; rfl) (fun k hk => rfl) ⟨fun h => absurd h (by simp), fun ⟨i, hi, _⟩ => absurd hi (by omega)⟩
  obtain ⟨M4, e1, e2, e3, e4, e5⟩ := jl_loop B (L := L) (u1 := t) (u2 := dq) (b8 := bI (frG M2 h ln p f g (nI 0) fb E)) 16 0 (by omega) 100000 (by omega) M3 f2 f3 f4 (fun q hq => absurd hq (by omega))
  -- the same words over M
  have ecn : cnG M2 h p f fb E = cnG M h p f fb E := cnG_rows (ro 71 (by omega) (by omega) (by omega)) (ro 72 (by omega) (by omega) (by omega)) (ro 80 (by omega) (by omega) (by omega))
  have eqy : qyG M2 h p f fm (nI 0) fb E = qyG M h p f fm (nI 0) fb E := by
    funext q i
    unfold qyG
    rw [ecn]
    unfold kdR acR foR wtR
    rw [emb, ro 75 (by omega) (by omega) (by omega), ro 78 (by omega) (by omega) (by omega), ro 69 (by omega) (by omega) (by omega), ro 70 (by omega) (by omega) (by omega), ro 71 (by omega) (by omega) (by omega), ro 77 (by omega) (by omega) (by omega)]
  have elf : lfG M2 h ln p f fm (nI 0) fb E = lfG M h ln p f fm (nI 0) fb E := by
    funext q; unfold lfG; rw [eqy]
  have efr : frG M2 h ln p f g (nI 0) fb E = frG M h ln p f g (nI 0) fb E := by
    unfold frG
    rw [ecn]
    have : (fun i => !kdR M2 i && acR M2 (nI 0) i && cnG M h p f fb E i g) = fun i => !kdR M i && acR M (nI 0) i && cnG M h p f fb E i g := by
      funext i
      unfold kdR acR
      rw [emb, ro 75 (by omega) (by omega) (by omega)]
    rw [this]
  rw [efr] at f3 e3
  rw [elf] at e5
  have hlf : ∀ q, lfG M h ln p f fm (nI 0) fb E q ≤ ln := by
    intro q
    unfold lfG
    split
    · exact Nat.le_refl _
    · exact fa_first_le _ _
  have B4 := CB_same B e2
  have hd3 : D2 15 7 = some dq := B.1.2.2.1
  have hq4 : M4 dq 2 = nI g := B4.2.2.1.2.2.1
  have hb4 : ∀ i, bt ((j_up M4 15 9 (0 : Int32)) 15 9) i = (decide (i < 0) && (!frG M h ln p f g (nI 0) fb E && (!decide (i = g) && decide (lfG M h ln p f fm (nI 0) fb E i < lfG M h ln p f fm (nI 0) fb E g)))) := by
    intro i
    rw [ju_same]
    have : bt 0 i = false := b_0 i
    rw [this]; simp
  obtain ⟨x, x1, x2⟩ := jc_loop B4 (L := L) (u1 := t) (u2 := dq) (lf := lfG M h ln p f fm (nI 0) fb E) hlf (fr := frG M h ln p f g (nI 0) fb E) (bd := if lfG M h ln p f fm (nI 0) fb E g < ln then nI (lfG M h ln p f fm (nI 0) fb E g) else nI 18) rfl 16 0 (by omega) 100000 (by omega) (j_up M4 15 9 (0 : Int32)) (jSame_up (jSame_rfl _) (Or.inl rfl)) (by rw [ju_cell _ _ (by omega), e3, bI_b01]) (fun q hq => by rw [ju_row _ _ (by omega)]; exact e5 q hq) hb4
  refine ⟨j_up (j_up M4 15 9 (0 : Int32)) 15 9 x, ?_, fun a ha => ?_, fun k k1 k2 => ?_, ?_, fun q hq => ?_, fun i => ?_⟩
  · unfold fX3_judgeAll
    rw [q0, q1, a1, Option.bind_some]
    have b1' : fX3_ask dq (jr M 18 r) (j_up D 15 6 (some t)) S = some (jr (jr M 18 r) 16 r', D2) := by rw [b1, hD2]
    show (fX3_ask dq (jr M 18 r) (j_up D 15 6 (some t)) S).bind (fun q2 => fX3_judgeAll_25 t dq 100000 (0 : Int32) (j_up q2.1 15 8 (0 : Int32)) L q2.2 S) = _
    rw [b1', Option.bind_some]
    have f1' : fX3_judgeAll_25 t dq 100000 (0 : Int32) (j_up (jr (jr M 18 r) 16 r') 15 8 (0 : Int32)) L D2 S = fX3_judgeAll_103 t dq M3 L D2 S := by
      rw [← hM2] at f1
      exact f1
    refine f1'.trans ?_
    unfold fX3_judgeAll_103
    refine e1.trans ?_
    unfold fX3_judgeAll_143
    rw [hd3, jo_s, jg_d s3, hq4, jg_in hg (by decide), nI_clamp (by omega), e5 g hg, li_1]
    unfold lnV
    by_cases cg : lfG M h ln p f fm (nI 0) fb E g < ln
    · rw [if_pos cg] at x1 ⊢
      rw [if_neg (by rw [nm_ne (by omega)]; simp), jo_s, jg_d s3, hq4, jg_in hg (by decide), nI_clamp (by omega), e5 g hg]
      unfold lnV
      rw [if_pos cg]
      exact x1
    · rw [if_neg cg] at x1 ⊢
      rw [if_pos rfl]
      exact x1
  · rw [ju_row _ _ (by omega), ju_row _ _ (by omega), e2.1 a (by omega) (by omega) (by omega) (by omega), ro a (by omega) (by omega) (by omega)]
  · rw [ju_cell _ _ k2, ju_cell _ _ k2, e4 k k1, ← hM2, ju_cell _ _ k1, jr_ne _ _ (by omega), jr_ne _ _ (by omega)]
  · rw [ju_cell _ _ (by omega), ju_cell _ _ (by omega), e3, bI_b01]
  · rw [ju_row _ _ (by omega), ju_row _ _ (by omega)]; exact e5 q hq
  · rw [ju_same]; exact x2 i
