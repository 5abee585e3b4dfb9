def updR (R : Nat → Int64) (st : Nat) (v : Int64) : Nat → Int64 := fun y => if y = st then v else R y
theorem bL_an (a s : Int64) {x : Nat} (hx : x < 64) : bL (a &&& (s ^^^ (-1 : Int64))) x = (bL a x && !bL s x) := by rw [bL_and, bL_not _ hx]
theorem MI_clr {U : Nat → BU} {a b st0 st : Nat} {sets sly : Int64} {R : Nat → Int64} (h : MI U a b st0 sets sly R (st + 1)) (hz : ∀ x, x < 64 → bL (R (st + 1) &&& (sly ^^^ (-1 : Int64))) x = false) : MI U a b st0 sets sly (updR R (st + 1) (R (st + 1) &&& (sly ^^^ (-1 : Int64)))) st := by
  obtain ⟨h1, h2, h3⟩ := h
  have hz' : ∀ x, x < 64 → bL sly x = false → bL (R (st + 1)) x = false := by
    intro x hx hs
    have := hz x hx
    rw [bL_an _ _ hx, hs] at this
    simpa using this
  have hu : ∀ x y, x < 64 → bL (updR R (st + 1) (R (st + 1) &&& (sly ^^^ (-1 : Int64))) y) x = true → y ≠ st + 1 ∧ bL (R y) x = true := by
    intro x y hx hb
    unfold updR at hb
    by_cases c : y = st + 1
    · rw [if_pos c, hz x hx] at hb; exact absurd hb (by simp)
    · rw [if_neg c] at hb; exact ⟨c, hb⟩
  have hk : ∀ x y, x < 64 → bL sly x = false → bL (R y) x = true → bL (updR R (st + 1) (R (st + 1) &&& (sly ^^^ (-1 : Int64))) y) x = true := by
    intro x y hx hs hb
    unfold updR
    by_cases c : y = st + 1
    · rw [c, hz' x hx hs] at hb; exact absurd hb (by simp)
    · rw [if_neg c]; exact hb
  refine ⟨fun x y hx hy hb => h1 x y hx hy (hu x y hx hb).2, h2, fun x hx hs hl => ?_⟩
  obtain ⟨k1, k2⟩ := h3 x hx hs hl
  refine ⟨hk x st0 hx hl k1, fun y hy hy2 hb w n w1 n1 n2 n3 => ?_⟩
  obtain ⟨y1, y2⟩ := hu x y hx hb
  obtain ⟨q1, q2⟩ := k2 y (by omega) hy2 y2 w n w1 n1 n2 n3
  exact ⟨q1, hk x _ hx hl q2⟩
theorem MI_go {U : Nat → BU} {a b st0 st : Nat} {sets sly r : Int64} {R R3 : Nat → Int64} (h : MI U a b st0 sets sly R (st + 1)) (h13 : 13 ≤ st + 1) (h169 : st + 1 < 169) (hr : ∀ x, x < 64 → bL r x = (bL (R (st + 1) &&& (sly ^^^ (-1 : Int64))) x && decide (fa_first (U x 0 (st + 1) ((st + 1) / 13)) 3 < 3))) (hR : ∀ y x, x < 64 → (bL (R3 y) x = true ↔ bL (updR R (st + 1) ((R (st + 1) &&& (sly ^^^ (-1 : Int64))) &&& ((sly ||| r) ^^^ (-1 : Int64))) y) x = true ∨ (bL ((R (st + 1) &&& (sly ^^^ (-1 : Int64))) &&& ((sly ||| r) ^^^ (-1 : Int64))) x = true ∧ ∃ w n', w < 2 ∧ 1 ≤ n' ∧ n' ≤ blim w (st + 1) ∧ 13 ≤ y ∧ y = bto w (st + 1) n' ∧ fa_first (U x w (st + 1) n') 3 < 3))) : MI U a b st0 sets (sly ||| r) R3 st := by
  obtain ⟨h1, h2, h3⟩ := h
  have hv2 : ∀ x, x < 64 → bL ((R (st + 1) &&& (sly ^^^ (-1 : Int64))) &&& ((sly ||| r) ^^^ (-1 : Int64))) x = (bL (R (st + 1)) x && !bL sly x && !(bL sly x || bL r x)) := by
    intro x hx
    rw [bL_an _ _ hx, bL_an _ _ hx, bL_or]
  have hv1 : ∀ x, x < 64 → bL r x = true → bL (R (st + 1)) x = true ∧ fa_first (U x 0 (st + 1) ((st + 1) / 13)) 3 < 3 := by
    intro x hx e
    rw [hr x hx, bL_an _ _ hx] at e
    simp only [Bool.and_eq_true, decide_eq_true_eq] at e
    exact ⟨e.1.1, e.2⟩
  have hlow : ∀ x y, x < 64 → bL (updR R (st + 1) ((R (st + 1) &&& (sly ^^^ (-1 : Int64))) &&& ((sly ||| r) ^^^ (-1 : Int64))) y) x = true → bL (R y) x = true := by
    intro x y hx e
    unfold updR at e
    by_cases c : y = st + 1
    · rw [if_pos c, hv2 x hx] at e
      simp only [Bool.and_eq_true] at e
      rw [c]; exact e.1.1
    · rw [if_neg c] at e; exact e
  have hup : ∀ x y, x < 64 → bL (sly ||| r) x = false → bL (R y) x = true → bL (updR R (st + 1) ((R (st + 1) &&& (sly ^^^ (-1 : Int64))) &&& ((sly ||| r) ^^^ (-1 : Int64))) y) x = true := by
    intro x y hx e hb
    rw [bL_or, Bool.or_eq_false_iff] at e
    unfold updR
    by_cases c : y = st + 1
    · rw [if_pos c, hv2 x hx, ← c, hb, e.1, e.2]; rfl
    · rw [if_neg c]; exact hb
  refine ⟨fun x y hx hy hb => ?_, fun x hx hb => ?_, fun x hx hs hl => ?_⟩
  · rcases (hR y x hx).mp hb with e | ⟨e, w, n, w1, n1, n2, n3, n4, n5⟩
    · exact h1 x y hx hy (hlow x y hx e)
    · rw [hv2 x hx] at e
      simp only [Bool.and_eq_true] at e
      obtain ⟨⟨s1, s2, s3⟩, k1, k2, k3, k4⟩ := h1 x (st + 1) hx h169 e.1.1
      obtain ⟨t1, t2, t3, t4, t5, t6, t7⟩ := bto_ok s1 n1 n2
      rw [n4]
      refine ⟨⟨by omega, by omega, by omega⟩, by omega, by omega, RC_go k3 h13 w1 n1 n2 n5, k4⟩
  · rw [bL_or, Bool.or_eq_true] at hb
    rcases hb with hb | hb
    · exact h2 x hx hb
    · obtain ⟨e1, e2⟩ := hv1 x hx hb
      obtain ⟨⟨s1, s2, s3⟩, k1, k2, k3, k4⟩ := h1 x (st + 1) hx h169 e1
      refine ⟨k4, bto 0 (st + 1) ((st + 1) / 13), ?_, RC_go k3 h13 (by omega) (by omega) (by unfold blim; rw [if_pos rfl]; exact Nat.le_refl _) e2⟩
      unfold bto
      rw [if_pos rfl]
      omega
  · have hl' := hl
    rw [bL_or, Bool.or_eq_false_iff] at hl'
    obtain ⟨k1, k2⟩ := h3 x hx hs hl'.1
    refine ⟨(hR st0 x hx).mpr (Or.inl (hup x st0 hx hl k1)), fun y hy hy2 hb w n w1 n1 n2 n3 => ?_⟩
    by_cases cy : y = st + 1
    · subst cy
      have hbst : bL ((R (st + 1) &&& (sly ^^^ (-1 : Int64))) &&& ((sly ||| r) ^^^ (-1 : Int64))) x = true := by
        rcases (hR (st + 1) x hx).mp hb with e | ⟨e, -⟩
        · unfold updR at e; rw [if_pos rfl] at e; exact e
        · exact e
      have hRst : bL (R (st + 1)) x = true := by
        rw [hv2 x hx] at hbst
        simp only [Bool.and_eq_true] at hbst
        exact hbst.1.1
      obtain ⟨⟨s1, s2, s3⟩, -⟩ := h1 x (st + 1) hx h169 hRst
      obtain ⟨t1, t2, t3, t4, t5, t6, t7⟩ := bto_ok s1 n1 n2
      have hnot : ¬ (w = 0 ∧ n = (st + 1) / 13) := by
        rintro ⟨rfl, rfl⟩
        have := hr x hx
        rw [bL_an _ _ hx, hRst, hl'.1, hl'.2, decide_eq_true n3] at this
        exact absurd this (by simp)
      have h13b : 13 ≤ bto w (st + 1) n := by
        have hw2 : w = 0 ∨ w = 1 := by omega
        rcases hw2 with rfl | rfl
        · have := (t7 rfl).1
          unfold blim at n2
          rw [if_pos rfl] at n2
          have : n ≠ (st + 1) / 13 := fun e => hnot ⟨rfl, e⟩
          omega
        · have := t6 (by decide)
          omega
      exact ⟨h13b, (hR _ x hx).mpr (Or.inr ⟨hbst, w, n, w1, n1, n2, h13b, rfl, n3⟩)⟩
    · have hRy : bL (R y) x = true := by
        rcases (hR y x hx).mp hb with e | ⟨-, w', n', w1', n1', n2', -, e, -⟩
        · exact hlow x y hx e
        · exfalso
          have : bto w' (st + 1) n' < st + 1 := by
            unfold bto blim at *
            split at n2' <;> split <;> omega
          omega
      obtain ⟨q1, q2⟩ := k2 y (by omega) hy2 hRy w n w1 n1 n2 n3
      exact ⟨q1, (hR _ x hx).mpr (Or.inl (hup x _ hx hl q2))⟩
theorem mss_69 {M : JI} {L0 : JL} {S : JS} {X ln : Nat} {E : Nat → (Nat → Int32) → Int32} (W : WB M L0 S X ln E) {h : Nat → Nat → Nat} {p o f g a b : Nat} (H : HB h p o f g a b) {ec st0 : Nat} {sets : Int64} : ∀ d n, d < n → 12 + d < 169 → ∀ I L D sly s1, sOK a b s1 → CP M I D X h p o f g ec s1 → MP L0 L → MI (fun x => UU M ln E h (nI x) p o f g ec) a b st0 sets sly (L 32) (12 + d) → ∃ sly' I' L' D', fX6_slySets_69 n sly (nI (12 + d)) I L D S = some (sly', I', L', D') ∧ cFr I I' ∧ dS D D' ∧ MP L0 L' ∧ MI (fun x => UU M ln E h (nI x) p o f g ec) a b st0 sets sly' (L' 32) 12 := by
  intro d
  induction d with
  | zero =>
    intro n hn hd I L D sly s1 hs1 hc hL hM
    obtain ⟨n', rfl⟩ := suc_of hn
    refine ⟨sly, I, L, D, ?_, cFr_rfl I, dS_rfl D, hL, hM⟩
    rw [fX6_slySets_69, if_pos (by decide)]
  | succ d ih =>
    intro n hn hd I L D sly s1 hs1 hc hL hM
    obtain ⟨n', rfl⟩ := suc_of hn
    have e0 : 12 + (d + 1) = (12 + d) + 1 := by omega
    rw [e0] at hM hd ⊢
    have c13 : ¬ nI (12 + d + 1) < (13 : Int32) := nI_nlt (b := 13) (by omega) (by omega)
    rw [fX6_slySets_69, if_neg c13, jg_in hd (by decide), jg_in hd (by decide), jg_in hd (by decide), nI_clamp (show 12 + d + 1 < 2 ^ 31 by omega), ju_same, pk_m1]
    have hrow : ∀ v : Int64, (j_up L 32 (12 + d + 1) v) 32 = updR (L 32) (12 + d + 1) v := fun v => ju_at _ _ _ _
    by_cases z : lg_cmp (L 32 (12 + d + 1) &&& (sly ^^^ (-1 : Int64))) (0 : Int64) = 0
    · rw [if_pos z]
      refine ih n' (by omega) (by omega) I _ D sly s1 hs1 hc (fun c hc => by rw [ju_row _ _ hc]; exact hL c hc) ?_
      rw [hrow]
      exact MI_clr hM ((bL_cmp _).mp z)
    · rw [if_neg z]
      have hx : ∃ x, x < 64 ∧ bL (L 32 (12 + d + 1)) x = true := by
        refine Classical.byContradiction fun hne => z ((bL_cmp _).mpr fun x hx => ?_)
        rw [bL_an _ _ hx]
        cases e : bL (L 32 (12 + d + 1)) x with
        | false => rfl
        | true => exact absurd ⟨x, hx, e⟩ hne
      obtain ⟨x0, x1, x2⟩ := hx
      obtain ⟨hok, -⟩ := hM.1 x0 _ x1 hd x2
      obtain ⟨c1, c2, c3, c4⟩ := hc
      obtain ⟨I1, y1, y2, y3⟩ := cpl_eq (s := 12 + d + 1) H hok hs1 c2 c3
      have k1 : kS M I1 := fun a ha => by rw [y2 a (by omega)]; exact c1 a ha
      have cc1 : CC I1 p o f g ec := CC_fr c2 (fun k k1 k2 => by rw [y2 20 (by omega)])
      have f1 : cFr I I1 := ⟨fun a ha => y2 a (by omega), fun k _ _ _ _ => by rw [y2 20 (by omega)]⟩
      obtain ⟨I2, w1, w2, w3, w4⟩ := ctn_eq (w := 0) W H (Or.inl rfl) k1 cc1 y3 c4
      have w1' : fX10_turnTo (0 : Int32) I1 D S = some (I2, j_up D 15 6 (some 21)) := w1
      have hl' : fX10_left (nI (12 + d + 1)) (0 : Int32) = some (nI ((12 + d + 1) / 13)) := lf0_eq hd
      have hL1 : MP L0 (j_up L 32 (12 + d + 1) (L 32 (12 + d + 1) &&& (sly ^^^ (-1 : Int64)))) := fun c hc => by rw [ju_row _ _ hc]; exact hL c hc
      have W1 : WB M (j_up L 32 (12 + d + 1) (L 32 (12 + d + 1) &&& (sly ^^^ (-1 : Int64)))) S X ln E := WB_L W (hL1 46 (by omega)) (hL1 57 (by omega))
      obtain ⟨r, I3, D3, v1, v2, v3, v4, v5, -⟩ := cop_eq (nn := (12 + d + 1) / 13) (w := 0) W1 H hd (by rw [if_pos rfl]; exact H.1.1) (L 32 (12 + d + 1) &&& (sly ^^^ (-1 : Int64))) w4
      have hc3 := CP_T (CT_o w4 v2 (v3.2 5 (by omega) (by omega)) v4)
      have hL2 : MP L0 (j_up (j_up L 32 (12 + d + 1) (L 32 (12 + d + 1) &&& (sly ^^^ (-1 : Int64)))) 32 (12 + d + 1) ((L 32 (12 + d + 1) &&& (sly ^^^ (-1 : Int64))) &&& ((sly ||| r) ^^^ (-1 : Int64)))) := fun c hc => by rw [ju_row _ _ hc]; exact hL1 c hc
      obtain ⟨I4, L4, D4, u1, u2, u3, u4, u5, u6⟩ := msp_eq W H hok (by omega) hc3 hL2
      rw [y1, Option.bind_some, w1', Option.bind_some, hl', Option.bind_some, jg_in hd (by decide), v1, Option.bind_some, jg_in hd (by decide), jg_in hd (by decide), u1, Option.bind_some]
      have hrow2 : (j_up (j_up L 32 (12 + d + 1) (L 32 (12 + d + 1) &&& (sly ^^^ (-1 : Int64)))) 32 (12 + d + 1) ((L 32 (12 + d + 1) &&& (sly ^^^ (-1 : Int64))) &&& ((sly ||| r) ^^^ (-1 : Int64)))) 32 = updR (L 32) (12 + d + 1) ((L 32 (12 + d + 1) &&& (sly ^^^ (-1 : Int64))) &&& ((sly ||| r) ^^^ (-1 : Int64))) := by
        rw [ju_at]
        funext y
        unfold updR
        split
        · rfl
        · rename_i hy; exact ju_cell _ _ hy
      have hM' : MI (fun x => UU M ln E h (nI x) p o f g ec) a b st0 sets (sly ||| r) (L4 32) (12 + d) := by
        refine MI_go hM (by omega) hd v5 (fun y x hx => ?_)
        rw [u6 y x hx, hrow2]
        have : updR (L 32) (12 + d + 1) ((L 32 (12 + d + 1) &&& (sly ^^^ (-1 : Int64))) &&& ((sly ||| r) ^^^ (-1 : Int64))) (12 + d + 1) = (L 32 (12 + d + 1) &&& (sly ^^^ (-1 : Int64))) &&& ((sly ||| r) ^^^ (-1 : Int64)) := if_pos rfl
        rw [this]
      obtain ⟨sly', I', L', D', q1, q2, q3, q4, q5⟩ := ih n' (by omega) (by omega) I4 L4 D4 (sly ||| r) (12 + d + 1) hok u4 u5 hM'
      exact ⟨sly', I', L', D', q1, cFr_tr f1 (cFr_tr (cFr_tn w2 w3) (cFr_tr (cFr_o v2) (cFr_tr u2 q2))), dS_tr (dS_up D (Or.inl rfl)) (dS_tr v3 (dS_tr u3 q3)), q4, q5⟩
theorem mss_25 {S : JS} {l1 : Int64} {I : JI} {D : JG} : ∀ d k, k + d = 169 → ∀ n, d < n → ∀ L : JL, (∀ x, x < k → L 32 x = 0) → ∃ L', fX6_slySets_25 n l1 (nI k) I L D S = fX6_slySets_45 l1 I L' D S ∧ (∀ c, c ≠ 32 → L' c = L c) ∧ ∀ x, x < 169 → L' 32 x = 0 := by
  intro d
  induction d with
  | zero =>
    intro k hk n hn L hL
    obtain ⟨n', rfl⟩ := suc_of hn
    have : k = 169 := by omega
    subst this
    refine ⟨L, ?_, fun _ _ => rfl, hL⟩
    rw [fX6_slySets_25, if_pos (by decide)]
  | succ d ih =>
    intro k hk n hn L hL
    obtain ⟨n', rfl⟩ := suc_of hn
    have c : ¬ (169 : Int32) ≤ nI k := nI_ge (b := 169) (by omega) (by omega)
    rw [fX6_slySets_25, if_neg c, jg_in (show k < 169 by omega) (by decide), nI_clamp (by omega), show nI k + (1 : Int32) = nI (k + 1) from nI_add _ 1]
    obtain ⟨L', a1, a2, a3⟩ := ih (k + 1) (by omega) n' (by omega) (j_up L 32 k (0 : Int64)) (fun x hx => by
      rw [ju_at]
      show (if x = k then (0 : Int64) else L 32 x) = 0
      split
      · rfl
      · exact hL x (by omega))
    exact ⟨L', a1, fun c hc => by rw [a2 c hc, ju_row _ _ hc], a3⟩
