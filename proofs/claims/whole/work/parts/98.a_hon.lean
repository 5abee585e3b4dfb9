/-! ===== mended: the honest passings, class side ===== -/
def pHo (M : JI) (i : Nat) : Nat := (M 121 i).toNatClampNeg
def fHo (M : JI) (i : Nat) : Nat := (M 122 i).toNatClampNeg
def gHo (M : JI) (i : Nat) : Nat := (M 123 i).toNatClampNeg
def nHo (M : JI) (i : Nat) : Nat := (M 124 i).toNatClampNeg
def mHo (M : JI) (i : Nat) : Nat := (M 125 i).toNatClampNeg
def hoS (M : JI) (ln : Nat) (E : Nat → (Nat → Int32) → Int32) (h : Nat → Nat → Nat) (sm : Int32) (i : Nat) : Bool := decide (h (pHo M i) (fHo M i) < nHo M i) || unS M ln E h 65535 sm (pHo M i) (fHo M i) (gHo M i) (nHo M i) (M 126 i) (mHo M i)
/-- the honest passings as both have them -/
def HD (M : JI) (D : JG) (S : JS) (mh : Nat) : Prop := mh ≤ 6 ∧ ∀ i, i < mh → ∃ b, D 31 i = some b ∧ 137 ≤ b ∧ S[b]? = some (0, 7) ∧ (bt (M 1 5) (pHo M i) = true ∧ pHo M i < 12 ∧ fHo M i < 16 ∧ gHo M i < 16 ∧ fHo M i ≠ gHo M i ∧ 1 ≤ nHo M i ∧ nHo M i ≤ 12 ∧ mHo M i < 3) ∧ (M 121 i = nI (pHo M i) ∧ M 122 i = nI (fHo M i) ∧ M 123 i = nI (gHo M i) ∧ M 124 i = nI (nHo M i) ∧ M 125 i = nI (mHo M i)) ∧ (M b 0 = M 121 i ∧ M b 1 = M 122 i ∧ M b 2 = M 123 i ∧ M b 3 = M 124 i ∧ M b 4 = M 125 i ∧ M b 5 = M 126 i ∧ M b 6 = M 126 i) ∧ ∃ x, x ≤ 9999 ∧ M 126 i = nI x ∧ (mHo M i = 1 → x = 0)
theorem hd_inv {n : Nat} {M : JI} {L : JL} {D : JG} {S : JS} (h : Inv n M L D S) : ∃ mh, M 30 6 = nI mh ∧ M 66 81 = nI mh ∧ HD M D S mh := by
  obtain ⟨h1, h2, h3, h4, h5, h6, h7, h8, h9, h10, h11, h12, h13, h14, h15, h16, h17, h18, h19⟩ := h
  obtain ⟨mh, m6, e1, e2, hm⟩ := h14
  refine ⟨mh, e1, e2, m6, fun i hi => ?_⟩
  obtain ⟨b, b1, b2, b3⟩ := hm i hi
  rw [rgD_at b2] at b3
  have b3' : vH1 (M 1 5) i (M b) M := b3
  obtain ⟨⟨p, p1, p2, p3, p4⟩, ⟨f, g, f1, g1, fg, f2, f3, g2, g3⟩, ⟨w, w1, w2, w3, w4⟩, ⟨fm, fm1, fm2, fm3, x, x1, x2, x3, x4, x5⟩⟩ := b3'
  obtain ⟨-, -, -, o4, -⟩ := h16
  have hsl : slA (D 42) (D 43) (D 31) (44 + i) = some b := by
    unfold slA
    rw [if_neg (by omega), if_neg (by omega), show 44 + i - 44 = i by omega]; exact b1
  have hS := (o4 (44 + i) b (by omega) hsl).2.2
  have hss : slS (44 + i) = (0, 7) := by unfold slS; rw [if_neg (by omega), if_neg (by omega)]
  rw [hss] at hS
  have q1 : pHo M i = p := by unfold pHo; rw [p2, nI_clamp (by omega)]
  have q2 : fHo M i = f := by unfold fHo; rw [f2, nI_clamp (by omega)]
  have q3 : gHo M i = g := by unfold gHo; rw [g2, nI_clamp (by omega)]
  have q4 : nHo M i = w := by unfold nHo; rw [w3, nI_clamp (by omega)]
  have q5 : mHo M i = fm := by unfold mHo; rw [fm2, nI_clamp (by omega)]
  rw [q1, q2, q3, q4, q5]
  exact ⟨b, b1, b2, hS, ⟨p4, p1, f1, g1, fg, w1, w2, fm1⟩, ⟨p2, f2, g2, w3, fm2⟩, ⟨by rw [p3, p2], by rw [f3, f2], by rw [g3, g2], by rw [w4, w3], by rw [fm3, fm2], by rw [x3, x2], by rw [x4, x2]⟩, x, x1, x2, x5⟩
theorem snd_yes {I : JI} {dq p f g n fm x : Nat} {r67 : Nat → Int32} (h1 : vTold (I 1 5) r67) (hb : bt (I 1 5) p = true) (hp : p < 12) (hf : f < 16) (hg : g < 16) (hne : f ≠ g) (hn1 : 1 ≤ n) (hn2 : n ≤ 12) (hfm : fm < 3) (hx : x ≤ 9999) (hx1 : fm = 1 → x = 0) (e0 : I dq 0 = nI p) (e1 : I dq 1 = nI f) (e2 : I dq 2 = nI g) (e3 : I dq 3 = nI n) (e4 : I dq 4 = nI fm) (e5 : I dq 5 = nI x) (e6 : I dq 6 = nI x) : fX0_isSound dq I = some (nI 1) := by
  have ht : fX9_isTold (nI p) I = some (nI 1) := by
    have hc : fX9_isTold (nI p) (jr I 67 r67) = fX9_isTold (nI p) I := told_cong (by rw [jr_ne _ _ (by omega)])
    rcases tl_cases (M := jr I 67 r67) h1 (by rw [jr_ne _ _ (by omega)]) (jr_at _ _ _) (nI p) with ⟨-, -, a⟩ | ⟨p', -, -, -, a, -⟩
    · exact absurd ⟨p, hp, rfl, hb⟩ a
    · rw [hc] at a; exact a
  have h2 : fX11_areTwoPeople (nI f) (nI g) = some (nI 1) := by
    unfold fX11_areTwoPeople
    rw [(ps_yes hf).1, Option.bind_some, if_neg (by decide), (ps_yes hg).1, Option.bind_some, if_neg (by decide), if_neg (fun e => hne ((nI_eq (by omega) (by omega)).mp e))]; rfl
  have hpr : fX11_isPrice (nI x) = some (nI 1) := by
    unfold fX11_isPrice
    have w2' : ¬ nI x < (0 : Int32) := nI_pos (by omega)
    have w3' : ¬ (9999 : Int32) < nI x := nI_nlt (a := 9999) (by omega) (by omega)
    rw [if_neg w2', if_neg w3']; rfl
  unfold fX0_isSound
  have g1 : ¬ nI n < (1 : Int32) := nI_nlt (b := 1) (by omega) (by omega)
  have g2 : nI n ≤ (12 : Int32) := nI_le (b := 12) (by omega) (by omega)
  have g3 : ¬ nI fm < (0 : Int32) := nI_pos (by omega)
  have g4 : ¬ (3 : Int32) ≤ nI fm := nI_ge (b := 3) (by omega) (by omega)
  rw [e0, ht, Option.bind_some, if_neg (by decide), e1, e2, h2, Option.bind_some, if_neg (by decide), e3, if_neg g1, if_pos g2, e4, if_neg g3, if_neg g4, e5, hpr, Option.bind_some, if_neg (by decide), e6, hpr, Option.bind_some, if_neg (by decide)]
  by_cases c : fm = 1
  · rw [if_pos (by rw [c]; rfl), hx1 c, if_pos (by rfl), if_pos (by rfl)]; rfl
  · rw [if_neg (show ¬ nI fm = (1 : Int32) from fun e => c ((nI_eq (b := 1) (by omega) (by omega)).mp e))]; rfl
theorem chs_34 {M : JI} {L : JL} {S : JS} {X ln : Nat} {E : Nat → (Nat → Int32) → Int32} (W : WB M L S X ln E) {h : Nat → Nat → Nat} (hb : ∀ p q, p < 12 → q < 16 → h p q ≤ 12) {mh : Nat} {D0 : JG} (hH : HD M D0 S mh) {r67 : Nat → Int32} (h1 : vTold (M 1 5) r67) : ∀ d i, i + d = mh → ∀ n, d < n → ∀ I D (l2 : Int64), kS M I → vHd (I 8) (I 9) (I 10) (I 11) h → I 30 6 = nI mh → D 15 5 = some X → D 31 = D0 31 → ∃ r I' D', fX6_honestSets_34 n l2 (nI i) I L D S = some (r, I', D') ∧ (∀ a, a ≠ 16 → a ≠ 17 → a ≠ 18 → I' a = I a) ∧ dS D D' ∧ ∀ x, x < 64 → (bL r x = true ↔ bL l2 x = true ∧ ∀ j, i ≤ j → j < mh → hoS M ln E h (nI x) j = true) := by
  intro d
  induction d with
  | zero =>
    intro i hi n hn I D l2 hk hv h6 d5 d31
    obtain ⟨n', rfl⟩ := suc_of hn
    have hm6 := hH.1
    refine ⟨l2, I, D, ?_, fun _ _ _ _ => rfl, dS_rfl D, fun x hx => ⟨fun e => ⟨e, fun j j1 j2 => absurd j2 (by omega)⟩, fun e => e.1⟩⟩
    rw [fX6_honestSets_34, h6, if_pos (nI_le (by omega) (by omega))]
  | succ d ih =>
    intro i hi n hn I D l2 hk hv h6 d5 d31
    obtain ⟨n', rfl⟩ := suc_of hn
    have hm6 := hH.1
    obtain ⟨b, b1, b2, b3, ⟨t0, t1, t2, t3, t4, t5, t6, t7⟩, ⟨u0, u1, u2, u3, u4⟩, ⟨v0, v1, v2, v3, v4, v5, v6⟩, x, x1, x2, x3⟩ := hH.2 i (by omega)
    have hkb : I b = M b := hk b (by omega)
    have w0 : I b 0 = nI (pHo M i) := by rw [hkb, v0, u0]
    have w1 : I b 1 = nI (fHo M i) := by rw [hkb, v1, u1]
    have w2 : I b 2 = nI (gHo M i) := by rw [hkb, v2, u2]
    have w3 : I b 3 = nI (nHo M i) := by rw [hkb, v3, u3]
    have w4 : I b 4 = nI (mHo M i) := by rw [hkb, v4, u4]
    have w5 : I b 5 = nI x := by rw [hkb, v5, x2]
    have w6 : I b 6 = nI x := by rw [hkb, v6, x2]
    have e15 : I 1 5 = M 1 5 := by rw [hk 1 (by omega)]
    have hsd := snd_yes (I := I) (dq := b) (r67 := r67) (by rw [e15]; exact h1) (by rw [e15]; exact t0) t1 t2 t3 t4 t5 t6 t7 x1 x3 w0 w1 w2 w3 w4 w5 w6
    have c6 : ¬ (6 : Int32) ≤ nI i := nI_ge (b := 6) (by omega) (by omega)
    have en : nI i + (1 : Int32) = nI (i + 1) := nI_add _ 1
    have hle := hb _ _ t1 t2
    rw [fX6_honestSets_34, h6, if_neg (nI_ge (by omega) (by omega)), if_neg c6, jg_in (show i < 6 by omega) (by decide), nI_clamp (by omega), d31, b1, jo_s, jg_d b3, en]
    have hcb : fX0_canBe b 7 I = if nI (h (pHo M i) (fHo M i)) < nI (nHo M i) then some (0 : Int32) else some (1 : Int32) := by
      unfold fX0_canBe
      rw [hsd, Option.bind_some, if_neg (by decide), w0, w1, w3, of_eq (M := I) (t := 7) hv.1 t1 t2, Option.bind_some]
    rw [hcb]
    by_cases c : h (pHo M i) (fHo M i) < nHo M i
    · rw [if_pos (nI_lt c (by omega)), Option.bind_some, if_pos rfl]
      obtain ⟨r, I', D', a1, a2, a3, a4⟩ := ih (i + 1) (by omega) n' (by omega) I D l2 hk hv h6 d5 d31
      refine ⟨r, I', D', a1, a2, a3, fun y hy => ?_⟩
      rw [a4 y hy]
      constructor
      · rintro ⟨e1, e2⟩
        refine ⟨e1, fun j j1 j2 => ?_⟩
        by_cases cj : j = i
        · rw [cj]; unfold hoS; rw [decide_eq_true c]; rfl
        · exact e2 j (by omega) j2
      · rintro ⟨e1, e2⟩
        exact ⟨e1, fun j j1 j2 => e2 j (by omega) j2⟩
    · rw [if_neg (nI_nlt (by omega) (by omega)), Option.bind_some, if_neg (by decide), w0, w1]
      obtain ⟨r18, a1, a2⟩ := cls_set (D := D) W hk (t := 7) (by omega) hv t1 t2
      have hk1 : kS M (jr I 18 r18) := fun a ha => by rw [jr_ne _ _ (by omega)]; exact hk a ha
      have hb18 : (jr I 18 r18) b = I b := jr_ne _ _ (by omega)
      obtain ⟨I2, c1, c2, c3⟩ := cls_ask (I := jr I 18 r18) (D := j_up D 15 6 (some 7)) W hk1 (t := 7) (dq := b) (by omega) (by omega) (by rw [ju_cell _ _ (by omega)]; exact d5) (ju_same _ _ _ _) b3 (h := h) (by rw [jr_ne _ _ (by omega), jr_ne _ _ (by omega), jr_ne _ _ (by omega), jr_ne _ _ (by omega)]; exact hv) hb t1 t2 t3 t7 t4 (by rw [hb18]; exact w0) (by rw [hb18]; exact w1) (by rw [hb18]; exact w2) (by rw [hb18]; exact w4) (by rw [jr_at]; exact a2)
      obtain ⟨r, I3, f1, f2, f3⟩ := c3 l2 65535
      rw [hb18, w3, w5, w6] at f3
      have g3 : ∀ a, a ≠ 16 → a ≠ 17 → a ≠ 18 → I3 a = I a := fun a z1 z2 z3 => by rw [f2 a z1 z2, jr_ne _ _ z3]
      rw [a1, Option.bind_some, c1, Option.bind_some, f1, Option.bind_some]
      obtain ⟨r', I', D', q1, q2, q3, q4⟩ := ih (i + 1) (by omega) n' (by omega) I3 (j_up (j_up D 15 6 (some 7)) 15 7 (some b)) r (fun a ha => by rw [g3 a (by omega) (by omega) (by omega)]; exact hk a ha) (by rw [g3 8 (by omega) (by omega) (by omega), g3 9 (by omega) (by omega) (by omega), g3 10 (by omega) (by omega) (by omega), g3 11 (by omega) (by omega) (by omega)]; exact hv) (by rw [g3 30 (by omega) (by omega) (by omega)]; exact h6) (by rw [ju_cell _ _ (by omega), ju_cell _ _ (by omega)]; exact d5) (by rw [ju_row _ _ (by omega), ju_row _ _ (by omega)]; exact d31)
      refine ⟨r', I', D', q1, fun a z1 z2 z3 => by rw [q2 a z1 z2 z3, g3 a z1 z2 z3], dS_tr (dS_up D (Or.inl rfl)) (dS_tr (dS_up _ (Or.inr rfl)) q3), fun y hy => ?_⟩
      rw [q4 y hy, f3 y hy, ← x2, ← uns_0]
      have hho : hoS M ln E h (nI y) i = unS M ln E h 65535 (nI y) (pHo M i) (fHo M i) (gHo M i) (nHo M i) (M 126 i) (mHo M i) := by unfold hoS; rw [decide_eq_false c]; rfl
      rw [← hho]
      constructor
      · rintro ⟨⟨e1, e3⟩, e2⟩
        refine ⟨e1, fun j j1 j2 => ?_⟩
        by_cases cj : j = i
        · rw [cj]; exact e3
        · exact e2 j (by omega) j2
      · rintro ⟨e1, e2⟩
        exact ⟨⟨e1, e2 i (Nat.le_refl _) (by omega)⟩, fun j j1 j2 => e2 j (by omega) j2⟩
theorem sets0 : ∀ mb, mb < 6 → ∀ x, x < 64 → bL (((1 : Int64) <<< (((1 : Int32) <<< (nI mb &&& 31)).toInt64 &&& 63)) - (1 : Int64)) x = decide (x < 2 ^ mb) := by decide +kernel
theorem chs_eq {M : JI} {L : JL} {S : JS} {X ln : Nat} {E : Nat → (Nat → Int32) → Int32} (W : WB M L S X ln E) {h : Nat → Nat → Nat} (hb : ∀ p q, p < 12 → q < 16 → h p q ≤ 12) {mh mb : Nat} {I : JI} {D : JG} (hH : HD M D S mh) {r67 : Nat → Int32} (h1 : vTold (M 1 5) r67) (hk : kS M I) (hv : vHd (I 8) (I 9) (I 10) (I 11) h) (h6 : I 30 6 = nI mh) (d5 : D 15 5 = some X) (h14 : M X 14 = nI mb) (hmb : mb ≤ 6) : ∃ r I' D', fX6_honestSets I L D S = some (r, I', D') ∧ (∀ a, a ≠ 16 → a ≠ 17 → a ≠ 18 → I' a = I a) ∧ dS D D' ∧ ∀ x, x < 64 → (bL r x = true ↔ x < 2 ^ mb ∧ ∀ j, j < mh → hoS M ln E h (nI x) j = true) := by
  have hX : X = 44 ∨ X = 55 := W.1.1
  have sX : S[X]? = some (4, 17) := W.2.2.2.1
  unfold fX6_honestSets
  rw [d5, jo_s, jg_d sX, hk X (by omega), h14]
  by_cases c : mb < 6
  · have c' : nI mb < (6 : Int32) := nI_lt (b := 6) c (by omega)
    rw [if_pos c']
    obtain ⟨r, I', D', a1, a2, a3, a4⟩ := chs_34 W hb hH h1 mh 0 (by omega) 100000 (by have := hH.1; omega) I D _ hk hv h6 d5 rfl
    refine ⟨r, I', D', a1, a2, a3, fun x hx => ?_⟩
    rw [a4 x hx, sets0 mb c x hx, decide_eq_true_eq]
    exact ⟨fun ⟨e1, e2⟩ => ⟨e1, fun j hj => e2 j (Nat.zero_le _) hj⟩, fun ⟨e1, e2⟩ => ⟨e1, fun j _ hj => e2 j hj⟩⟩
  · have c' : ¬ nI mb < (6 : Int32) := nI_nlt (b := 6) (by omega) (by omega)
    rw [if_neg c']
    have e6 : mb = 6 := by omega
    obtain ⟨r, I', D', a1, a2, a3, a4⟩ := chs_34 W hb hH h1 mh 0 (by omega) 100000 (by have := hH.1; omega) I D (-1) hk hv h6 d5 rfl
    refine ⟨r, I', D', a1, a2, a3, fun x hx => ?_⟩
    rw [a4 x hx, bL_ones hx, e6]
    exact ⟨fun ⟨e1, e2⟩ => ⟨by omega, fun j hj => e2 j (Nat.zero_le _) hj⟩, fun ⟨e1, e2⟩ => ⟨rfl, fun j _ hj => e2 j hj⟩⟩
