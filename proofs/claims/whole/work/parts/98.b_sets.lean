theorem WB_L {M : JI} {L L' : JL} {S : JS} {X ln : Nat} {E : Nat → (Nat → Int32) → Int32} (W : WB M L S X ln E) (e46 : L' 46 = L 46) (e57 : L' 57 = L 57) : WB M L' S X ln E := by
  obtain ⟨⟨hX, w⟩, ⟨hl, hLs, hE⟩, w3, w4⟩ := W
  refine ⟨⟨hX, w⟩, ⟨hl, ?_, hE⟩, w3, w4⟩
  unfold LSets at hLs ⊢
  rcases hX with rfl | rfl
  · rw [show 44 + 2 = 46 from rfl] at *; rw [e46]; exact hLs
  · rw [show 55 + 2 = 57 from rfl] at *; rw [e57]; exact hLs
/-- spreading sets of lines from one place, one parcel -/
theorem msp_38 {M : JI} {L0 : JL} {S : JS} {X ln : Nat} {E : Nat → (Nat → Int32) → Int32} (W : WB M L0 S X ln E) {h : Nat → Nat → Nat} {p o f g a b : Nat} (H : HB h p o f g a b) {ec s w m : Nat} (hs : s < 169) (hw : w = 0 ∨ (w = 1 ∧ o < 12)) (hm : m ≤ blim w s) {k2 : Int32 → Int32 → JI → JL → JG → JS → Option (JI × JL × JG)} : ∀ d nn, nn + d = m → ∀ n, d < n → ∀ I (L : JL) D, CT M I D X h p o f g ec s (if w = 0 then p else o) → (∀ c, c ≠ 32 → L c = L0 c) → ∃ I' L' D', fX6_spread_38 k2 n (nI s) (nI w) (nI m) (nI (nn + 1)) I L D S = k2 (nI s) (nI w + (1 : Int32)) I' L' D' S ∧ oFr I I' ∧ dS D D' ∧ D' 15 6 = D 15 6 ∧ (∀ c, c ≠ 32 → L' c = L0 c) ∧ L' 32 s = L 32 s ∧ ∀ y x, x < 64 → (bL (L' 32 y) x = true ↔ bL (L 32 y) x = true ∨ (bL (L 32 s) x = true ∧ ∃ n', nn < n' ∧ n' ≤ m ∧ y = bto w s n' ∧ fa_first (UU M ln E h (nI x) p o f g ec w s n') 3 < 3)) := by
  have hm12 : m ≤ 12 := by unfold blim at hm; split at hm <;> omega
  have hpw : (if w = 0 then p else o) < 12 := by
    rcases hw with rfl | ⟨rfl, h⟩
    · rw [if_pos rfl]; exact H.1.1
    · rw [if_neg (by decide)]; exact h
  intro d
  induction d with
  | zero =>
    intro nn hd n hn I L D hc hL
    obtain ⟨n', rfl⟩ := suc_of hn
    have : nn = m := by omega
    subst this
    refine ⟨I, L, D, ?_, oFr_rfl I, dS_rfl D, rfl, hL, rfl, fun y x hx => ⟨Or.inl, fun e => ?_⟩⟩
    · rw [fX6_spread_38, if_pos (nI_lt (by omega) (by omega))]; rfl
    · rcases e with e | ⟨-, n', n1, n2, -⟩
      · exact e
      · omega
  | succ d ih =>
    intro nn hd n hn I L D hc hL
    obtain ⟨n', rfl⟩ := suc_of hn
    obtain ⟨t1, t2, t3, t4, t5, t6, t7⟩ := bto_ok (n := nn + 1) (w := w) hs (by omega) (by omega)
    have en : nI (nn + 1) + (1 : Int32) = nI (nn + 1 + 1) := nI_add _ 1
    have W1 : WB M L S X ln E := WB_L W (hL 46 (by omega)) (hL 57 (by omega))
    obtain ⟨r, I1, D1, a1, a2, a3, a4, a5, -⟩ := cop_eq (nn := nn + 1) (w := w) W1 H hs hpw ((L 32 s) &&& ((L 32 (bto w s (nn + 1))) ^^^ (-1 : Int64))) hc
    have hc1 := CT_o hc a2 (a3.2 5 (by omega) (by omega)) a4
    rw [fX6_spread_38, if_neg (nI_nlt (by omega) (by omega)), bhd_eq (by omega) (by omega), Option.bind_some, jg_in (show bto w s (nn + 1) < 169 by omega) (by decide), jg_in hs (by decide), jg_in (show bto w s (nn + 1) < 169 by omega) (by decide), nI_clamp (show bto w s (nn + 1) < 2 ^ 31 by omega), nI_clamp (show s < 2 ^ 31 by omega), a1, Option.bind_some, jg_in (show bto w s (nn + 1) < 169 by omega) (by decide), en]
    obtain ⟨I', L', D', b1, b2, b3, b4, b5, b6, b7⟩ := ih (nn + 1) (by omega) n' (by omega) I1 (j_up L 32 (bto w s (nn + 1)) (L 32 (bto w s (nn + 1)) ||| r)) D1 hc1 (fun c hc => by rw [ju_row _ _ hc]; exact hL c hc)
    have es : j_up L 32 (bto w s (nn + 1)) (L 32 (bto w s (nn + 1)) ||| r) 32 s = L 32 s := ju_cell _ _ (by omega)
    refine ⟨I', L', D', b1, oFr_tr a2 b2, dS_tr a3 b3, by rw [b4, a4], b5, by rw [b6, es], fun y x hx => ?_⟩
    rw [b7 y x hx, es]
    have ey : bL (j_up L 32 (bto w s (nn + 1)) (L 32 (bto w s (nn + 1)) ||| r) 32 y) x = true ↔ bL (L 32 y) x = true ∨ (y = bto w s (nn + 1) ∧ bL (L 32 s) x = true ∧ fa_first (UU M ln E h (nI x) p o f g ec w s (nn + 1)) 3 < 3) := by
      rw [ju_at]
      show bL (if y = bto w s (nn + 1) then L 32 (bto w s (nn + 1)) ||| r else L 32 y) x = true ↔ _
      by_cases cy : y = bto w s (nn + 1)
      · rw [if_pos cy, bL_or, a5 x hx, bL_and, bL_not _ hx, cy]
        by_cases fo : fa_first (UU M ln E h (nI x) p o f g ec w s (nn + 1)) 3 < 3
        · rw [decide_eq_true fo]
          cases e1 : bL (L 32 (bto w s (nn + 1))) x <;> cases e2 : bL (L 32 s) x <;> simp [fo]
        · rw [decide_eq_false fo]
          cases e1 : bL (L 32 (bto w s (nn + 1))) x <;> simp [fo]
      · rw [if_neg cy]
        exact ⟨Or.inl, fun e => e.elim id (fun e => absurd e.1 cy)⟩
    rw [ey]
    constructor
    · rintro ((e | ⟨e1, e2, e3⟩) | ⟨e1, n2, e2, e3, e4, e5⟩)
      · exact Or.inl e
      · exact Or.inr ⟨e2, nn + 1, by omega, by omega, e1, e3⟩
      · exact Or.inr ⟨e1, n2, by omega, e3, e4, e5⟩
    · rintro (e | ⟨e1, n2, e2, e3, e4, e5⟩)
      · exact Or.inl (Or.inl e)
      · by_cases cn : n2 = nn + 1
        · subst cn
          exact Or.inl (Or.inr ⟨e4, e1, e5⟩)
        · exact Or.inr ⟨e1, n2, by omega, e3, e4, e5⟩
def MP (L0 L : JL) : Prop := ∀ c, c ≠ 32 → L c = L0 c
theorem cFr_tn {I I' : JI} (h1 : ∀ a, a ≠ 18 → a ≠ 20 → I' a = I a) (h2 : ∀ k, k ≠ 14 → I' 20 k = I 20 k) : cFr I I' := ⟨fun a ha => h1 a (by omega) (by omega), fun k _ h _ _ => h2 k h⟩
/-- spreading from one place, both parcels -/
theorem msp_eq {M : JI} {L0 : JL} {S : JS} {X ln : Nat} {E : Nat → (Nat → Int32) → Int32} (W : WB M L0 S X ln E) {h : Nat → Nat → Nat} {p o f g a b : Nat} (H : HB h p o f g a b) {ec s : Nat} (hs : sOK a b s) (h13 : 13 ≤ s) {I : JI} {L : JL} {D : JG} (hc : CP M I D X h p o f g ec s) (hL : MP L0 L) : ∃ I' L' D', fX6_spread (nI s) I L D S = some (I', L', D') ∧ cFr I I' ∧ dS D D' ∧ CP M I' D' X h p o f g ec s ∧ MP L0 L' ∧ ∀ y x, x < 64 → (bL (L' 32 y) x = true ↔ bL (L 32 y) x = true ∨ (bL (L 32 s) x = true ∧ ∃ w n', w < 2 ∧ 1 ≤ n' ∧ n' ≤ blim w s ∧ 13 ≤ y ∧ y = bto w s n' ∧ fa_first (UU M ln E h (nI x) p o f g ec w s n') 3 < 3)) := by
  have H0 := H
  obtain ⟨⟨hp, hf, hg, hne, ho, hop⟩, hb, hsm, ha, hbb⟩ := H0
  obtain ⟨q1, q2, q3⟩ := hs
  obtain ⟨c1, c2, c3, c4⟩ := hc
  have e0 : blim 0 s = s / 13 := by unfold blim; rw [if_pos rfl]
  have e1 : blim 1 s = s % 13 := by unfold blim; rw [if_neg (by decide)]
  obtain ⟨I1, x1, x2, x3, x4⟩ := ctn_eq (w := 0) W H (Or.inl rfl) c1 c2 c3 c4
  obtain ⟨I2, L2, D2, y1, y2, y3, y4, y5, y6, y7⟩ := msp_38 (k2 := fX6_spread_2 99999) (w := 0) (m := s / 13 - 1) W H q1 (Or.inl rfl) (by omega) (s / 13 - 1) 0 (by omega) 100000 (by omega) I1 L (j_up D 15 6 (some 21)) x4 hL
  have hc2 := CP_T (CT_o x4 y2 (y3.2 5 (by omega) (by omega)) y4)
  have f2 : cFr I I2 := cFr_tr (cFr_tn x2 x3) (cFr_o y2)
  have hgo : fX6_spread (nI s) I L D S = fX6_spread_2 99999 (nI s) (nI 1) I2 L2 D2 S := by
    unfold fX6_spread
    show fX6_spread_2 (99999 + 1) (nI s) (nI 0) I L D S = _
    rw [fX6_spread_2, if_neg (by decide), x1, Option.bind_some, lf0_eq q1, Option.bind_some, if_pos (show nI 0 = (0 : Int32) from rfl), show nI (s / 13) - (1 : Int32) = nI (s / 13 - 1) from pk_sub (b := 1) (by omega)]
    exact y1
  have hlast : ∀ (I' : JI) (L' : JL) (D' : JG), fX6_spread_2 99998 (nI s) (nI 1 + (1 : Int32)) I' L' D' S = some (I', L', D') := by
    intro I' L' D'
    show fX6_spread_2 (99997 + 1) (nI s) (nI 1 + (1 : Int32)) I' L' D' S = _
    rw [fX6_spread_2, if_pos (by decide)]
  have hsub : nI (s % 13) - (0 : Int32) = nI (s % 13) := pk_sub (b := 0) (by omega)
  have key0 : ∀ y x, (∃ n', 0 < n' ∧ n' ≤ s / 13 - 1 ∧ y = bto 0 s n' ∧ fa_first (UU M ln E h (nI x) p o f g ec 0 s n') 3 < 3) ↔ ∃ n', 1 ≤ n' ∧ n' ≤ blim 0 s ∧ 13 ≤ y ∧ y = bto 0 s n' ∧ fa_first (UU M ln E h (nI x) p o f g ec 0 s n') 3 < 3 := by
    intro y x
    constructor
    · rintro ⟨n', n1, n2, n3, n4⟩
      obtain ⟨t1, t2, t3, t4, t5, t6, t7⟩ := bto_ok (n := n') (w := 0) q1 (by omega) (by omega)
      exact ⟨n', by omega, by omega, by have := (t7 rfl).1; omega, n3, n4⟩
    · rintro ⟨n', n1, n2, n3, n4, n5⟩
      obtain ⟨t1, t2, t3, t4, t5, t6, t7⟩ := bto_ok (n := n') (w := 0) q1 (by omega) (by omega)
      exact ⟨n', by omega, by have := (t7 rfl).1; omega, n4, n5⟩
  rw [hgo]
  by_cases c : o < 12
  · obtain ⟨I3, w1, w2, w3, w4⟩ := ctn_eq (w := 1) W H (Or.inr ⟨rfl, c⟩) hc2.1 hc2.2.1 hc2.2.2.1 hc2.2.2.2
    obtain ⟨I4, L4, D4, z1, z2, z3, z4, z5, z6, z7⟩ := msp_38 (k2 := fX6_spread_2 99998) (w := 1) (m := s % 13) W H q1 (Or.inr ⟨rfl, c⟩) (by omega) (s % 13) 0 (by omega) 100000 (by omega) I3 L2 (j_up D2 15 6 (some 21)) w4 y5
    refine ⟨I4, L4, D4, ?_, cFr_tr f2 (cFr_tr (cFr_tn w2 w3) (cFr_o z2)), dS_tr (dS_up D (Or.inl rfl)) (dS_tr y3 (dS_tr (dS_up D2 (Or.inl rfl)) z3)), CP_T (CT_o w4 z2 (z3.2 5 (by omega) (by omega)) z4), z5, fun y x hx => ?_⟩
    · show fX6_spread_2 (99998 + 1) (nI s) (nI 1) I2 L2 D2 S = _
      rw [fX6_spread_2, if_neg (by decide), w1, Option.bind_some, lf1_eq q1, Option.bind_some, if_neg (show ¬ nI 1 = (0 : Int32) by decide), hsub]
      exact Eq.trans z1 (hlast I4 L4 D4)
    · rw [z7 y x hx, y7 y x hx, y6, key0]
      constructor
      · rintro ((e | ⟨e, n', n1, n2, n3, n4, n5⟩) | ⟨e, n', n1, n2, n3, n4⟩)
        · exact Or.inl e
        · exact Or.inr ⟨e, 0, n', by omega, n1, n2, n3, n4, n5⟩
        · obtain ⟨t1, t2, t3, t4, t5, t6, t7⟩ := bto_ok (n := n') (w := 1) q1 (by omega) (by omega)
          exact Or.inr ⟨e, 1, n', by omega, by omega, by omega, by have := t6 (by decide); omega, n3, n4⟩
      · rintro (e | ⟨e, w, n', n0, n1, n2, n3, n4, n5⟩)
        · exact Or.inl (Or.inl e)
        · have hw2 : w = 0 ∨ w = 1 := by omega
          rcases hw2 with rfl | rfl
          · exact Or.inl (Or.inr ⟨e, n', n1, n2, n3, n4, n5⟩)
          · exact Or.inr ⟨e, n', by omega, by omega, n4, n5⟩
  · have eo : ov o = -nI 1 := by unfold ov; rw [if_neg c]
    have hb0 : s % 13 = 0 := by rw [if_neg c] at hbb; omega
    have hI4 : fX10_turnTo (nI 1) I2 D2 S = some (j_up I2 20 14 (-nI 1), D2) := by
      unfold fX10_turnTo fX10_turnTo_16
      rw [if_neg (show ¬ nI 1 = (0 : Int32) by decide), hc2.2.1.2.1, eo, ju_same, if_pos (show -nI 1 = (-1 : Int32) from rfl)]
    have f4 : cFr I2 (j_up I2 20 14 (-nI 1)) := ⟨fun a ha => ju_row _ _ (by omega), fun k h1 h2 h3 h4 => ju_cell _ _ h2⟩
    refine ⟨j_up I2 20 14 (-nI 1), L2, D2, ?_, cFr_tr f2 f4, dS_tr (dS_up D (Or.inl rfl)) y3, ?_, y5, fun y x hx => ?_⟩
    · show fX6_spread_2 (99998 + 1) (nI s) (nI 1) I2 L2 D2 S = _
      rw [fX6_spread_2, if_neg (by decide), hI4, Option.bind_some, lf1_eq q1, Option.bind_some, if_neg (show ¬ nI 1 = (0 : Int32) by decide), hsub, hb0]
      show fX6_spread_38 (fX6_spread_2 99998) (99999 + 1) (nI s) (nI 1) (nI 0) (1 : Int32) (j_up I2 20 14 (-nI 1)) L2 D2 S = _
      rw [fX6_spread_38, if_pos (by decide)]
      exact hlast _ _ _
    · refine ⟨fun a ha => by rw [ju_row _ _ (by omega)]; exact hc2.1 a ha, CC_fr hc2.2.1 (fun k k1 k2 => ju_cell _ _ (by omega)), ?_, hc2.2.2.2⟩
      rw [ju_row _ _ (by omega), ju_row _ _ (by omega), ju_row _ _ (by omega), ju_row _ _ (by omega)]
      exact hc2.2.2.1
    · rw [y7 y x hx, key0]
      constructor
      · rintro (e | ⟨e, n', n1, n2, n3, n4, n5⟩)
        · exact Or.inl e
        · exact Or.inr ⟨e, 0, n', by omega, n1, n2, n3, n4, n5⟩
      · rintro (e | ⟨e, w, n', n0, n1, n2, n3, n4, n5⟩)
        · exact Or.inl e
        · have hw2 : w = 0 ∨ w = 1 := by omega
          rcases hw2 with rfl | rfl
          · exact Or.inr ⟨e, n', n1, n2, n3, n4, n5⟩
          · omega
/-- what is so of the sets that are reached, once all places above st are done -/
def MI (U : Nat → BU) (a b st0 : Nat) (sets sly : Int64) (R : Nat → Int64) (st : Nat) : Prop :=
  (∀ x y, x < 64 → y < 169 → bL (R y) x = true → sOK a b y ∧ y ≤ st0 ∧ 13 ≤ y ∧ RC (U x) st0 y ∧ bL sets x = true) ∧
  (∀ x, x < 64 → bL sly x = true → bL sets x = true ∧ ∃ e, e < 13 ∧ RC (U x) st0 e) ∧
  (∀ x, x < 64 → bL sets x = true → bL sly x = false → bL (R st0) x = true ∧ ∀ y, st < y → y < 169 → bL (R y) x = true → ∀ w n, w < 2 → 1 ≤ n → n ≤ blim w y → fa_first (U x w y n) 3 < 3 → 13 ≤ bto w y n ∧ bL (R (bto w y n)) x = true)
theorem MI_end {U : Nat → BU} {a b st0 : Nat} {sets sly : Int64} {R : Nat → Int64} (h : MI U a b st0 sets sly R 12) (h0 : 13 ≤ st0) (h169 : st0 < 169) {x : Nat} (hx : x < 64) (hs : bL sets x = true) : (bL sly x = true ↔ ∃ e, e < 13 ∧ RC (U x) st0 e) := by
  obtain ⟨h1, h2, h3⟩ := h
  refine ⟨fun e => (h2 x hx e).2, fun ⟨e, e1, e2⟩ => ?_⟩
  cases c : bL sly x with
  | true => rfl
  | false =>
    obtain ⟨k1, k2⟩ := h3 x hx hs c
    have := e2 (fun y => 13 ≤ y ∧ y < 169 ∧ bL (R y) x = true) ⟨h0, h169, k1⟩ (fun s w n p1 p2 p3 p4 p5 p6 => by
      obtain ⟨q1, q2⟩ := k2 s (by omega) p1.2.1 p1.2.2 w n p3 p4 p5 p6
      obtain ⟨t1, -⟩ := bto_ok p1.2.1 p4 p5
      exact ⟨q1, by have := p1.2.1; omega, q2⟩)
    omega
