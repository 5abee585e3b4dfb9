theorem CT_fr {M I I' : JI} {D D' : JG} {X : Nat} {h : Nat → Nat → Nat} {p o f g ec s pw : Nat} (hc : CT M I D X h p o f g ec s pw) (hf : ∀ a, (a < 7 ∨ 43 < a ∨ a = 18 ∨ (22 ≤ a ∧ a ≤ 25)) → I' a = I a) (h20 : ∀ k, 9 ≤ k → k ≤ 14 → I' 20 k = I 20 k) (h5 : D' 15 5 = D 15 5) (h6 : D' 15 6 = D 15 6) : CT M I' D' X h p o f g ec s pw := by
  obtain ⟨c1, c2, c7, c8, c9, c10, c11⟩ := hc
  refine ⟨fun a ha => by rw [hf a (by omega)]; exact c1 a ha, CC_fr c2 (fun k k1 k2 => h20 k k1 (by omega)), by rw [h20 14 (by omega) (by omega)]; exact c7, ?_, by rw [hf 18 (by omega)]; exact c9, by rw [h5]; exact c10, by rw [h6]; exact c11⟩
  rw [hf 22 (by omega), hf 23 (by omega), hf 24 (by omega), hf 25 (by omega)]; exact c8
theorem bhd_eq {w s n : Nat} (hw : w < 2) (hn : n ≤ blim w s) : fX10_behind (nI s) (nI w) (nI n) = some (nI (bto w s n)) := by
  unfold fX10_behind bto
  unfold blim at hn
  have hw2 : w = 0 ∨ w = 1 := by omega
  rcases hw2 with rfl | rfl
  · rw [if_pos rfl] at hn
    rw [if_pos (show nI 0 = (0 : Int32) from rfl), if_pos rfl]
    show some (nI s - nI n * nI 13) = _
    rw [pk_mul, pk_sub (by omega), Nat.mul_comm]
  · rw [if_neg (by decide)] at hn
    rw [if_neg (show ¬ nI 1 = (0 : Int32) by decide), if_neg (by decide), pk_sub (by omega)]
theorem csp_37 {M : JI} {L : JL} {S : JS} {X ln : Nat} {E : Nat → (Nat → Int32) → Int32} (W : WB M L S X ln E) {h : Nat → Nat → Nat} {p o f g a b : Nat} (H : HB h p o f g a b) {ec s w m : Nat} (hw : w = 0 ∨ (w = 1 ∧ o < 12)) (hm : m ≤ blim w s) {B : Bf} (hB : BI a b B) (hs : bm B s = true) {k7 : Int32 → Int32 → JI → JL → JG → JS → Option (JI × JG)} : ∀ d nn, nn + d = m → ∀ n, d < n → ∀ I D, CT M I D X h p o f g ec s (if w = 0 then p else o) → CR I (btryN (UU M ln E h (nI 0) p o f g ec) s w nn B) → ∃ I' D', fX10_spread_37 k7 n (nI s) (nI w) (nI m) (nI (nn + 1)) I L D S = k7 (nI s) (nI w + (1 : Int32)) I' L D' S ∧ cFr I I' ∧ dS D D' ∧ CT M I' D' X h p o f g ec s (if w = 0 then p else o) ∧ CR I' (btryN (UU M ln E h (nI 0) p o f g ec) s w m B) := by
  have H0 := H
  obtain ⟨⟨hp, hf, hg, hne, ho, hop⟩, -⟩ := H0
  obtain ⟨s1, -⟩ := hB.2.2.1 s hs
  have hm12 : m ≤ 12 := by unfold blim at hm; split at hm <;> omega
  have hpw : (if w = 0 then p else o) < 12 := by
    rcases hw with rfl | ⟨rfl, h⟩
    · rw [if_pos rfl]; exact hp
    · rw [if_neg (by decide)]; exact h
  intro d
  induction d with
  | zero =>
    intro nn hd n hn I D hc hR
    obtain ⟨n', rfl⟩ := suc_of hn
    have : nn = m := by omega
    subst this
    refine ⟨I, D, ?_, cFr_rfl I, dS_rfl D, hc, hR⟩
    rw [fX10_spread_37, if_pos (nI_lt (by omega) (by omega))]; rfl
  | succ d ih =>
    intro nn hd n hn I D hc hR
    obtain ⟨n', rfl⟩ := suc_of hn
    obtain ⟨i1, i2, -⟩ := btryN_ok (U := UU M ln E h (nI 0) p o f g ec) (a := a) (b := b) (s := s) (w := w) (by omega) nn hB hs (by omega)
    have hsC := (i2.1 s hs).1
    obtain ⟨t1, t2, t3, t4, t5, t6, t7⟩ := bto_ok (n := nn + 1) (w := w) s1 (by omega) (by omega)
    have hbn : btryN (UU M ln E h (nI 0) p o f g ec) s w (nn + 1) B = btry (UU M ln E h (nI 0) p o f g ec) s w (nn + 1) (btryN (UU M ln E h (nI 0) p o f g ec) s w nn B) := rfl
    generalize btryN (UU M ln E h (nI 0) p o f g ec) s w nn B = C at i1 i2 hsC hR hbn
    have en : nI (nn + 1) + (1 : Int32) = nI (nn + 1 + 1) := nI_add _ 1
    rw [fX10_spread_37, if_neg (nI_nlt (by omega) (by omega)), bhd_eq (by omega) (by omega), Option.bind_some, jg_in (show bto w s (nn + 1) < 169 by omega) (by decide), nI_clamp (by omega), hR.2.2.1 _ (by omega), en]
    by_cases c : bm C (bto w s (nn + 1)) = true
    · rw [if_pos c, if_neg (show ¬ nI (bS C (bto w s (nn + 1))) = (-1 : Int32) by rw [show (-1 : Int32) = -nI 1 from rfl, nm_ne (by have := hR.2.2.2.2 _ c; omega)]; simp)]
      refine ih (nn + 1) (by omega) n' (by omega) I D hc ?_
      rw [hbn]
      unfold btry
      rw [if_pos c]
      exact hR
    · rw [if_neg c, if_pos (show -nI 1 = (-1 : Int32) from rfl)]
      obtain ⟨r, I1, D1, a1, a2, a3, a4, a5, a6⟩ := cop_eq (nn := nn + 1) (w := w) W H s1 hpw 1 hc
      have d5 : D1 15 5 = D 15 5 := a3.2 5 (by omega) (by omega)
      have hc1 := CT_o hc a2 d5 a4
      have hR1 : CR I1 C := CR_fr hR (a2.2 8 (by omega)) (a2.1 27 (by omega) (by omega) (by omega) (by omega)) (a2.1 28 (by omega) (by omega) (by omega) (by omega)) (a2.1 29 (by omega) (by omega) (by omega) (by omega))
      rw [a1, Option.bind_some]
      have hlg := lg_fa (r := r) (U := UU M ln E h (nI 0) p o f g ec w s (nn + 1)) (q := fun x => decide (fa_first (UU M ln E h (nI x) p o f g ec w s (nn + 1)) 3 < 3)) a5 rfl
      by_cases fo : fa_first (UU M ln E h (nI 0) p o f g ec w s (nn + 1)) 3 < 3
      · rw [if_neg (by rw [hlg]; simpa using fo)]
        have h15 := a6 rfl fo
        generalize hfm : fa_first (UU M ln E h (nI 0) p o f g ec w s (nn + 1)) 3 = fm at fo h15
        obtain ⟨p1, p2, p3⟩ := bpush_ok (fm := fm) (n := nn + 1) i1 hsC (show w < 2 by omega) (by omega) (by omega) fo (by simpa using c)
        rw [kst_eq hR1 (show bto w s (nn + 1) < 169 by omega) h15, Option.bind_some]
        have e8 : (j_up (j_up I1 28 (bto w s (nn + 1)) (nI s)) 29 (bto w s (nn + 1)) (nI (39 * w + 3 * (nn + 1) + fm))) 20 8 = nI (bN C) := by
          rw [ju_row _ _ (by omega), ju_row _ _ (by omega)]; exact hR1.1
        rw [e8, jg_in p3 (by decide), nI_clamp (by omega), ju_row _ _ (show (20 : Nat) ≠ 27 by omega), e8, show nI (bN C) + (1 : Int32) = nI (bN C + 1) from nI_add _ 1]
        generalize hI2 : j_up (j_up (j_up (j_up I1 28 (bto w s (nn + 1)) (nI s)) 29 (bto w s (nn + 1)) (nI (39 * w + 3 * (nn + 1) + fm))) 27 (bN C) (nI (bto w s (nn + 1)))) 20 8 (nI (bN C + 1)) = I2
        have r2 : ∀ a, a ≠ 20 → a ≠ 27 → a ≠ 28 → a ≠ 29 → I2 a = I1 a := by
          intro a x1 x2 x3 x4
          rw [← hI2, ju_row _ _ x1, ju_row _ _ x2, ju_row _ _ x4, ju_row _ _ x3]
        have r20 : ∀ k, k ≠ 8 → I2 20 k = I1 20 k := by
          intro k hk
          rw [← hI2, ju_cell _ _ hk, ju_row _ _ (by omega), ju_row _ _ (by omega), ju_row _ _ (by omega)]
        have r28 : I2 28 = fun x => if x = bto w s (nn + 1) then nI s else I1 28 x := by
          rw [← hI2, ju_row _ _ (by omega), ju_row _ _ (by omega), ju_row _ _ (by omega), ju_at]
        have r29 : I2 29 = fun x => if x = bto w s (nn + 1) then nI (39 * w + 3 * (nn + 1) + fm) else I1 29 x := by
          rw [← hI2, ju_row _ _ (by omega), ju_row _ _ (by omega), ju_at]
          funext x
          rw [ju_row _ _ (by omega)]
        have r27 : I2 27 = fun x => if x = bN C then nI (bto w s (nn + 1)) else I1 27 x := by
          rw [← hI2, ju_row _ _ (by omega), ju_at]
          funext x
          rw [ju_row _ _ (by omega), ju_row _ _ (by omega)]
        have hc2 : CT M I2 D1 X h p o f g ec s (if w = 0 then p else o) := CT_fr hc1 (fun a ha => r2 a (by omega) (by omega) (by omega) (by omega)) (fun k k1 k2 => r20 k (by omega)) rfl rfl
        have hR2 : CR I2 (btryN (UU M ln E h (nI 0) p o f g ec) s w (nn + 1) B) := by
          rw [hbn]
          unfold btry
          rw [if_neg c, hfm, if_pos fo]
          refine ⟨by rw [← hI2, ju_same]; rfl, fun k hk => ?_, fun x hx => ?_, fun x hx hd => ?_, fun x hx => ?_⟩
          · have hk' : k < bN C + 1 := hk
            rw [r27]
            show (if k = bN C then nI (bto w s (nn + 1)) else I1 27 k) = nI (if k = bN C then bto w s (nn + 1) else bQ C k)
            by_cases ck : k = bN C
            · rw [if_pos ck, if_pos ck]
            · rw [if_neg ck, if_neg ck]; exact hR1.2.1 k (by omega)
          · rw [r28]
            show (if x = bto w s (nn + 1) then nI s else I1 28 x) = if (if x = bto w s (nn + 1) then true else bm C x) = true then nI (if x = bto w s (nn + 1) then s else bS C x) else -nI 1
            by_cases cx : x = bto w s (nn + 1)
            · simp only [if_pos cx, if_true]
            · simp only [if_neg cx]; exact hR1.2.2.1 x hx
          · have hx' : (if x = bto w s (nn + 1) then true else bm C x) = true := hx
            have hd' : (if x = bto w s (nn + 1) then bD C s + 1 else bD C x) ≠ 0 := hd
            rw [r29]
            show (if x = bto w s (nn + 1) then nI (39 * w + 3 * (nn + 1) + fm) else I1 29 x) = nI (if x = bto w s (nn + 1) then 39 * w + 3 * (nn + 1) + fm else bV C x)
            by_cases cx : x = bto w s (nn + 1)
            · simp only [if_pos cx]
            · simp only [if_neg cx] at hx' hd' ⊢
              exact hR1.2.2.2.1 x hx' hd'
          · have hx' : (if x = bto w s (nn + 1) then true else bm C x) = true := hx
            show (if x = bto w s (nn + 1) then s else bS C x) < 169
            by_cases cx : x = bto w s (nn + 1)
            · rw [if_pos cx]; omega
            · rw [if_neg cx] at hx' ⊢
              exact hR1.2.2.2.2 x hx'
        obtain ⟨I', D', b1, b2, b3, b4, b5⟩ := ih (nn + 1) (by omega) n' (by omega) I2 D1 hc2 hR2
        have f2 : cFr I1 I2 := ⟨fun a ha => r2 a (by omega) (by omega) (by omega) (by omega), fun k h1 h2 h3 h4 => r20 k h1⟩
        exact ⟨I', D', b1, cFr_tr (cFr_o a2) (cFr_tr f2 b2), dS_tr a3 b3, b4, b5⟩
      · rw [if_pos (by rw [hlg]; exact fo)]
        obtain ⟨I', D', b1, b2, b3, b4, b5⟩ := ih (nn + 1) (by omega) n' (by omega) I1 D1 hc1 (by
          rw [hbn]
          unfold btry
          rw [if_neg c, if_neg fo]
          exact hR1)
        exact ⟨I', D', b1, cFr_tr (cFr_o a2) b2, dS_tr a3 b3, b4, b5⟩
theorem lf0_eq {s : Nat} (hs : s < 169) : fX10_left (nI s) (nI 0) = some (nI (s / 13)) := by
  unfold fX10_left
  rw [if_pos (show nI 0 = (0 : Int32) from rfl), show nI s / (13 : Int32) = nI (s / 13) from pk_div (d := 13) (by omega) (by omega) (by omega)]
theorem lf1_eq {s : Nat} (hs : s < 169) : fX10_left (nI s) (nI 1) = some (nI (s % 13)) := by
  unfold fX10_left
  rw [if_neg (show ¬ nI 1 = (0 : Int32) by decide), show nI s - nI s / (13 : Int32) * (13 : Int32) = nI (s % 13) from pk_rem (d := 13) (by omega) (by omega) (by omega)]
theorem csp_eq {M : JI} {L : JL} {S : JS} {X ln : Nat} {E : Nat → (Nat → Int32) → Int32} (W : WB M L S X ln E) {h : Nat → Nat → Nat} {p o f g a b : Nat} (H : HB h p o f g a b) {ec s s1 : Nat} {B : Bf} (hB : BI a b B) (hs : bm B s = true) (h13 : 13 ≤ s) (hs1 : sOK a b s1) {I : JI} {D : JG} (hc : CP M I D X h p o f g ec s1) (hR : CR I B) : ∃ I' D', fX10_spread (nI s) I L D S = some (I', D') ∧ cFr I I' ∧ dS D D' ∧ CP M I' D' X h p o f g ec s ∧ CR I' (bspr (UU M ln E h (nI 0) p o f g ec) s B) := by
  have H0 := H
  obtain ⟨⟨hp, hf, hg, hne, ho, hop⟩, hb, hsm, ha, hbb⟩ := H0
  obtain ⟨q1, q2, q3, q4⟩ := hB.2.2.1 s hs
  obtain ⟨c1, c2, c3, c4⟩ := hc
  obtain ⟨I1, x1, x2, x3⟩ := cpl_eq (s := s) H ⟨q1, q2, q3⟩ hs1 c2 c3
  have k1 : kS M I1 := fun a ha => by rw [x2 a (by omega)]; exact c1 a ha
  have cc1 : CC I1 p o f g ec := CC_fr c2 (fun k k1 k2 => by rw [x2 20 (by omega)])
  have f1 : cFr I I1 := ⟨fun a ha => x2 a (by omega), fun k _ _ _ _ => by rw [x2 20 (by omega)]⟩
  have hR1 : CR I1 B := CR_fr hR (by rw [x2 20 (by omega)]) (x2 27 (by omega)) (x2 28 (by omega)) (x2 29 (by omega))
  obtain ⟨I2, y1, y2, y3, y4⟩ := ctn_eq (w := 0) W H (Or.inl rfl) k1 cc1 x3 c4
  have f2 : cFr I1 I2 := ⟨fun a ha => y2 a (by omega) (by omega), fun k h1 h2 h3 h4 => y3 k h2⟩
  have hR2 : CR I2 B := CR_fr hR1 (y3 8 (by omega)) (y2 27 (by omega) (by omega)) (y2 28 (by omega) (by omega)) (y2 29 (by omega) (by omega))
  have e0 : blim 0 s = s / 13 := by unfold blim; rw [if_pos rfl]
  have e1 : blim 1 s = s % 13 := by unfold blim; rw [if_neg (by decide)]
  obtain ⟨I3, D3, z1, z2, z3, z4, z5⟩ := csp_37 (k7 := fX10_spread_7 99999) (w := 0) (m := s / 13 - 1) W H (Or.inl rfl) (by omega) hB hs (s / 13 - 1) 0 (by omega) 100000 (by omega) I2 (j_up D 15 6 (some 21)) y4 hR2
  obtain ⟨i1, i2, -⟩ := btryN_ok (U := UU M ln E h (nI 0) p o f g ec) (a := a) (b := b) (s := s) (w := 0) (by omega) (s / 13 - 1) hB hs (by omega)
  have hsC := (i2.1 s hs).1
  have z4' := CP_T z4
  have hgo : fX10_spread (nI s) I L D S = fX10_spread_7 99999 (nI s) (nI 1) I3 L D3 S := by
    unfold fX10_spread
    rw [x1, Option.bind_some]
    show fX10_spread_7 (99999 + 1) (nI s) (nI 0) I1 L D S = _
    rw [fX10_spread_7, if_neg (by decide), y1, Option.bind_some, lf0_eq q1, Option.bind_some, if_pos (show nI 0 = (0 : Int32) from rfl)]
    rw [show nI (s / 13) - (1 : Int32) = nI (s / 13 - 1) from pk_sub (b := 1) (by omega)]
    exact z1
  have hspr : bspr (UU M ln E h (nI 0) p o f g ec) s B = btryN (UU M ln E h (nI 0) p o f g ec) s 1 (s % 13) (btryN (UU M ln E h (nI 0) p o f g ec) s 0 (s / 13 - 1) B) := rfl
  rw [hgo, hspr]
  generalize btryN (UU M ln E h (nI 0) p o f g ec) s 0 (s / 13 - 1) B = C at i1 i2 hsC z5
  have hlast : ∀ (I' : JI) (D' : JG), fX10_spread_7 99998 (nI s) (nI 1 + (1 : Int32)) I' L D' S = some (I', D') := by
    intro I' D'
    show fX10_spread_7 (99997 + 1) (nI s) (nI 1 + (1 : Int32)) I' L D' S = _
    rw [fX10_spread_7, if_pos (by decide)]
  have hsub : nI (s % 13) - (0 : Int32) = nI (s % 13) := pk_sub (b := 0) (by omega)
  by_cases c : o < 12
  · obtain ⟨I4, w1, w2, w3, w4⟩ := ctn_eq (w := 1) W H (Or.inr ⟨rfl, c⟩) z4'.1 z4'.2.1 z4'.2.2.1 z4'.2.2.2
    have f4 : cFr I3 I4 := ⟨fun a ha => w2 a (by omega) (by omega), fun k h1 h2 h3 h4 => w3 k h2⟩
    have hR4 : CR I4 C := CR_fr z5 (w3 8 (by omega)) (w2 27 (by omega) (by omega)) (w2 28 (by omega) (by omega)) (w2 29 (by omega) (by omega))
    obtain ⟨I5, D5, v1, v2, v3, v4, v5⟩ := csp_37 (k7 := fX10_spread_7 99998) (w := 1) (m := s % 13) W H (Or.inr ⟨rfl, c⟩) (by omega) i1 hsC (s % 13) 0 (by omega) 100000 (by omega) I4 (j_up D3 15 6 (some 21)) w4 hR4
    refine ⟨I5, D5, ?_, cFr_tr f1 (cFr_tr f2 (cFr_tr z2 (cFr_tr f4 v2))), dS_tr (dS_up D (Or.inl rfl)) (dS_tr z3 (dS_tr (dS_up D3 (Or.inl rfl)) v3)), CP_T v4, v5⟩
    show fX10_spread_7 (99998 + 1) (nI s) (nI 1) I3 L D3 S = _
    rw [fX10_spread_7, if_neg (by decide), w1, Option.bind_some, lf1_eq q1, Option.bind_some, if_neg (show ¬ nI 1 = (0 : Int32) by decide), hsub]
    refine Eq.trans v1 (hlast I5 D5)
  · have eo : ov o = -nI 1 := by unfold ov; rw [if_neg c]
    have hb0 : s % 13 = 0 := by rw [if_neg c] at hbb; omega
    have hI4 : fX10_turnTo (nI 1) I3 D3 S = some (j_up I3 20 14 (-nI 1), D3) := by
      unfold fX10_turnTo fX10_turnTo_16
      rw [if_neg (show ¬ nI 1 = (0 : Int32) by decide), z4'.2.1.2.1, eo, ju_same, if_pos (show -nI 1 = (-1 : Int32) from rfl)]
    have f4 : cFr I3 (j_up I3 20 14 (-nI 1)) := ⟨fun a ha => ju_row _ _ (by omega), fun k h1 h2 h3 h4 => ju_cell _ _ h2⟩
    refine ⟨j_up I3 20 14 (-nI 1), D3, ?_, cFr_tr f1 (cFr_tr f2 (cFr_tr z2 f4)), dS_tr (dS_up D (Or.inl rfl)) z3, ?_, ?_⟩
    · show fX10_spread_7 (99998 + 1) (nI s) (nI 1) I3 L D3 S = _
      rw [fX10_spread_7, if_neg (by decide), hI4, Option.bind_some, lf1_eq q1, Option.bind_some, if_neg (show ¬ nI 1 = (0 : Int32) by decide), hsub, hb0]
      show fX10_spread_37 (fX10_spread_7 99998) (99999 + 1) (nI s) (nI 1) (nI 0) (1 : Int32) (j_up I3 20 14 (-nI 1)) L D3 S = _
      rw [fX10_spread_37, if_pos (by decide)]
      exact hlast _ _
    · refine ⟨fun a ha => by rw [ju_row _ _ (by omega)]; exact z4'.1 a ha, CC_fr z4'.2.1 (fun k k1 k2 => ju_cell _ _ (by omega)), ?_, z4'.2.2.2⟩
      rw [ju_row _ _ (by omega), ju_row _ _ (by omega), ju_row _ _ (by omega), ju_row _ _ (by omega)]
      exact z4'.2.2.1
    · rw [hb0]
      exact CR_fr z5 (ju_cell _ _ (by omega)) (ju_row _ _ (by omega)) (ju_row _ _ (by omega)) (ju_row _ _ (by omega))
