theorem mark_back {n : Nat} {M : JI} {L : JL} {G D : JG} {S : JS} (h : Inv n M L D S) (hn : n < 4000) {m b l : Nat} (hmm : m < 4) (hb : D 43 m = some b) {cP' : Nat} {ld pm : Nat → Nat} (hl : l ≤ n) (k0 : M 0 13 = nI l) (k66 : M 66 88 = nI l) (hcP : cP' ≤ 40) (ecP : M 0 12 = nI cP') (hmk : ∀ m, m < 4 → rg pM M 127 m = nI (ld m) ∧ ld m ≤ l ∧ (D 43 m = none → ld m = 0) ∧ ∀ b, D 43 m = some b → 137 ≤ b ∧ rg pD M b 2 = nI (ld m) ∧ (ld m ≠ 0 → pm m ≤ cP' ∧ (∀ p, p < 12 → bt (rg pD M b 3) p = true → bt (M 1 5) p = true) ∧ vM1 m (pm m) (rg pD M b) (rg pD M (b + 2)) (rg pD M (b + 3)) (rg pD M (b + 4)) (rg pD M (b + 5)) (rg pD M (b + 6)) (rg pM M))) (hord : ∀ m m', m < 4 → m' < 4 → ld m ≠ 0 → ld m ≤ ld m' → pm m ≤ pm m') (hne : ld m ≠ 0) : ∃ M1 M2, fX11_mark (nI m) (nI 1) M L G D S = some (nI 1, M1, L, G, D, S) ∧ fX12_mark (nI m) (nI 1) M1 = some (nI 1, M2) ∧ Inv (n + 1) M2 L D S := by
  have hh := h
  obtain ⟨h1, h2, h3, h4, h5, h6, h7, h8, h9, h10, h11, h12, h13, h14, h15, h16, h17, h18, h19⟩ := hh
  obtain ⟨c13, hc13, kc0, kc66, hps⟩ := h13
  have ecc : c13 = cP' := (nI_eq (by omega) (by omega)).mp (kc0.symm.trans ecP)
  subst ecc
  have em : (nI m).toNatClampNeg = m := nI_clamp (by omega)
  have hb12 : ∀ p q, p < 12 → q < 16 → hN (M 68) p q ≤ 12 := fun p q a b => (h2.1 p q a b).2
  have m137 : ∀ j bj, j < 4 → D 43 j = some bj → 137 ≤ bj := fun j bj hj hbj => (h16.2.2.2.1 (40 + j) bj (by omega) (sl43 hj hbj)).1
  obtain ⟨a1, a2, a3, a4⟩ := hmk m hmm
  obtain ⟨h137, q2, q3⟩ := a4 b hb
  obtain ⟨hpm, hsub, hv1⟩ := q3 hne
  rw [rgD_at h137] at hsub q2
  rw [rgD_at h137, rgD_at (by omega), rgD_at (by omega), rgD_at (by omega), rgD_at (by omega), rgD_at (by omega)] at hv1
  obtain ⟨v1, ⟨hm, u1, u2, u3⟩, ⟨dn, hdn, w1, w2⟩, v4, v5, v6⟩ := hv1
  have hJ : ∀ a, 127 ≤ a → a ≤ 135 → rg pM M a = M a := fun a x1 x2 => rgM_at x1 x2
  rw [hJ 128 (by omega) (by omega)] at v1
  rw [hJ 129 (by omega) (by omega)] at u2
  rw [hJ 130 (by omega) (by omega)] at w1
  rw [hJ 131 (by omega) (by omega)] at v4
  let bk : Nat → Nat := fun k => (D 42 k).getD 0
  have hbk0 : ∀ k, k < c13 → D 42 k = some (bk k) := by
    intro k hk
    obtain ⟨b', hb', -⟩ := hps k hk
    show D 42 k = some ((D 42 k).getD 0)
    rw [hb']; rfl
  clear_value bk
  have hbk : ∀ k, k < pm m → D 42 k = some (bk k) := fun k hk => hbk0 k (by omega)
  have hldb : ∀ j, j < 4 → ld j < 2 ^ 31 ∧ ∀ bj, D 43 j = some bj → M bj 2 = nI (ld j) := fun j hj => by
    obtain ⟨x1, x2, x3, x4⟩ := hmk j hj
    refine ⟨by omega, fun bj hbj => ?_⟩
    obtain ⟨y1, y2, y3⟩ := x4 bj hbj
    rw [rgD_at y1] at y2; exact y2
  obtain ⟨M1, g1, g2, g3, g4, g5, g6, g7, g8, g9, g10, g11⟩ := gb_eq h16 hmm hb ld hldb hne (show pm m ≤ 40 by omega) v5 w2 bk hbk h3 hb12 u1.1 (fun p q hp hq => (u2 p q hp hq).2)
  have k137 : ∀ k, k < pm m → 137 ≤ bk k := fun k hk => (h16.2.2.2.1 k _ (by omega) (sl42 (by omega) (hbk k hk))).1
  have low : ∀ a, a < 137 → a ≠ 0 → a ≠ 1 → (a < 8 ∨ 11 < a) → M1 a = M a := fun a x1 x2 x3 x4 => g2 a x2 x3 x4 (fun j hj => by have := k137 j hj; omega) (fun j bj hj hbj => by have := m137 j bj hj hbj; omega)
  have e127 : ∀ j, j < 4 → (j_up M1 66 0 (nI 0)) 127 j = nI (ld j) ∧ ld j < 2 ^ 31 := fun j hj => by
    have := (hmk j hj).1
    rw [hJ 127 (by omega) (by omega)] at this
    rw [ju_row _ _ (by omega), low 127 (by omega) (by omega) (by omega) (by omega)]
    exact ⟨this, (hldb j hj).1⟩
  obtain ⟨N, z1, z2, z3, z4, z5, z6, z7, z8, z9⟩ := back_eq (j_up M1 66 0 (nI 0)) hmm ld e127
  have rJ : ∀ a, a < 137 → a ≠ 0 → a ≠ 1 → (a < 8 ∨ 11 < a) → a ≠ 66 → (j_up M1 66 0 (nI 0)) a = M a := fun a x1 x2 x3 x4 x5 => by rw [ju_row _ _ x5, low a x1 x2 x3 x4]
  have rN : ∀ a, a ≠ 66 → a ≠ 68 → a ≠ 112 → a ≠ 113 → a ≠ 106 → a ≠ 102 → a ≠ 127 → N a = M1 a := fun a x1 x2 x3 x4 x5 x6 x7 => by rw [z2 a x2 x1 x3 x4 x5 x6 x7, ju_row _ _ x1]
  have rNl : ∀ a, a < 137 → a ≠ 0 → a ≠ 1 → (a < 8 ∨ 11 < a) → a ≠ 66 → a ≠ 68 → a ≠ 112 → a ≠ 113 → a ≠ 106 → a ≠ 102 → a ≠ 127 → N a = M a := fun a x1 x2 x3 x4 x5 x6 x7 x8 x9 x10 x11 => by rw [rN a x5 x6 x7 x8 x9 x10 x11, low a x1 x2 x3 x4]
  have rN66 : ∀ k, k ≠ 0 → k ≠ 8 → k ≠ 52 → N 66 k = M 66 k := fun k x1 x2 x3 => by rw [z3 k x2 x3, ju_cell _ _ x1, low 66 (by omega) (by omega) (by omega) (by omega)]
  have n668 : N 66 8 = nI dn := by rw [z4, rJ 130 (by omega) (by omega) (by omega) (by omega) (by omega)]; exact w1
  have n6652 : N 66 52 = nI (pm m) := by rw [z5, rJ 131 (by omega) (by omega) (by omega) (by omega) (by omega)]; exact v4
  refine ⟨M1, N, ?_, ?_, ?_⟩
  · unfold fX11_mark
    rw [if_neg (show ¬ nI m < (0 : Int32) from nI_pos (by omega)), if_pos (show nI m < (4 : Int32) from nI_lt (b := 4) (by omega) (by omega)), if_neg (by decide), g1, Option.bind_some]
    show j_g (decide (jm_b01 (nI 1) = nI 1)) (some (nI 1, M1, L, G, D, S)) = _
    rw [jg_d b01_1]
  · unfold fX12_mark fX12_within fX12_mark_29
    have e127m : (j_up M1 66 0 (0 : Int32)) 127 m = nI (ld m) := (e127 m hmm).1
    rw [if_neg (show ¬ nI m < (0 : Int32) from nI_pos (by omega)), if_neg (show ¬ (3 : Int32) < nI m from nI_nlt (a := 3) (by omega) (by omega)), Option.bind_some, if_neg (by decide), if_neg (by decide), jg_in hmm (by decide), em, e127m, if_neg (show ¬ nI (ld m) = (0 : Int32) from nI_ne0 (by omega) (hldb m hmm).1), if_neg (by decide)]
    have z1' : fX12_takesBack (nI m) (j_up M1 66 0 (0 : Int32)) = some N := z1
    rw [z1']; rfl
  · have told : ∀ p, p < 12 → (j_up M1 66 0 (nI 0)) 128 (12 * m + p) = bI (bt (M b 3) p) := fun p hp => by rw [rJ 128 (by omega) (by omega) (by omega) (by omega) (by omega)]; exact v1 p hp
    generalize hHr : (fun p q => if bt (M b 3) p = true then hm p q else hN (M 68) p q) = Hr at g8
    have hHr' : ∀ p q, Hr p q = if bt (M b 3) p = true then hm p q else hN (M 68) p q := fun p q => by rw [← hHr]
    have hrep : twRep (N 68) Hr := by
      intro p q hp hq
      rw [z6 _ (by omega), show (16 * p + q) / 16 = p by omega, told p hp, bI_b01, hHr', rJ 68 (by omega) (by omega) (by omega) (by omega) (by omega), rJ 129 (by omega) (by omega) (by omega) (by omega) (by omega)]
      cases c : bt (M b 3) p with
      | true =>
        rw [if_neg (by decide), if_pos rfl]
        exact (u2 p q hp hq).1
      | false =>
        rw [if_pos (by decide), if_neg (by simp)]
        exact (h2.1 p q hp hq).1
    have hrle : ∀ p q, p < 12 → q < 16 → Hr p q ≤ 12 := fun p q hp hq => by
      rw [hHr']
      split
      · exact (u2 p q hp hq).2
      · exact hb12 p q hp hq
    have hrsum : ∀ p, p < 12 → fb_sm (Hr p) 16 = if bt (M 1 5) p then 12 else 0 := fun p hp => by
      by_cases c : bt (M b 3) p = true
      · have e : Hr p = hm p := by funext q; rw [hHr', if_pos c]
        rw [e, u3 p hp, c, hsub p hp c]
      · have e : Hr p = hN (M 68) p := by funext q; rw [hHr', if_neg c]
        rw [e, h2.2 p hp]
    -- rows of what was made
    have fmk : ∀ j bj k, j < 4 → D 43 j = some bj → k < pm m → ∀ i, i < 7 → bj + i ≠ bk k + 5 := fun j bj k hj hbj hk i hi => by
      have far := ob_far2 h16 (by omega) (by omega) (show 40 + j ≠ k by omega) (sl42 (show k < 40 by omega) (hbk k hk)) (sl43 hj hbj)
      rw [n43 hj, n42 (show k < 40 by omega)] at far
      exact far 5 i (by omega) hi
    have dyn : ∀ s bs i, s < 50 → slA (D 42) (D 43) (D 31) s = some bs → i < slN s → (s < 40 → i ≠ 5) → (40 ≤ s → s < 44 → i ≠ 0) → N (bs + i) = M (bs + i) := by
      intro s bs i hs hbs hi x1 x2
      have hx := h16.2.2.2.1 s bs hs hbs
      rw [rN _ (by omega) (by omega) (by omega) (by omega) (by omega) (by omega) (by omega)]
      refine g2 _ (by omega) (by omega) (by omega) (fun j hj => ?_) (fun j bj hj hbj => ?_)
      · by_cases e : s = j
        · subst e
          have := sl42 (D43 := D 43) (D31 := D 31) (show s < 40 by omega) (hbk s hj)
          rw [hbs] at this
          cases this
          have := x1 (by omega)
          omega
        · have far := ob_far2 h16 (by omega) hs e (sl42 (show j < 40 by omega) (hbk j hj)) hbs
          rw [n42 (show j < 40 by omega)] at far
          exact far 5 i (by omega) hi
      · by_cases e : s = 40 + j
        · subst e
          have := sl43 (D42 := D 42) (D31 := D 31) hj hbj
          rw [hbs] at this
          cases this
          have := x2 (by omega) (by omega)
          omega
        · have far := ob_far2 h16 (by omega) hs e (sl43 hj hbj) hbs
          rw [n43 hj] at far
          have := far 0 i (by omega) hi
          omega
    have gE : rg pL N = rg pL M := rg_cong (fun a k hp => by
      unfold pL at hp
      simp at hp
      by_cases e : a = 66
      · subst e; rw [rN66 k (by omega) (by omega) (by omega)]
      · rw [rNl a (by omega) (by omega) (by omega) (by omega) e (by omega) (by omega) (by omega) (by omega) (by omega) (by omega)])
    have gH : rg pH N = rg pH M := rg_cong (fun a k hp => by
      unfold pH at hp
      simp at hp
      rw [rNl a (by omega) (by omega) (by omega) (by omega) (by omega) (by omega) (by omega) (by omega) (by omega) (by omega) (by omega)])
    have nps : vPs (nI (pm m)) (nI (pm m)) (rg pP N) (rg pD N) (D 42) := by
      refine ⟨pm m, by omega, rfl, rfl, fun k hk => ?_⟩
      obtain ⟨b', hb', h137', v⟩ := hps k (by omega)
      have : b' = bk k := by
        have := hbk k hk
        rw [hb'] at this
        exact Option.some.inj this
      subst this
      have hs := sl42 (D43 := D 43) (D31 := D 31) (show k < 40 by omega) hb'
      have dk : ∀ i, i < 5 → N (bk k + i) = M (bk k + i) := fun i hi => dyn k (bk k) i (by omega) hs (by rw [n42 (show k < 40 by omega)]; omega) (fun _ => by omega) (fun h => by omega)
      have d0 := dk 0 (by omega)
      rw [Nat.add_zero] at d0
      have d5 : ∀ i, i < 19 → N (bk k + 5) i = M (b + 6) (19 * k + i) := fun i hi => by rw [rN _ (by omega) (by omega) (by omega) (by omega) (by omega) (by omega) (by omega)]; exact g9 k i hk hi
      refine ⟨bk k, hb', h137', ?_⟩
      rw [rgD_at h137', rgD_at (by omega), rgD_at (by omega), rgD_at (by omega), rgD_at (by omega), rgD_at (by omega), d0, dk 1 (by omega), dk 2 (by omega), dk 3 (by omega), dk 4 (by omega)]
      rw [rgD_at h137', rgD_at (by omega), rgD_at (by omega), rgD_at (by omega), rgD_at (by omega), rgD_at (by omega)] at v
      obtain ⟨t1, t2, t3, t4, t5, t6, t7, t8, t9, t10, t11, t12, s, es, vq⟩ := vP1_J v
      obtain ⟨x1, x2, x3, x, hx, x4, x5⟩ := v6 k hk
      rw [hJ 134 (by omega) (by omega)] at x2
      rw [hJ 135 (by omega) (by omega)] at x4
      have rr : ∀ a, 96 ≤ a → a ≤ 111 → a ≠ 102 → a ≠ 106 → N a = M a := fun a y1 y2 y3 y4 => rNl a (by omega) (by omega) (by omega) (by omega) (by omega) (by omega) (by omega) (by omega) (by omega) (by omega) (by omega)
      have n102 : N 102 k = nI x := by rw [(z8 k (by omega)).2, rJ 135 (by omega) (by omega) (by omega) (by omega) (by omega)]; exact x4
      have n106 : N 106 k = M (b + 6) (19 * k + 17) := by rw [(z8 k (by omega)).1, rJ 134 (by omega) (by omega) (by omega) (by omega) (by omega)]; exact x2
      apply vP1_J'
      unfold vP1
      rw [rr 96 (by omega) (by omega) (by omega) (by omega), rr 97 (by omega) (by omega) (by omega) (by omega), rr 98 (by omega) (by omega) (by omega) (by omega), rr 99 (by omega) (by omega) (by omega) (by omega), rr 100 (by omega) (by omega) (by omega) (by omega), rr 101 (by omega) (by omega) (by omega) (by omega), rr 103 (by omega) (by omega) (by omega) (by omega), rr 104 (by omega) (by omega) (by omega) (by omega), rr 105 (by omega) (by omega) (by omega) (by omega), rr 107 (by omega) (by omega) (by omega) (by omega), rr 108 (by omega) (by omega) (by omega) (by omega), n102, n106, d5 18 (by omega), d5 17 (by omega)]
      refine ⟨t1, t2, t3, t4, t5, t6, ⟨x, hx, rfl, x5⟩, t8, t9, t10, ⟨rfl, x3⟩, t12, s, es, fun q hq => ?_⟩
      have vv := vq q hq
      obtain ⟨y1, y2, y3⟩ := x1 q hq
      rw [hJ 132 (by omega) (by omega)] at y1
      rw [hJ 133 (by omega) (by omega)] at y3
      unfold vP2 at vv ⊢
      rw [rr 109 (by omega) (by omega) (by omega) (by omega), rr 110 (by omega) (by omega) (by omega) (by omega), rr 111 (by omega) (by omega) (by omega) (by omega), (z7 _ (by omega)).1, (z7 _ (by omega)).2, rJ 132 (by omega) (by omega) (by omega) (by omega) (by omega), rJ 133 (by omega) (by omega) (by omega) (by omega) (by omega), y1, y3, bI_b01, d5 q (by omega), d5 16 (by omega)]
      exact ⟨vv.1, vv.2.1, rfl, y2, rfl, vv.2.2.2.2.2⟩
    have nho : vHo (M 1 5) (M 30 6) (M 66 81) (rg pH M) (rg pD N) (D 31) := by
      obtain ⟨mm, hm6, e0, e66, hp⟩ := h14
      refine ⟨mm, hm6, e0, e66, fun k hk => ?_⟩
      obtain ⟨b', hb', h137', v⟩ := hp k hk
      have d0 := dyn (44 + k) b' 0 (by omega) (sl31 hb') (by rw [n31]; omega) (fun h => by omega) (fun x y => by omega)
      rw [Nat.add_zero] at d0
      refine ⟨b', hb', h137', ?_⟩
      rw [rgD_at h137', d0]
      rw [rgD_at h137'] at v
      exact v
    have nmk : vMk (n + 1) (nI l) (nI l) (nI (pm m)) (M 1 5) (rg pM N) (rg pD N) (D 43) := by
      refine ⟨l, by omega, rfl, rfl, pm m, by omega, rfl, fun j => if ld j ≤ ld m then ld j else 0, pm, fun j hj => ?_, fun j j' hj hj' x1 x2 => ?_⟩
      · obtain ⟨x1, x2, x3, x4⟩ := hmk j hj
        refine ⟨by rw [rgM_at (by omega) (by omega)]; exact z9 j hj, ?_, fun hnn => ?_, fun bj hbj => ?_⟩
        · show (if ld j ≤ ld m then ld j else 0) ≤ l
          split <;> omega
        · show (if ld j ≤ ld m then ld j else 0) = 0
          rw [x3 hnn]; split <;> rfl
        · obtain ⟨y1, y2, y3⟩ := x4 bj hbj
          have hs := sl43 (D42 := D 42) (D31 := D 31) hj hbj
          have dj : ∀ i, 0 < i → i < 7 → N (bj + i) = M (bj + i) := fun i i1 i2 => dyn (40 + j) bj i (by omega) hs (by rw [n43 hj]; omega) (fun h => by omega) (fun _ _ => by omega)
          have nb : N bj = M1 bj := rN bj (by omega) (by omega) (by omega) (by omega) (by omega) (by omega) (by omega)
          refine ⟨y1, by rw [rgD_at y1, nb]; exact g11 j bj hj hbj, fun hz => ?_⟩
          have hle : ld j ≤ ld m := by
            apply Classical.byContradiction
            intro hc
            simp only [if_neg hc] at hz
            exact hz rfl
          simp only [if_pos hle] at hz
          obtain ⟨p1, p2, p3⟩ := y3 hz
          refine ⟨hord j m hj hmm hz hle, ?_, ?_⟩
          · rw [rgD_at y1] at p2 ⊢
            rw [nb, g10 j bj 3 hj hbj (by omega)]
            exact p2
          · rw [rgD_at y1, rgD_at (by omega), rgD_at (by omega), rgD_at (by omega), rgD_at (by omega), rgD_at (by omega)] at p3 ⊢
            rw [dj 2 (by omega) (by omega), dj 3 (by omega) (by omega), dj 4 (by omega) (by omega), dj 5 (by omega) (by omega), dj 6 (by omega) (by omega)]
            have same : ∀ a, 128 ≤ a → a ≤ 135 → rg pM N a = rg pM M a := fun a i1 i2 => by
              rw [rgM_at (by omega) (by omega), rgM_at (by omega) (by omega)]
              exact rNl a (by omega) (by omega) (by omega) (by omega) (by omega) (by omega) (by omega) (by omega) (by omega) (by omega) (by omega)
            have p3' : vM1 j (pm j) (M bj) (M (bj + 2)) (M (bj + 3)) (M (bj + 4)) (M (bj + 5)) (M (bj + 6)) (rg pM N) := vM1_J (fun p hp => by rw [same 128 (by omega) (by omega)]) (fun i hi => by rw [same 129 (by omega) (by omega)]) (by rw [same 130 (by omega) (by omega)]) (by rw [same 131 (by omega) (by omega)]) (fun i hi => by rw [same 132 (by omega) (by omega), same 133 (by omega) (by omega)]; exact ⟨rfl, rfl⟩) (fun i hi => by rw [same 134 (by omega) (by omega), same 135 (by omega) (by omega)]; exact ⟨rfl, rfl⟩) (by omega) p3
            unfold vM1 at p3' ⊢
            rw [nb, g10 j bj 3 hj hbj (by omega), g10 j bj 4 hj hbj (by omega), g10 j bj 5 hj hbj (by omega)]
            exact p3'
      · have x1' : (if ld j ≤ ld m then ld j else 0) ≠ 0 := x1
        have x2' : (if ld j ≤ ld m then ld j else 0) ≤ (if ld j' ≤ ld m then ld j' else 0) := x2
        by_cases c : ld j ≤ ld m
        · rw [if_pos c] at x1' x2'
          by_cases c' : ld j' ≤ ld m
          · rw [if_pos c'] at x2'
            exact hord j j' hj hj' x1' x2'
          · rw [if_neg c'] at x2'
            omega
        · rw [if_neg c] at x1'
          exact absurd rfl x1'
    have n1 : ∀ k, k ≠ 8 → k ≠ 9 → N 1 k = M 1 k := fun k x1 x2 => by rw [rN 1 (by omega) (by omega) (by omega) (by omega) (by omega) (by omega) (by omega)]; exact g5 k x1 x2
    have n18 : N 1 8 = nI dn := by rw [rN 1 (by omega) (by omega) (by omega) (by omega) (by omega) (by omega) (by omega)]; exact g6
    have n19 : N 1 9 = M 1 9 + nI 1 := by rw [rN 1 (by omega) (by omega) (by omega) (by omega) (by omega) (by omega) (by omega)]; exact g7
    have n0 : N 0 12 = nI (pm m) := by rw [rN 0 (by omega) (by omega) (by omega) (by omega) (by omega) (by omega) (by omega)]; exact g4
    have n013 : N 0 13 = nI l := by rw [rN 0 (by omega) (by omega) (by omega) (by omega) (by omega) (by omega) (by omega), g3 13 (by omega)]; exact k0
    have n8 : ∀ a, 8 ≤ a → a ≤ 11 → N a = M1 a := fun a x1 x2 => rN a (by omega) (by omega) (by omega) (by omega) (by omega) (by omega) (by omega)
    have nx : ∀ a, a < 102 → a ≠ 0 → a ≠ 1 → (a < 8 ∨ 11 < a) → a ≠ 66 → a ≠ 68 → N a = M a := fun a x1 x2 x3 x4 x5 x6 => rNl a (by omega) x2 x3 x4 x5 x6 (by omega) (by omega) (by omega) (by omega) (by omega)
    have hc := vChg_up h11 (by omega)
    have o1 : vC1 (M 20) (M 28) (M 29) (M 1 9 + nI 1) (rg pE N) := vC1_vac h11 (by omega)
    have o2 : vC2 (M 30) (M 1 9 + nI 1) (rg pE N) (rg pH M) (M 66 81) := vC2_vac h11 (by omega)
    have o3 : vC3 (M 33) (M 1 9 + nI 1) (rg pE N) (M 73) (M 67) := vC3_vac h11 (by omega)
    have w1' := vTw_of (t := M 1 5) hrep hrle hrsum
    have w2' : vHd (M1 8) (M1 9) (M1 10) (M1 11) (hN (N 68)) := vHd_cong (fun p q hp hq => hN_of hrep hrle hp hq) g8
    unfold Inv
    rw [gE, gH, n0, n013, n6652, n668, n18, n19, n1 5 (by omega) (by omega), n1 6 (by omega) (by omega), n1 7 (by omega) (by omega), n8 8 (by omega) (by omega), n8 9 (by omega) (by omega), n8 10 (by omega) (by omega), n8 11 (by omega) (by omega), rN66 9 (by omega) (by omega) (by omega), rN66 81 (by omega) (by omega) (by omega), rN66 88 (by omega) (by omega) (by omega), k66, nx 2 (by omega) (by omega) (by omega) (by omega) (by omega) (by omega), nx 3 (by omega) (by omega) (by omega) (by omega) (by omega) (by omega), nx 4 (by omega) (by omega) (by omega) (by omega) (by omega) (by omega), nx 5 (by omega) (by omega) (by omega) (by omega) (by omega) (by omega), nx 6 (by omega) (by omega) (by omega) (by omega) (by omega) (by omega), nx 12 (by omega) (by omega) (by omega) (by omega) (by omega) (by omega), nx 13 (by omega) (by omega) (by omega) (by omega) (by omega) (by omega), nx 20 (by omega) (by omega) (by omega) (by omega) (by omega) (by omega), nx 28 (by omega) (by omega) (by omega) (by omega) (by omega) (by omega), nx 29 (by omega) (by omega) (by omega) (by omega) (by omega) (by omega), nx 30 (by omega) (by omega) (by omega) (by omega) (by omega) (by omega), nx 33 (by omega) (by omega) (by omega) (by omega) (by omega) (by omega), nx 67 (by omega) (by omega) (by omega) (by omega) (by omega) (by omega), nx 69 (by omega) (by omega) (by omega) (by omega) (by omega) (by omega), nx 70 (by omega) (by omega) (by omega) (by omega) (by omega) (by omega), nx 71 (by omega) (by omega) (by omega) (by omega) (by omega) (by omega), nx 72 (by omega) (by omega) (by omega) (by omega) (by omega) (by omega), nx 73 (by omega) (by omega) (by omega) (by omega) (by omega) (by omega), nx 74 (by omega) (by omega) (by omega) (by omega) (by omega) (by omega)]
    exact ⟨h1, w1', w2', h4, h5, h6, h7, h8, ⟨rfl, dn, hdn, rfl⟩, h10, hc, h12, nps, nho, nmk, vOb_n h16, o1, o2, o3⟩
