theorem skR_rc {M : JI} {ln : Nat} {E : Nat → (Nat → Int32) → Int32} {h : Nat → Nat → Nat} {sm : Int32} {p o f g ec a b : Nat} (ha : a ≤ 12) (hb : b ≤ 12) : (skR M ln E h sm p o f g ec a b).1 = none ↔ ¬ ∃ e, e < 13 ∧ RC (UU M ln E h sm p o f g ec) (13 * a + b) e := by
  have hm : bm (bst (13 * a + b)) (13 * a + b) = true := by
    show decide (13 * a + b = 13 * a + b) = true
    simp
  obtain ⟨h1, h2⟩ := brun_rc (U := UU M ln E h sm p o f g ec) (st := 13 * a + b) 170 0 (by omega) (bst (13 * a + b)) (bst_ok ha hb) hm (fun x hx => by
    have hx' : decide (x = 13 * a + b) = true := hx
    have : x = 13 * a + b := by simpa using hx'
    rw [this]; exact RC_st _ _) (Nat.zero_le _) (fun j hj => absurd hj (by omega))
  refine ⟨h1, fun hn => ?_⟩
  cases e : (skR M ln E h sm p o f g ec a b).1 with
  | none => rfl
  | some x => exact absurd ⟨x, h2 x e⟩ hn
theorem mb_inv {n : Nat} {M : JI} {L : JL} {D : JG} {S : JS} (h : Inv n M L D S) {X ln : Nat} (d5 : D 15 5 = some X) (e18 : M 66 18 = nI ln) (hln : ln ≤ 18) : M X 14 = nI (fb_ct (lwMb M) ln) ∧ fb_ct (lwMb M) ln ≤ 6 ∧ ∀ i, i < ln → M 76 i = nI 0 ∨ M 76 i = nI 1 := by
  obtain ⟨h1, h2, h3, h4, h5, h6, h7, h8, h9, h10, h11, h12, h13, h14, h15, h16, h17, h18, h19⟩ := h
  obtain ⟨X', Y, y1, y2, y3, hXY, ln', hl, a1, a2, a3, a4, a5, a6, a7, a8, a9⟩ := h12
  rw [d5] at y3
  have hX : X = X' := by simpa using y3
  subst hX
  have c18 : rg pL M 66 18 = M 66 18 := rgL_c (by decide)
  rw [c18, e18] at a1
  have : ln = ln' := (nI_eq (by omega) (by omega)).mp a1
  subst this
  have hm : ∀ i, i < ln → rg pL M 76 i = M 76 i := fun i hi => rgL_c (by unfold pL; simp; omega)
  have emb : fb_ct (lwMb (rg pL M)) ln = fb_ct (lwMb M) ln := fb_ct_cong (fun k hk => by unfold lwMb; rw [hm k hk])
  rw [emb] at a3 a5
  rw [rgL_row (by omega)] at a5
  refine ⟨a5, a3, fun i hi => ?_⟩
  have := (a9 i hi).2.1
  rw [hm i hi] at this
  exact this
theorem sh_mb : ∀ mb, mb ≤ 6 → (1 : Int32) <<< (nI mb &&& 31) = nI (2 ^ mb) := by decide +kernel
theorem p2_64 : ∀ mb, mb ≤ 6 → 2 ^ mb ≤ 64 := by decide
theorem mnd_59 {n : Nat} {M : JI} {L : JL} {D : JG} {S : JS} (h : Inv n M L D S) {p f g ec : Nat} (hp : p < 12) (hf : f < 16) (hg : g < 16) (hne : f ≠ g) (hpos : 1 ≤ hN (M 68) p f) : ∃ I' L' D', fX6_find_59 (nI p) (nI f) (nI g) (nI ec) M L D S = some (I' 30 11, I', L', D') ∧ (∀ c, (c < 16 ∨ c = 19 ∨ c = 21 ∨ (29 < c ∧ c ≠ 30)) → I' c = M c) ∧ I' 20 19 = -nI 1 ∧ I' 30 6 = M 30 6 ∧ I' 30 12 = M 1 9 ∧ (I' 30 7 = nI p ∧ I' 30 8 = nI f ∧ I' 30 9 = nI g ∧ I' 30 10 = nI ec) ∧ dS D D' ∧ MP L L' ∧ cMend (I' 30) (rg pE M) (rg pH M) (M 66 81) := by
  obtain ⟨X, ln, E, x1, d5, W⟩ := wb_inv h
  obtain ⟨mh, e6, e81, hH⟩ := hd_inv h
  obtain ⟨m14, m6, m76⟩ := mb_inv h d5 W.1.2.2.1 W.1.2.1
  obtain ⟨h1, h2, h3, h4, h5, h6, h7, h8, h9, h10, h11, h12, h13, h14, h15, h16, h17, h18, h19⟩ := h
  have H := hb_inv h2 hp hf hg hne
  generalize ho : fa_first (othP (hN (M 68)) p f) 12 = o at H
  generalize hbb : (if o < 12 then hN (M 68) o f else 0) = b at H
  have a12 : hN (M 68) p f ≤ 12 := (h2.1 p f hp hf).2
  have b12 : b ≤ 12 := by
    rw [← hbb]; split
    · exact (h2.1 o f (by assumption) hf).2
    · omega
  generalize hI0 : j_up (j_up (j_up (j_up M 30 7 (nI p)) 30 8 (nI f)) 30 9 (nI g)) 30 10 (nI ec) = I0
  have r0 : ∀ c, c ≠ 30 → I0 c = M c := fun c hc => by rw [← hI0, ju_row _ _ hc, ju_row _ _ hc, ju_row _ _ hc, ju_row _ _ hc]
  have k7 : I0 30 7 = nI p := by rw [← hI0, ju_cell _ _ (by omega), ju_cell _ _ (by omega), ju_cell _ _ (by omega), ju_same]
  have k8 : I0 30 8 = nI f := by rw [← hI0, ju_cell _ _ (by omega), ju_cell _ _ (by omega), ju_same]
  have k9 : I0 30 9 = nI g := by rw [← hI0, ju_cell _ _ (by omega), ju_same]
  have k10 : I0 30 10 = nI ec := by rw [← hI0, ju_same]
  have k6 : I0 30 6 = nI mh := by rw [← hI0, ju_cell _ _ (by omega), ju_cell _ _ (by omega), ju_cell _ _ (by omega), ju_cell _ _ (by omega)]; exact e6
  have hk0 : kS M I0 := fun c hc => r0 c (by omega)
  obtain ⟨sets, I1, D1, a1, a2, a3, a4⟩ := chs_eq (mb := fb_ct (lwMb M) ln) W H.2.1 hH h1 hk0 (by rw [r0 8 (by omega), r0 9 (by omega), r0 10 (by omega), r0 11 (by omega)]; exact h3) k6 d5 m14 m6
  have g1 : ∀ c, c ≠ 16 → c ≠ 17 → c ≠ 18 → I1 c = I0 c := a2
  obtain ⟨sly, I2, L2, D2, b1, b2, b3, b4, b5, b6⟩ := mss_eq (ec := ec) (I := I1) (D := D1) W H ho.symm hpos (fun c hc => by rw [g1 c (by omega) (by omega) (by omega)]; exact hk0 c hc) (by rw [g1 8 (by omega) (by omega) (by omega), g1 9 (by omega) (by omega) (by omega), g1 10 (by omega) (by omega) (by omega), g1 11 (by omega) (by omega) (by omega), r0 8 (by omega), r0 9 (by omega), r0 10 (by omega), r0 11 (by omega)]; exact h3) (by rw [a3.2 5 (by omega) (by omega)]; exact d5) (by rw [g1 30 (by omega) (by omega) (by omega)]; exact k7) (by rw [g1 30 (by omega) (by omega) (by omega)]; exact k8) (by rw [g1 30 (by omega) (by omega) (by omega)]; exact k9) (by rw [g1 30 (by omega) (by omega) (by omega)]; exact k10) sets
  obtain ⟨v, v1, v2⟩ := lst_eq (sets &&& (sly ^^^ (-1 : Int64)))
  have r2 : ∀ c, (c < 16 ∨ c = 19 ∨ c = 21 ∨ (29 < c ∧ c ≠ 30)) → I2 c = M c := fun c hc => by rw [b2 c (by omega), g1 c (by omega) (by omega) (by omega), r0 c (by omega)]
  have r30 : I2 30 = I0 30 := by rw [b2 30 (by omega), g1 30 (by omega) (by omega) (by omega)]
  refine ⟨j_up (j_up I2 30 11 v) 30 12 (M 1 9), L2, D2, ?_, fun c hc => ?_, ?_, ?_, ju_same _ _ _ _, ⟨?_, ?_, ?_, ?_⟩, dS_tr a3 b4, b5, ?_⟩
  · unfold fX6_find_59
    rw [hI0, a1, Option.bind_some, b1, Option.bind_some, v1, Option.bind_some]
    dsimp only
    rw [ju_row _ _ (show (1 : Nat) ≠ 30 by omega), r2 1 (by omega)]
  · rw [ju_row _ _ (by omega), ju_row _ _ (by omega)]; exact r2 c hc
  · rw [ju_row _ _ (by omega), ju_row _ _ (by omega)]; exact b3
  · rw [ju_cell _ _ (by omega), ju_cell _ _ (by omega), r30, k6, e6]
  · rw [ju_cell _ _ (by omega), ju_cell _ _ (by omega), r30, k7]
  · rw [ju_cell _ _ (by omega), ju_cell _ _ (by omega), r30, k8]
  · rw [ju_cell _ _ (by omega), ju_cell _ _ (by omega), r30, k9]
  · rw [ju_cell _ _ (by omega), ju_cell _ _ (by omega), r30, k10]
  · intro N hNE hNH h81
    obtain ⟨n1, n2⟩ := nS_of hNE
    have hDR : DR M N := by
      refine ⟨n1, n2, fun a h1 h2 => funext fun k => ?_, h81⟩
      have := congrFun (congrFun hNH a) k
      have hpH : pH a k = true := by unfold pH; simp; omega
      rwa [rg_in hpH, rg_in hpH] at this
    have hq : fX12_maybes N = some (nI (fb_ct (lwMb M) ln)) := by
      have := mb_eq (M := N) (ln := ln) (by have := W.1.2.1; omega) (by rw [n1.2.1]; exact W.1.2.2.1) (fun i hi => by rw [n1.1 76 i (by have := W.1.2.1; omega)]; exact m76 i hi)
      have hct : fb_ct (lwMb N) ln = fb_ct (lwMb M) ln := fb_ct_cong (fun k hk => by unfold lwMb; rw [n1.1 76 k (by have := W.1.2.1; omega)])
      rw [this, hct]
    have hal := p2_64 _ m6
    obtain ⟨w, w0, N', q1, q2, q3, q4, q5⟩ := mnd_40 (ec := ec) W H ho.symm (tw_rep h2) hH e81 hal 7 0 (by omega) 100000 (by omega) N hDR (fun x hx hpx => absurd hpx (by omega))
    have hQ : ∀ x, x < 64 → (bL (sets &&& (sly ^^^ (-1 : Int64))) x = true ↔ x < 2 ^ fb_ct (lwMb M) ln ∧ QM M ln E (hN (M 68)) p o f g ec (hN (M 68) p f) b mh x) := by
      intro x hx
      rw [bL_an _ _ hx, Bool.and_eq_true, Bool.not_eq_true']
      unfold QM
      rw [skR_rc a12 b12]
      constructor
      · rintro ⟨z1, z2⟩
        obtain ⟨z3, z4⟩ := (a4 x hx).mp z1
        refine ⟨z3, z4, fun he => ?_⟩
        rw [(b6 x hx z1).mpr he] at z2
        exact absurd z2 (by simp)
      · rintro ⟨z1, z2, z3⟩
        have zs := (a4 x hx).mpr ⟨z1, z2⟩
        refine ⟨zs, ?_⟩
        cases e : bL sly x with
        | false => rfl
        | true => exact absurd ((b6 x hx zs).mp e) z3
    have hv : LBP (QM M ln E (hN (M 68)) p o f g ec (hN (M 68) p f) b mh) (2 ^ fb_ct (lwMb M) ln) v := by
      rcases v2 with ⟨z1, z2⟩ | ⟨m, z1, z2, z3, z4⟩
      · refine Or.inl ⟨z1, fun x hx hq => ?_⟩
        have := z2 x (by omega)
        rw [(hQ x (by omega)).mpr ⟨hx, hq⟩] at this
        exact absurd this (by simp)
      · obtain ⟨y1, y2⟩ := (hQ m z1).mp z3
        exact Or.inr ⟨m, y1, z2, y2, fun x hx hq => z4 x (by omega) ((hQ x (by omega)).mpr ⟨hx, hq⟩)⟩
    have hvw := LBP_uni hal hv q2
    have e11 : (j_up (j_up I2 30 11 v) 30 12 (M 1 9)) 30 11 = w := by rw [ju_cell _ _ (by omega), ju_same, hvw]
    rw [e11]
    refine ⟨nI (fb_ct (lwMb M) ln), N', w0, hq, q1, q3, fun hw => ?_, fun l5 => ?_⟩
    · rcases q2 with ⟨z1, -⟩ | ⟨m, z1, z2, -⟩
      · exact absurd z1 hw
      · rw [z2, q4 m z1 z2]
        exact bc_n (by omega)
    · rw [ju_cell _ _ (by omega), ju_cell _ _ (by omega), ju_cell _ _ (by omega), ju_cell _ _ (by omega), ju_cell _ _ (by omega), ju_cell _ _ (by omega), ju_cell _ _ (by omega), ju_cell _ _ (by omega), r30, k7, k8, k9, k10, sh_mb _ m6]
      exact q5 l5
theorem mf_cases (l1 l2 l3 l4 : Int32) (I : JI) (L : JL) (D : JG) (S : JS) : ((I 30 7 = l1 ∧ I 30 8 = l2 ∧ I 30 9 = l3 ∧ I 30 10 = l4 ∧ I 30 12 = I 1 9) ∧ fX6_find l1 l2 l3 l4 I L D S = some (I 30 11, I, L, D)) ∨ fX6_find l1 l2 l3 l4 I L D S = fX6_find_59 l1 l2 l3 l4 I L D S := by
  unfold fX6_find fX6_find_38
  by_cases c1 : I 30 7 = l1
  · rw [if_pos c1]
    by_cases c2 : I 30 8 = l2
    · rw [if_pos c2]
      by_cases c3 : I 30 9 = l3
      · rw [if_pos c3]
        by_cases c4 : I 30 10 = l4
        · rw [if_pos c4, if_neg (by decide)]
          by_cases c5 : I 30 12 = I 1 9
          · rw [if_pos c5]; exact Or.inl ⟨⟨c1, c2, c3, c4, c5⟩, rfl⟩
          · rw [if_neg c5]; exact Or.inr rfl
        · rw [if_neg c4, if_pos rfl]; exact Or.inr rfl
      · rw [if_neg c3, if_pos rfl]; exact Or.inr rfl
    · rw [if_neg c2, if_pos rfl]; exact Or.inr rfl
  · rw [if_neg c1, if_pos rfl]; exact Or.inr rfl
/-- mended, class side, with what is so behind it -/
theorem mfd_eq {n : Nat} {M : JI} {L : JL} {D : JG} {S : JS} (h : Inv n M L D S) (hn : n < 4096) {p f g ec : Nat} (hp : p < 12) (hf : f < 16) (hg : g < 16) (hne : f ≠ g) (hpos : 1 ≤ hN (M 68) p f) : ∃ I' L' D', fX6_find (nI p) (nI f) (nI g) (nI ec) M L D S = some (I' 30 11, I', L', D') ∧ (I' 30 7 = nI p ∧ I' 30 8 = nI f ∧ I' 30 9 = nI g ∧ I' 30 10 = nI ec) ∧ cMend (I' 30) (rg pE M) (rg pH M) (M 66 81) ∧ (∀ c, (c < 14 ∨ 43 < c) → I' c = M c) ∧ ∀ N' : JI, xSm (j_up I' 66 0 (0 : Int32)) N' → Inv (n + 1) N' L' D' S := by
  have hh := h
  obtain ⟨h1, h2, h3, h4, h5, h6, h7, h8, h9, h10, h11, h12, h13, h14, h15, h16, h17, h18, h19⟩ := hh
  rcases mf_cases (nI p) (nI f) (nI g) (nI ec) M L D S with ⟨⟨c1, c2, c3, c4, c5⟩, e⟩ | e
  · refine ⟨M, L, D, e, ⟨c1, c2, c3, c4⟩, h18 c5, fun _ _ => rfl, fun N' hx => ?_⟩
    have r : ∀ c, (c < 86 ∨ (95 < c ∧ c < 114) ∨ 120 < c) → c ≠ 66 → N' c = M c := fun c h1 h2 => by rw [hx.1 c h1 h2, ju_row _ _ h2]
    refine inv_gen h (fun c h1 h2 => r c (by omega) h2) (fun k k0 hk => by rw [hx.2 k hk, ju_cell _ _ k0]) (by rw [r 30 (by omega) (by omega)]) rfl rfl rfl rfl rfl rfl rfl ?_ ?_ ?_ ?_
    · rw [r 20 (by omega) (by omega), r 30 (by omega) (by omega), r 33 (by omega) (by omega)]; exact vChg_n h11
    · rw [r 20 (by omega) (by omega), r 28 (by omega) (by omega), r 29 (by omega) (by omega)]; exact h17
    · rw [r 30 (by omega) (by omega)]; exact h18
    · rw [r 33 (by omega) (by omega)]; exact h19
  · obtain ⟨I', L', D', a1, a2, a3, a4, a5, a6, a7, a8, a9⟩ := mnd_59 (ec := ec) h hp hf hg hne hpos
    refine ⟨I', L', D', e.trans a1, a6, a9, fun c hc => a2 c (by omega), fun N' hx => ?_⟩
    have r : ∀ c, (c < 86 ∨ (95 < c ∧ c < 114) ∨ 120 < c) → c ≠ 66 → N' c = I' c := fun c h1 h2 => by rw [hx.1 c h1 h2, ju_row _ _ h2]
    obtain ⟨c, z1, z2, z3, z4, z5⟩ := vChg_n h11
    refine inv_gen h (fun c h1 h2 => by rw [r c (by omega) h2, a2 c (by omega)]) (fun k k0 hk => by rw [hx.2 k hk, ju_cell _ _ k0, a2 66 (by omega)]) (by rw [r 30 (by omega) (by omega)]; exact a4) (a7.1 42 (by omega)) (a7.1 43 (by omega)) (a7.1 31 (by omega)) (a7.1 0 (by omega)) (a7.2 5 (by omega) (by omega)) (a8 46 (by omega)) (a8 57 (by omega)) ?_ ?_ ?_ ?_
    · rw [r 20 (by omega) (by omega), r 30 (by omega) (by omega), r 33 (by omega) (by omega), a3, a5, a2 33 (by omega)]
      exact ⟨c, z1, z2, Or.inl rfl, Or.inr ⟨c, Nat.le_refl _, z2⟩, z5⟩
    · intro hc
      rw [r 20 (by omega) (by omega), a3, z2, nm_ne2 (by omega)] at hc
      exact absurd hc (by simp)
    · intro _
      rw [r 30 (by omega) (by omega)]
      exact a9
    · rw [r 33 (by omega) (by omega), a2 33 (by omega)]; exact h19
theorem op_mended {n : Nat} {M : JI} {L : JL} {D : JG} {S : JS} (h : Inv n M L D S) (hn : n < 4096) (x1 x2 x3 x4 x5 : Int32) : ∃ r M1 L1 D1 M2, fX11_mended x1 x2 x3 x4 x5 M L D S = some (r, M1, L1, D1) ∧ fX12_mended x1 x2 x3 x4 x5 M1 = some (r, M2) ∧ Inv (n + 1) M2 L1 D1 S := by
  have no : fX11_mended x1 x2 x3 x4 x5 M L D S = some (-nI 1, M, L, D) → fX12_mended x1 x2 x3 x4 x5 M = some (-nI 1, j_up M 66 0 (nI 0)) → ∃ r M1 L1 D1 M2, fX11_mended x1 x2 x3 x4 x5 M L D S = some (r, M1, L1, D1) ∧ fX12_mended x1 x2 x3 x4 x5 M1 = some (r, M2) ∧ Inv (n + 1) M2 L1 D1 S := fun a b => ⟨_, _, _, _, _, a, b, inv_thr h _⟩
  rcases cgr_cases h x1 x2 x3 x4 with ⟨a1, a2⟩ | ⟨p, f, g, ec, hp, hf, hg, hne, hec, hpos, rfl, rfl, rfl, rfl, a1, a2⟩
  · refine no ?_ ?_
    · unfold fX11_mended
      rw [a1]; rfl
    · unfold fX12_mended
      rw [a2 _ (ju_row _ _ (by omega)) (ju_row _ _ (by omega))]; rfl
  · have a2' := a2 (j_up M 66 0 (0 : Int32)) (ju_row _ _ (by omega)) (ju_row _ _ (by omega))
    rcases wi_cases x5 0 1 (by omega) (by omega) with ⟨w1, w2⟩ | ⟨w, e1, e2, rfl, w1⟩
    · have w1' : fX12_within x5 (0 : Int32) (1 : Int32) = some (nI 0) := w1
      refine no ?_ ?_
      · unfold fX11_mended
        rw [a1, Option.bind_some, if_neg (by decide)]
        rcases w2 with w2 | ⟨w2, w3⟩
        · have w2' : x5 < (0 : Int32) := w2
          rw [if_pos w2']; rfl
        · have w2' : ¬ x5 < (0 : Int32) := w2
          have w3' : ¬ x5 ≤ (1 : Int32) := by
            intro hle
            have w3'' : (1 : Int32) < x5 := w3
            rw [fa_le] at hle
            rw [fa_lt] at w3''
            omega
          rw [if_neg w2', if_neg w3']; rfl
      · unfold fX12_mended
        rw [a2', Option.bind_some, if_neg (by decide), w1']; rfl
    · have w1' : fX12_within (nI w) (0 : Int32) (1 : Int32) = some (nI 1) := w1
      obtain ⟨I', L', D', b1, ⟨k1, k2, k3, k4⟩, b3, b4, b5⟩ := mfd_eq (ec := ec) h hn hp hf hg hne hpos
      have hrg : rg pE (j_up I' 66 0 (0 : Int32)) = rg pE M := by
        rw [rE_up (by omega)]
        exact rg_cong (fun a k hp => by unfold pE at hp; simp at hp; rw [b4 a (by omega)])
      have hrh : rg pH (j_up I' 66 0 (0 : Int32)) = rg pH M := by
        rw [rH_up (by omega)]
        exact rg_cong (fun a k hp => by unfold pH at hp; simp at hp; rw [b4 a (by omega)])
      obtain ⟨q, N', v0, c1, c2, c3, c4, c5⟩ := b3 _ hrg hrh (by rw [ju_cell _ _ (by omega), b4 66 (by omega)])
      rw [k1, k2, k3, k4] at c5
      refine ⟨if nI w = 0 then v0 else I' 30 11, I', L', D', N', ?_, ?_, b5 N' c2⟩
      · unfold fX11_mended
        have z1 : ¬ nI w < (0 : Int32) := nI_pos (by omega)
        have z2 : nI w ≤ (1 : Int32) := nI_le (b := 1) e2 (by omega)
        rw [a1, Option.bind_some, if_neg (by decide), if_neg z1, if_pos z2, b1, Option.bind_some]
        dsimp only
        have hw : w = 0 ∨ w = 1 := by omega
        by_cases cv : I' 30 11 = -nI 1
        · have cv' : I' 30 11 = (-1 : Int32) := cv
          rw [if_pos cv']
          rcases hw with rfl | rfl
          · rw [if_pos (show nI 0 = (0 : Int32) from rfl), c3 cv, cv]
          · rw [if_neg (show ¬ nI 1 = (0 : Int32) by decide)]
        · have cv' : ¬ I' 30 11 = (-1 : Int32) := cv
          rw [if_neg cv']
          rcases hw with rfl | rfl
          · rw [if_pos (show nI 0 = (0 : Int32) from rfl), if_neg (show ¬ nI 0 = (1 : Int32) by decide), c4 cv]; rfl
          · rw [if_neg (show ¬ nI 1 = (0 : Int32) by decide), if_pos (show nI 1 = (1 : Int32) from rfl)]
      · unfold fX12_mended
        rw [a2 _ (by rw [ju_row _ _ (by omega), b4 67 (by omega)]) (by rw [ju_row _ _ (by omega), b4 68 (by omega)]), Option.bind_some, if_neg (by decide), w1', Option.bind_some, if_neg (by decide), c1, Option.bind_some]
        exact c5 (nI w)
