/-! ===== would ===== -/
theorem wi_cases (x : Int32) (a b : Nat) (hab : a ≤ b) (hb : b < 2 ^ 30) : (fX12_within x (nI a) (nI b) = some (nI 0) ∧ (x < nI a ∨ (¬ x < nI a ∧ nI b < x))) ∨ ∃ v, a ≤ v ∧ v ≤ b ∧ x = nI v ∧ fX12_within x (nI a) (nI b) = some (nI 1) := by
  unfold fX12_within
  by_cases c1 : x < nI a
  · exact Or.inl ⟨by rw [if_pos c1]; rfl, Or.inl c1⟩
  · by_cases c2 : nI b < x
    · exact Or.inl ⟨by rw [if_neg c1, if_pos c2]; rfl, Or.inr ⟨c1, c2⟩⟩
    · right
      obtain ⟨j, hj, rfl⟩ := nI_of (x := x) (by
        rw [fa_lt] at c1 ⊢
        rw [nI_toInt (by omega)] at c1
        have : (0 : Int32).toInt = 0 := by decide
        omega)
      rw [nI_ltI hj (by omega)] at c1
      rw [nI_ltI (by omega) hj] at c2
      refine ⟨j, by omega, by omega, rfl, ?_⟩
      rw [if_neg (nI_nlt (by omega) (by omega)), if_neg (nI_nlt (by omega) (by omega))]; rfl
/-- whether it is a passing at all: both sides -/
theorem snd_cases {t : Int32} {r67 : Nat → Int32} (h1 : vTold t r67) (x1 x2 x3 x4 x5 x6 x7 : Int32) : ((∀ (M : JI) (dq : Nat), M 1 5 = t → M dq 0 = x1 → M dq 1 = x2 → M dq 2 = x3 → M dq 3 = x4 → M dq 4 = x5 → M dq 5 = x6 → M dq 6 = x7 → fX0_isSound dq M = some (nI 0)) ∧ ∀ N : JI, N 67 = r67 → fX12_isPassing x1 x2 x3 x4 x5 x6 x7 N = some (nI 0)) ∨
    ∃ p f g n fm pr pd, p < 12 ∧ f < 16 ∧ g < 16 ∧ f ≠ g ∧ 1 ≤ n ∧ n ≤ 12 ∧ fm < 3 ∧ pr ≤ 9999 ∧ pd ≤ 9999 ∧ (fm = 1 → pr = 0 ∧ pd = 0) ∧ bt t p = true ∧ x1 = nI p ∧ x2 = nI f ∧ x3 = nI g ∧ x4 = nI n ∧ x5 = nI fm ∧ x6 = nI pr ∧ x7 = nI pd ∧ (∀ (M : JI) (dq : Nat), M 1 5 = t → M dq 0 = x1 → M dq 1 = x2 → M dq 2 = x3 → M dq 3 = x4 → M dq 4 = x5 → M dq 5 = x6 → M dq 6 = x7 → fX0_isSound dq M = some (nI 1)) ∧ ∀ N : JI, N 67 = r67 → fX12_isPassing x1 x2 x3 x4 x5 x6 x7 N = some (nI 1) := by
  have hPc : ∀ (N N' : JI), N 67 = r67 → N' 67 = r67 → fX12_isParcel x1 N = fX12_isParcel x1 N' := fun N N' e e' => isp_cong (by rw [e, e'])
  have hTc : ∀ (M M' : JI), M 1 5 = t → M' 1 5 = t → fX9_isTold x1 M = fX9_isTold x1 M' := fun M M' e e' => told_cong (by rw [e, e'])
  let Z : JI := jr (jr (fun _ _ => 0) 1 (fun _ => t)) 67 r67
  have z1 : Z 1 5 = t := by show (jr (jr (fun _ _ => 0) 1 (fun _ => t)) 67 r67) 1 5 = t; rw [jr_ne _ _ (by omega), jr_at]
  have z67 : Z 67 = r67 := jr_at _ _ _
  clear_value Z
  unfold fX0_isSound fX12_isPassing
  rcases tl_cases h1 z1 z67 x1 with ⟨a1, a2, -⟩ | ⟨p, hp, rfl, hb, a1, a2⟩
  · refine Or.inl ⟨fun M dq m e0 e1 e2 e3 e4 e5 e6 => ?_, fun N hN => ?_⟩
    · rw [e0, hTc M Z m z1, a1]; rfl
    · rw [hPc N Z hN z67, a2]; rfl
  · rcases two_cases x2 x3 with ⟨b1, b2⟩ | ⟨f, g, hf, hg, hne, rfl, rfl, b1, b2, b3, b4⟩
    · refine Or.inl ⟨fun M dq m e0 e1 e2 e3 e4 e5 e6 => ?_, fun N hN => ?_⟩
      · rw [e0, hTc M Z m z1, a1, e1, e2, b1]; rfl
      · rw [hPc N Z hN z67, a2]
        rcases b2 with b2 | ⟨b2, b3⟩ | ⟨b2, b3, b4⟩
        · rw [b2]; rfl
        · rw [b2, b3]; rfl
        · rw [b2, b3, Option.bind_some, if_neg (by decide), Option.bind_some, if_neg (by decide), Option.bind_some, if_neg (by decide), if_pos b4]; rfl
    · have pre1 : ∀ (M : JI) (dq : Nat) (K : Option Int32), M 1 5 = t → M dq 0 = nI p → M dq 1 = nI f → M dq 2 = nI g → (fX9_isTold (M dq 0) M).bind (fun q1 => if q1 = 0 then (some ((0 : Int32))) else ((fX11_areTwoPeople (M dq 1) (M dq 2)).bind (fun q2 => if q2 = 0 then (some ((0 : Int32))) else K))) = K := by
        intro M dq K m e0 e1 e2
        rw [e0, hTc M Z m z1, a1, Option.bind_some, if_neg (by decide), e1, e2, b1, Option.bind_some, if_neg (by decide)]
      have pre2 : ∀ (N : JI) (K : Option Int32), N 67 = r67 → (fX12_isParcel (nI p) N).bind (fun q1 => if q1 = 0 then (some ((0 : Int32))) else ((fX12_isPerson (nI f)).bind (fun q2 => if q2 = 0 then (some ((0 : Int32))) else ((fX12_isPerson (nI g)).bind (fun q3 => if q3 = 0 then (some ((0 : Int32))) else (if nI f = nI g then (some ((0 : Int32))) else K)))))) = K := by
        intro N K hN
        rw [hPc N Z hN z67, a2, Option.bind_some, if_neg (by decide), b2, Option.bind_some, if_neg (by decide), b3, Option.bind_some, if_neg (by decide), if_neg b4]
      rcases wi_cases x4 1 12 (by omega) (by omega) with ⟨c1, c2⟩ | ⟨n, hn1, hn2, rfl, c1⟩
      · refine Or.inl ⟨fun M dq m e0 e1 e2 e3 e4 e5 e6 => ?_, fun N hN => ?_⟩
        · rw [pre1 M dq _ m e0 e1 e2, e3]
          rcases c2 with c2 | ⟨c2, c3⟩
          · rw [if_pos (show x4 < (1 : Int32) from c2)]; rfl
          · rw [if_neg (show ¬ x4 < (1 : Int32) from c2), if_neg (show ¬ x4 ≤ (12 : Int32) by rw [Int32.not_le]; exact c3)]; rfl
        · have c1' : fX12_within x4 (1 : Int32) (12 : Int32) = some (nI 0) := c1
          rw [pre2 N _ hN, c1']; rfl
      · have g1 : ¬ nI n < (1 : Int32) := nI_nlt (b := 1) (by omega) (by omega)
        have g2 : nI n ≤ (12 : Int32) := nI_le (b := 12) (by omega) (by omega)
        have c1' : fX12_within (nI n) (1 : Int32) (12 : Int32) = some (nI 1) := c1
        rcases wi_cases x5 0 2 (by omega) (by omega) with ⟨d1, d2⟩ | ⟨fm, hm1, hm2, rfl, d1⟩
        · refine Or.inl ⟨fun M dq m e0 e1 e2 e3 e4 e5 e6 => ?_, fun N hN => ?_⟩
          · rw [pre1 M dq _ m e0 e1 e2, e3, if_neg g1, if_pos g2, e4]
            rcases d2 with d2 | ⟨d2, d3⟩
            · rw [if_pos (show x5 < (0 : Int32) from d2)]; rfl
            · have : (3 : Int32) ≤ x5 := by
                have d3' := d3
                rw [fa_lt, nI_toInt (by omega)] at d3'
                rw [fa_le]
                have : (3 : Int32).toInt = 3 := by decide
                omega
              rw [if_neg (show ¬ x5 < (0 : Int32) from d2), if_pos this]; rfl
          · have d1' : fX12_within x5 (0 : Int32) (2 : Int32) = some (nI 0) := d1
            rw [pre2 N _ hN, c1', Option.bind_some, if_neg (by decide), d1']; rfl
        · have g3 : ¬ nI fm < 0 := nI_pos (by omega)
          have g4 : ¬ (3 : Int32) ≤ nI fm := nI_ge (b := 3) (by omega) (by omega)
          have d1' : fX12_within (nI fm) (0 : Int32) (2 : Int32) = some (nI 1) := d1
          rcases pr_cases x6 with ⟨u1, u2⟩ | ⟨pr, hpr, rfl, u1, u2⟩
          · refine Or.inl ⟨fun M dq m e0 e1 e2 e3 e4 e5 e6 => ?_, fun N hN => ?_⟩
            · rw [pre1 M dq _ m e0 e1 e2, e3, if_neg g1, if_pos g2, e4, if_neg g3, if_neg g4, e5, u1]; rfl
            · rw [pre2 N _ hN, c1', Option.bind_some, if_neg (by decide), d1', Option.bind_some, if_neg (by decide), u2]; rfl
          · rcases pr_cases x7 with ⟨w1, w2⟩ | ⟨pd, hpd, rfl, w1, w2⟩
            · refine Or.inl ⟨fun M dq m e0 e1 e2 e3 e4 e5 e6 => ?_, fun N hN => ?_⟩
              · rw [pre1 M dq _ m e0 e1 e2, e3, if_neg g1, if_pos g2, e4, if_neg g3, if_neg g4, e5, u1, Option.bind_some, if_neg (by decide), e6, w1]; rfl
              · rw [pre2 N _ hN, c1', Option.bind_some, if_neg (by decide), d1', Option.bind_some, if_neg (by decide), u2, Option.bind_some, if_neg (by decide), w2]; rfl
            · have fin1 : ∀ (M : JI) (dq : Nat) (v : Int32), (if nI fm = (1 : Int32) then (if nI pr = 0 then (if nI pd = 0 then (some ((1 : Int32))) else (some ((0 : Int32)))) else (some ((0 : Int32)))) else (some ((1 : Int32)))) = some v → M 1 5 = t → M dq 0 = nI p → M dq 1 = nI f → M dq 2 = nI g → M dq 3 = nI n → M dq 4 = nI fm → M dq 5 = nI pr → M dq 6 = nI pd → fX0_isSound dq M = some v := by
                intro M dq v hv m e0 e1 e2 e3 e4 e5 e6
                unfold fX0_isSound
                rw [pre1 M dq _ m e0 e1 e2, e3, if_neg g1, if_pos g2, e4, if_neg g3, if_neg g4, e5, u1, Option.bind_some, if_neg (by decide), e6, w1, Option.bind_some, if_neg (by decide)]
                exact hv
              have fin2 : ∀ (N : JI) (v : Int32), (if nI fm = (1 : Int32) then (if nI pr = 0 then (if nI pd = 0 then (some ((1 : Int32))) else (some ((0 : Int32)))) else (some ((0 : Int32)))) else (some ((1 : Int32)))) = some v → N 67 = r67 → fX12_isPassing (nI p) (nI f) (nI g) (nI n) (nI fm) (nI pr) (nI pd) N = some v := by
                intro N v hv hN
                unfold fX12_isPassing
                rw [pre2 N _ hN, c1', Option.bind_some, if_neg (by decide), d1', Option.bind_some, if_neg (by decide), u2, Option.bind_some, if_neg (by decide), w2, Option.bind_some, if_neg (by decide)]
                exact hv
              by_cases k1 : fm = 1
              · subst k1
                by_cases k2 : pr = 0
                · subst k2
                  by_cases k3 : pd = 0
                  · subst k3
                    exact Or.inr ⟨p, f, g, n, 1, 0, 0, hp, hf, hg, hne, hn1, hn2, by omega, by omega, by omega, fun _ => ⟨rfl, rfl⟩, hb, rfl, rfl, rfl, rfl, rfl, rfl, rfl, fun M dq m e0 e1 e2 e3 e4 e5 e6 => fin1 M dq (nI 1) (by decide) m e0 e1 e2 e3 e4 e5 e6, fun N hN => fin2 N (nI 1) (by decide) hN⟩
                  · have hv : (if nI 1 = (1 : Int32) then (if nI 0 = 0 then (if nI pd = 0 then (some ((1 : Int32))) else (some ((0 : Int32)))) else (some ((0 : Int32)))) else (some ((1 : Int32)))) = some (nI 0) := by
                      rw [if_pos (by decide), if_pos (by decide), if_neg (nI_ne0 (by omega) (by omega))]; rfl
                    exact Or.inl ⟨fun M dq m e0 e1 e2 e3 e4 e5 e6 => fin1 M dq _ hv m e0 e1 e2 e3 e4 e5 e6, fun N hN => fin2 N _ hv hN⟩
                · have hv : (if nI 1 = (1 : Int32) then (if nI pr = 0 then (if nI pd = 0 then (some ((1 : Int32))) else (some ((0 : Int32)))) else (some ((0 : Int32)))) else (some ((1 : Int32)))) = some (nI 0) := by
                    rw [if_pos (by decide), if_neg (nI_ne0 (by omega) (by omega))]; rfl
                  exact Or.inl ⟨fun M dq m e0 e1 e2 e3 e4 e5 e6 => fin1 M dq _ hv m e0 e1 e2 e3 e4 e5 e6, fun N hN => fin2 N _ hv hN⟩
              · have hv : (if nI fm = (1 : Int32) then (if nI pr = 0 then (if nI pd = 0 then (some ((1 : Int32))) else (some ((0 : Int32)))) else (some ((0 : Int32)))) else (some ((1 : Int32)))) = some (nI 1) := by
                  rw [if_neg (show ¬ nI fm = (1 : Int32) from fun h => k1 ((nI_eq (b := 1) (by omega) (by omega)).mp h))]; rfl
                exact Or.inr ⟨p, f, g, n, fm, pr, pd, hp, hf, hg, hne, hn1, hn2, by omega, hpr, hpd, fun h => absurd h k1, hb, rfl, rfl, rfl, rfl, rfl, rfl, rfl, fun M dq m e0 e1 e2 e3 e4 e5 e6 => fin1 M dq _ hv m e0 e1 e2 e3 e4 e5 e6, fun N hN => fin2 N _ hv hN⟩
theorem rgL_row {M : JI} {a : Nat} (h : 44 ≤ a ∧ a < 66) : rg pL M a = M a := by
  funext k
  exact rg_in (by unfold pL; simp; omega)
/-- the law in force, as both judgments want it -/
theorem lw_use {X : Nat} {M : JI} {L : JL} (hX : X = 44 ∨ X = 55) (h : lwOK X (rg pL M) (if X = 44 then L 46 else L 57)) : ∃ (ln : Nat) (E : Nat → (Nat → Int32) → Int32), ln ≤ 18 ∧ M 66 18 = nI ln ∧ M X 11 = nI ln ∧ (∀ i, i < ln → LWl X M E i) ∧ LSets X M L ln ∧ (∀ i, i < ln → M 80 i = nI 0 ∨ (M 80 i = nI 1 ∧ rE M i (E i))) ∧ (∃ b, jm_b01 (M X 15) = bI b ∧ M 66 29 = bI b) ∧ (∃ b, jm_b01 (M X 16) = bI b ∧ M 66 30 = bI b) ∧ ∀ i, i < ln → M 75 i = nI 0 → ∃ d, d ≤ 999 ∧ M 79 i = nI d ∧ M (X + 6) i = nI d := by
  obtain ⟨ln, hl, a1, a2, a3, a4, a5, a6, a7, a8, a9⟩ := h
  have hc : ∀ a k, pL a k = true → rg pL M a k = M a k := fun a k h => rgL_c h
  have hm : ∀ i, i < ln → ∀ a, 75 ≤ a → a ≤ 82 → rg pL M a i = M a i := fun i hi a h1 h2 => hc a i (by unfold pL; simp; omega)
  have emb : ∀ i, i ≤ ln → fb_ct (lwMb (rg pL M)) i = fb_ct (lwMb M) i := fun i hi => fb_ct_cong (fun k hk => by unfold lwMb; rw [hm k (by omega) 76 (by omega) (by omega)])
  have emb1 : ∀ i, i < ln → lwMb (rg pL M) i = lwMb M i := fun i hi => by unfold lwMb; rw [hm i hi 76 (by omega) (by omega)]
  have eff1 : ∀ i, i < ln → lwFf (rg pL M) i = lwFf M i := fun i hi => by unfold lwFf; rw [emb1 i hi, hm i hi 75 (by omega) (by omega)]
  have eff : ∀ i, i ≤ ln → fb_ct (lwFf (rg pL M)) i = fb_ct (lwFf M) i := fun i hi => fb_ct_cong (fun k hk => eff1 k (by omega))
  have hr : ∀ a, 44 ≤ a → a < 66 → rg pL M a = M a := fun a h1 h2 => rgL_row ⟨h1, h2⟩
  have hE : ∀ i, ∃ E : (Nat → Int32) → Int32, i < ln → M 80 i = nI 1 → lwE X (rg pL M) i E := by
    intro i
    by_cases c : i < ln ∧ M 80 i = nI 1
    · obtain ⟨-, -, -, -, -, -, l7⟩ := a9 i c.1
      rcases l7 with ⟨l7, -⟩ | ⟨-, -, E, hE⟩
      · rw [hm i c.1 80 (by omega) (by omega), c.2] at l7
        exact absurd l7 (by decide)
      · exact ⟨E, fun _ _ => hE⟩
    · exact ⟨fun _ => 0, fun h1 h2 => absurd ⟨h1, h2⟩ c⟩
  let E : Nat → (Nat → Int32) → Int32 := fun i => Classical.choose (hE i)
  have hEs : ∀ i, i < ln → M 80 i = nI 1 → lwE X (rg pL M) i (E i) := fun i => Classical.choose_spec (hE i)
  refine ⟨ln, E, hl, ?_, ?_, fun i hi => ?_, ⟨fun i hi => ?_, ?_⟩, fun i hi => ?_, ?_, ?_, fun i hi h75 => ?_⟩
  · rw [← a1, hc 66 18 (by decide)]
  · rw [← a2, hr X (by omega) (by omega)]
  · obtain ⟨l1, l2, l3, l4, l5, l6, l7⟩ := a9 i hi
    rw [hm i hi 75 (by omega) (by omega)] at l1 l3 l6
    rw [hm i hi 76 (by omega) (by omega)] at l2
    rw [hr (X + 1) (by omega) (by omega)] at l3
    rw [hr (X + 3) (by omega) (by omega), eff1 i hi, eff i (by omega)] at l5
    rw [hm i hi 77 (by omega) (by omega), hm i hi 78 (by omega) (by omega), hr (X + 4) (by omega) (by omega), hr (X + 5) (by omega) (by omega)] at l6
    rw [hm i hi 80 (by omega) (by omega), hr (X + 7) (by omega) (by omega), hr (X + 8) (by omega) (by omega)] at l7
    refine ⟨l1, l2, l3, l5, fun h => ⟨(l6 h).1, (l6 h).2.1⟩, ?_⟩
    rcases l7 with l7 | ⟨l7, l8, -⟩
    · exact Or.inl l7
    · have he := hEs i hi l7
      refine Or.inr ⟨l7, l8, ?_, he.2.2.1, ?_⟩
      · have := he.1
        rw [hr (X + 10) (by omega) (by omega), hr (X + 7) (by omega) (by omega), hr (X + 8) (by omega) (by omega)] at this
        exact this
      · have := he.2.2.2
        rw [hr (X + 9) (by omega) (by omega)] at this
        exact this
  · have l4 := (a9 i hi).2.2.2.1
    rw [emb1 i hi, emb i (by omega)] at l4
    rw [← l4]
    rcases hX with rfl | rfl
    · rw [if_pos rfl]
    · rw [if_neg (by decide)]
  · rw [← emb ln (Nat.le_refl _)]; exact a3
  · obtain ⟨-, -, -, -, -, -, l7⟩ := a9 i hi
    rw [hm i hi 80 (by omega) (by omega)] at l7
    rcases l7 with ⟨l7, -⟩ | ⟨l7, -, -⟩
    · exact Or.inl l7
    · have he := hEs i hi l7
      refine Or.inr ⟨l7, fun N h1 h2 h3 => ?_, he.2.2.1⟩
      exact he.2.1 N (by rw [h1, hm i hi 81 (by omega) (by omega)]) (by rw [h2, hm i hi 82 (by omega) (by omega)]) (fun k hk => by rw [h3 k hk, hc 83 k (by unfold pL; simp; omega)])
  · obtain ⟨b, b1, b2⟩ := a7
    rw [hr X (by omega) (by omega)] at b1
    rw [hc 66 29 (by decide)] at b2
    exact ⟨b, b1, b2⟩
  · obtain ⟨b, b1, b2⟩ := a8
    rw [hr X (by omega) (by omega)] at b1
    rw [hc 66 30 (by decide)] at b2
    exact ⟨b, b1, b2⟩
  · obtain ⟨-, -, -, -, -, l6, -⟩ := a9 i hi
    rw [hm i hi 75 (by omega) (by omega), hm i hi 79 (by omega) (by omega), hr (X + 6) (by omega) (by omega)] at l6
    exact (l6 h75).2.2
