theorem ff_cong {P Q : Nat → Bool} {n : Nat} (h : ∀ i, i < n → P i = Q i) : fa_first P n = fa_first Q n := by
  have h1 := fa_first_le P n
  by_cases c : fa_first P n < n
  · refine (ff_is (fun i hi => ?_) ?_ c).symm
    · rw [← h i (by omega)]; exact fa_first_no P n i hi
    · rw [← h _ c]; exact fa_first_yes P n c
  · have e : fa_first P n = n := by omega
    rw [e]
    refine (ff_none (fun i hi => ?_)).symm
    rw [← h i hi]
    exact fa_first_no P n i (by omega)
theorem br_eq {N0 M : JI} {h : Nat → Nat → Nat} {ln p f g fm : Nat} {sm : Int32} {fb : Nat → Int32} {E : Nat → (Nat → Int32) → Int32} (hr : ∀ a, (69 ≤ a ∧ a ≤ 72) ∨ (75 ≤ a ∧ a ≤ 80) → N0 a = M a) (hfb : ∀ k, (k < 9 ∨ k = 13) → N0 95 (k + 1) = fb k) (hE : ∀ i, i < ln → M 80 i = nI 0 ∨ (M 80 i = nI 1 ∧ rE M i (E i))) : (∀ q, lfR N0 h ln p f fm sm E q = lfG M h ln p f fm sm fb E q) ∧ frR N0 h ln p f g sm E = frG M h ln p f g sm fb E := by
  have emb : lwMb N0 = lwMb M := by funext i; unfold lwMb; rw [hr 76 (by omega)]
  have ecn : ∀ q i, i < ln → cnR N0 h p f E i q = cnG M h p f fb E i q := by
    intro q i hi
    unfold cnR cnG
    rw [hr 80 (by omega)]
    rcases hE i hi with e | ⟨e, he⟩
    · rw [e]; simp
    · have : E i (fcR N0 h p f q) = E i (fcG M h p f fb q) := by
        apply he.2
        intro k hk
        unfold fcR fcG
        rw [hr 71 (by omega), hr 72 (by omega)]
        by_cases k9 : k = 9
        · rw [if_pos k9, if_pos k9]
        · rw [if_neg k9, if_neg k9]
          by_cases k10 : k = 10
          · rw [if_pos k10, if_pos k10]
          · rw [if_neg k10, if_neg k10]
            by_cases k11 : k = 11
            · rw [if_pos k11, if_pos k11]
            · rw [if_neg k11, if_neg k11]
              by_cases k12 : k = 12
              · rw [if_pos k12, if_pos k12]
              · rw [if_neg k12, if_neg k12]
                exact hfb k (by omega)
      rw [this]
  have ek : ∀ i, kdR N0 i = kdR M i := fun i => by unfold kdR; rw [hr 75 (by omega)]
  have ea : ∀ i, acR N0 sm i = acR M sm i := fun i => by unfold acR; rw [emb]
  refine ⟨fun q => ?_, ?_⟩
  · unfold lfR lfG
    split
    · rfl
    · apply ff_cong
      intro i hi
      unfold qyR qyG
      rw [ek, ea, ecn q i hi]
      unfold foR wtR
      rw [hr 78 (by omega), hr 69 (by omega), hr 70 (by omega), hr 71 (by omega), hr 77 (by omega)]
  · unfold frR frG
    have : fa_first (fun i => !kdR N0 i && acR N0 sm i && cnR N0 h p f E i g) ln = fa_first (fun i => !kdR M i && acR M sm i && cnG M h p f fb E i g) ln := by
      apply ff_cong
      intro i hi
      show (!kdR N0 i && acR N0 sm i && cnR N0 h p f E i g) = _
      rw [ek, ea, ecn g i hi]
    rw [this]
theorem inv_scr {n : Nat} {M M' : JI} {L : JL} {D D' : JG} {S : JS} (h : Inv n M L D S) (f1 : ∀ a, (a < 14 ∨ (19 < a ∧ a < 84) ∨ 95 < a) → a ≠ 66 → M' a = M a) (f2 : ∀ k, (k = 0 ∨ (46 ≤ k ∧ k ≤ 51)) ∨ M' 66 k = M 66 k) (e42 : D' 42 = D 42) (e43 : D' 43 = D 43) (e31 : D' 31 = D 31) (e0 : D' 0 = D 0) (e5 : D' 15 5 = D 15 5) : Inv (n + 1) M' L D' S := by
  obtain ⟨h1, h2, h3, h4, h5, h6, h7, h8, h9, h10, h11, h12, h13, h14, h15, h16, h17, h18, h19⟩ := h
  have g : ∀ k, k ≠ 0 → (k < 46 ∨ 51 < k) → M' 66 k = M 66 k := by
    intro k h1 h2
    rcases f2 k with h | h
    · omega
    · exact h
  have r : ∀ a, (a < 14 ∨ (19 < a ∧ a < 84) ∨ 95 < a) → a ≠ 66 → M' a = M a := f1
  have gE : rg pE M' = rg pE M := rg_cong (fun a k hp => by
    unfold pE at hp
    simp at hp
    by_cases e : a = 66
    · subst e; rw [g k (by omega) (by omega)]
    · rw [r a (by omega) e])
  have gL : rg pL M' = rg pL M := rg_cong (fun a k hp => by
    unfold pL at hp
    simp at hp
    by_cases e : a = 66
    · subst e; rw [g k (by omega) (by omega)]
    · rw [r a (by omega) e])
  have gD : rg pD M' = rg pD M := rg_cong (fun a k hp => by
    unfold pD at hp
    simp at hp
    rw [r a (by omega) (by omega)])
  have gP : rg pP M' = rg pP M := rg_cong (fun a k hp => by
    unfold pP at hp
    simp at hp
    rw [r a (by omega) (by omega)])
  have gM : rg pM M' = rg pM M := rg_cong (fun a k hp => by
    unfold pM at hp
    simp at hp
    rw [r a (by omega) (by omega)])
  have gH : rg pH M' = rg pH M := rg_cong (fun a k hp => by
    unfold pH at hp
    simp at hp
    rw [r a (by omega) (by omega)])
  unfold Inv
  rw [gE, gL, gD, gP, gM, gH, e42, e43, e31, e0, e5, r 0 (by omega) (by omega), r 1 (by omega) (by omega), r 2 (by omega) (by omega), r 3 (by omega) (by omega), r 4 (by omega) (by omega), r 5 (by omega) (by omega), r 6 (by omega) (by omega), r 8 (by omega) (by omega), r 9 (by omega) (by omega), r 10 (by omega) (by omega), r 11 (by omega) (by omega), r 12 (by omega) (by omega), r 13 (by omega) (by omega), r 20 (by omega) (by omega), r 28 (by omega) (by omega), r 29 (by omega) (by omega), r 30 (by omega) (by omega), r 33 (by omega) (by omega), r 67 (by omega) (by omega), r 68 (by omega) (by omega), r 69 (by omega) (by omega), r 70 (by omega) (by omega), r 71 (by omega) (by omega), r 72 (by omega) (by omega), r 73 (by omega) (by omega), r 74 (by omega) (by omega), g 8 (by omega) (by omega), g 9 (by omega) (by omega), g 52 (by omega) (by omega), g 81 (by omega) (by omega), g 88 (by omega) (by omega)]
  exact ⟨h1, h2, h3, h4, h5, h6, h7, h8, h9, h10, vChg_n h11, h12, h13, h14, vMk_n h15, vOb_n h16, h17, h18, h19⟩
/-- the deal that is asked about -/
def tlM (M : JI) (dq : Nat) (x1 x2 x3 x4 x5 x6 x7 : Int32) : JI := j_up (j_up (j_up (j_up (j_up (j_up (j_up M dq 0 x1) dq 1 x2) dq 2 x3) dq 3 x4) dq 4 x5) dq 5 x6) dq 6 x7
theorem tl_eq (M : JI) (dq : Nat) (x1 x2 x3 x4 x5 x6 x7 : Int32) : fX0_tell dq x1 x2 x3 x4 x5 x6 x7 M = some (tlM M dq x1 x2 x3 x4 x5 x6 x7) := rfl
theorem tl_row (M : JI) {dq a : Nat} (x1 x2 x3 x4 x5 x6 x7 : Int32) (h : a ≠ dq) : tlM M dq x1 x2 x3 x4 x5 x6 x7 a = M a := by
  unfold tlM
  rw [ju_row _ _ h, ju_row _ _ h, ju_row _ _ h, ju_row _ _ h, ju_row _ _ h, ju_row _ _ h, ju_row _ _ h]
theorem tl_at (M : JI) (dq : Nat) (x1 x2 x3 x4 x5 x6 x7 : Int32) : tlM M dq x1 x2 x3 x4 x5 x6 x7 dq 0 = x1 ∧ tlM M dq x1 x2 x3 x4 x5 x6 x7 dq 1 = x2 ∧ tlM M dq x1 x2 x3 x4 x5 x6 x7 dq 2 = x3 ∧ tlM M dq x1 x2 x3 x4 x5 x6 x7 dq 3 = x4 ∧ tlM M dq x1 x2 x3 x4 x5 x6 x7 dq 4 = x5 ∧ tlM M dq x1 x2 x3 x4 x5 x6 x7 dq 5 = x6 ∧ tlM M dq x1 x2 x3 x4 x5 x6 x7 dq 6 = x7 := by
  unfold tlM
  refine ⟨?_, ?_, ?_, ?_, ?_, ?_, ?_⟩
  · rw [ju_cell _ _ (by omega), ju_cell _ _ (by omega), ju_cell _ _ (by omega), ju_cell _ _ (by omega), ju_cell _ _ (by omega), ju_cell _ _ (by omega), ju_same]
  · rw [ju_cell _ _ (by omega), ju_cell _ _ (by omega), ju_cell _ _ (by omega), ju_cell _ _ (by omega), ju_cell _ _ (by omega), ju_same]
  · rw [ju_cell _ _ (by omega), ju_cell _ _ (by omega), ju_cell _ _ (by omega), ju_cell _ _ (by omega), ju_same]
  · rw [ju_cell _ _ (by omega), ju_cell _ _ (by omega), ju_cell _ _ (by omega), ju_same]
  · rw [ju_cell _ _ (by omega), ju_cell _ _ (by omega), ju_same]
  · rw [ju_cell _ _ (by omega), ju_same]
  · rw [ju_same]
/-- the reference, laid out for a passing by the law in force -/
theorem rb_mk {M N : JI} {h : Nat → Nat → Nat} {ln p f g fm : Nat} {sm : Int32} {E : Nat → (Nat → Int32) → Int32} {L : JL} {X : Nat} (hr : ∀ a, (69 ≤ a ∧ a ≤ 72) ∨ (75 ≤ a ∧ a ≤ 83) → N a = M a) (e68 : twRep (N 68) h) (hb : ∀ p q, p < 12 → q < 16 → h p q ≤ 12) (hp : p < 12) (hf : f < 16) (hg : g < 16) (hln : ln ≤ 18) (hfm : fm < 3) (b1 : N 66 18 = nI ln) (b2 : N 66 46 = nI p) (b3 : N 66 47 = nI f) (b4 : N 66 48 = nI g) (b5 : N 66 49 = nI fm) (b6 : N 66 50 = sm) (h4 : vSide (M 2) (M 3) (M 69)) (h5 : vWet (M 4) (M 70)) (h6 : vDeg (M 5) (M 6) (M 71)) (h7 : vBits (M 1 6) (M 72)) (hl : ∀ i, i < ln → LWl X M E i) (hE : ∀ i, i < ln → M 80 i = nI 0 ∨ (M 80 i = nI 1 ∧ rE M i (E i))) : RB N h ln p f g fm sm E := by
  refine ⟨⟨e68, hb⟩, ⟨hp, hf, hg, hln, hfm⟩, ⟨b1, b2, b3, b4, b5, b6⟩, ⟨M 2, M 3, by rw [hr 69 (by omega)]; exact h4⟩, ⟨M 4, by rw [hr 70 (by omega)]; exact h5⟩, ⟨M 5, M 6, by rw [hr 71 (by omega)]; exact h6⟩, ⟨M 1 6, by rw [hr 72 (by omega)]; exact h7⟩, fun i hi => ?_⟩
  obtain ⟨l1, l2, -, -, l5, -⟩ := hl i hi
  rw [hr 75 (by omega), hr 76 (by omega), hr 77 (by omega), hr 80 (by omega)]
  refine ⟨l1, l2, ?_, fun h => ?_⟩
  · rcases hE i hi with e | ⟨e, he⟩
    · exact Or.inl e
    · refine Or.inr ⟨e, fun N' x1 x2 x3 => ?_, he.2⟩
      exact he.1 N' (by rw [x1, hr 81 (by omega)]) (by rw [x2, hr 82 (by omega)]) (fun k hk => by rw [x3 k hk, hr 83 (by omega)])
  · obtain ⟨⟨w, hw, w1, -⟩, -⟩ := l5 h
    exact ⟨w, hw, w1⟩
theorem op_would {n : Nat} {M : JI} {L : JL} {D : JG} {S : JS} (h : Inv n M L D S) (x1 x2 x3 x4 x5 x6 x7 : Int32) : ∃ r M1 D1 M2, fX11_would x1 x2 x3 x4 x5 x6 x7 M L D S = some (r, M1, D1) ∧ fX12_would x1 x2 x3 x4 x5 x6 x7 M1 = some (r, M2) ∧ Inv (n + 1) M2 L D1 S := by
  have hh := h
  obtain ⟨h1, h2, h3, h4, h5, h6, h7, h8, h9, h10, h11, h12, h13, h14, h15, h16, h17, h18, h19⟩ := hh
  obtain ⟨X, Y, y1, y2, y3, hXY, hlw⟩ := h12
  have hX : X = 44 ∨ X = 55 := by omega
  obtain ⟨ln, E, hln, e18, e11, hl, hLs, hE, -, -, -⟩ := lw_use hX hlw
  have ta := tl_at M 14 x1 x2 x3 x4 x5 x6 x7
  have tr : ∀ a, a ≠ 14 → tlM M 14 x1 x2 x3 x4 x5 x6 x7 a = M a := fun a ha => tl_row M x1 x2 x3 x4 x5 x6 x7 ha
  generalize hMt : tlM M 14 x1 x2 x3 x4 x5 x6 x7 = Mt at ta tr
  have hcls : ∀ K, (fX0_canBe 14 7 Mt).bind (fun q2 => if q2 = 0 then (some ((-1 : Int32), Mt, D)) else ((fX3_judgeAll 7 14 Mt L D S).bind (fun q3 => some ((q3.1 15 9), q3.1, q3.2)))) = K → fX11_would x1 x2 x3 x4 x5 x6 x7 M L D S = K := by
    intro K hK
    unfold fX11_would
    rw [tl_eq, Option.bind_some, hMt]
    exact hK
  have no : fX0_canBe 14 7 Mt = some (nI 0) → (∀ N : JI, N 67 = M 67 → N 68 = M 68 → fX12_would x1 x2 x3 x4 x5 x6 x7 N = some (-nI 1, j_up N 66 0 (nI 0))) → ∃ r M1 D1 M2, fX11_would x1 x2 x3 x4 x5 x6 x7 M L D S = some (r, M1, D1) ∧ fX12_would x1 x2 x3 x4 x5 x6 x7 M1 = some (r, M2) ∧ Inv (n + 1) M2 L D1 S := by
    intro a b
    refine ⟨-nI 1, Mt, D, j_up Mt 66 0 (nI 0), hcls _ (by rw [a]; rfl), b Mt (tr 67 (by omega)) (tr 68 (by omega)), ?_⟩
    refine inv_scr h (fun a h1 h2 => by rw [ju_row _ _ h2, tr a (by omega)]) (fun k => ?_) rfl rfl rfl rfl rfl
    by_cases e : k = 0
    · exact Or.inl (Or.inl e)
    · right; rw [ju_cell _ _ e, tr 66 (by omega)]
  rcases snd_cases h1 x1 x2 x3 x4 x5 x6 x7 with ⟨s1, s2⟩ | ⟨p, f, g, w, fm, pr, pd, hp, hf, hg, hne, hw1, hw2, hfm, hpr, hpd, -, hbt, rfl, rfl, rfl, rfl, rfl, rfl, rfl, s1, s2⟩
  · refine no ?_ (fun N n1 n2 => ?_)
    · unfold fX0_canBe
      rw [s1 Mt 14 (by rw [tr 1 (by omega)]) ta.1 ta.2.1 ta.2.2.1 ta.2.2.2.1 ta.2.2.2.2.1 ta.2.2.2.2.2.1 ta.2.2.2.2.2.2]; rfl
    · unfold fX12_would
      rw [s2 _ (by rw [ju_row _ _ (by omega), n1])]; rfl
  · have s1' := s1 Mt 14 (by rw [tr 1 (by omega)]) ta.1 ta.2.1 ta.2.2.1 ta.2.2.2.1 ta.2.2.2.2.1 ta.2.2.2.2.2.1 ta.2.2.2.2.2.2
    have hv : vHd (Mt 8) (Mt 9) (Mt 10) (Mt 11) (hN (M 68)) := by rw [tr 8 (by omega), tr 9 (by omega), tr 10 (by omega), tr 11 (by omega)]; exact h3
    have hcb : fX0_canBe 14 7 Mt = if nI (hN (M 68) p f) < nI w then some (0 : Int32) else some (1 : Int32) := by
      unfold fX0_canBe
      rw [s1', Option.bind_some, if_neg (by decide), ta.1, ta.2.1, ta.2.2.2.1, of_eq (M := Mt) (t := 7) hv.1 hp hf, Option.bind_some]
    have hle12 := (h2.1 p f hp hf).2
    by_cases cw : w ≤ hN (M 68) p f
    · have cw1 : ¬ nI (hN (M 68) p f) < nI w := nI_nlt cw (by omega)
      have cw2 : nI w ≤ nI (hN (M 68) p f) := nI_le cw (by omega)
      have hb12 : ∀ p q, p < 12 → q < 16 → hN (M 68) p q ≤ 12 := fun p q a b => (h2.1 p q a b).2
      have emb : lwMb Mt = lwMb M := by funext i; unfold lwMb; rw [tr 76 (by omega)]
      have eff : lwFf Mt = lwFf M := by funext i; unfold lwFf; rw [emb, tr 75 (by omega)]
      have hlt : ∀ i, i < ln → LWl X Mt E i := by
        intro i hi
        have hh := hl i hi
        unfold LWl kdR cE at hh ⊢
        rw [eff, tr 75 (by omega), tr 76 (by omega), tr 77 (by omega), tr 78 (by omega), tr 80 (by omega), tr (X + 1) (by omega), tr (X + 3) (by omega), tr (X + 4) (by omega), tr (X + 5) (by omega), tr (X + 7) (by omega), tr (X + 8) (by omega), tr (X + 9) (by omega), tr (X + 10) (by omega)]
        exact hh
      have hLt : LSets X Mt L ln := by unfold LSets; rw [emb]; exact hLs
      obtain ⟨M1, j1, j2, j3, j4, j5, j6⟩ := ja_eq (M := Mt) (L := L) (D := D) (S := S) (X := X) (t := 7) (dq := 14) (h := hN (M 68)) (ln := ln) (p := p) (f := f) (g := g) (fm := fm) (E := E) ⟨hX, Or.inl rfl, Or.inl rfl⟩ y3 (lay_at_S h16 (by rcases hX with rfl | rfl <;> decide +kernel)) (lay_at_S h16 (by decide +kernel)) (lay_at_S h16 (by decide +kernel)) ta.1 ta.2.1 ta.2.2.1 ta.2.2.2.2.1 hp hf hg hfm hln hne hv hb12 (by rw [tr 2 (by omega), tr 3 (by omega), tr 69 (by omega)]; exact h4) (by rw [tr 4 (by omega), tr 70 (by omega)]; exact h5) (by rw [tr 5 (by omega), tr 6 (by omega), tr 71 (by omega)]; exact h6) (by rw [tr 1 (by omega), tr 72 (by omega)]; exact h7) (by rw [tr X (by omega)]; exact e11) hlt hLt
      rw [ta.2.2.2.1, ta.2.2.2.2.2.1, ta.2.2.2.2.2.2, tr 1 (by omega)] at j6
      have r1 : ∀ a, (a < 14 ∨ 19 < a) → M1 a = M a := by
        intro a ha
        rw [j2 a (by omega), tr a (by omega)]
      generalize hN1 : j_up (j_up M1 66 0 (nI 0)) 66 50 (nI 0) = N1
      have rN : ∀ a, a ≠ 66 → N1 a = M1 a := by
        intro a ha
        rw [← hN1, ju_row _ _ ha, ju_row _ _ ha]
      have rN66 : ∀ k, k ≠ 0 → k ≠ 50 → N1 66 k = M 66 k := by
        intro k k1 k2
        rw [← hN1, ju_cell _ _ k2, ju_cell _ _ k1, r1 66 (by omega)]
      obtain ⟨N0, l1, l2, l3, l4, l5, l6, l7, l8⟩ := lays_eq (N := N1) (h := hN (M 68)) (by rw [rN 68 (by omega), r1 68 (by omega)]; exact tw_rep h2) hb12 hp hf hg hfm (nI w) (nI pr) (nI pd)
      have r0 : ∀ a, (19 < a ∧ a < 86) → a ≠ 66 → N0 a = M a := by
        intro a ha h66
        rw [l2 a h66 (by omega), rN a h66, r1 a (by omega)]
      have B : RB N0 (hN (M 68)) ln p f g fm (nI 0) E := rb_mk (M := M) (L := L) (X := X) (fun a ha => r0 a (by omega) (by omega)) (by rw [r0 68 (by omega) (by omega)]; exact tw_rep h2) hb12 hp hf hg hln hfm (by rw [l3 18 (by omega), rN66 18 (by omega) (by omega)]; exact e18) l4 l5 l6 l7 (by rw [l3 50 (by omega), ← hN1, ju_same]) h4 h5 h6 h7 hl hE
      obtain ⟨x, N2, m1, m2, m3⟩ := cmr_eq B (rSame_rfl N0)
      have h98 : N1 66 8 = M 1 8 := by rw [rN66 8 (by omega) (by omega), ← h9.1]
      rw [h98] at l8
      obtain ⟨c1, c2⟩ := br_eq (N0 := N0) (M := M) (h := hN (M 68)) (ln := ln) (p := p) (f := f) (g := g) (fm := fm) (sm := nI 0) (fb := fbS (hN (M 68)) p f g fm (nI w) (nI pr) (nI pd) (M 1 8)) (E := E) (fun a ha => r0 a (by omega) (by omega)) l8 hE
      obtain ⟨c3, c4⟩ := br_eq (N0 := Mt) (M := M) (h := hN (M 68)) (ln := ln) (p := p) (f := f) (g := g) (fm := fm) (sm := nI 0) (fb := fun k => Mt 95 (k + 1)) (E := E) (fun a ha => tr a (by omega)) (fun k _ => rfl) hE
      -- the class's words are over Mt: the same rows
      have ecn : cnG Mt (hN (M 68)) p f (fbS (hN (M 68)) p f g fm (nI w) (nI pr) (nI pd) (M 1 8)) E = cnG M (hN (M 68)) p f (fbS (hN (M 68)) p f g fm (nI w) (nI pr) (nI pd) (M 1 8)) E := cnG_rows (tr 71 (by omega)) (tr 72 (by omega)) (tr 80 (by omega))
      have eqy : qyG Mt (hN (M 68)) p f fm (nI 0) (fbS (hN (M 68)) p f g fm (nI w) (nI pr) (nI pd) (M 1 8)) E = qyG M (hN (M 68)) p f fm (nI 0) (fbS (hN (M 68)) p f g fm (nI w) (nI pr) (nI pd) (M 1 8)) E := by
        funext q i
        unfold qyG
        rw [ecn]
        unfold kdR acR foR wtR
        rw [emb, tr 75 (by omega), tr 78 (by omega), tr 69 (by omega), tr 70 (by omega), tr 71 (by omega), tr 77 (by omega)]
      have elf : lfG Mt (hN (M 68)) ln p f fm (nI 0) (fbS (hN (M 68)) p f g fm (nI w) (nI pr) (nI pd) (M 1 8)) E = lfG M (hN (M 68)) ln p f fm (nI 0) (fbS (hN (M 68)) p f g fm (nI w) (nI pr) (nI pd) (M 1 8)) E := by
        funext q; unfold lfG; rw [eqy]
      have efr : frG Mt (hN (M 68)) ln p f g (nI 0) (fbS (hN (M 68)) p f g fm (nI w) (nI pr) (nI pd) (M 1 8)) E = frG M (hN (M 68)) ln p f g (nI 0) (fbS (hN (M 68)) p f g fm (nI w) (nI pr) (nI pd) (M 1 8)) E := by
        unfold frG
        rw [ecn]
        have : (fun i => !kdR Mt i && acR Mt (nI 0) i && cnG M (hN (M 68)) p f (fbS (hN (M 68)) p f g fm (nI w) (nI pr) (nI pd) (M 1 8)) E i g) = fun i => !kdR M i && acR M (nI 0) i && cnG M (hN (M 68)) p f (fbS (hN (M 68)) p f g fm (nI w) (nI pr) (nI pd) (M 1 8)) E i g := by
          funext i
          unfold kdR acR
          rw [emb, tr 75 (by omega)]
        rw [this]
      have ex : M1 15 9 = x := by
        apply b_ext
        intro i hi
        rw [j6 i, m3 i, elf, efr]
        unfold cmR
        rw [c1, c1, c2]
      refine ⟨x, M1, j_up (j_up D 15 6 (some 7)) 15 7 (some 14), N2, hcls _ ?_, ?_, ?_⟩
      · rw [hcb, if_neg cw1, Option.bind_some, if_neg (by decide), j1, Option.bind_some, ← ex]
      · unfold fX12_would
        rw [s2 _ (by rw [ju_row _ _ (by omega), r1 67 (by omega)]), Option.bind_some, if_neg (by decide), at16, jg_in (by omega) (by decide), nI_clamp (by omega), ju_row _ _ (by omega), r1 68 (by omega), (h2.1 p f hp hf).1, if_pos cw2]
        have l1' : fX12_lays (nI p) (nI f) (nI g) (nI w) (nI fm) (nI pr) (nI pd) (j_up (j_up M1 66 0 (0 : Int32)) 66 50 (0 : Int32)) = some N0 := by rw [← hN1] at l1; exact l1
        rw [l1', Option.bind_some, m1]; rfl
      · refine inv_scr h (fun a ha h66 => ?_) (fun k => ?_) (by rw [ju_row _ _ (by omega), ju_row _ _ (by omega)]) (by rw [ju_row _ _ (by omega), ju_row _ _ (by omega)]) (by rw [ju_row _ _ (by omega), ju_row _ _ (by omega)]) (by rw [ju_row _ _ (by omega), ju_row _ _ (by omega)]) (by rw [ju_cell _ _ (by omega), ju_cell _ _ (by omega)])
        · rw [m2.1 a (by omega) h66, l2 a h66 (by omega), rN a h66, r1 a (by omega)]
        · by_cases e : k = 0 ∨ (46 ≤ k ∧ k ≤ 51)
          · exact Or.inl e
          · right; rw [m2.2.1 k (by omega), l3 k (by omega), rN66 k (by omega) (by omega)]
    · have cw1 : nI (hN (M 68) p f) < nI w := nI_lt (by omega) (by omega)
      have cw2 : ¬ nI w ≤ nI (hN (M 68) p f) := nI_ge (by omega) (by omega)
      refine no (by rw [hcb, if_pos cw1]; rfl) (fun N n1 n2 => ?_)
      unfold fX12_would
      rw [s2 _ (by rw [ju_row _ _ (by omega), n1]), Option.bind_some, if_neg (by decide), at16, jg_in (by omega) (by decide), nI_clamp (by omega), ju_row _ _ (by omega), n2, (h2.1 p f hp hf).1, if_neg cw2]; rfl
