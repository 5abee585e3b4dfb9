theorem op_honest {n : Nat} {M : JI} {L : JL} {G D : JG} {S : JS} (h : Inv n M L D S) (hn : n < 4000) (x1 x2 x3 x4 x5 x6 : Int32) : ∃ r M1 L1 G1 D1 S1 M2, fX11_honest x1 x2 x3 x4 x5 x6 M L G D S = some (r, M1, L1, G1, D1, S1) ∧ fX12_honest x1 x2 x3 x4 x5 x6 M1 = some (r, M2) ∧ Inv (n + 3) M2 L1 D1 S1 := by
  have hh := h
  obtain ⟨h1, h2, h3, h4, h5, h6, h7, h8, h9, h10, h11, h12, h13, h14, h15, h16, h17, h18, h19⟩ := hh
  have ta := tl_at M 14 x1 x2 x3 x4 x5 x6 x6
  have tr : ∀ a, a ≠ 14 → tlM M 14 x1 x2 x3 x4 x5 x6 x6 a = M a := fun a ha => tl_row M x1 x2 x3 x4 x5 x6 x6 ha
  obtain ⟨it, off1, off2, off3⟩ := inv_tell h (by omega) x1 x2 x3 x4 x5 x6 x6
  generalize hMt : tlM M 14 x1 x2 x3 x4 x5 x6 x6 = Mt at ta tr it
  have hcls : ∀ K, (fX0_isSound 14 Mt).bind (fun q2 => if q2 = 0 then (some ((0 : Int32), Mt, L, G, D, S)) else (if (Mt 30 6) < (6 : Int32) then ((fX6_addHonest 14 (j_up Mt 1 9 ((Mt 1 9) + (1 : Int32))) L G D S).bind (fun q3 => some ((1 : Int32), q3.1, q3.2.1, q3.2.2.1, q3.2.2.2.1, q3.2.2.2.2))) else (some ((0 : Int32), Mt, L, G, D, S)))) = K → fX11_honest x1 x2 x3 x4 x5 x6 M L G D S = K := by
    intro K hK
    unfold fX11_honest
    rw [tl_eq, Option.bind_some, hMt]
    exact hK
  have fin : fX11_honest x1 x2 x3 x4 x5 x6 M L G D S = some (nI 0, Mt, L, G, D, S) → fX12_honest x1 x2 x3 x4 x5 x6 Mt = some (nI 0, j_up Mt 66 0 (nI 0)) → ∃ r M1 L1 G1 D1 S1 M2, fX11_honest x1 x2 x3 x4 x5 x6 M L G D S = some (r, M1, L1, G1, D1, S1) ∧ fX12_honest x1 x2 x3 x4 x5 x6 M1 = some (r, M2) ∧ Inv (n + 3) M2 L1 D1 S1 := by
    intro a b
    refine ⟨_, _, _, _, _, _, _, a, b, inv_n (inv_n ?_)⟩
    refine inv_scr h (fun a h1 h2 => by rw [ju_row _ _ h2, tr a (by omega)]) (fun k => ?_) rfl rfl rfl rfl rfl
    by_cases e : k = 0
    · exact Or.inl (Or.inl e)
    · right; rw [ju_cell _ _ e, tr 66 (by omega)]
  rcases snd_cases h1 x1 x2 x3 x4 x5 x6 x6 with ⟨s1, s2⟩ | ⟨p, f, g, w, fm, pr, pd, hp, hf, hg, hne, hw1, hw2, hfm, hpr, hpd, hgift, hbt, rfl, rfl, rfl, rfl, rfl, rfl, e67, s1, s2⟩
  · refine fin (hcls _ ?_) ?_
    · rw [s1 Mt 14 (by rw [tr 1 (by omega)]) ta.1 ta.2.1 ta.2.2.1 ta.2.2.2.1 ta.2.2.2.2.1 ta.2.2.2.2.2.1 ta.2.2.2.2.2.2]; rfl
    · unfold fX12_honest
      rw [s2 _ (by rw [ju_row _ _ (by omega), tr 67 (by omega)])]; rfl
  · have s1' := s1 Mt 14 (by rw [tr 1 (by omega)]) ta.1 ta.2.1 ta.2.2.1 ta.2.2.2.1 ta.2.2.2.2.1 ta.2.2.2.2.2.1 ta.2.2.2.2.2.2
    obtain ⟨m, hm, e0, e66, hhon⟩ := h14
    have t306 : Mt 30 6 = nI m := by rw [tr 30 (by omega)]; exact e0
    by_cases cm : m = 6
    · refine fin (hcls _ ?_) ?_
      · rw [s1', Option.bind_some, if_neg (by decide), t306, if_neg (show ¬ nI m < (6 : Int32) from nI_nlt (b := 6) (by omega) (by omega))]; rfl
      · unfold fX12_honest
        rw [s2 _ (by rw [ju_row _ _ (by omega), tr 67 (by omega)]), Option.bind_some, if_neg (by decide), ju_cell _ _ (show (81 : Nat) ≠ 0 by omega), tr 66 (by omega), e66, if_pos (by rw [cm]; rfl)]; rfl
    · have hm6 : m < 6 := by omega
      have em : (nI m).toNatClampNeg = m := nI_clamp (by omega)
      have e1m : nI m + (1 : Int32) = nI (m + 1) := nI_1 m
      have e19 : Mt 1 9 + (1 : Int32) = M 1 9 + nI 1 := by rw [tr 1 (by omega)]; rfl
      generalize hMu : j_up Mt 1 9 (M 1 9 + nI 1) = Mu at it
      have ru : ∀ a, a ≠ 1 → a ≠ 14 → Mu a = M a := fun a a1 a2 => by rw [← hMu, ju_row _ _ a1, tr a a2]
      have ru14 : Mu 14 = Mt 14 := by rw [← hMu, ju_row _ _ (by omega)]
      have eu19 : Mu 1 9 = M 1 9 + nI 1 := by rw [← hMu, ju_same]
      have eu306 : Mu 30 6 = nI m := by rw [ru 30 (by omega) (by omega)]; exact e0
      have hlen := ob_len h16
      -- nothing lies there yet
      have hdn : slA (D 42) (D 43) (D 31) (44 + m) = D 31 m := by unfold slA; rw [if_neg (by omega), if_neg (by omega), show 44 + m - 44 = m by omega]
      generalize hMv : j_clr Mu S.length 0 = Mv
      have rv : ∀ a, a ≠ S.length → Mv a = Mu a := fun a ha => by rw [← hMv, jc_row _ _ ha]
      generalize hDw : j_up (j_clr D S.length none) 31 m (some S.length) = Dw
      have rw' : ∀ a, a < S.length → a ≠ 31 → Dw a = D a := fun a a1 a2 => by rw [← hDw, ju_row _ _ a2, jc_row _ _ (by omega)]
      have rw31 : ∀ k, k ≠ m → Dw 31 k = D 31 k := fun k hk => by rw [← hDw, ju_cell _ _ hk, jc_row _ _ (by omega)]
      have rwm : Dw 31 m = some S.length := by rw [← hDw, ju_same]
      have tb := tl_at Mv S.length (nI p) (nI f) (nI g) (nI w) (nI fm) (nI pr) (nI pr)
      have tbr : ∀ a, a ≠ S.length → tlM Mv S.length (nI p) (nI f) (nI g) (nI w) (nI fm) (nI pr) (nI pr) a = Mv a := fun a ha => tl_row Mv _ _ _ _ _ _ _ ha
      have hadd : fX6_addHonest 14 Mu L G D S = some (j_up (tlM Mv S.length (nI p) (nI f) (nI g) (nI w) (nI fm) (nI pr) (nI pr)) 30 6 (nI (m + 1)), j_clr L S.length 0, j_clr G S.length none, Dw, S ++ [(0, 7)]) := by
        unfold fX6_addHonest fX0_init fX0_copyAll
        have c306 : (j_clr Mu S.length 0) 30 6 = nI m := by rw [jc_row _ _ (by omega)]; exact eu306
        have hSn : (S ++ [(0, 7)])[S.length]? = some (0, 7) := by
          rw [List.getElem?_append_right (Nat.le_refl _), Nat.sub_self]; rfl
        rw [eu306, if_neg (show ¬ (6 : Int32) ≤ nI m from nI_ge (b := 6) (by omega) (by omega)), Option.bind_some, jg_in hm6 (by decide), c306, jg_in hm6 (by decide), em, hDw, rwm, jo_s, jg_d hSn, hMv, rv 14 (by omega), ru14, ta.1, ta.2.1, ta.2.2.1, ta.2.2.2.1, ta.2.2.2.2.1, ta.2.2.2.2.2.1, ta.2.2.2.2.2.2, tl_eq, Option.bind_some, Option.bind_some, tbr 30 (by omega), rv 30 (by omega), eu306, e1m]
      generalize hMx : tlM Mv S.length (nI p) (nI f) (nI g) (nI w) (nI fm) (nI pr) (nI pr) = Mx at tb tbr hadd
      generalize hMy : j_up Mx 30 6 (nI (m + 1)) = My at hadd
      have ry : ∀ a, a ≠ 30 → a ≠ S.length → My a = Mu a := fun a a1 a2 => by rw [← hMy, ju_row _ _ a1, tbr a a2, rv a a2]
      have ry30 : ∀ k, k ≠ 6 → My 30 k = Mu 30 k := fun k hk => by rw [← hMy, ju_cell _ _ hk, tbr 30 (by omega), rv 30 (by omega)]
      generalize hN : j_up (j_up (j_up (j_up (j_up (j_up (j_up (j_up My 66 0 (nI 0)) 121 m (nI p)) 122 m (nI f)) 123 m (nI g)) 124 m (nI w)) 125 m (nI fm)) 126 m (nI pr)) 66 81 (nI (m + 1)) = N
      refine ⟨nI 1, My, j_clr L S.length 0, j_clr G S.length none, Dw, S ++ [(0, 7)], N, hcls _ ?_, ?_, ?_⟩
      · rw [s1', Option.bind_some, if_neg (by decide), t306, if_pos (show nI m < (6 : Int32) from nI_lt (b := 6) (by omega) (by omega)), e19, hMu, hadd]; rfl
      · unfold fX12_honest
        have e81 : (j_up My 66 0 (0 : Int32)) 66 81 = nI m := by rw [ju_cell _ _ (by omega), ry 66 (by omega) (by omega), ru 66 (by omega) (by omega)]; exact e66
        rw [s2 _ (by rw [ju_row _ _ (by omega), ry 67 (by omega) (by omega), ru 67 (by omega) (by omega)]), Option.bind_some, if_neg (by decide), e81, if_neg (show ¬ nI m = (6 : Int32) from fun e => by have := (nI_eq (b := 6) (by omega) (by omega)).mp e; omega)]
        have gm : ∀ {α : Type} (z : Option α), j_g (j_in (nI m) 6) z = z := fun z => jg_in hm6 (by decide)
        simp only [ju_row _ _ (show (66 : Nat) ≠ 121 by omega), ju_row _ _ (show (66 : Nat) ≠ 122 by omega), ju_row _ _ (show (66 : Nat) ≠ 123 by omega), ju_row _ _ (show (66 : Nat) ≠ 124 by omega), ju_row _ _ (show (66 : Nat) ≠ 125 by omega), ju_row _ _ (show (66 : Nat) ≠ 126 by omega), e81, gm, em, e1m]
        rw [← hN]; rfl
      · -- no slot there before: what is told there would lie in the count
        have rN : ∀ a, a ≠ 30 → a ≠ 66 → (a < 121 ∨ 126 < a) → a ≠ S.length → N a = Mu a := fun a a1 a2 a3 a4 => by
          rw [← hN, ju_row _ _ a2, ju_row _ _ (by omega), ju_row _ _ (by omega), ju_row _ _ (by omega), ju_row _ _ (by omega), ju_row _ _ (by omega), ju_row _ _ (by omega), ju_row _ _ a2, ry a a1 a4]
        have rN66 : ∀ k, k ≠ 0 → k ≠ 81 → N 66 k = Mu 66 k := fun k k1 k2 => by
          rw [← hN, ju_cell _ _ k2, ju_row _ _ (by omega), ju_row _ _ (by omega), ju_row _ _ (by omega), ju_row _ _ (by omega), ju_row _ _ (by omega), ju_row _ _ (by omega), ju_cell _ _ k1, ry 66 (by omega) (by omega)]
        have rN30 : ∀ k, k ≠ 6 → N 30 k = Mu 30 k := fun k hk => by
          rw [← hN, ju_row _ _ (by omega), ju_row _ _ (by omega), ju_row _ _ (by omega), ju_row _ _ (by omega), ju_row _ _ (by omega), ju_row _ _ (by omega), ju_row _ _ (by omega), ju_row _ _ (by omega), ry30 k hk]
        have hob : vOb (n + 1 + 1) (Dw 42) (Dw 43) (Dw 31) (S ++ [(0, 7)]) := by
          refine ob_new (vOb_n h16) (s0 := 44 + m) (by omega) (by rw [n31]; rfl) (by decide) (by unfold slS; rw [if_neg (by omega), if_neg (by omega)]; rfl) (sl31 rwm) (fun s hs hsm => ?_)
          unfold slA
          rw [rw' 42 (by omega) (by omega), rw' 43 (by omega) (by omega)]
          by_cases c : s < 40
          · rw [if_pos c, if_pos c]
          · rw [if_neg c, if_neg c]
            by_cases c2 : s < 44
            · rw [if_pos c2, if_pos c2]
            · rw [if_neg c2, if_neg c2, rw31 (s - 44) (by omega)]
        have hia : Inv (n + 1 + 1) Mv (j_clr L S.length 0) Dw (S ++ [(0, 7)]) := inv_al it (fun a ha => rv a (by omega)) (fun a ha => jc_row _ _ (by omega)) (rw' 0 (by omega) (by omega)) (rw' 15 (by omega) (by omega)) hob (fun k m' _ _ _ => by rw [rw' 42 (by omega) (by omega)]) (fun k m' hm' hm6' hk => by
          rw [eu306] at hm'
          have := (nI_eq (by omega) (by omega)).mp hm'
          exact rw31 k (by omega)) (fun k hk => Or.inl (by rw [rw' 43 (by omega) (by omega)]))
        have vN : ∀ a, a ≠ 30 → a ≠ 66 → (a < 121 ∨ 126 < a) → a ≠ S.length → N a = Mv a := fun a a1 a2 a3 a4 => by rw [rN a a1 a2 a3 a4, rv a a4]
        have vN66 : ∀ k, k ≠ 0 → k ≠ 81 → N 66 k = Mv 66 k := fun k k1 k2 => by rw [rN66 k k1 k2, rv 66 (by omega)]
        have f1 : ∀ a, 137 ≤ a → (a < S.length ∨ S.length + slN (44 + m) ≤ a) → N a = Mv a := fun a a1 a2 => by
          rw [n31] at a2
          exact vN a (by omega) (by omega) (by omega) (by omega)
        obtain ⟨g1, g2, g3, g4, g5, g6, g7, g8, g9, g10, g11, g12, g13, g14, g15, g16, g17, g18, g19⟩ := hia
        have gE : rg pE N = rg pE Mv := rg_cong (fun a k hp => by
          unfold pE at hp
          simp at hp
          by_cases e : a = 66
          · subst e; rw [vN66 k (by omega) (by omega)]
          · rw [vN a (by omega) e (by omega) (by omega)])
        have gL : rg pL N = rg pL Mv := rg_cong (fun a k hp => by
          unfold pL at hp
          simp at hp
          by_cases e : a = 66
          · subst e; rw [vN66 k (by omega) (by omega)]
          · rw [vN a (by omega) e (by omega) (by omega)])
        have gP : rg pP N = rg pP Mv := rg_cong (fun a k hp => by
          unfold pP at hp
          simp at hp
          rw [vN a (by omega) (by omega) (by omega) (by omega)])
        have gM : rg pM N = rg pM Mv := rg_cong (fun a k hp => by
          unfold pM at hp
          simp at hp
          rw [vN a (by omega) (by omega) (by omega) (by omega)])
        have n306 : N 30 6 = nI (m + 1) := by
          rw [← hN, ju_row _ _ (by omega), ju_row _ _ (by omega), ju_row _ _ (by omega), ju_row _ _ (by omega), ju_row _ _ (by omega), ju_row _ _ (by omega), ju_row _ _ (by omega), ju_row _ _ (by omega), ← hMy, ju_same]
        have n81 : N 66 81 = nI (m + 1) := by rw [← hN, ju_same]
        have n3012 : N 30 12 = Mv 30 12 := by rw [rN30 12 (by omega), rv 30 (by omega)]
        have hho : vHo (Mv 1 5) (nI (m + 1)) (nI (m + 1)) (rg pH N) (rg pD N) (Dw 31) := by
          obtain ⟨m', hm', k0, k66, hp'⟩ := g14
          have : m' = m := by
            rw [rv 30 (by omega), eu306] at k0
            exact ((nI_eq (by omega) (by omega)).mp k0).symm
          subst this
          refine ⟨m' + 1, by omega, rfl, rfl, fun k hk => ?_⟩
          have jr : ∀ a, 121 ≤ a → a ≤ 126 → rg pH N a k = N a k := fun a a1 a2 => rg_in (by unfold pH; simp [a1, a2])
          have jo : ∀ a, 121 ≤ a → a ≤ 126 → rg pH Mv a k = Mv a k := fun a a1 a2 => rg_in (by unfold pH; simp [a1, a2])
          by_cases e : k = m'
          · subst e
            refine ⟨S.length, rwm, by omega, ?_⟩
            rw [rgD_at (by omega)]
            have nS : N S.length = Mx S.length := by
              rw [← hN, ju_row _ _ (by omega), ju_row _ _ (by omega), ju_row _ _ (by omega), ju_row _ _ (by omega), ju_row _ _ (by omega), ju_row _ _ (by omega), ju_row _ _ (by omega), ju_row _ _ (by omega), ← hMy, ju_row _ _ (by omega)]
            rw [nS]
            have a121 : N 121 k = nI p := by rw [← hN, ju_row _ _ (by omega), ju_row _ _ (by omega), ju_row _ _ (by omega), ju_row _ _ (by omega), ju_row _ _ (by omega), ju_row _ _ (by omega), ju_same]
            have a122 : N 122 k = nI f := by rw [← hN, ju_row _ _ (by omega), ju_row _ _ (by omega), ju_row _ _ (by omega), ju_row _ _ (by omega), ju_row _ _ (by omega), ju_same]
            have a123 : N 123 k = nI g := by rw [← hN, ju_row _ _ (by omega), ju_row _ _ (by omega), ju_row _ _ (by omega), ju_row _ _ (by omega), ju_same]
            have a124 : N 124 k = nI w := by rw [← hN, ju_row _ _ (by omega), ju_row _ _ (by omega), ju_row _ _ (by omega), ju_same]
            have a125 : N 125 k = nI fm := by rw [← hN, ju_row _ _ (by omega), ju_row _ _ (by omega), ju_same]
            have a126 : N 126 k = nI pr := by rw [← hN, ju_row _ _ (by omega), ju_same]
            unfold vH1
            rw [jr 121 (by omega) (by omega), jr 122 (by omega) (by omega), jr 123 (by omega) (by omega), jr 124 (by omega) (by omega), jr 125 (by omega) (by omega), jr 126 (by omega) (by omega)]
            refine ⟨⟨p, hp, a121, tb.1, ?_⟩, ⟨f, g, hf, hg, hne, a122, tb.2.1, a123, tb.2.2.1⟩, ⟨w, hw1, hw2, a124, tb.2.2.2.1⟩, fm, hfm, a125, tb.2.2.2.2.1, pr, hpr, a126, tb.2.2.2.2.2.1, tb.2.2.2.2.2.2, fun e => (hgift e).1⟩
            rw [rv 1 (by omega), ← hMu, ju_cell _ _ (by omega), tr 1 (by omega)]; exact hbt
          · obtain ⟨b', hb', h137', v⟩ := hp' k (by omega)
            have ro := oth_rows g16 (by omega) (sl31 rwm) f1 (s := 44 + k) (by omega) (by omega) (sl31 hb')
            rw [n31] at ro
            have r0 := ro 0 (by omega)
            rw [Nat.add_zero] at r0
            have nk : ∀ a, 121 ≤ a → a ≤ 126 → rg pH N a k = rg pH Mv a k := fun a a1 a2 => by
              rw [jr a a1 a2, jo a a1 a2, ← hN, j_up_ne _ _ (fun x => by omega), j_up_ne _ _ (fun x => e x.2), j_up_ne _ _ (fun x => e x.2), j_up_ne _ _ (fun x => e x.2), j_up_ne _ _ (fun x => e x.2), j_up_ne _ _ (fun x => e x.2), j_up_ne _ _ (fun x => e x.2), ju_row _ _ (by omega), ry a (by omega) (by omega), rv a (by omega)]
            refine ⟨b', hb', h137', ?_⟩
            unfold vH1 at v ⊢
            rw [nk 121 (by omega) (by omega), nk 122 (by omega) (by omega), nk 123 (by omega) (by omega), nk 124 (by omega) (by omega), nk 125 (by omega) (by omega), nk 126 (by omega) (by omega), r0]
            exact v
        have hc2 : N 30 12 ≠ Mv 1 9 := by
          rw [rN30 12 (by omega), rv 1 (by omega), eu19, ru 30 (by omega) (by omega)]; exact off2
        unfold Inv
        rw [gE, gL, gP, gM, n81, n306, vN 0 (by omega) (by omega) (by omega) (by omega), vN 1 (by omega) (by omega) (by omega) (by omega), vN 2 (by omega) (by omega) (by omega) (by omega), vN 3 (by omega) (by omega) (by omega) (by omega), vN 4 (by omega) (by omega) (by omega) (by omega), vN 5 (by omega) (by omega) (by omega) (by omega), vN 6 (by omega) (by omega) (by omega) (by omega), vN 8 (by omega) (by omega) (by omega) (by omega), vN 9 (by omega) (by omega) (by omega) (by omega), vN 10 (by omega) (by omega) (by omega) (by omega), vN 11 (by omega) (by omega) (by omega) (by omega), vN 12 (by omega) (by omega) (by omega) (by omega), vN 13 (by omega) (by omega) (by omega) (by omega), vN 20 (by omega) (by omega) (by omega) (by omega), vN 28 (by omega) (by omega) (by omega) (by omega), vN 29 (by omega) (by omega) (by omega) (by omega), vN 33 (by omega) (by omega) (by omega) (by omega), vN 67 (by omega) (by omega) (by omega) (by omega), vN 68 (by omega) (by omega) (by omega) (by omega), vN 69 (by omega) (by omega) (by omega) (by omega), vN 70 (by omega) (by omega) (by omega) (by omega), vN 71 (by omega) (by omega) (by omega) (by omega), vN 72 (by omega) (by omega) (by omega) (by omega), vN 73 (by omega) (by omega) (by omega) (by omega), vN 74 (by omega) (by omega) (by omega) (by omega), vN66 8 (by omega) (by omega), vN66 9 (by omega) (by omega), vN66 52 (by omega) (by omega), vN66 88 (by omega) (by omega)]
        refine ⟨g1, g2, g3, g4, g5, g6, g7, g8, g9, g10, vChg_n (by rw [n3012]; exact g11), g12, ps_oth g16 (by omega) (by omega) (sl31 rwm) f1 g13, hho, vMk_n (mk_oth g16 (by omega) (by omega) (sl31 rwm) f1 g15), vOb_n g16, g17, fun e => absurd e hc2, g19⟩
