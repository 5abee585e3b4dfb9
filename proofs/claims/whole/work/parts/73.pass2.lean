theorem old_row {n : Nat} {M M' : JI} {D42 D43 D31 : Nat → Option Nat} {S : JS} (h16 : vOb n D42 D43 D31 S) (hM : ∀ a, a < S.length → M' a = M a) {s b : Nat} (hs : s < 50) (hb : slA D42 D43 D31 s = some b) : ∀ i, i < slN s → rg pD M' (b + i) = rg pD M (b + i) := by
  intro i hi
  have := h16.2.2.2.1 s b hs hb
  rw [rgD_at (by omega), rgD_at (by omega), hM (b + i) (by omega)]
theorem ob_len {n : Nat} {D42 D43 D31 : Nat → Option Nat} {S : JS} (h16 : vOb n D42 D43 D31 S) : 137 ≤ S.length := by
  obtain ⟨⟨T, rfl⟩, -⟩ := h16
  rw [List.length_append, List.length_cons]
  have : lay_S.length = 136 := by decide +kernel
  omega
/-- the slots, when one more is filled at the end -/
theorem ob_new {n : Nat} {D42 D43 D31 D42' D43' D31' : Nat → Option Nat} {S T : JS} (h16 : vOb n D42 D43 D31 S) {s0 : Nat} (hs0 : s0 < 50) (hT : T.length = slN s0) (hsl : jm_sl T ≤ 2000) (hS0 : T[0]? = some (slS s0)) (hnew : slA D42' D43' D31' s0 = some S.length) (hold : ∀ s, s < 50 → s ≠ s0 → slA D42' D43' D31' s = slA D42 D43 D31 s) : vOb (n + 1) D42' D43' D31' (S ++ T) := by
  have hlen := ob_len h16
  obtain ⟨⟨T0, hT0⟩, a2, a3, a4, a5⟩ := h16
  have hsz : slN s0 ≤ 7 := by unfold slN; (repeat' split) <;> omega
  refine ⟨⟨T0 ++ T, by rw [hT0]; simp⟩, ?_, ?_, fun s b hs hb => ?_, fun s s' b b' hs hs' hne hb hb' => ?_⟩
  · rw [List.length_append, hT]; omega
  · unfold jm_sl at a3 hsl ⊢
    rw [List.map_append, List.sum_append]; omega
  · rw [List.length_append, hT]
    by_cases e : s = s0
    · subst e
      rw [hnew] at hb
      cases hb
      refine ⟨hlen, by omega, ?_⟩
      rw [List.getElem?_append_right (Nat.le_refl _), Nat.sub_self]
      exact hS0
    · rw [hold s hs e] at hb
      obtain ⟨c1, c2, c3⟩ := a4 s b hs hb
      refine ⟨c1, by omega, ?_⟩
      rw [List.getElem?_append_left (List.getElem?_eq_some_iff.mp c3).1]
      exact c3
  · by_cases e : s = s0
    · subst e
      rw [hnew] at hb
      cases hb
      rw [hold s' hs' (fun h => hne h.symm)] at hb'
      have := (a4 s' b' hs' hb').2.1
      omega
    · rw [hold s hs e] at hb
      by_cases e' : s' = s0
      · subst e'
        rw [hnew] at hb'
        cases hb'
        have := (a4 s b hs hb).2.1
        omega
      · rw [hold s' hs' e'] at hb'
        exact a5 s s' b b' hs hs' hne hb hb'
/-- what lies below the end of what is made -/
theorem inv_al {n : Nat} {M M' : JI} {L L' : JL} {D D' : JG} {S T : JS} (h : Inv n M L D S) (hM : ∀ a, a < S.length → M' a = M a) (hL : ∀ a, a < S.length → L' a = L a) (e0 : D' 0 = D 0) (e15 : D' 15 = D 15) (h16' : vOb (n + 1) (D' 42) (D' 43) (D' 31) (S ++ T)) (hps : ∀ k m, M 0 12 = nI m → m ≤ 40 → k < m → D' 42 k = D 42 k) (hho : ∀ k m, M 30 6 = nI m → m ≤ 6 → k < m → D' 31 k = D 31 k) (hmk : ∀ k, k < 4 → D' 43 k = D 43 k ∨ (D 43 k = none ∧ ∀ b, D' 43 k = some b → 137 ≤ b ∧ M' b 2 = nI 0)) : Inv (n + 1) M' L' D' (S ++ T) := by
  obtain ⟨h1, h2, h3, h4, h5, h6, h7, h8, h9, h10, h11, h12, h13, h14, h15, h16, h17, h18, h19⟩ := h
  have hlen := ob_len h16
  have r : ∀ a, a < 137 → M' a = M a := fun a ha => hM a (by omega)
  have gE : rg pE M' = rg pE M := rg_cong (fun a k hp => by
    unfold pE at hp; simp at hp; rw [r a (by omega)])
  have gL : rg pL M' = rg pL M := rg_cong (fun a k hp => by
    unfold pL at hp; simp at hp; rw [r a (by omega)])
  have gP : rg pP M' = rg pP M := rg_cong (fun a k hp => by
    unfold pP at hp; simp at hp; rw [r a (by omega)])
  have gM : rg pM M' = rg pM M := rg_cong (fun a k hp => by
    unfold pM at hp; simp at hp; rw [r a (by omega)])
  have gH : rg pH M' = rg pH M := rg_cong (fun a k hp => by
    unfold pH at hp; simp at hp; rw [r a (by omega)])
  unfold Inv
  rw [gE, gL, gP, gM, gH, e0, e15, hL 46 (by omega), hL 57 (by omega), r 0 (by omega), r 1 (by omega), r 2 (by omega), r 3 (by omega), r 4 (by omega), r 5 (by omega), r 6 (by omega), r 8 (by omega), r 9 (by omega), r 10 (by omega), r 11 (by omega), r 12 (by omega), r 13 (by omega), r 20 (by omega), r 28 (by omega), r 29 (by omega), r 30 (by omega), r 33 (by omega), r 66 (by omega), r 67 (by omega), r 68 (by omega), r 69 (by omega), r 70 (by omega), r 71 (by omega), r 72 (by omega), r 73 (by omega), r 74 (by omega)]
  refine ⟨h1, h2, h3, h4, h5, h6, h7, h8, h9, h10, vChg_n h11, h12, ?_, ?_, ?_, h16', h17, h18, h19⟩
  · obtain ⟨m, hm, k0, k66, hp⟩ := h13
    refine ⟨m, hm, k0, k66, fun k hk => ?_⟩
    obtain ⟨b, hb, h137, v⟩ := hp k hk
    have hsl : slA (D 42) (D 43) (D 31) k = some b := by unfold slA; rw [if_pos (by omega)]; exact hb
    have hN6 : slN k = 6 := by unfold slN; rw [if_pos (by omega)]
    have ro := old_row h16 hM (by omega) hsl
    rw [hN6] at ro
    have r0 := ro 0 (by omega)
    rw [Nat.add_zero] at r0
    refine ⟨b, by rw [hps k m k0 hm hk]; exact hb, h137, ?_⟩
    rw [r0, ro 1 (by omega), ro 2 (by omega), ro 3 (by omega), ro 4 (by omega), ro 5 (by omega)]
    exact v
  · obtain ⟨m, hm, k0, k66, hp⟩ := h14
    refine ⟨m, hm, k0, k66, fun k hk => ?_⟩
    obtain ⟨b, hb, h137, v⟩ := hp k hk
    have hsl : slA (D 42) (D 43) (D 31) (44 + k) = some b := by unfold slA; rw [if_neg (by omega), if_neg (by omega), show 44 + k - 44 = k by omega]; exact hb
    have hN1 : slN (44 + k) = 1 := by unfold slN; rw [if_neg (by omega), if_neg (by omega)]
    have r0 := old_row h16 hM (by omega) hsl 0 (by omega)
    rw [Nat.add_zero] at r0
    refine ⟨b, by rw [hho k m k0 hm hk]; exact hb, h137, ?_⟩
    rw [r0]; exact v
  · obtain ⟨l, hl, k0, k66, cP', hcP, ecP, ld, pm, hmm, hord⟩ := h15
    refine ⟨l, by omega, k0, k66, cP', hcP, ecP, ld, pm, fun k hk => ?_, hord⟩
    obtain ⟨a1, a2, a3, a4⟩ := hmm k hk
    rcases hmk k hk with e | ⟨e, enew⟩
    · refine ⟨a1, a2, fun hnn => a3 (by rw [← e]; exact hnn), fun b hb => ?_⟩
      rw [e] at hb
      obtain ⟨c1, c2, c3⟩ := a4 b hb
      have hsl : slA (D 42) (D 43) (D 31) (40 + k) = some b := by unfold slA; rw [if_neg (by omega), if_pos (by omega), show 40 + k - 40 = k by omega]; exact hb
      have hN7 : slN (40 + k) = 7 := by unfold slN; rw [if_neg (by omega), if_pos (by omega)]
      have ro := old_row h16 hM (by omega) hsl
      rw [hN7] at ro
      have r0 := ro 0 (by omega)
      rw [Nat.add_zero] at r0
      refine ⟨c1, by rw [r0]; exact c2, fun hne => ⟨(c3 hne).1, ?_⟩⟩
      rw [r0, ro 2 (by omega), ro 3 (by omega), ro 4 (by omega), ro 5 (by omega), ro 6 (by omega)]
      exact (c3 hne).2
    · have hz := a3 e
      refine ⟨a1, a2, fun _ => hz, fun b hb => ?_⟩
      obtain ⟨c1, c2⟩ := enew b hb
      refine ⟨c1, ?_, fun hne => absurd hz hne⟩
      rw [rgD_at c1, c2, hz]
theorem inv_n {n : Nat} {M : JI} {L : JL} {D : JG} {S : JS} (h : Inv n M L D S) : Inv (n + 1) M L D S := by
  obtain ⟨h1, h2, h3, h4, h5, h6, h7, h8, h9, h10, h11, h12, h13, h14, h15, h16, h17, h18, h19⟩ := h
  exact ⟨h1, h2, h3, h4, h5, h6, h7, h8, h9, h10, vChg_n h11, h12, h13, h14, vMk_n h15, vOb_n h16, h17, h18, h19⟩
/-- the deal told, the changes counted -/
theorem inv_tell {n : Nat} {M : JI} {L : JL} {D : JG} {S : JS} (h : Inv n M L D S) (hn : n < 4096) (x1 x2 x3 x4 x5 x6 x7 : Int32) : Inv (n + 1) (j_up (tlM M 14 x1 x2 x3 x4 x5 x6 x7) 1 9 (M 1 9 + nI 1)) L D S ∧ M 20 19 ≠ M 1 9 + nI 1 ∧ M 30 12 ≠ M 1 9 + nI 1 ∧ M 33 14 ≠ M 1 9 + nI 1 := by
  obtain ⟨h1, h2, h3, h4, h5, h6, h7, h8, h9, h10, h11, h12, h13, h14, h15, h16, h17, h18, h19⟩ := h
  refine ⟨?_, ?_⟩
  · unfold tlM
    exact ⟨(by simpa (disch := omega) only [ju_row, ju_cell, ju_cell2, ju_same, jr_ne, jr_at, jr_at2, jr_ne2, rE_up, rD_up, rP_up, rM_up, rH_up, rL_up, rE_jr, rD_jr, rP_jr, rM_jr, rH_jr, rL_jr] using h1), (by simpa (disch := omega) only [ju_row, ju_cell, ju_cell2, ju_same, jr_ne, jr_at, jr_at2, jr_ne2, rE_up, rD_up, rP_up, rM_up, rH_up, rL_up, rE_jr, rD_jr, rP_jr, rM_jr, rH_jr, rL_jr] using h2), (by simpa (disch := omega) only [ju_row, ju_cell, ju_cell2, ju_same, jr_ne, jr_at, jr_at2, jr_ne2, rE_up, rD_up, rP_up, rM_up, rH_up, rL_up, rE_jr, rD_jr, rP_jr, rM_jr, rH_jr, rL_jr] using h3), (by simpa (disch := omega) only [ju_row, ju_cell, ju_cell2, ju_same, jr_ne, jr_at, jr_at2, jr_ne2, rE_up, rD_up, rP_up, rM_up, rH_up, rL_up, rE_jr, rD_jr, rP_jr, rM_jr, rH_jr, rL_jr] using h4), (by simpa (disch := omega) only [ju_row, ju_cell, ju_cell2, ju_same, jr_ne, jr_at, jr_at2, jr_ne2, rE_up, rD_up, rP_up, rM_up, rH_up, rL_up, rE_jr, rD_jr, rP_jr, rM_jr, rH_jr, rL_jr] using h5), (by simpa (disch := omega) only [ju_row, ju_cell, ju_cell2, ju_same, jr_ne, jr_at, jr_at2, jr_ne2, rE_up, rD_up, rP_up, rM_up, rH_up, rL_up, rE_jr, rD_jr, rP_jr, rM_jr, rH_jr, rL_jr] using h6), (by simpa (disch := omega) only [ju_row, ju_cell, ju_cell2, ju_same, jr_ne, jr_at, jr_at2, jr_ne2, rE_up, rD_up, rP_up, rM_up, rH_up, rL_up, rE_jr, rD_jr, rP_jr, rM_jr, rH_jr, rL_jr] using h7), (by simpa (disch := omega) only [ju_row, ju_cell, ju_cell2, ju_same, jr_ne, jr_at, jr_at2, jr_ne2, rE_up, rD_up, rP_up, rM_up, rH_up, rL_up, rE_jr, rD_jr, rP_jr, rM_jr, rH_jr, rL_jr] using h8), (by simpa (disch := omega) only [ju_row, ju_cell, ju_cell2, ju_same, jr_ne, jr_at, jr_at2, jr_ne2, rE_up, rD_up, rP_up, rM_up, rH_up, rL_up, rE_jr, rD_jr, rP_jr, rM_jr, rH_jr, rL_jr] using h9), (by simpa (disch := omega) only [ju_row, ju_cell, ju_cell2, ju_same, jr_ne, jr_at, jr_at2, jr_ne2, rE_up, rD_up, rP_up, rM_up, rH_up, rL_up, rE_jr, rD_jr, rP_jr, rM_jr, rH_jr, rL_jr] using h10), (by simpa (disch := omega) only [ju_row, ju_cell, ju_cell2, ju_same, jr_ne, jr_at, jr_at2, jr_ne2, rE_up, rD_up, rP_up, rM_up, rH_up, rL_up, rE_jr, rD_jr, rP_jr, rM_jr, rH_jr, rL_jr] using (vChg_up h11 hn)), (by simpa (disch := omega) only [ju_row, ju_cell, ju_cell2, ju_same, jr_ne, jr_at, jr_at2, jr_ne2, rE_up, rD_up, rP_up, rM_up, rH_up, rL_up, rE_jr, rD_jr, rP_jr, rM_jr, rH_jr, rL_jr] using h12), (by simpa (disch := omega) only [ju_row, ju_cell, ju_cell2, ju_same, jr_ne, jr_at, jr_at2, jr_ne2, rE_up, rD_up, rP_up, rM_up, rH_up, rL_up, rE_jr, rD_jr, rP_jr, rM_jr, rH_jr, rL_jr] using h13), (by simpa (disch := omega) only [ju_row, ju_cell, ju_cell2, ju_same, jr_ne, jr_at, jr_at2, jr_ne2, rE_up, rD_up, rP_up, rM_up, rH_up, rL_up, rE_jr, rD_jr, rP_jr, rM_jr, rH_jr, rL_jr] using h14), (by simpa (disch := omega) only [ju_row, ju_cell, ju_cell2, ju_same, jr_ne, jr_at, jr_at2, jr_ne2, rE_up, rD_up, rP_up, rM_up, rH_up, rL_up, rE_jr, rD_jr, rP_jr, rM_jr, rH_jr, rL_jr] using (vMk_n h15)), (by simpa (disch := omega) only [ju_row, ju_cell, ju_cell2, ju_same, jr_ne, jr_at, jr_at2, jr_ne2, rE_up, rD_up, rP_up, rM_up, rH_up, rL_up, rE_jr, rD_jr, rP_jr, rM_jr, rH_jr, rL_jr] using (vOb_n h16)), (by simpa (disch := omega) only [ju_row, ju_cell, ju_cell2, ju_same, jr_ne, jr_at, jr_at2, jr_ne2, rE_up, rD_up, rP_up, rM_up, rH_up, rL_up, rE_jr, rD_jr, rP_jr, rM_jr, rH_jr, rL_jr] using (vC1_vac h11 hn)), (by simpa (disch := omega) only [ju_row, ju_cell, ju_cell2, ju_same, jr_ne, jr_at, jr_at2, jr_ne2, rE_up, rD_up, rP_up, rM_up, rH_up, rL_up, rE_jr, rD_jr, rP_jr, rM_jr, rH_jr, rL_jr] using (vC2_vac h11 hn)), (by simpa (disch := omega) only [ju_row, ju_cell, ju_cell2, ju_same, jr_ne, jr_at, jr_at2, jr_ne2, rE_up, rD_up, rP_up, rM_up, rH_up, rL_up, rE_jr, rD_jr, rP_jr, rM_jr, rH_jr, rL_jr] using (vC3_vac h11 hn))⟩
  · obtain ⟨c, hc, ec, k1, k2, k3⟩ := h11
    rw [ec]
    exact ⟨ch_ne (by omega) k1, ch_ne (by omega) k2, ch_ne (by omega) k3⟩
theorem pi_eq (M : JI) (L : JL) (G D : JG) (S : JS) : ∃ q : JI × JL × JG × JG × JS, fX7_init (S).length (j_clr M (S).length 0) (j_clr L (S).length 0) (j_clr G (S).length none) (j_clr D (S).length none) (S ++ [(7, 9)]) = some q ∧ (∀ a, a < S.length → q.1 a = M a) ∧ (∀ a, a < S.length → q.2.1 a = L a) ∧ (∀ a, a < S.length → q.2.2.2.1 a = D a) ∧ q.2.2.2.2 = S ++ [(7, 9), (0, 7), (20, 16), (20, 16), (20, 16), (20, 19)] := by
  refine ⟨_, rfl, ?_, ?_, ?_, ?_⟩
  · intro a ha
    simp only [List.length_append, List.length_cons, List.length_nil]
    rw [jc_row _ _ (by omega), jc_row _ _ (by omega), jc_row _ _ (by omega), jc_row _ _ (by omega), jc_row _ _ (by omega), jc_row _ _ (by omega)]
  · intro a ha
    simp only [List.length_append, List.length_cons, List.length_nil]
    rw [jc_row _ _ (by omega), jc_row _ _ (by omega)]
  · intro a ha
    simp only [List.length_append, List.length_cons, List.length_nil]
    rw [jc_row _ _ (by omega), jc_row _ _ (by omega)]
  · simp
theorem op_pass {n : Nat} {M : JI} {L : JL} {G D : JG} {S : JS} (h : Inv n M L D S) (hn : n < 4000) (x1 x2 x3 x4 x5 x6 x7 : Int32) : ∃ r M1 L1 G1 D1 S1 M2, fX11_pass x1 x2 x3 x4 x5 x6 x7 M L G D S = some (r, M1, L1, G1, D1, S1) ∧ fX12_pass x1 x2 x3 x4 x5 x6 x7 M1 = some (r, M2) ∧ Inv (n + 3) M2 L1 D1 S1 := by
  have hh := h
  obtain ⟨h1, h2, h3, h4, h5, h6, h7, h8, h9, h10, h11, h12, h13, h14, h15, h16, h17, h18, h19⟩ := hh
  have ta := tl_at M 14 x1 x2 x3 x4 x5 x6 x7
  have tr : ∀ a, a ≠ 14 → tlM M 14 x1 x2 x3 x4 x5 x6 x7 a = M a := fun a ha => tl_row M x1 x2 x3 x4 x5 x6 x7 ha
  obtain ⟨it, off1, off2, off3⟩ := inv_tell h (by omega) x1 x2 x3 x4 x5 x6 x7
  generalize hMt : tlM M 14 x1 x2 x3 x4 x5 x6 x7 = Mt at ta tr it
  have hcls : ∀ K, (fX0_canBe 14 7 Mt).bind (fun q2 => if q2 = 0 then (some ((-1 : Int32), Mt, L, G, D, S)) else (if (Mt 0 12) < (40 : Int32) then (j_g (j_in ((j_up Mt 1 9 ((Mt 1 9) + (1 : Int32))) 0 12) 40) (j_opt (D 42 ((j_up Mt 1 9 ((Mt 1 9) + (1 : Int32))) 0 12).toNatClampNeg) ((fX7_init (S).length (j_clr (j_up Mt 1 9 ((Mt 1 9) + (1 : Int32))) (S).length 0) (j_clr L (S).length 0) (j_clr G (S).length none) (j_clr D (S).length none) (S ++ [(7, 9)])).bind (fun q4 => j_g (decide (q4.2.2.2.2[(S).length]? = some (7, 9))) (j_g (j_in ((j_up Mt 1 9 ((Mt 1 9) + (1 : Int32))) 0 12) 40) (fX11_pass_88 x1 x2 x3 x4 q4.1 q4.2.1 q4.2.2.1 (j_up q4.2.2.2.1 42 ((j_up Mt 1 9 ((Mt 1 9) + (1 : Int32))) 0 12).toNatClampNeg (some (S).length)) q4.2.2.2.2)))) (fun b3 => j_g (decide (S[b3]? = some (7, 9))) (fX11_pass_88 x1 x2 x3 x4 (j_up Mt 1 9 ((Mt 1 9) + (1 : Int32))) L G D S)))) else (some ((-1 : Int32), Mt, L, G, D, S)))) = K → fX11_pass x1 x2 x3 x4 x5 x6 x7 M L G D S = K := by
    intro K hK
    unfold fX11_pass
    rw [tl_eq, Option.bind_some, hMt]
    exact hK
  have fin : fX11_pass x1 x2 x3 x4 x5 x6 x7 M L G D S = some (-nI 1, Mt, L, G, D, S) → fX12_pass x1 x2 x3 x4 x5 x6 x7 Mt = some (-nI 1, j_up Mt 66 0 (nI 0)) → ∃ r M1 L1 G1 D1 S1 M2, fX11_pass x1 x2 x3 x4 x5 x6 x7 M L G D S = some (r, M1, L1, G1, D1, S1) ∧ fX12_pass x1 x2 x3 x4 x5 x6 x7 M1 = some (r, M2) ∧ Inv (n + 3) M2 L1 D1 S1 := by
    intro a b
    refine ⟨_, _, _, _, _, _, _, a, b, inv_n (inv_n ?_)⟩
    refine inv_scr h (fun a h1 h2 => by rw [ju_row _ _ h2, tr a (by omega)]) (fun k => ?_) rfl rfl rfl rfl rfl
    by_cases e : k = 0
    · exact Or.inl (Or.inl e)
    · right; rw [ju_cell _ _ e, tr 66 (by omega)]
  rcases snd_cases h1 x1 x2 x3 x4 x5 x6 x7 with ⟨s1, s2⟩ | ⟨p, f, g, w, fm, pr, pd, hp, hf, hg, hne, hw1, hw2, hfm, hpr, hpd, -, hbt, rfl, rfl, rfl, rfl, rfl, rfl, rfl, s1, s2⟩
  · refine fin (hcls _ ?_) ?_
    · unfold fX0_canBe
      rw [s1 Mt 14 (by rw [tr 1 (by omega)]) ta.1 ta.2.1 ta.2.2.1 ta.2.2.2.1 ta.2.2.2.2.1 ta.2.2.2.2.2.1 ta.2.2.2.2.2.2]; rfl
    · unfold fX12_pass
      rw [s2 _ (by rw [ju_row _ _ (by omega), tr 67 (by omega)])]; rfl
  · have s1' := s1 Mt 14 (by rw [tr 1 (by omega)]) ta.1 ta.2.1 ta.2.2.1 ta.2.2.2.1 ta.2.2.2.2.1 ta.2.2.2.2.2.1 ta.2.2.2.2.2.2
    have hv : vHd (Mt 8) (Mt 9) (Mt 10) (Mt 11) (hN (M 68)) := by rw [tr 8 (by omega), tr 9 (by omega), tr 10 (by omega), tr 11 (by omega)]; exact h3
    have hcb : fX0_canBe 14 7 Mt = if nI (hN (M 68) p f) < nI w then some (0 : Int32) else some (1 : Int32) := by
      unfold fX0_canBe
      rw [s1', Option.bind_some, if_neg (by decide), ta.1, ta.2.1, ta.2.2.2.1, of_eq (M := Mt) (t := 7) hv.1 hp hf, Option.bind_some]
    have hle12 := (h2.1 p f hp hf).2
    obtain ⟨m, hm, e0, e66, -⟩ := h13
    have hpre : ∀ K, (if nI (hN (M 68) p f) < nI w then (some ((-1 : Int32), (j_up Mt 66 0 (0 : Int32)))) else (if nI m = (40 : Int32) then (some ((-1 : Int32), (j_up Mt 66 0 (0 : Int32)))) else none)) = some K → fX12_pass (nI p) (nI f) (nI g) (nI w) (nI fm) (nI pr) (nI pd) Mt = some K := by
      intro K hK
      unfold fX12_pass
      rw [s2 _ (by rw [ju_row _ _ (by omega), tr 67 (by omega)]), Option.bind_some, if_neg (by decide), at16, jg_in (by omega) (by decide), nI_clamp (by omega), ju_row _ _ (show (68 : Nat) ≠ 66 by omega), tr 68 (by omega), (h2.1 p f hp hf).1, ju_cell _ _ (show (52 : Nat) ≠ 0 by omega), tr 66 (by omega), e66]
      by_cases c1 : nI (hN (M 68) p f) < nI w
      · rw [if_pos c1] at hK ⊢; exact hK
      · rw [if_neg c1] at hK ⊢
        by_cases c2 : nI m = (40 : Int32)
        · rw [if_pos c2] at hK ⊢; exact hK
        · rw [if_neg c2] at hK
          exact absurd hK (by simp)
    by_cases cw : w ≤ hN (M 68) p f
    · have cw1 : ¬ nI (hN (M 68) p f) < nI w := nI_nlt cw (by omega)
      by_cases cm : m = 40
      · refine fin (hcls _ ?_) (hpre _ ?_)
        · rw [hcb, if_neg cw1, Option.bind_some, if_neg (by decide), tr 0 (by omega), e0, if_neg (show ¬ nI m < (40 : Int32) from nI_nlt (b := 40) (by omega) (by omega))]; rfl
        · rw [if_neg cw1, if_pos (by rw [cm]; rfl)]; rfl
      · have hm40 : m < 40 := by omega
        have em : (nI m).toNatClampNeg = m := nI_clamp (by omega)
        have e19 : Mt 1 9 + (1 : Int32) = M 1 9 + nI 1 := by rw [tr 1 (by omega)]; rfl
        generalize hMu : j_up Mt 1 9 (M 1 9 + nI 1) = Mu at it
        have ru : ∀ a, a ≠ 1 → a ≠ 14 → Mu a = M a := fun a a1 a2 => by rw [← hMu, ju_row _ _ a1, tr a a2]
        have ru14 : Mu 14 = Mt 14 := by rw [← hMu, ju_row _ _ (by omega)]
        have eu19 : Mu 1 9 = M 1 9 + nI 1 := by rw [← hMu, ju_same]
        have eu012 : Mu 0 12 = nI m := by rw [ru 0 (by omega) (by omega)]; exact e0
        have hgo : ∀ K, (j_opt (D 42 m) ((fX7_init (S).length (j_clr Mu (S).length 0) (j_clr L (S).length 0) (j_clr G (S).length none) (j_clr D (S).length none) (S ++ [(7, 9)])).bind (fun q4 => j_g (decide (q4.2.2.2.2[(S).length]? = some (7, 9))) (j_g (j_in (nI m) 40) (fX11_pass_88 (nI p) (nI f) (nI g) (nI w) q4.1 q4.2.1 q4.2.2.1 (j_up q4.2.2.2.1 42 m (some (S).length)) q4.2.2.2.2)))) (fun b3 => j_g (decide (S[b3]? = some (7, 9))) (fX11_pass_88 (nI p) (nI f) (nI g) (nI w) Mu L G D S))) = K → fX11_pass (nI p) (nI f) (nI g) (nI w) (nI fm) (nI pr) (nI pd) M L G D S = K := by
          intro K hK
          apply hcls
          rw [hcb, if_neg cw1, Option.bind_some, if_neg (by decide), tr 0 (by omega), e0, if_pos (show nI m < (40 : Int32) from nI_lt (b := 40) (by omega) (by omega)), e19, hMu, eu012, jg_in hm40 (by decide), em]
          exact hK
        cases hd : D 42 m with
        | some b =>
          obtain ⟨M1, D1, N, c1, c2, c3⟩ := pass_core (G := G) it hm40 eu012 hd hp hf hg hne hw1 hw2 hfm hpr hpd (by rw [ru14]; exact ta.1) (by rw [ru14]; exact ta.2.1) (by rw [ru14]; exact ta.2.2.1) (by rw [ru14]; exact ta.2.2.2.1) (by rw [ru14]; exact ta.2.2.2.2.1) (by rw [ru14]; exact ta.2.2.2.2.2.1) (by rw [ru14]; exact ta.2.2.2.2.2.2) (by rw [ru 68 (by omega) (by omega)]; exact cw) (fun N hN => s2 N (by rw [hN, ru 67 (by omega) (by omega)])) (by rw [ru 20 (by omega) (by omega), eu19]; exact off1) (by rw [ru 30 (by omega) (by omega), eu19]; exact off2) (by rw [ru 33 (by omega) (by omega), eu19]; exact off3)
          have hSb : S[b]? = some (7, 9) := by
            have := (h16.2.2.2.1 m b (by omega) (by unfold slA; rw [if_pos hm40]; exact hd)).2.2
            rw [this]; unfold slS; rw [if_pos hm40]
          exact ⟨nI m, M1, L, G, D1, S, N, hgo _ (by rw [hd, jo_s, jg_d hSb, c1]), c2, inv_n c3⟩
        | none =>
          have hlen := ob_len h16
          generalize hT : ([(7, 9), (0, 7), (20, 16), (20, 16), (20, 16), (20, 19)] : JS) = T
          obtain ⟨⟨Mv, Lv, Gv, Dv, Sv⟩, hi, m1, m2, m3, hSv⟩ := pi_eq Mu L G D S
          replace m1 : ∀ a, a < S.length → Mv a = Mu a := m1
          replace m2 : ∀ a, a < S.length → Lv a = L a := m2
          replace m3 : ∀ a, a < S.length → Dv a = D a := m3
          replace hSv : Sv = S ++ [(7, 9), (0, 7), (20, 16), (20, 16), (20, 16), (20, 19)] := hSv
          rw [hT] at hSv
          subst hSv
          have hdv : ∀ a, a < S.length → a ≠ 42 → (j_up Dv 42 m (some S.length)) a = D a := fun a a1 a2 => by rw [ju_row _ _ a2, m3 a a1]
          have hd42 : ∀ k, k ≠ m → (j_up Dv 42 m (some S.length)) 42 k = D 42 k := fun k hk => by rw [ju_cell _ _ hk, m3 42 (by omega)]
          have hdm : (j_up Dv 42 m (some S.length)) 42 m = some S.length := ju_same _ _ _ _
          generalize hDw : j_up Dv 42 m (some S.length) = Dw at hdv hd42 hdm
          have hob : vOb (n + 1 + 1) (Dw 42) (Dw 43) (Dw 31) (S ++ T) := by
            refine ob_new (vOb_n h16) (s0 := m) (by omega) (by rw [← hT]; unfold slN; rw [if_pos hm40]; rfl) (by rw [← hT]; decide) (by rw [← hT]; unfold slS; rw [if_pos hm40]; rfl) (by unfold slA; rw [if_pos hm40]; exact hdm) (fun s hs hsm => ?_)
            unfold slA
            rw [hdv 43 (by omega) (by omega), hdv 31 (by omega) (by omega)]
            by_cases c : s < 40
            · rw [if_pos c, if_pos c]; exact hd42 s hsm
            · rw [if_neg c, if_neg c]
          have hia : Inv (n + 1 + 1) Mv Lv Dw (S ++ T) := inv_al it m1 m2 (hdv 0 (by omega) (by omega)) (hdv 15 (by omega) (by omega)) hob (fun k m' hm' hm40' hk => by
            rw [eu012] at hm'
            have := (nI_eq (by omega) (by omega)).mp hm'
            exact hd42 k (by omega)) (fun k m' _ _ _ => by rw [hdv 31 (by omega) (by omega)]) (fun k hk => Or.inl (by rw [hdv 43 (by omega) (by omega)]))
          have rv : ∀ a, a < 137 → Mv a = Mu a := fun a ha => m1 a (by omega)
          obtain ⟨M1, D1, N, c1, c2, c3⟩ := pass_core (G := Gv) hia hm40 (by rw [rv 0 (by omega)]; exact eu012) hdm hp hf hg hne hw1 hw2 hfm hpr hpd (by rw [rv 14 (by omega), ru14]; exact ta.1) (by rw [rv 14 (by omega), ru14]; exact ta.2.1) (by rw [rv 14 (by omega), ru14]; exact ta.2.2.1) (by rw [rv 14 (by omega), ru14]; exact ta.2.2.2.1) (by rw [rv 14 (by omega), ru14]; exact ta.2.2.2.2.1) (by rw [rv 14 (by omega), ru14]; exact ta.2.2.2.2.2.1) (by rw [rv 14 (by omega), ru14]; exact ta.2.2.2.2.2.2) (by rw [rv 68 (by omega), ru 68 (by omega) (by omega)]; exact cw) (fun N hN => s2 N (by rw [hN, rv 67 (by omega), ru 67 (by omega) (by omega)])) (by rw [rv 20 (by omega), rv 1 (by omega), ru 20 (by omega) (by omega), eu19]; exact off1) (by rw [rv 30 (by omega), rv 1 (by omega), ru 30 (by omega) (by omega), eu19]; exact off2) (by rw [rv 33 (by omega), rv 1 (by omega), ru 33 (by omega) (by omega), eu19]; exact off3)
          have hSn : (S ++ T)[S.length]? = some (7, 9) := by
            rw [List.getElem?_append_right (Nat.le_refl _), Nat.sub_self, ← hT]; rfl
          refine ⟨nI m, M1, Lv, Gv, D1, S ++ T, N, hgo _ ?_, c2, c3⟩
          rw [hd, jo_n, hi, Option.bind_some]
          show j_g (decide ((S ++ T)[S.length]? = some (7, 9))) (j_g (j_in (nI m) 40) (fX11_pass_88 (nI p) (nI f) (nI g) (nI w) Mv Lv Gv (j_up Dv 42 m (some S.length)) (S ++ T))) = _
          rw [jg_d hSn, jg_in hm40 (by decide), hDw, c1]
    · have cw1 : nI (hN (M 68) p f) < nI w := nI_lt (by omega) (by omega)
      refine fin (hcls _ ?_) (hpre _ ?_)
      · rw [hcb, if_pos cw1]; rfl
      · rw [if_pos cw1]; rfl
