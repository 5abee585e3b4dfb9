theorem vM1_J {m pm : Nat} {B0 B2 B3 B4 B5 B6 : Nat → Int32} {J J' : JI} (e128 : ∀ p, p < 12 → J' 128 (12 * m + p) = J 128 (12 * m + p)) (e129 : ∀ i, i < 192 → J' 129 (192 * m + i) = J 129 (192 * m + i)) (e130 : J' 130 m = J 130 m) (e131 : J' 131 m = J 131 m) (e132 : ∀ i, i < 640 → J' 132 (640 * m + i) = J 132 (640 * m + i) ∧ J' 133 (640 * m + i) = J 133 (640 * m + i)) (e134 : ∀ i, i < 40 → J' 134 (40 * m + i) = J 134 (40 * m + i) ∧ J' 135 (40 * m + i) = J 135 (40 * m + i)) (hpm : pm ≤ 40) (v : vM1 m pm B0 B2 B3 B4 B5 B6 J) : vM1 m pm B0 B2 B3 B4 B5 B6 J' := by
  obtain ⟨v1, ⟨h, u1, u2, u3⟩, v3, v4, v5, v6⟩ := v
  refine ⟨fun p hp => by rw [e128 p hp]; exact v1 p hp, ⟨h, u1, fun p q hp hq => by rw [e129 _ (by omega)]; exact u2 p q hp hq, u3⟩, by rw [e130]; exact v3, by rw [e131]; exact v4, v5, fun k hk => ?_⟩
  obtain ⟨w1, w2, w3, w4⟩ := v6 k hk
  refine ⟨fun q hq => ?_, by rw [(e134 k (by omega)).1]; exact w2, w3, by rw [(e134 k (by omega)).2]; exact w4⟩
  rw [(e132 (16 * k + q) (by omega)).1, (e132 (16 * k + q) (by omega)).2]
  exact w1 q hq
theorem rgM_at {M : JI} {a : Nat} (h1 : 127 ≤ a) (h2 : a ≤ 135) : rg pM M a = M a := by
  funext k
  exact rg_in (by unfold pM; simp [h1, h2])
theorem mark_lay {n : Nat} {M : JI} {L : JL} {G D : JG} {S : JS} (h : Inv n M L D S) {m b : Nat} (hm : m < 4) (hb : D 43 m = some b) : ∃ M1 M2, fX11_mark_43 (nI m) M L G D S = some (nI 1, M1, L, G, D, S) ∧ fX12_mark (nI m) (nI 0) M1 = some (nI 1, M2) ∧ Inv (n + 1) M2 L D S := by
  have hh := h
  obtain ⟨h1, h2, h3, h4, h5, h6, h7, h8, h9, h10, h11, h12, h13, h14, h15, h16, h17, h18, h19⟩ := hh
  have hsl := sl43 (D42 := D 42) (D31 := D 31) hm hb
  have hslot := h16.2.2.2.1 (40 + m) b (by omega) hsl
  have h137 : 137 ≤ b := hslot.1
  have hSb : S[b]? = some (5, 6) := by rw [hslot.2.2]; unfold slS; rw [if_neg (by omega), if_pos (by omega)]
  have em : (nI m).toNatClampNeg = m := nI_clamp (by omega)
  obtain ⟨l, hl, k0, k66, cP', hcP, ecP, ld, pm, hmk, hord⟩ := h15
  obtain ⟨c13, hc13, kc0, kc66, hps⟩ := h13
  have ecc : c13 = cP' := (nI_eq (by omega) (by omega)).mp (kc0.symm.trans ecP)
  subst ecc
  have e1l : nI l + (1 : Int32) = nI (l + 1) := nI_1 l
  have hl' : l < 2 ^ 31 - 1 ∨ 2 ^ 31 - 1 ≤ l := by omega
  let bk : Nat → Nat := fun k => (D 42 k).getD 0
  have hbk : ∀ k, k < c13 → D 42 k = some (bk k) := by
    intro k hk
    obtain ⟨b', hb', -⟩ := hps k hk
    show D 42 k = some ((D 42 k).getD 0)
    rw [hb']; rfl
  generalize hMa : j_up M 0 13 (nI (l + 1)) = Ma
  have ra : ∀ a, a ≠ 0 → Ma a = M a := fun a ha => by rw [← hMa, ju_row _ _ ha]
  obtain ⟨M1, y1, y2, y3, y4, y5, y6, y7, y8, y9, y10, y11⟩ := lay_eq (M := Ma) (lv := nI (l + 1)) h16 (show 40 ≤ 40 + m by omega) (by omega) hsl hc13 bk hbk
  have r1 : ∀ a, (a < b ∨ b + 6 < a) → a ≠ 0 → M1 a = M a := fun a a1 a2 => by rw [y2 a a1, ra a a2]
  obtain ⟨N, z1, z2, z3, z4, z5, z6, z7, z8, z9, z10, z11, z12, z13, z14, z15, z16, z17⟩ := keeps_eq (j_up M1 66 0 (nI 0)) hm
  have rJ : ∀ a, a < 137 → a ≠ 0 → a ≠ 66 → (j_up M1 66 0 (nI 0)) a = M a := fun a a1 a2 a3 => by rw [ju_row _ _ a3, r1 a (by omega) a2]
  have rJ66 : ∀ k, k ≠ 0 → (j_up M1 66 0 (nI 0)) 66 k = M 66 k := fun k hk => by rw [ju_cell _ _ hk, r1 66 (by omega) (by omega)]
  have rN : ∀ a, (a < 127 ∨ 135 < a) → a ≠ 66 → N a = M1 a := fun a a1 a2 => by rw [z2 a a1 a2, ju_row _ _ a2]
  have rN0 : ∀ a, a < 127 → a ≠ 0 → a ≠ 66 → N a = M a := fun a a1 a2 a3 => by rw [rN a (by omega) a3, r1 a (by omega) a2]
  have rN66 : ∀ k, k ≠ 0 → k ≠ 88 → N 66 k = M 66 k := fun k k1 k2 => by rw [z3 k k2, rJ66 k k1]
  have e88 : (j_up M1 66 0 (nI 0)) 66 88 = nI l := by rw [rJ66 88 (by omega)]; exact k66
  rw [e88] at z4 z5
  rw [nI_add] at z4 z5
  refine ⟨M1, N, ?_, ?_, ?_⟩
  · unfold fX11_mark_43
    have e12 : (j_up M 0 13 (M 0 13 + (1 : Int32))) 0 12 = nI c13 := by rw [ju_cell _ _ (by omega)]; exact kc0
    rw [jg_in hm (by decide), em, hb, jo_s, jg_d hSb, ju_same, e12, k0, e1l, hMa, y1]; rfl
  · unfold fX12_mark fX12_within fX12_mark_29
    rw [if_neg (show ¬ nI m < (0 : Int32) from nI_pos (by omega)), if_neg (show ¬ (3 : Int32) < nI m from nI_nlt (a := 3) (by omega) (by omega)), Option.bind_some, if_neg (by decide), if_pos (by decide), if_pos (by decide)]
    have z1' : fX12_keeps (nI m) (j_up M1 66 0 (0 : Int32)) = some N := z1
    rw [z1']; rfl
  · have f1 : ∀ a, 137 ≤ a → (a < b ∨ b + slN (40 + m) ≤ a) → N a = M a := fun a a1 a2 => by
      rw [n43 hm] at a2
      rw [rN a (by omega) (by omega), r1 a (by omega) (by omega)]
    have gE : rg pE N = rg pE M := rg_cong (fun a k hp => by
      unfold pE at hp
      simp at hp
      by_cases e : a = 66
      · subst e; rw [rN66 k (by omega) (by omega)]
      · rw [rN0 a (by omega) (by omega) e])
    have gL : rg pL N = rg pL M := rg_cong (fun a k hp => by
      unfold pL at hp
      simp at hp
      by_cases e : a = 66
      · subst e; rw [rN66 k (by omega) (by omega)]
      · rw [rN0 a (by omega) (by omega) e])
    have gP : rg pP N = rg pP M := rg_cong (fun a k hp => by
      unfold pP at hp
      simp at hp
      rw [rN0 a (by omega) (by omega) (by omega)])
    have gH : rg pH N = rg pH M := rg_cong (fun a k hp => by
      unfold pH at hp
      simp at hp
      rw [rN0 a (by omega) (by omega) (by omega)])
    have n0 : ∀ k, k ≠ 13 → N 0 k = M 0 k := fun k hk => by rw [rN 0 (by omega) (by omega), y2 0 (by omega), ← hMa, ju_cell _ _ hk]
    have n013 : N 0 13 = nI (l + 1) := by rw [rN 0 (by omega) (by omega), y2 0 (by omega), ← hMa, ju_same]
    have nb : ∀ a, 137 ≤ a → N a = M1 a := fun a ha => rN a (by omega) (by omega)
    obtain ⟨e9, dn, hdn, edn⟩ := h9
    have hmk' : vMk (n + 1) (nI (l + 1)) (nI (l + 1)) (nI c13) (M 1 5) (rg pM N) (rg pD N) (D 43) := by
      refine ⟨l + 1, by omega, rfl, rfl, c13, hc13, rfl, fun j => if j = m then l + 1 else ld j, fun j => if j = m then c13 else pm j, fun j hj => ?_, fun j j' hj hj' hne hle => ?_⟩
      · by_cases e : j = m
        · subst e
          simp only [if_true]
          refine ⟨by rw [rgM_at (by omega) (by omega)]; exact z5, by omega, fun hnn => by rw [hb] at hnn; exact absurd hnn (by simp), fun b' hb' => ?_⟩
          rw [hb] at hb'
          cases hb'
          rw [rgD_at h137, rgD_at (by omega), rgD_at (by omega), rgD_at (by omega), rgD_at (by omega), rgD_at (by omega), nb b (by omega), nb (b + 2) (by omega), nb (b + 3) (by omega), nb (b + 4) (by omega), nb (b + 5) (by omega), nb (b + 6) (by omega)]
          refine ⟨h137, y3, fun _ => ⟨Nat.le_refl _, fun p hp hbt => (by rw [y4, ra 1 (by omega)] at hbt; exact hbt), ?_⟩⟩
          have ea15 : Ma 1 5 = M 1 5 := by rw [ra 1 (by omega)]
          have ea18 : Ma 1 8 = M 1 8 := by rw [ra 1 (by omega)]
          unfold vM1
          rw [rgM_at (by omega) (by omega), rgM_at (by omega) (by omega), rgM_at (by omega) (by omega), rgM_at (by omega) (by omega), rgM_at (by omega) (by omega), rgM_at (by omega) (by omega), rgM_at (by omega) (by omega), rgM_at (by omega) (by omega), y4, ea15, y5, ea18]
          refine ⟨fun p hp => ?_, ⟨hN (M 68), vHd_rows y7 y8 y9 y10 (by rw [ra 8 (by omega), ra 9 (by omega), ra 10 (by omega), ra 11 (by omega)]; exact h3), fun p q hp hq => ⟨?_, (h2.1 p q hp hq).2⟩, h2.2⟩, ⟨dn, hdn, ?_, edn⟩, ?_, y6, fun k hk => ?_⟩
          · rw [z7 p hp, rJ 67 (by omega) (by omega) (by omega), h1.1 p hp, bI_b01]
          · rw [z9 _ (by omega), rJ 68 (by omega) (by omega) (by omega)]; exact (h2.1 p q hp hq).1
          · rw [z11, rJ66 8 (by omega), ← e9, edn]
          · rw [z12, rJ66 52 (by omega)]; exact kc66
          · obtain ⟨b', hb', h137', v⟩ := hps k hk
            have : b' = bk k := by
              have := hbk k hk
              rw [hb'] at this
              exact Option.some.inj this
            subst this
            obtain ⟨-, -, -, -, -, -, ⟨x, hx, x1, x2⟩, -, -, -, ⟨t1, t2⟩, -, s, es, vq⟩ := v
            rw [rgD_at (by omega)] at x2 t1
            have jP : ∀ a i, 96 ≤ a → a ≤ 113 → rg pP M a i = M a i := fun a i a1 a2 => rg_in (by unfold pP; simp [a1, a2])
            rw [jP 102 k (by omega) (by omega)] at x1
            rw [jP 106 k (by omega) (by omega)] at t1 t2
            refine ⟨fun q hq => ?_, ?_, ?_, x, hx, ?_, ?_⟩
            · obtain ⟨w1, w2, w3, w4, w5, w6⟩ := vq q hq
              rw [jP 112 _ (by omega) (by omega), rgD_at (by omega)] at w3
              rw [jP 112 _ (by omega) (by omega)] at w4
              rw [jP 113 _ (by omega) (by omega), rgD_at (by omega)] at w5
              have z14' := z14 (16 * k + q) (by omega)
              rw [z14'.1, z14'.2, y11 k q hk (by omega), y11 k 16 hk (by omega), rJ 112 (by omega) (by omega) (by omega), rJ 113 (by omega) (by omega) (by omega), ra _ (by omega), w5, bI_b01, ← w3]
              exact ⟨rfl, w4, rfl⟩
            · rw [(z16 k (by omega)).1, y11 k 17 hk (by omega), rJ 106 (by omega) (by omega) (by omega), ra _ (by omega)]; exact t1
            · rw [y11 k 17 hk (by omega), ra _ (by omega), ← t1]; exact t2
            · rw [(z16 k (by omega)).2, rJ 102 (by omega) (by omega) (by omega)]; exact x1
            · rw [y11 k 18 hk (by omega), ra _ (by omega)]; exact x2
        · simp only [if_neg e]
          obtain ⟨a1, a2, a3, a4⟩ := hmk j hj
          rw [rgM_at (by omega) (by omega)] at a1
          refine ⟨by rw [rgM_at (by omega) (by omega), z6 j e, rJ 127 (by omega) (by omega) (by omega)]; exact a1, by omega, a3, fun b' hb' => ?_⟩
          obtain ⟨c1, c2, c3⟩ := a4 b' hb'
          have ro := oth_rows h16 (by omega) hsl f1 (s := 40 + j) (by omega) (by omega) (sl43 hj hb')
          rw [n43 hj] at ro
          have r0 := ro 0 (by omega)
          rw [Nat.add_zero] at r0
          refine ⟨c1, by rw [r0]; exact c2, fun hne => ?_⟩
          obtain ⟨d1, d0, d2⟩ := c3 hne
          refine ⟨d1, by rw [r0]; exact d0, ?_⟩
          rw [r0, ro 2 (by omega), ro 3 (by omega), ro 4 (by omega), ro 5 (by omega), ro 6 (by omega)]
          refine vM1_J (J := rg pM M) (fun p hp => ?_) (fun i hi => ?_) ?_ ?_ (fun i hi => ?_) (fun i hi => ?_) (by omega) d2
          · rw [rgM_at (by omega) (by omega), rgM_at (by omega) (by omega), z8 _ (by omega), rJ 128 (by omega) (by omega) (by omega)]
          · rw [rgM_at (by omega) (by omega), rgM_at (by omega) (by omega), z10 _ (by omega), rJ 129 (by omega) (by omega) (by omega)]
          · rw [rgM_at (by omega) (by omega), rgM_at (by omega) (by omega), (z13 j e).1, rJ 130 (by omega) (by omega) (by omega)]
          · rw [rgM_at (by omega) (by omega), rgM_at (by omega) (by omega), (z13 j e).2, rJ 131 (by omega) (by omega) (by omega)]
          · rw [rgM_at (show 127 ≤ 132 by omega) (by omega), rgM_at (show 127 ≤ 133 by omega) (by omega), rgM_at (show 127 ≤ 132 by omega) (by omega), rgM_at (show 127 ≤ 133 by omega) (by omega), (z15 _ (by omega)).1, (z15 _ (by omega)).2, rJ 132 (by omega) (by omega) (by omega), rJ 133 (by omega) (by omega) (by omega)]
            exact ⟨rfl, rfl⟩
          · rw [rgM_at (show 127 ≤ 134 by omega) (by omega), rgM_at (show 127 ≤ 135 by omega) (by omega), rgM_at (show 127 ≤ 134 by omega) (by omega), rgM_at (show 127 ≤ 135 by omega) (by omega), (z17 _ (by omega)).1, (z17 _ (by omega)).2, rJ 134 (by omega) (by omega) (by omega), rJ 135 (by omega) (by omega) (by omega)]
            exact ⟨rfl, rfl⟩
      · by_cases e : j = m
        · by_cases e' : j' = m
          · simp only [e, e', if_true]; exact Nat.le_refl _
          · simp only [e, if_true, if_neg e'] at hle
            have := (hmk j' hj').2.1
            omega
        · simp only [if_neg e] at hne hle ⊢
          by_cases e' : j' = m
          · simp only [e', if_true]
            obtain ⟨a1, a2, a3, a4⟩ := hmk j hj
            cases hd : D 43 j with
            | none => exact absurd (a3 hd) hne
            | some b' => exact ((a4 b' hd).2.2 hne).1
          · simp only [if_neg e'] at hle ⊢
            exact hord j j' hj hj' hne hle
    have h13 : vPs (M 0 12) (M 66 52) (rg pP M) (rg pD M) (D 42) := ⟨c13, hc13, kc0, kc66, hps⟩
    unfold Inv
    rw [gE, gL, gP, gH, n013, z4, n0 12 (by omega), rN0 1 (by omega) (by omega) (by omega), rN0 2 (by omega) (by omega) (by omega), rN0 3 (by omega) (by omega) (by omega), rN0 4 (by omega) (by omega) (by omega), rN0 5 (by omega) (by omega) (by omega), rN0 6 (by omega) (by omega) (by omega), rN0 8 (by omega) (by omega) (by omega), rN0 9 (by omega) (by omega) (by omega), rN0 10 (by omega) (by omega) (by omega), rN0 11 (by omega) (by omega) (by omega), rN0 12 (by omega) (by omega) (by omega), rN0 13 (by omega) (by omega) (by omega), rN0 20 (by omega) (by omega) (by omega), rN0 28 (by omega) (by omega) (by omega), rN0 29 (by omega) (by omega) (by omega), rN0 30 (by omega) (by omega) (by omega), rN0 33 (by omega) (by omega) (by omega), rN0 67 (by omega) (by omega) (by omega), rN0 68 (by omega) (by omega) (by omega), rN0 69 (by omega) (by omega) (by omega), rN0 70 (by omega) (by omega) (by omega), rN0 71 (by omega) (by omega) (by omega), rN0 72 (by omega) (by omega) (by omega), rN0 73 (by omega) (by omega) (by omega), rN0 74 (by omega) (by omega) (by omega), rN66 8 (by omega) (by omega), rN66 9 (by omega) (by omega), rN66 52 (by omega) (by omega), rN66 81 (by omega) (by omega)]
    exact ⟨h1, h2, h3, h4, h5, h6, h7, h8, ⟨e9, dn, hdn, edn⟩, h10, vChg_n h11, h12, ps_oth h16 (by omega) (by omega) hsl f1 h13, ho_oth h16 (by omega) hsl f1 h14, by rw [kc0]; exact hmk', vOb_n h16, h17, h18, h19⟩
