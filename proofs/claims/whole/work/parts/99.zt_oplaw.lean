/-- a reading changes nothing else of what holds -/
theorem inv_rd {n : Nat} {M M2 : JI} {L L2 : JL} {D D2 : JG} {S : JS} (h : Inv n M L D S) (hr : ∀ a, a ≠ 1 → a ≠ 12 → a ≠ 66 → (a < 44 ∨ (65 < a ∧ a < 75) ∨ 85 < a) → M2 a = M a) (h1' : ∀ k, k ≠ 9 → M2 1 k = M 1 k) (h66 : ∀ k, (k = 8 ∨ k = 52 ∨ k = 81 ∨ k = 88) → M2 66 k = M 66 k) (t1 : M2 12 1 = nI 0) (t2 : M2 66 9 = nI 0) (d42 : D2 42 = D 42) (d43 : D2 43 = D 43) (d31 : D2 31 = D 31) (hl : vLaw (rg pL M2) (L2 46) (L2 57) (D2 0 10) (D2 0 11) (D2 15 5)) (hch : vChg (n + 1) (M2 1 9) (M 20 19) (M 30 12) (M 33 14)) (c1 : vC1 (M 20) (M 28) (M 29) (M2 1 9) (rg pE M2)) (c2 : vC2 (M 30) (M2 1 9) (rg pE M2) (rg pH M) (M 66 81)) (c3 : vC3 (M 33) (M2 1 9) (rg pE M2) (M 73) (M 67)) : Inv (n + 1) M2 L2 D2 S := by
  obtain ⟨h1, h2, h3, h4, h5, h6, h7, h8, h9, h10, h11, h12, h13, h14, h15, h16, h17, h18, h19⟩ := h
  have eP : rg pP M2 = rg pP M := rg_cong (fun a k hp => by
    unfold pP at hp; simp at hp
    rw [hr a (by omega) (by omega) (by omega) (by omega)])
  have eD : rg pD M2 = rg pD M := rg_cong (fun a k hp => by
    unfold pD at hp; simp at hp
    rw [hr a (by omega) (by omega) (by omega) (by omega)])
  have eH : rg pH M2 = rg pH M := rg_cong (fun a k hp => by
    unfold pH at hp; simp at hp
    rw [hr a (by omega) (by omega) (by omega) (by omega)])
  have eM : rg pM M2 = rg pM M := rg_cong (fun a k hp => by
    unfold pM at hp; simp at hp
    rw [hr a (by omega) (by omega) (by omega) (by omega)])
  have e : ∀ a, a ≠ 1 → a ≠ 12 → a < 44 → M2 a = M a := fun a x1 x2 x3 => hr a x1 x2 (by omega) (by omega)
  have f : ∀ a, 66 < a → a < 75 → M2 a = M a := fun a x1 x2 => hr a (by omega) (by omega) (by omega) (by omega)
  unfold Inv
  rw [eP, eD, eH, eM, d42, d43, d31, h1' 5 (by omega), h1' 6 (by omega), h1' 7 (by omega), h1' 8 (by omega), h66 8 (by omega), h66 52 (by omega), h66 81 (by omega), h66 88 (by omega), e 0 (by omega) (by omega) (by omega), e 2 (by omega) (by omega) (by omega), e 3 (by omega) (by omega) (by omega), e 4 (by omega) (by omega) (by omega), e 5 (by omega) (by omega) (by omega), e 6 (by omega) (by omega) (by omega), e 8 (by omega) (by omega) (by omega), e 9 (by omega) (by omega) (by omega), e 10 (by omega) (by omega) (by omega), e 11 (by omega) (by omega) (by omega), e 20 (by omega) (by omega) (by omega), e 28 (by omega) (by omega) (by omega), e 29 (by omega) (by omega) (by omega), e 30 (by omega) (by omega) (by omega), e 33 (by omega) (by omega) (by omega), f 67 (by omega) (by omega), f 68 (by omega) (by omega), f 69 (by omega) (by omega), f 70 (by omega) (by omega), f 71 (by omega) (by omega), f 72 (by omega) (by omega), f 73 (by omega) (by omega)]
  exact ⟨h1, h2, h3, h4, h5, h6, h7, h8, h9, ⟨0, by omega, t1, t2, fun k hk => absurd hk (by omega)⟩, hch, hl, h13, h14, vMk_n h15, vOb_n h16, c1, c2, c3⟩
theorem j_read2 {X : Nat} (hX : X = 44 ∨ X = 55) {D : JG} {S : JS} (sX : S[X]? = some (4, 17)) {tx : Nat → Nat} {m : Nat} {M : JI} {Lc : JL} (hc : txR (M 13) tx m) (h1 : M 12 1 = nI m) (h74 : txR (M 74) tx m) (h9 : M 66 9 = nI m) : ∃ r M1 Lc1, fX8_read X M Lc D S = some (r, M1, Lc1, j_up D 12 9 (some X)) ∧ CFr X M M1 Lc Lc1 ∧ M1 12 1 = nI 0 ∧ ∀ (N : JI) (L : JL), N 74 = M 74 → N 66 9 = M 66 9 → ∃ N' L' v, fX12_readsAll N L = some (v, N', L') ∧ RFs N N' L L' ∧ ((v = nI 1 ∧ r = nI 0 ∧ ∃ l fi ff mb cs q, LSt X tx m l fi ff mb cs q M1 Lc1 N' ∧ cs ≤ 1000 ∧ q ≤ 1000 ∧ N' 66 35 = nI l ∧ (∃ p, jm_b01 (M1 X 15) = bI p ∧ N' 66 33 = bI p) ∧ ∃ p, jm_b01 (M1 X 16) = bI p ∧ N' 66 34 = bI p) ∨ (v = nI 0 ∧ ∃ f, 1 ≤ f ∧ f < 20000 ∧ r = nI f ∧ N' 66 17 = nI f)) := by
  obtain ⟨r, M1, Lc1, N', L', v, a1, a2, a3, a4, a5, a6⟩ := j_read hX (D := D) sX (N := M) (L := Lc) (Lc := Lc) hc h1 h74 h9
  refine ⟨r, M1, Lc1, a1, a3, a4, fun N L e74 e9 => ?_⟩
  obtain ⟨r', M1', Lc1', N2, L2, v2, b1, b2, b3, b4, b5, b6⟩ := j_read hX (D := D) sX (N := N) (L := L) (Lc := Lc) hc h1 (by rw [e74]; exact h74) (by rw [e9]; exact h9)
  rw [a1] at b1
  have e := Option.some.inj b1
  have e1 : r = r' := congrArg (fun z => z.1) e
  have e2 : M1 = M1' := congrArg (fun z => z.2.1) e
  have e3 : Lc1 = Lc1' := congrArg (fun z => z.2.2.1) e
  subst e1 e2 e3
  exact ⟨N2, L2, v2, b2, b5, b6⟩
theorem op_law {n : Nat} {M : JI} {L : JL} {D : JG} {S : JS} (h : Inv n M L D S) (hn : n < 4096) : ∃ r M1 L1 D1 M2 L2, fX11_law M L D S = some (r, M1, L1, D1) ∧ fX12_law M1 L1 = some (r, M2, L2) ∧ Inv (n + 1) M2 L2 D1 S := by
  have hInv := h
  obtain ⟨h1, h2, h3, h4, h5, h6, h7, h8, h9, h10, h11, h12, h13, h14, h15, h16, h17, h18, h19⟩ := h
  obtain ⟨X, Y, x1, x2, x3, hXY, hlw⟩ := h12
  obtain ⟨m, hm, e1, e2, ht⟩ := h10
  have hX : X = 44 ∨ X = 55 := by omega
  have hY : Y = 44 ∨ Y = 55 := by omega
  have sX : S[X]? = some (4, 17) := lay_at_S h16 (by rcases hX with rfl | rfl <;> decide +kernel)
  have sY : S[Y]? = some (4, 17) := lay_at_S h16 (by rcases hY with rfl | rfl <;> decide +kernel)
  have htx : ∀ k, k < m → M 74 k = nI (M 74 k).toNatClampNeg ∧ (M 74 k).toNatClampNeg ≤ 126 := by
    intro k hk
    obtain ⟨-, c, hc, hc2⟩ := ht k hk
    rw [hc, nI_clamp (by omega)]
    exact ⟨rfl, by omega⟩
  have h74 : txR (M 74) (fun k => (M 74 k).toNatClampNeg) m := ⟨hm, htx⟩
  have h13' : txR (M 13) (fun k => (M 74 k).toNatClampNeg) m := ⟨hm, fun k hk => ⟨by rw [(ht k hk).1]; exact (htx k hk).1, (htx k hk).2⟩⟩
  generalize (fun k => (M 74 k).toNatClampNeg) = tx at h74 h13'
  clear htx ht
  obtain ⟨r, M1, L1, a1, a2, a3, a4⟩ := j_read2 hY (D := D) (Lc := L) sY h13' e1 h74 e2
  have m74 : M1 74 = M 74 := a2.1 74 (by omega) (by omega)
  have m66 : M1 66 = M 66 := a2.1 66 (by omega) (by omega)
  have hd : decide (some (4, 17) = some ((4, 17) : Nat × Nat)) = true := by decide
  have hjt : ∀ {α : Type} (x : Option α), j_g true x = x := fun x => rfl
  -- what the class does with the reading
  have hlaw0 : fX11_law M L D S = (fX8_read Y M L D S).bind (fun q2 => if q2.1 = 0 then (j_opt (q2.2.2.2 0 10) (j_opt (q2.2.2.2 0 11) (none) (fun b4 => j_g (decide (S[b4]? = some (4, 17))) (none))) (fun b3 => j_g (decide (S[b3]? = some (4, 17))) (j_opt (q2.2.2.2 0 11) (none) (fun b5 => j_g (decide (S[b5]? = some (4, 17))) (j_opt ((j_up (j_up q2.2.2.2 0 10 (some b5)) 0 11 (some b3)) 0 10) (none) (fun b6 => j_g (decide (S[b6]? = some (4, 17))) (some ((0 : Int32), (j_up q2.2.1 1 9 ((q2.2.1 1 9) + (1 : Int32))), q2.2.2.1, (j_up (j_up (j_up q2.2.2.2 0 10 (some b5)) 0 11 (some b3)) 15 5 (some b6)))))))))) else (some (q2.1, q2.2.1, q2.2.2.1, q2.2.2.2))) := by
    unfold fX11_law
    rw [jo_some x2, sY, hd, hjt]
  rw [a1, Option.bind_some] at hlaw0
  dsimp only at hlaw0
  by_cases c0 : r = (0 : Int32)
  · subst c0
    have dx : (j_up D 12 9 (some Y)) 0 10 = some X := by rw [ju_row _ _ (by omega)]; exact x1
    have dy : (j_up D 12 9 (some Y)) 0 11 = some Y := by rw [ju_row _ _ (by omega)]; exact x2
    have dz : (j_up (j_up (j_up D 12 9 (some Y)) 0 10 (some Y)) 0 11 (some X)) 0 10 = some Y := by rw [ju_cell _ _ (by omega), ju_same]
    rw [if_pos rfl, jo_some dx, sX, hd, hjt, jo_some dy, sY, hd, hjt, jo_some dz, sY, hd, hjt] at hlaw0
    obtain ⟨N', L', v, b1, b2, b3⟩ := a4 (j_up (j_up M1 1 9 (M1 1 9 + (1 : Int32))) 66 0 (0 : Int32)) L1 (by rw [ju_row _ _ (by omega), ju_row _ _ (by omega)]; exact m74) (by rw [ju_cell _ _ (by omega), ju_row _ _ (by omega), m66])
    rcases b3 with ⟨rfl, -, l, fi, ff, mb, cs, q, hL, hcs, hq, h35, h33, h34⟩ | ⟨rfl, f, hf1, hf2, hf3, -⟩
    · have hl18 : l ≤ 18 := by have := hL.1; have := hL.2.1; have := hL.2.2.1; omega
      obtain ⟨N2, d1, d2, d3, d4⟩ := l43 hl18 (L := L') l 0 (by omega) 100000 (by omega) (j_up (j_up (j_up N' 66 18 (N' 66 35)) 66 29 (jm_b01 ((j_up N' 66 18 (N' 66 35)) 66 33))) 66 30 (jm_b01 ((j_up (j_up N' 66 18 (N' 66 35)) 66 29 (jm_b01 ((j_up N' 66 18 (N' 66 35)) 66 33))) 66 34))) (by rw [ju_cell _ _ (by omega), ju_cell _ _ (by omega), ju_same]; exact h35)
      obtain ⟨N3, f1, f2, f3, f4⟩ := l187 (L := L') 1000 0 (by omega) 100000 (by omega) N2
      have r66 : ∀ a, a ≠ 66 → (a < 75 ∨ 82 < a) → N2 a = N' a := fun a ha hb => by rw [d2 a hb, ju_row _ _ ha, ju_row _ _ ha, ju_row _ _ ha]
      have k66 : ∀ k, k ≠ 18 → k ≠ 29 → k ≠ 30 → N3 66 k = N' 66 k := fun k k1 k2 k3 => by rw [f2 66 (by omega), d2 66 (by omega), ju_cell _ _ k3, ju_cell _ _ k2, ju_cell _ _ k1]
      have m3 : ∀ a, a ≠ 66 → (a < 75 ∨ 85 < a) → N3 a = (j_up M1 1 9 (M1 1 9 + (1 : Int32))) a := fun a ha hb => by rw [f2 a (by omega), r66 a ha (by omega), b2.1 a ha hb, ju_row _ _ ha]
      have m3' : ∀ a, a ≠ 1 → a ≠ 66 → (a < 75 ∨ 85 < a) → N3 a = M1 a := fun a h1 ha hb => by rw [m3 a ha hb, ju_row _ _ h1]
      have hok : lwOK Y N3 (L1 (Y + 2)) := by
        refine l_ok hY hL hcs hq (fun a ha hb => m3' a (by omega) (by omega) (by omega)) ?_ ?_ ?_ (fun j hj => ?_) (fun j hj => ?_)
        · rw [f2 66 (by omega), d2 66 (by omega), ju_cell _ _ (by omega), ju_cell _ _ (by omega), ju_same]; exact h35
        · obtain ⟨p, p1, p2⟩ := h33
          refine ⟨p, p1, ?_⟩
          rw [f2 66 (by omega), d2 66 (by omega), ju_cell _ _ (by omega), ju_same, ju_cell _ _ (by omega), p2]; exact j01 p
        · obtain ⟨p, p1, p2⟩ := h34
          refine ⟨p, p1, ?_⟩
          rw [f2 66 (by omega), d2 66 (by omega), ju_same, ju_cell _ _ (by omega), ju_cell _ _ (by omega), p2]; exact j01 p
        · have := d4 j (by omega) hj
          unfold cp8 at this ⊢
          rw [f2 75 (by omega), f2 76 (by omega), f2 77 (by omega), f2 78 (by omega), f2 79 (by omega), f2 80 (by omega), f2 81 (by omega), f2 82 (by omega)]
          have e : ∀ a, 75 ≤ a → (j_up (j_up (j_up N' 66 18 (N' 66 35)) 66 29 (jm_b01 ((j_up N' 66 18 (N' 66 35)) 66 33))) 66 30 (jm_b01 ((j_up (j_up N' 66 18 (N' 66 35)) 66 29 (jm_b01 ((j_up N' 66 18 (N' 66 35)) 66 33))) 66 34))) a = N' a := fun a ha => by rw [ju_row _ _ (by omega), ju_row _ _ (by omega), ju_row _ _ (by omega)]
          rw [e 75 (by omega), e 76 (by omega), e 77 (by omega), e 78 (by omega), e 79 (by omega), e 80 (by omega), e 81 (by omega), e 82 (by omega)] at this
          exact this
        · rw [f4 j (by omega) hj, r66 83 (by omega) (by omega)]
      refine ⟨(0 : Int32), j_up M1 1 9 (M1 1 9 + (1 : Int32)), L1, j_up (j_up (j_up (j_up D 12 9 (some Y)) 0 10 (some Y)) 0 11 (some X)) 15 5 (some Y), N3, L', hlaw0, ?_, ?_⟩
      · unfold fX12_law
        rw [b1, Option.bind_some]
        dsimp only
        rw [if_neg (show ¬ nI 1 = (0 : Int32) by decide)]
        refine Eq.trans d1 ?_
        exact f1
      · have r19 : N3 1 9 = M 1 9 + nI 1 := by rw [m3 1 (by omega) (by omega), ju_same, a2.1 1 (by omega) (by omega)]; rfl
        refine inv_rd hInv (fun a h1 h12 h66 ha => ?_) (fun k hk => ?_) (fun k hk => ?_) ?_ ?_ ?_ ?_ ?_ ?_ ?_ ?_ ?_ ?_
        · rw [m3' a h1 h66 (by omega), a2.1 a h12 (by omega)]
        · rw [m3 1 (by omega) (by omega), ju_cell _ _ hk, a2.1 1 (by omega) (by omega)]
        · rw [k66 k (by omega) (by omega) (by omega), b2.2.1 k (by omega), ju_cell _ _ (by omega), ju_row _ _ (by omega), m66]
        · rw [m3' 12 (by omega) (by omega) (by omega)]; exact a3
        · rw [k66 9 (by omega) (by omega) (by omega)]; exact b2.2.2.2.2.2
        · rw [ju_row _ _ (by omega), ju_row _ _ (by omega), ju_row _ _ (by omega), ju_row _ _ (by omega)]
        · rw [ju_row _ _ (by omega), ju_row _ _ (by omega), ju_row _ _ (by omega), ju_row _ _ (by omega)]
        · rw [ju_row _ _ (by omega), ju_row _ _ (by omega), ju_row _ _ (by omega), ju_row _ _ (by omega)]
        · refine ⟨Y, X, ?_, ?_, ?_, by omega, ?_⟩
          · rw [ju_row _ _ (by omega), ju_cell _ _ (by omega), ju_same]
          · rw [ju_row _ _ (by omega), ju_same]
          · rw [ju_same]
          · have eL : (if Y = 44 then L' 46 else L' 57) = L1 (Y + 2) := by
              rcases hY with rfl | rfl
              · rw [if_pos rfl, b2.2.2.1 46 (by omega)]
              · rw [if_neg (by omega), b2.2.2.1 57 (by omega)]
            rw [eL]
            refine lwOK_fr hok (fun a ha hb => ?_) ?_ ?_ ?_ (fun a j ha hb hj => ?_) (fun j hj => ?_)
            · funext k
              exact rg_in (by unfold pL; simp; omega)
            · exact rg_in (by decide)
            · exact rg_in (by decide)
            · exact rg_in (by decide)
            · exact rg_in (by unfold pL; simp; omega)
            · exact rg_in (by unfold pL; simp; omega)
        · rw [r19]; exact vChg_up h11 hn
        · rw [r19]; exact vC1_vac h11 hn
        · rw [r19]; exact vC2_vac h11 hn
        · rw [r19]; exact vC3_vac h11 hn
    · exfalso
      exact nI_ne0 (show 0 < f by omega) (by omega) hf3.symm
  · rw [if_neg c0] at hlaw0
    obtain ⟨N', L', v, b1, b2, b3⟩ := a4 (j_up M1 66 0 (0 : Int32)) L1 (by rw [ju_row _ _ (by omega)]; exact m74) (by rw [ju_cell _ _ (by omega), m66])
    rcases b3 with ⟨-, hr, -⟩ | ⟨rfl, f, hf1, hf2, hf3, hf4⟩
    · exact absurd hr c0
    · have m3 : ∀ a, a ≠ 66 → (a < 75 ∨ 85 < a) → N' a = M1 a := fun a ha hb => by rw [b2.1 a ha hb, ju_row _ _ ha]
      have m4 : ∀ a j, 75 ≤ a → a ≤ 82 → j < 18 → N' a j = M a j := fun a j ha hb hj => by rw [b2.2.2.2.1 a j ha hb hj, ju_row _ _ (by omega), a2.1 a (by omega) (by omega)]
      have m5 : ∀ j, j < 1000 → N' 83 j = M 83 j := fun j hj => by rw [b2.2.2.2.2.1 j hj, ju_row _ _ (by omega), a2.1 83 (by omega) (by omega)]
      have m6 : ∀ k, (k = 8 ∨ k = 18 ∨ k = 29 ∨ k = 30 ∨ k = 52 ∨ k = 81 ∨ k = 88) → N' 66 k = M 66 k := fun k hk => by rw [b2.2.1 k (by omega), ju_cell _ _ (by omega), m66]
      have m7 : ∀ a, a ≠ 12 → a ≠ 66 → (a < Y ∨ Y + 10 < a) → (a < 75 ∨ 85 < a) → N' a = M a := fun a h1 h2 h3 h4 => by rw [m3 a h2 h4, a2.1 a h1 h3]
      have eE : rg pE N' = rg pE M := rg_cong (fun a k hp => by
        unfold pE at hp; simp at hp
        rcases hp with ((⟨rfl, hk⟩ | hk) | hk) | ⟨rfl, hk⟩
        · exact m6 k (by omega)
        · rw [m7 a (by omega) (by omega) (by omega) (by omega)]
        · exact m4 a k (by omega) (by omega) (by omega)
        · exact m5 k hk)
      refine ⟨r, M1, L1, j_up D 12 9 (some Y), N', L', hlaw0, ?_, ?_⟩
      · unfold fX12_law
        rw [b1, Option.bind_some]
        dsimp only
        rw [if_pos (show nI 0 = (0 : Int32) from rfl), hf4, hf3]
      · have r19 : N' 1 = M 1 := m7 1 (by omega) (by omega) (by omega) (by omega)
        refine inv_rd hInv (fun a h1 h12 h66 ha => ?_) (fun k hk => ?_) (fun k hk => ?_) ?_ ?_ ?_ ?_ ?_ ?_ ?_ ?_ ?_ ?_
        · exact m7 a h12 h66 (by omega) (by omega)
        · rw [r19]
        · exact m6 k (by omega)
        · rw [m3 12 (by omega) (by omega)]; exact a3
        · exact b2.2.2.2.2.2
        · rw [ju_row _ _ (by omega)]
        · rw [ju_row _ _ (by omega)]
        · rw [ju_row _ _ (by omega)]
        · refine ⟨X, Y, ?_, ?_, ?_, hXY, ?_⟩
          · rw [ju_row _ _ (by omega)]; exact x1
          · rw [ju_row _ _ (by omega)]; exact x2
          · rw [ju_row _ _ (by omega)]; exact x3
          · have eL : (if X = 44 then L' 46 else L' 57) = (if X = 44 then L 46 else L 57) := by
              rw [b2.2.2.1 46 (by omega), b2.2.2.1 57 (by omega)]
              rcases hX with rfl | rfl
              · rw [if_pos rfl, if_pos rfl, a2.2.2.2 46 (by omega)]
              · rw [if_neg (by omega), if_neg (by omega), a2.2.2.2 57 (by omega)]
            rw [eL]
            refine lwOK_fr hlw (fun a ha hb => ?_) ?_ ?_ ?_ (fun a j ha hb hj => ?_) (fun j hj => ?_)
            · funext k
              unfold rg
              rw [m7 a (by omega) (by omega) (by omega) (by omega)]
            · unfold rg; rw [m6 18 (by omega)]
            · unfold rg; rw [m6 29 (by omega)]
            · unfold rg; rw [m6 30 (by omega)]
            · unfold rg; rw [m4 a j ha hb hj]
            · unfold rg; rw [m5 j hj]
        · rw [r19]; exact vChg_n h11
        · rw [r19, eE]; exact h17
        · rw [r19, eE]; exact h18
        · rw [r19, eE]; exact h19
