theorem j_loop {X : Nat} (hX : X = 44 ∨ X = 55) {D : JG} {S : JS} (d9 : D 12 9 = some X) (sX : S[X]? = some (4, 17)) {tx : Nat → Nat} {m : Nat} : ∀ e b c l fi ff mb cs q (p1 p2 : Bool) (I : JI) (Lc : JL) (N : JI) (L : JL), m - b ≤ e → c ≤ b → LPs X tx m b l fi ff mb cs q p1 p2 I Lc N L → ∀ n n', e + 1 < n → e < n' → ∃ r I' Lc' N' L' v, fX8_read_38 X n (nI c) I Lc D S = some (r, I', Lc', D) ∧ fX12_readsAll_48 n' (bI p1) (bI p2) (nI fi) (nI mb) N L = some (v, N', L') ∧ LOut X tx m I Lc N L r I' Lc' N' L' v := by
  intro e
  induction e with
  | zero =>
    intro b c l fi ff mb cs q p1 p2 I Lc N L he hcb hP n n' hn hn'
    obtain ⟨n, rfl⟩ := suc_of hn
    obtain ⟨n', rfl⟩ := suc_of hn'
    obtain ⟨hI, hN, hL, hcs, hq, h7, h8, h15, h16⟩ := hP
    have hm := hN.1.1
    have hb := hN.2.1
    have ht : lT tx m b = 33 := by unfold lT; rw [if_pos (by omega)]
    have hc := (c_turn (X := X) (D := D) (S := S) (n := n) (Lc := Lc) hI (show c ≤ 1000 by omega)).1 ht
    have hr := (r_turn (n := n') (l1 := bI p1) (l2 := bI p2) (l3 := nI fi) hN hL.2.2.1).1 ht
    refine ⟨_, _, Lc, j_up N 66 35 (nI fi + nI mb), L, nI 1, hc, by rw [hr]; rfl, CFr_1 hX I _ Lc, RFr_f N L 35 (Or.inr rfl) _, ju_same _ _ _ _, Or.inl ⟨rfl, rfl, l, fi, ff, mb, cs, q, LSt_1 hX (L := L) hL _ _, by omega, by omega, ?_, ?_, ?_⟩⟩
    · rw [ju_same, nI_add, hL.1]
    · rw [ju_row _ _ (by omega), ju_cell _ _ (by omega)]; exact h15
    · rw [ju_row _ _ (by omega), ju_cell _ _ (by omega)]; exact h16
  | succ e ih =>
    intro b c l fi ff mb cs q p1 p2 I Lc N L he hcb hP n n' hn hn'
    obtain ⟨n, rfl⟩ := suc_of hn
    obtain ⟨n', rfl⟩ := suc_of hn'
    obtain ⟨hI, hN, hL, hcs, hq, h7, h8, h15, h16⟩ := id hP
    have hm := hN.1.1
    have hb := hN.2.1
    obtain ⟨t1, t2, t3⟩ := c_turn (X := X) (D := D) (S := S) (n := n) (Lc := Lc) hI (show c ≤ 1000 by omega)
    obtain ⟨u1, u2, u3, u4, u5, u6⟩ := r_turn (n := n') (l1 := bI p1) (l2 := bI p2) (l3 := nI fi) hN hL.2.2.1
    obtain ⟨n1, hn1⟩ : ∃ n1, n = n1 + 1 := ⟨n - 1, by omega⟩
    by_cases c33 : lT tx m b = 33
    · refine ⟨_, _, Lc, j_up N 66 35 (nI fi + nI mb), L, nI 1, t1 c33, by rw [u1 c33]; rfl, CFr_1 hX I _ Lc, RFr_f N L 35 (Or.inr rfl) _, ju_same _ _ _ _, Or.inl ⟨rfl, rfl, l, fi, ff, mb, cs, q, LSt_1 hX (L := L) hL _ _, by omega, by omega, ?_, ?_, ?_⟩⟩
      · rw [ju_same, nI_add, hL.1]
      · rw [ju_row _ _ (by omega), ju_cell _ _ (by omega)]; exact h15
      · rw [ju_row _ _ (by omega), ju_cell _ _ (by omega)]; exact h16
    · have hbm : b < m := lT_33 (tx := tx) c33 hb
      by_cases cr : lT tx m b = 18 ∨ lT tx m b = 19
      · have hts : lT tx m b = if decide (lT tx m b = 18) = true then 18 else 19 := by
          by_cases h : lT tx m b = 18
          · rw [decide_eq_true h, if_pos rfl]; exact h
          · rw [decide_eq_false h, if_neg (by decide)]; omega
        obtain ⟨I1, Lc1, a1, a2, a3⟩ := j_ln hX d9 sX (my := false) hP hts (fun h => absurd h (by decide))
        have hC : fX8_read_38 X (n + 1) (nI c) I Lc D S = fX8_read_38 X n (nI (c + 1)) I1 Lc1 D S := by
          rw [t2 c33 (by omega)]
          refine ((c_101 (my := false) (c := c) hI).1 cr).trans ?_
          rw [a1, Option.bind_some]
        have hR := u6 c33 (by omega) (by omega) (by omega)
        rcases a3 with ⟨f, N', L', g1, g2, g3, g4⟩ | ⟨b', fi', ff', mb', cs', q', N', L', g1, g2, g3, g4⟩
        · exact ⟨nI f, j_up I1 12 1 (0 : Int32), Lc1, N', L', nI 0, by rw [hC, hn1, e_fl g1], by rw [hR, g4], LOut_fl hX g1 a2 g3 g2⟩
        · obtain ⟨r, I', Lc', N2, L2, v, x1, x2, x3⟩ := ih b' (c + 1) (l + 1) fi' ff' mb' cs' q' p1 p2 I1 Lc1 N' L' (by omega) (by omega) g2 n n' (by omega) (by omega)
          exact ⟨r, I', Lc', N2, L2, v, by rw [hC, x1], by rw [hR, g4, x2], LOut_pre a2 g3 x3⟩
      · by_cases c1 : lT tx m b = 1
        · have hR := u2 c1
          have hC0 := (t2 c33 (by omega)).trans ((c_101 (my := false) (c := c) hI).2.1 c1 rfl)
          cases p1
          · obtain ⟨I1, N', L', v, a1, a2, a3, a4, a5⟩ := j_lprice hX d9 sX hP hbm
            rw [a1, Option.bind_some] at hC0
            rw [r_price, a4, Option.bind_some] at hR
            dsimp only at hR
            rcases a5 with ⟨rfl, f, g1, g2⟩ | ⟨rfl, b', g1, g2⟩
            · exact ⟨nI f, j_up I1 12 1 (0 : Int32), Lc, N', L', nI 0, by rw [hC0, hn1, e_fl g1], by rw [hR, if_pos (show nI 0 = (0 : Int32) from rfl)]; rfl, LOut_fl hX g1 a2 a3 g2⟩
            · rw [if_neg (show ¬ nI 1 = (0 : Int32) by decide)] at hR
              obtain ⟨r, I', Lc', N2, L2, v, x1, x2, x3⟩ := ih b' (c + 1) l fi ff mb cs q true p2 I1 Lc N' L' (by omega) (by omega) g2 n n' (by omega) (by omega)
              exact ⟨r, I', Lc', N2, L2, v, by rw [hC0, x1], by rw [hR, x2], LOut_pre a2 a3 x3⟩
          · obtain ⟨r, I1, I', N', w1, -, w3, w4, w5⟩ := j_twice (D := D) (S := S) (n := n1) (Lc := Lc) hX (nI (c + 1)) hI hN
            rw [w1 h7, Option.bind_some, hn1, w3] at hC0
            rw [(w4 _ _ _ _).1] at hR
            subst hn1
            exact ⟨r, I', Lc, N', L, nI 0, hC0, hR, w5⟩
        · by_cases c21 : lT tx m b = 21
          · have hR := u3 c21
            have hC0 := (t2 c33 (by omega)).trans ((c_101 (my := false) (c := c) hI).2.2.1 c21 rfl)
            clear t1 t2 t3 u1 u2 u3 u4 u5 u6
            cases p2
            · obtain ⟨I1, N', L', v, a1, a2, a3, a4, a5⟩ := j_lparts hX d9 sX hP hbm
              rw [a1, Option.bind_some] at hC0
              rw [r_parts, a4, Option.bind_some] at hR
              dsimp only at hR
              rcases a5 with ⟨rfl, f, g1, g2⟩ | ⟨rfl, b', g1, g2⟩
              · exact ⟨nI f, j_up I1 12 1 (0 : Int32), Lc, N', L', nI 0, by rw [hC0, hn1, e_fl g1], by rw [hR, if_pos (show nI 0 = (0 : Int32) from rfl)]; rfl, LOut_fl hX g1 a2 a3 g2⟩
              · rw [if_neg (show ¬ nI 1 = (0 : Int32) by decide)] at hR
                obtain ⟨r, I', Lc', N2, L2, v, x1, x2, x3⟩ := ih b' (c + 1) l fi ff mb cs q p1 true I1 Lc N' L' (by omega) (by omega) g2 n n' (by omega) (by omega)
                exact ⟨r, I', Lc', N2, L2, v, by rw [hC0, x1], by rw [hR, x2], LOut_pre a2 a3 x3⟩
            · obtain ⟨r, I1, I', N', -, w1, w3, w4, w5⟩ := j_twice (D := D) (S := S) (n := n1) (Lc := Lc) hX (nI (c + 1)) hI hN
              rw [w1 h8, Option.bind_some, hn1, w3] at hC0
              rw [(w4 _ _ _ _).2] at hR
              subst hn1
              exact ⟨r, I', Lc, N', L, nI 0, hC0, hR, w5⟩
          · by_cases c20 : lT tx m b = 20
            · have hC0 := t3 c20
              by_cases c6 : mb = 6
              · have hR := u4 c20 c6
                clear t1 t2 t3 u1 u2 u3 u4 u5 u6
                obtain ⟨r, I', w1, w2⟩ := j_six (D := D) (S := S) (n := n1) (N := N) (L := L) (Lc := Lc) hX d9 sX (nI c) hI (by rw [hL.2.2.2.2.2.2.2.1, c6])
                rw [hn1, w1] at hC0
                subst hn1
                exact ⟨r, I', Lc, j_up N 66 17 (nI (5 + 16 * b)), L, nI 0, hC0, hR, w2⟩
              · have hm6 := hL.2.2.1
                have hR := u5 c20 (by omega)
                clear t1 t2 t3 u1 u2 u3 u4 u5 u6
                obtain ⟨I1, N1, L1, a1, a2, a3, a4, a5⟩ := LPs_next hX hP hbm
                have hnx := nxB_ok (tx := tx) hbm
                generalize nxB tx m b = b1 at a5 hnx
                rw [c_68 d9 sX (mb := mb) (by omega) hL.2.2.2.2.2.2.2.1 a1] at hC0
                rw [a2, Option.bind_some] at hR
                dsimp only at hR
                by_cases cr : lT tx m b1 = 18 ∨ lT tx m b1 = 19
                · have hts : lT tx m b1 = if decide (lT tx m b1 = 18) = true then 18 else 19 := by
                    by_cases h : lT tx m b1 = 18
                    · rw [decide_eq_true h, if_pos rfl]; exact h
                    · rw [decide_eq_false h, if_neg (by decide)]; omega
                  obtain ⟨I2, Lc2, d1, d2, d3⟩ := j_ln hX d9 sX (my := true) a5 hts (fun _ => by omega)
                  rw [(c_101 (my := true) (c := c) a5.1).1 cr, d1, Option.bind_some] at hC0
                  dsimp only at hC0
                  rcases d3 with ⟨f, N', L', g1, g2, g3, g4⟩ | ⟨b', fi', ff', mb', cs', q', N', L', g1, g2, g3, g4⟩
                  · exact ⟨nI f, j_up I2 12 1 (0 : Int32), Lc2, N', L', nI 0, by rw [hC0, hn1, e_fl g1], by rw [hR, g4], LOut_pre a3 a4 (LOut_fl hX g1 d2 g3 g2)⟩
                  · obtain ⟨r, I', Lc', N2, L2, v, x1, x2, x3⟩ := ih b' (c + 1) (l + 1) fi' ff' mb' cs' q' p1 p2 I2 Lc2 N' L' (by omega) (by omega) g2 n n' (by omega) (by omega)
                    exact ⟨r, I', Lc', N2, L2, v, by rw [hC0, x1], by rw [hR, g4, x2], LOut_pre a3 a4 (LOut_pre d2 g3 x3)⟩
                · obtain ⟨r, I', N', w1, w2, w3⟩ := j_one (D := D) (S := S) (n := n1) (c := c) (my := true) (Lc := Lc) hX a5.1 a5.2.1 (fun h => cr (Or.inl h)) (fun h => cr (Or.inr h)) (fun h => absurd h (by decide))
                  rw [hn1, w1] at hC0
                  rw [w2] at hR
                  subst hn1
                  exact ⟨r, I', Lc, N', L1, nI 0, hC0, hR, LOut_pre a3 a4 w3⟩
            · have hR := u6 c33 c1 c21 c20
              have hC0 := t2 c33 c20
              clear t1 t2 t3 u1 u2 u3 u4 u5 u6
              obtain ⟨r, I', N', w1, w2, w3⟩ := j_one (D := D) (S := S) (n := n1) (c := c) (my := false) (Lc := Lc) hX hI hN (fun h => cr (Or.inl h)) (fun h => cr (Or.inr h)) (fun _ => ⟨c1, c21⟩)
              rw [hn1] at hC0
              rw [w2] at hR
              subst hn1
              exact ⟨r, I', Lc, N', L, nI 0, hC0.trans w1, hR, w3⟩
