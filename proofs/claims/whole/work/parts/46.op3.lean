theorem told_cong {x : Int32} {M M' : JI} (h : M' 1 5 = M 1 5) : fX9_isTold x M' = fX9_isTold x M := by unfold fX9_isTold; rw [h]
theorem isp_cong {x : Int32} {M M' : JI} (h : M' 67 = M 67) : fX12_isParcel x M' = fX12_isParcel x M := by unfold fX12_isParcel; rw [h]
theorem two_cases (x y : Int32) : (fX11_areTwoPeople x y = some (nI 0) ∧ (fX12_isPerson x = some (nI 0) ∨ (fX12_isPerson x = some (nI 1) ∧ fX12_isPerson y = some (nI 0)) ∨ (fX12_isPerson x = some (nI 1) ∧ fX12_isPerson y = some (nI 1) ∧ x = y))) ∨ ∃ f g, f < 16 ∧ g < 16 ∧ f ≠ g ∧ x = nI f ∧ y = nI g ∧ fX11_areTwoPeople x y = some (nI 1) ∧ fX12_isPerson x = some (nI 1) ∧ fX12_isPerson y = some (nI 1) ∧ x ≠ y := by
  unfold fX11_areTwoPeople
  rcases ps_cases x with ⟨x1, x2⟩ | ⟨f, hf, rfl, x1, x2⟩
  · exact Or.inl ⟨by rw [x1]; rfl, Or.inl x2⟩
  · rcases ps_cases y with ⟨y1, y2⟩ | ⟨g, hg, rfl, y1, y2⟩
    · exact Or.inl ⟨by rw [x1, y1]; rfl, Or.inr (Or.inl ⟨x2, y2⟩)⟩
    · by_cases e : f = g
      · subst e
        exact Or.inl ⟨by rw [x1, Option.bind_some, if_neg (by decide), Option.bind_some, if_neg (by decide), if_pos rfl]; rfl, Or.inr (Or.inr ⟨x2, y2, rfl⟩)⟩
      · have hne : nI f ≠ nI g := fun h => e ((nI_eq (by omega) (by omega)).mp h)
        exact Or.inr ⟨f, g, hf, hg, e, rfl, rfl, by rw [x1, Option.bind_some, if_neg (by decide), y1, Option.bind_some, if_neg (by decide), if_neg hne]; rfl, x2, y2, hne⟩
theorem of_eq {M : JI} {t : Nat} {h : Nat → Nat → Nat} (hv : ∀ p q, p < 12 → q < 16 → M (t + 1) (16 * p + q) = nI (h p q)) {p q : Nat} (hp : p < 12) (hq : q < 16) : fX1_of t (nI p) (nI q) M = some (nI (h p q)) := by
  have hat : nI p * (16 : Int32) + nI q = nI (16 * p + q) := by
    show nI p * nI 16 + nI q = _
    rw [pk_mul, nI_add, Nat.mul_comm p 16]
  unfold fX1_of
  rw [hat, jg_in (by omega) (by decide), nI_clamp (by omega), hv p q hp hq]
theorem mv_fin {t : Int32} {r68 : Nat → Int32} (h2 : vTw t r68) {p f g n : Nat} (hp : p < 12) (hf : f < 16) (hg : g < 16) (hne : f ≠ g) (hn : n ≤ hN r68 p f) {r : Nat → Int32} (e : twRep r (mvh (hN r68) p f g n)) : vTw t r ∧ ∀ r1 r2 r3 r4, vHd r1 r2 r3 r4 (mvh (hN r68) p f g n) → vHd r1 r2 r3 r4 (hN r) := by
  have hs : fb_sm (hN r68 p) 16 ≤ 12 := by rw [h2.2 p hp]; split <;> omega
  have hle := mvh_le hf hg hne hn hs (fun p' q' a b => (h2.1 p' q' a b).2)
  refine ⟨vTw_of e hle ?_, fun r1 r2 r3 r4 hv => vHd_cong (fun p' q' hp' hq' => hN_of e hle hp' hq') hv⟩
  intro p' hp'
  by_cases c : p' = p
  · subst c
    rw [mvh_row hf hg hne hn]
    exact h2.2 p' hp'
  · rw [mvh_rowo c]
    exact h2.2 p' hp'
theorem at16 (p q : Nat) : (16 : Int32) * nI p + nI q = nI (16 * p + q) := by
  show nI 16 * nI p + nI q = _
  rw [pk_mul, nI_add]
theorem at12 (p q : Nat) : (12 : Int32) * nI p + nI q = nI (12 * p + q) := by
  show nI 12 * nI p + nI q = _
  rw [pk_mul, nI_add]
theorem atp16 (p q : Nat) : nI p * (16 : Int32) + nI q = nI (16 * p + q) := by
  show nI p * nI 16 + nI q = _
  rw [pk_mul, nI_add, Nat.mul_comm p 16]
theorem atp4 (p q : Nat) : nI p * (4 : Int32) + nI q = nI (4 * p + q) := by
  show nI p * nI 4 + nI q = _
  rw [pk_mul, nI_add, Nat.mul_comm p 4]
theorem op_part {n : Nat} {M : JI} {L : JL} {D : JG} {S : JS} (h : Inv n M L D S) (hn : n < 4096) (x y z w : Int32) : ∃ r M1 M2, fX11_part x y z w M = some (r, M1) ∧ fX12_part x y z w M1 = some (r, M2) ∧ Inv (n + 1) M2 L D S := by
  have hh := h
  obtain ⟨h1, h2, h3, h4, h5, h6, h7, h8, h9, h10, h11, h12, h13, h14, h15, h16, h17, h18, h19⟩ := hh
  have no : fX11_part x y z w M = some (nI 0, M) → fX12_part x y z w M = some (nI 0, j_up M 66 0 (nI 0)) → ∃ r M1 M2, fX11_part x y z w M = some (r, M1) ∧ fX12_part x y z w M1 = some (r, M2) ∧ Inv (n + 1) M2 L D S := fun a b => ⟨_, _, _, a, b, inv_thr h _⟩
  have hc : ∀ v, fX12_isParcel x (j_up M 66 0 v) = fX12_isParcel x M := fun v => isp_cong (ju_row _ _ (by omega))
  rcases tl_cases h1 rfl rfl x with ⟨x1, x2, -⟩ | ⟨p, hp, rfl, hb, x1, x2⟩
  · exact no (by unfold fX11_part; rw [x1]; rfl) (by unfold fX12_part; rw [hc, x2]; rfl)
  · rcases two_cases y z with ⟨y1, y2⟩ | ⟨f, g, hf, hg, hne, rfl, rfl, y1, y2, y3, y4⟩
    · refine no (by unfold fX11_part; rw [x1, y1]; rfl) ?_
      unfold fX12_part
      rw [hc, x2]
      rcases y2 with y2 | ⟨y2, y3⟩ | ⟨y2, y3, y4⟩
      · rw [y2]; rfl
      · rw [y2, y3]; rfl
      · rw [y2, y3, Option.bind_some, if_neg (by decide), Option.bind_some, if_neg (by decide), Option.bind_some, if_neg (by decide), if_pos y4]; rfl
    · have c1 : ∀ k : Option (Int32 × JI), (fX9_isTold (nI p) M).bind (fun q1 => if q1 = 0 then (some ((0 : Int32), M)) else ((fX11_areTwoPeople (nI f) (nI g)).bind (fun q2 => if q2 = 0 then (some ((0 : Int32), M)) else k))) = k := by
        intro k
        rw [x1, Option.bind_some, if_neg (by decide), y1, Option.bind_some, if_neg (by decide)]
      have e1 := of_eq (M := M) (t := 7) h3.1 hp hf
      have e1r : ∀ v, (j_up M 66 0 v) 68 (16 * p + f) = nI (hN (M 68) p f) := fun v => by rw [ju_row _ _ (by omega)]; exact (h2.1 p f hp hf).1
      rcases ix_cases w 13 (by omega) with hw | hw | ⟨k, hk, rfl⟩
      · have g1 : w < (1 : Int32) := ix_neg hw (k := 1) (by omega)
        refine no ?_ ?_
        · unfold fX11_part
          rw [c1, if_pos g1]; rfl
        · unfold fX12_part fX12_within
          rw [hc, x2, Option.bind_some, if_neg (by decide), y2, Option.bind_some, if_neg (by decide), y3, Option.bind_some, if_neg (by decide), if_neg y4, if_pos g1]; rfl
      · have g1 : ¬ w < (1 : Int32) := ix_nlt hw (by omega) (k := 1) (by omega)
        have g2 : (12 : Int32) < w := ix_lt hw (by omega) (k := 12) (by omega)
        have g3 : ¬ w ≤ (12 : Int32) := by rw [Int32.not_le]; exact g2
        refine no ?_ ?_
        · unfold fX11_part
          rw [c1, if_neg g1, if_neg g3]; rfl
        · unfold fX12_part fX12_within
          rw [hc, x2, Option.bind_some, if_neg (by decide), y2, Option.bind_some, if_neg (by decide), y3, Option.bind_some, if_neg (by decide), if_neg y4, if_neg g1, if_pos g2]; rfl
      · by_cases hk0 : k = 0
        · have g1 : nI k < (1 : Int32) := nI_lt (b := 1) (by omega) (by omega)
          refine no ?_ ?_
          · unfold fX11_part
            rw [c1, if_pos g1]; rfl
          · unfold fX12_part fX12_within
            rw [hc, x2, Option.bind_some, if_neg (by decide), y2, Option.bind_some, if_neg (by decide), y3, Option.bind_some, if_neg (by decide), if_neg y4, if_pos g1]; rfl
        · have g1 : ¬ nI k < (1 : Int32) := nI_nlt (b := 1) (by omega) (by omega)
          have g2 : ¬ (12 : Int32) < nI k := nI_nlt (a := 12) (by omega) (by omega)
          have g3 : nI k ≤ (12 : Int32) := nI_le (b := 12) (by omega) (by omega)
          have hle12 := (h2.1 p f hp hf).2
          have hle12g := (h2.1 p g hp hg).2
          by_cases hkl : k ≤ hN (M 68) p f
          · have g4 : nI k ≤ nI (hN (M 68) p f) := nI_le hkl (by omega)
            obtain ⟨r1, r2, r3, r4, a1, a2⟩ := hdr_move (M := j_up M 1 9 (M 1 9 + nI 1)) (t := 7) (h := hN (M 68)) (by simpa (disch := omega) only [ju_row, ju_cell, ju_cell2, ju_same, jr_ne, jr_at, jr_at2, jr_ne2, rE_up, rD_up, rP_up, rM_up, rH_up, rL_up, rE_jr, rD_jr, rP_jr, rM_jr, rH_jr, rL_jr] using h3) hp hf hg hne hkl (by omega) (by omega)
            obtain ⟨r, b1, b2⟩ := rfr_moves (M := j_up (jr4 (j_up M 1 9 (M 1 9 + nI 1)) 7 r1 r2 r3 r4) 66 0 (nI 0)) (h := hN (M 68)) (by unfold jr4; simp (disch := omega) only [ju_row, ju_cell, ju_cell2, ju_same, jr_ne, jr_at, jr_at2, jr_ne2, rE_up, rD_up, rP_up, rM_up, rH_up, rL_up, rE_jr, rD_jr, rP_jr, rM_jr, rH_jr, rL_jr]; exact tw_rep h2) hp hf hg hne hkl
            obtain ⟨q1, q2⟩ := mv_fin h2 hp hf hg hne hkl b2
            refine ⟨nI 1, jr4 (j_up M 1 9 (M 1 9 + nI 1)) 7 r1 r2 r3 r4, jr (j_up (jr4 (j_up M 1 9 (M 1 9 + nI 1)) 7 r1 r2 r3 r4) 66 0 (nI 0)) 68 r, ?_, ?_, ?_⟩
            · unfold fX11_part
              rw [c1, if_neg g1, if_pos g3, e1, Option.bind_some, if_pos g4]
              have a1' : fX1_move 7 (nI p) (nI f) (nI g) (nI k) (j_up M 1 9 (M 1 9 + (1 : Int32))) = _ := a1
              rw [a1']; rfl
            · unfold fX12_part fX12_within
              rw [isp_cong (M := M) (by unfold jr4; simp (disch := omega) only [ju_row, ju_cell, ju_cell2, ju_same, jr_ne, jr_at, jr_at2, jr_ne2, rE_up, rD_up, rP_up, rM_up, rH_up, rL_up, rE_jr, rD_jr, rP_jr, rM_jr, rH_jr, rL_jr]), x2, Option.bind_some, if_neg (by decide), y2, Option.bind_some, if_neg (by decide), y3, Option.bind_some, if_neg (by decide), if_neg y4, if_neg g1, if_neg g2, Option.bind_some, if_neg (by decide), at16, jg_in (by omega) (by decide), nI_clamp (by omega)]
              have e2 : (j_up (jr4 (j_up M 1 9 (M 1 9 + nI 1)) 7 r1 r2 r3 r4) 66 0 (0 : Int32)) 68 (16 * p + f) = nI (hN (M 68) p f) := by
                unfold jr4; simp (disch := omega) only [ju_row, ju_cell, ju_cell2, ju_same, jr_ne, jr_at, jr_at2, jr_ne2, rE_up, rD_up, rP_up, rM_up, rH_up, rL_up, rE_jr, rD_jr, rP_jr, rM_jr, rH_jr, rL_jr]; exact (h2.1 p f hp hf).1
              rw [e2, if_pos g4]
              have b1' : fX12_moves (nI p) (nI f) (nI g) (nI k) (j_up (jr4 (j_up M 1 9 (M 1 9 + nI 1)) 7 r1 r2 r3 r4) 66 0 (0 : Int32)) = _ := b1
              rw [b1']; rfl
            · unfold jr4
              rw [show 7 + 1 = 8 from rfl, show 7 + 2 = 9 from rfl, show 7 + 3 = 10 from rfl, show 7 + 4 = 11 from rfl]
              refine ⟨(by simpa (disch := omega) only [ju_row, ju_cell, ju_cell2, ju_same, jr_ne, jr_at, jr_at2, jr_ne2, rE_up, rD_up, rP_up, rM_up, rH_up, rL_up, rE_jr, rD_jr, rP_jr, rM_jr, rH_jr, rL_jr] using h1), ?_, ?_, (by simpa (disch := omega) only [ju_row, ju_cell, ju_cell2, ju_same, jr_ne, jr_at, jr_at2, jr_ne2, rE_up, rD_up, rP_up, rM_up, rH_up, rL_up, rE_jr, rD_jr, rP_jr, rM_jr, rH_jr, rL_jr] using h4), (by simpa (disch := omega) only [ju_row, ju_cell, ju_cell2, ju_same, jr_ne, jr_at, jr_at2, jr_ne2, rE_up, rD_up, rP_up, rM_up, rH_up, rL_up, rE_jr, rD_jr, rP_jr, rM_jr, rH_jr, rL_jr] using h5), (by simpa (disch := omega) only [ju_row, ju_cell, ju_cell2, ju_same, jr_ne, jr_at, jr_at2, jr_ne2, rE_up, rD_up, rP_up, rM_up, rH_up, rL_up, rE_jr, rD_jr, rP_jr, rM_jr, rH_jr, rL_jr] using h6), (by simpa (disch := omega) only [ju_row, ju_cell, ju_cell2, ju_same, jr_ne, jr_at, jr_at2, jr_ne2, rE_up, rD_up, rP_up, rM_up, rH_up, rL_up, rE_jr, rD_jr, rP_jr, rM_jr, rH_jr, rL_jr] using h7), (by simpa (disch := omega) only [ju_row, ju_cell, ju_cell2, ju_same, jr_ne, jr_at, jr_at2, jr_ne2, rE_up, rD_up, rP_up, rM_up, rH_up, rL_up, rE_jr, rD_jr, rP_jr, rM_jr, rH_jr, rL_jr] using h8), (by simpa (disch := omega) only [ju_row, ju_cell, ju_cell2, ju_same, jr_ne, jr_at, jr_at2, jr_ne2, rE_up, rD_up, rP_up, rM_up, rH_up, rL_up, rE_jr, rD_jr, rP_jr, rM_jr, rH_jr, rL_jr] using h9), (by simpa (disch := omega) only [ju_row, ju_cell, ju_cell2, ju_same, jr_ne, jr_at, jr_at2, jr_ne2, rE_up, rD_up, rP_up, rM_up, rH_up, rL_up, rE_jr, rD_jr, rP_jr, rM_jr, rH_jr, rL_jr] using h10), (by simpa (disch := omega) only [ju_row, ju_cell, ju_cell2, ju_same, jr_ne, jr_at, jr_at2, jr_ne2, rE_up, rD_up, rP_up, rM_up, rH_up, rL_up, rE_jr, rD_jr, rP_jr, rM_jr, rH_jr, rL_jr] using (vChg_up h11 hn)), (by simpa (disch := omega) only [ju_row, ju_cell, ju_cell2, ju_same, jr_ne, jr_at, jr_at2, jr_ne2, rE_up, rD_up, rP_up, rM_up, rH_up, rL_up, rE_jr, rD_jr, rP_jr, rM_jr, rH_jr, rL_jr] using h12), (by simpa (disch := omega) only [ju_row, ju_cell, ju_cell2, ju_same, jr_ne, jr_at, jr_at2, jr_ne2, rE_up, rD_up, rP_up, rM_up, rH_up, rL_up, rE_jr, rD_jr, rP_jr, rM_jr, rH_jr, rL_jr] using h13), (by simpa (disch := omega) only [ju_row, ju_cell, ju_cell2, ju_same, jr_ne, jr_at, jr_at2, jr_ne2, rE_up, rD_up, rP_up, rM_up, rH_up, rL_up, rE_jr, rD_jr, rP_jr, rM_jr, rH_jr, rL_jr] using h14), (by simpa (disch := omega) only [ju_row, ju_cell, ju_cell2, ju_same, jr_ne, jr_at, jr_at2, jr_ne2, rE_up, rD_up, rP_up, rM_up, rH_up, rL_up, rE_jr, rD_jr, rP_jr, rM_jr, rH_jr, rL_jr] using (vMk_n h15)), (by simpa (disch := omega) only [ju_row, ju_cell, ju_cell2, ju_same, jr_ne, jr_at, jr_at2, jr_ne2, rE_up, rD_up, rP_up, rM_up, rH_up, rL_up, rE_jr, rD_jr, rP_jr, rM_jr, rH_jr, rL_jr] using (vOb_n h16)), (by simpa (disch := omega) only [ju_row, ju_cell, ju_cell2, ju_same, jr_ne, jr_at, jr_at2, jr_ne2, rE_up, rD_up, rP_up, rM_up, rH_up, rL_up, rE_jr, rD_jr, rP_jr, rM_jr, rH_jr, rL_jr] using (vC1_vac h11 hn)), (by simpa (disch := omega) only [ju_row, ju_cell, ju_cell2, ju_same, jr_ne, jr_at, jr_at2, jr_ne2, rE_up, rD_up, rP_up, rM_up, rH_up, rL_up, rE_jr, rD_jr, rP_jr, rM_jr, rH_jr, rL_jr] using (vC2_vac h11 hn)), (by simpa (disch := omega) only [ju_row, ju_cell, ju_cell2, ju_same, jr_ne, jr_at, jr_at2, jr_ne2, rE_up, rD_up, rP_up, rM_up, rH_up, rL_up, rE_jr, rD_jr, rP_jr, rM_jr, rH_jr, rL_jr] using (vC3_vac h11 hn))⟩
              · simp (disch := omega) only [ju_row, ju_cell, ju_cell2, ju_same, jr_ne, jr_at, jr_at2, jr_ne2, rE_up, rD_up, rP_up, rM_up, rH_up, rL_up, rE_jr, rD_jr, rP_jr, rM_jr, rH_jr, rL_jr]; exact q1
              · simp (disch := omega) only [ju_row, ju_cell, ju_cell2, ju_same, jr_ne, jr_at, jr_at2, jr_ne2, rE_up, rD_up, rP_up, rM_up, rH_up, rL_up, rE_jr, rD_jr, rP_jr, rM_jr, rH_jr, rL_jr]; exact q2 _ _ _ _ a2
          · have g4 : ¬ nI k ≤ nI (hN (M 68) p f) := nI_ge (by omega) (by omega)
            refine no ?_ ?_
            · unfold fX11_part
              rw [c1, if_neg g1, if_pos g3, e1, Option.bind_some, if_neg g4]; rfl
            · unfold fX12_part fX12_within
              rw [hc, x2, Option.bind_some, if_neg (by decide), y2, Option.bind_some, if_neg (by decide), y3, Option.bind_some, if_neg (by decide), if_neg y4, if_neg g1, if_neg g2, Option.bind_some, if_neg (by decide), at16, jg_in (by omega) (by decide), nI_clamp (by omega), e1r, if_neg g4]; rfl
theorem op_holds {n : Nat} {M : JI} {L : JL} {D : JG} {S : JS} (h : Inv n M L D S) (x y : Int32) : ∃ r M2, fX11_holds x y M = some r ∧ fX12_holds x y M = some (r, M2) ∧ Inv (n + 1) M2 L D S := by
  have hh := h
  obtain ⟨h1, h2, h3, h4, h5, h6, h7, h8, h9, h10, h11, h12, h13, h14, h15, h16, h17, h18, h19⟩ := hh
  have hc : ∀ v, fX12_isParcel x (j_up M 66 0 v) = fX12_isParcel x M := fun v => isp_cong (ju_row _ _ (by omega))
  unfold fX11_holds fX12_holds
  rcases tl_cases h1 rfl rfl x with ⟨x1, x2, -⟩ | ⟨p, hp, rfl, hb, x1, x2⟩
  · exact ⟨-nI 1, j_up M 66 0 (nI 0), by rw [x1]; rfl, by rw [hc, x2]; rfl, inv_thr h _⟩
  · rcases ps_cases y with ⟨y1, y2⟩ | ⟨q, hq, rfl, y1, y2⟩
    · exact ⟨-nI 1, j_up M 66 0 (nI 0), by rw [x1, y1]; rfl, by rw [hc, x2, y2]; rfl, inv_thr h _⟩
    · refine ⟨nI (hN (M 68) p q), j_up M 66 0 (nI 0), ?_, ?_, inv_thr h _⟩
      · rw [x1, y1, of_eq (M := M) (t := 7) h3.1 hp hq]; rfl
      · rw [hc, x2, y2, Option.bind_some, if_neg (by decide), Option.bind_some, if_neg (by decide), at16, jg_in (by omega) (by decide), nI_clamp (by omega), ju_row _ _ (by omega), (h2.1 p q hp hq).1]; rfl
