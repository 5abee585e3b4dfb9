theorem mk_kin (M : JI) {a b d : Nat} (ha : a < 16) (hb : b < 16) (hd : d ≤ 3) : ∃ y, fX9_makeKin (nI a) (nI b) (nI d) M = some (j_up (j_up M 5 (16 * a + b) (nI d)) 6 a y) ∧ ∀ i, bt y i = if i = b then !decide (d = 0) else bt (M 6 a) i := by
  obtain ⟨y, hy, hbt⟩ := wb_bits (M 6 a) (q := b) (by omega) (!decide (d = 0))
  refine ⟨y, ?_, hbt⟩
  unfold fX9_makeKin
  rw [atp16, jg_in (by omega) (by decide), jg_in ha (by decide), nI_clamp (by omega), nI_clamp (by omega), ju_row M _ (by omega)]
  by_cases h0 : d = 0
  · subst h0
    have hy' : fX11_withBit (M 6 a) (nI b) (0 : Int32) = some y := hy
    rw [if_pos (by decide), hy', Option.bind_some, jg_in ha (by decide)]
  · have hy' : fX11_withBit (M 6 a) (nI b) (1 : Int32) = some y := by
      have e : (!decide (d = 0)) = true := by simp [h0]
      rw [e] at hy; exact hy
    rw [if_neg (nI_ne0 (by omega) (by omega)), hy', Option.bind_some, jg_in ha (by decide)]
theorem op_kin {n : Nat} {M : JI} {L : JL} {D : JG} {S : JS} (h : Inv n M L D S) (hn : n < 4096) (x y z : Int32) : ∃ r M1 M2, fX11_kin x y z M = some (r, M1) ∧ fX12_kin x y z M1 = some (r, M2) ∧ Inv (n + 1) M2 L D S := by
  have hh := h
  obtain ⟨h1, h2, h3, h4, h5, h6, h7, h8, h9, h10, h11, h12, h13, h14, h15, h16, h17, h18, h19⟩ := hh
  have no : fX11_kin x y z M = some (nI 0, M) → fX12_kin x y z M = some (nI 0, j_up M 66 0 (nI 0)) → ∃ r M1 M2, fX11_kin x y z M = some (r, M1) ∧ fX12_kin x y z M1 = some (r, M2) ∧ Inv (n + 1) M2 L D S := fun a b => ⟨_, _, _, a, b, inv_thr h _⟩
  rcases two_cases x y with ⟨y1, y2⟩ | ⟨a, b, ha, hb, hne, rfl, rfl, y1, y2, y3, y4⟩
  · refine no (by unfold fX11_kin; rw [y1]; rfl) ?_
    unfold fX12_kin
    rcases y2 with y2 | ⟨y2, y3⟩ | ⟨y2, y3, y4⟩
    · rw [y2]; rfl
    · rw [y2, y3]; rfl
    · rw [y2, y3, Option.bind_some, if_neg (by decide), Option.bind_some, if_neg (by decide), if_pos y4]; rfl
  · rcases ix_cases z 4 (by omega) with hz | hz | ⟨d, hd, rfl⟩
    · have g1 : z < 0 := hz
      refine no (by unfold fX11_kin; rw [y1, Option.bind_some, if_neg (by decide), if_pos g1]; rfl) ?_
      unfold fX12_kin fX12_within
      rw [y2, Option.bind_some, if_neg (by decide), y3, Option.bind_some, if_neg (by decide), if_neg y4, if_pos g1]; rfl
    · have g1 : ¬ z < 0 := ix_nlt hz (by omega) (k := 0) (by omega)
      have g2 : (3 : Int32) < z := ix_lt hz (by omega) (k := 3) (by omega)
      have g3 : ¬ z ≤ (3 : Int32) := by rw [Int32.not_le]; exact g2
      refine no (by unfold fX11_kin; rw [y1, Option.bind_some, if_neg (by decide), if_neg g1, if_neg g3]; rfl) ?_
      unfold fX12_kin fX12_within
      rw [y2, Option.bind_some, if_neg (by decide), y3, Option.bind_some, if_neg (by decide), if_neg y4, if_neg g1, if_pos g2]; rfl
    · have g1 : ¬ nI d < 0 := nI_pos (by omega)
      have g2 : ¬ (3 : Int32) < nI d := nI_nlt (a := 3) (by omega) (by omega)
      have g3 : nI d ≤ (3 : Int32) := nI_le (b := 3) (by omega) (by omega)
      obtain ⟨u1, e1, b1⟩ := mk_kin (j_up M 1 9 (M 1 9 + nI 1)) ha hb (d := d) (by omega)
      obtain ⟨u2, e2, b2⟩ := mk_kin (j_up (j_up (j_up M 1 9 (M 1 9 + nI 1)) 5 (16 * a + b) (nI d)) 6 a u1) hb ha (d := d) (by omega)
      refine ⟨nI 1, j_up (j_up (j_up (j_up (j_up M 1 9 (M 1 9 + nI 1)) 5 (16 * a + b) (nI d)) 6 a u1) 5 (16 * b + a) (nI d)) 6 b u2, j_up (j_up (j_up (j_up (j_up (j_up (j_up (j_up M 1 9 (M 1 9 + nI 1)) 5 (16 * a + b) (nI d)) 6 a u1) 5 (16 * b + a) (nI d)) 6 b u2) 66 0 (nI 0)) 71 (16 * a + b) (nI d)) 71 (16 * b + a) (nI d), ?_, ?_, ?_⟩
      · unfold fX11_kin
        have e1' : fX9_makeKin (nI a) (nI b) (nI d) (j_up M 1 9 (M 1 9 + (1 : Int32))) = _ := e1
        rw [y1, Option.bind_some, if_neg (by decide), if_neg g1, if_pos g3, e1', Option.bind_some, e2]; rfl
      · unfold fX12_kin fX12_within
        rw [y2, Option.bind_some, if_neg (by decide), y3, Option.bind_some, if_neg (by decide), if_neg y4, if_neg g1, if_neg g2, Option.bind_some, if_neg (by decide), at16, at16, jg_in (by omega) (by decide), jg_in (by omega) (by decide), nI_clamp (by omega), nI_clamp (by omega)]; rfl
      · refine ⟨(by simpa (disch := omega) only [ju_row, ju_cell, ju_cell2, ju_same, jr_ne, jr_at, jr_at2, jr_ne2, rE_up, rD_up, rP_up, rM_up, rH_up, rL_up, rE_jr, rD_jr, rP_jr, rM_jr, rH_jr, rL_jr] using h1), (by simpa (disch := omega) only [ju_row, ju_cell, ju_cell2, ju_same, jr_ne, jr_at, jr_at2, jr_ne2, rE_up, rD_up, rP_up, rM_up, rH_up, rL_up, rE_jr, rD_jr, rP_jr, rM_jr, rH_jr, rL_jr] using h2), (by simpa (disch := omega) only [ju_row, ju_cell, ju_cell2, ju_same, jr_ne, jr_at, jr_at2, jr_ne2, rE_up, rD_up, rP_up, rM_up, rH_up, rL_up, rE_jr, rD_jr, rP_jr, rM_jr, rH_jr, rL_jr] using h3), (by simpa (disch := omega) only [ju_row, ju_cell, ju_cell2, ju_same, jr_ne, jr_at, jr_at2, jr_ne2, rE_up, rD_up, rP_up, rM_up, rH_up, rL_up, rE_jr, rD_jr, rP_jr, rM_jr, rH_jr, rL_jr] using h4), (by simpa (disch := omega) only [ju_row, ju_cell, ju_cell2, ju_same, jr_ne, jr_at, jr_at2, jr_ne2, rE_up, rD_up, rP_up, rM_up, rH_up, rL_up, rE_jr, rD_jr, rP_jr, rM_jr, rH_jr, rL_jr] using h5), ?_, (by simpa (disch := omega) only [ju_row, ju_cell, ju_cell2, ju_same, jr_ne, jr_at, jr_at2, jr_ne2, rE_up, rD_up, rP_up, rM_up, rH_up, rL_up, rE_jr, rD_jr, rP_jr, rM_jr, rH_jr, rL_jr] using h7), (by simpa (disch := omega) only [ju_row, ju_cell, ju_cell2, ju_same, jr_ne, jr_at, jr_at2, jr_ne2, rE_up, rD_up, rP_up, rM_up, rH_up, rL_up, rE_jr, rD_jr, rP_jr, rM_jr, rH_jr, rL_jr] using h8), (by simpa (disch := omega) only [ju_row, ju_cell, ju_cell2, ju_same, jr_ne, jr_at, jr_at2, jr_ne2, rE_up, rD_up, rP_up, rM_up, rH_up, rL_up, rE_jr, rD_jr, rP_jr, rM_jr, rH_jr, rL_jr] using h9), (by simpa (disch := omega) only [ju_row, ju_cell, ju_cell2, ju_same, jr_ne, jr_at, jr_at2, jr_ne2, rE_up, rD_up, rP_up, rM_up, rH_up, rL_up, rE_jr, rD_jr, rP_jr, rM_jr, rH_jr, rL_jr] using h10), (by simpa (disch := omega) only [ju_row, ju_cell, ju_cell2, ju_same, jr_ne, jr_at, jr_at2, jr_ne2, rE_up, rD_up, rP_up, rM_up, rH_up, rL_up, rE_jr, rD_jr, rP_jr, rM_jr, rH_jr, rL_jr] using (vChg_up h11 hn)), (by simpa (disch := omega) only [ju_row, ju_cell, ju_cell2, ju_same, jr_ne, jr_at, jr_at2, jr_ne2, rE_up, rD_up, rP_up, rM_up, rH_up, rL_up, rE_jr, rD_jr, rP_jr, rM_jr, rH_jr, rL_jr] using h12), (by simpa (disch := omega) only [ju_row, ju_cell, ju_cell2, ju_same, jr_ne, jr_at, jr_at2, jr_ne2, rE_up, rD_up, rP_up, rM_up, rH_up, rL_up, rE_jr, rD_jr, rP_jr, rM_jr, rH_jr, rL_jr] using h13), (by simpa (disch := omega) only [ju_row, ju_cell, ju_cell2, ju_same, jr_ne, jr_at, jr_at2, jr_ne2, rE_up, rD_up, rP_up, rM_up, rH_up, rL_up, rE_jr, rD_jr, rP_jr, rM_jr, rH_jr, rL_jr] using h14), (by simpa (disch := omega) only [ju_row, ju_cell, ju_cell2, ju_same, jr_ne, jr_at, jr_at2, jr_ne2, rE_up, rD_up, rP_up, rM_up, rH_up, rL_up, rE_jr, rD_jr, rP_jr, rM_jr, rH_jr, rL_jr] using (vMk_n h15)), (by simpa (disch := omega) only [ju_row, ju_cell, ju_cell2, ju_same, jr_ne, jr_at, jr_at2, jr_ne2, rE_up, rD_up, rP_up, rM_up, rH_up, rL_up, rE_jr, rD_jr, rP_jr, rM_jr, rH_jr, rL_jr] using (vOb_n h16)), (by simpa (disch := omega) only [ju_row, ju_cell, ju_cell2, ju_same, jr_ne, jr_at, jr_at2, jr_ne2, rE_up, rD_up, rP_up, rM_up, rH_up, rL_up, rE_jr, rD_jr, rP_jr, rM_jr, rH_jr, rL_jr] using (vC1_vac h11 hn)), (by simpa (disch := omega) only [ju_row, ju_cell, ju_cell2, ju_same, jr_ne, jr_at, jr_at2, jr_ne2, rE_up, rD_up, rP_up, rM_up, rH_up, rL_up, rE_jr, rD_jr, rP_jr, rM_jr, rH_jr, rL_jr] using (vC2_vac h11 hn)), (by simpa (disch := omega) only [ju_row, ju_cell, ju_cell2, ju_same, jr_ne, jr_at, jr_at2, jr_ne2, rE_up, rD_up, rP_up, rM_up, rH_up, rL_up, rE_jr, rD_jr, rP_jr, rM_jr, rH_jr, rL_jr] using (vC3_vac h11 hn))⟩
        simp (disch := omega) only [ju_row, ju_cell, ju_cell2, ju_same, jr_ne, jr_at, jr_at2, jr_ne2, rE_up, rD_up, rP_up, rM_up, rH_up, rL_up, rE_jr, rD_jr, rP_jr, rM_jr, rH_jr, rL_jr]
        simp only [ju_row _ _ (show (6 : Nat) ≠ 5 by omega), ju_row _ _ (show (5 : Nat) ≠ 6 by omega), ju_row _ _ (show (6 : Nat) ≠ 1 by omega), ju_row _ _ (show (5 : Nat) ≠ 1 by omega), ju_cell _ _ hne, ju_cell _ _ (Ne.symm hne)] at b1 b2
        refine ⟨fun u v hu hv => ?_, fun u i hu => ?_⟩
        · obtain ⟨c1, c2, d', hd', c3⟩ := h6.1 u v hu hv
          obtain ⟨k1, k2, d2, hd2, k3⟩ := h6.1 v u hv hu
          simp (disch := omega) only [ju_at, ju_row]
          by_cases m1 : u = a ∧ v = b
          · obtain ⟨rfl, rfl⟩ := m1
            have i1 : ¬ 16 * u + v = 16 * v + u := by omega
            simp only [i1, if_true, if_false, if_neg (fun e => i1 (Eq.symm e))]
            exact ⟨trivial, trivial, d, by omega, rfl⟩
          · by_cases m2 : u = b ∧ v = a
            · obtain ⟨rfl, rfl⟩ := m2
              have i1 : ¬ 16 * v + u = 16 * u + v := by omega
              simp only [i1, if_true, if_false, if_neg (fun e => i1 (Eq.symm e))]
              exact ⟨trivial, trivial, d, by omega, rfl⟩
            · rw [if_neg (show ¬ 16 * u + v = 16 * b + a by omega), if_neg (show ¬ 16 * u + v = 16 * a + b by omega), if_neg (show ¬ 16 * u + v = 16 * b + a by omega), if_neg (show ¬ 16 * u + v = 16 * a + b by omega), if_neg (show ¬ 16 * v + u = 16 * b + a by omega), if_neg (show ¬ 16 * v + u = 16 * a + b by omega)]
              exact ⟨c1, c2, d', hd', c3⟩
        · simp (disch := omega) only [ju_at, ju_row]
          by_cases m1 : u = a
          · subst m1
            rw [if_neg hne, if_pos rfl, b1 i]
            by_cases hi : i = b
            · subst hi
              rw [if_pos rfl, if_neg (by omega), if_pos rfl]
              by_cases h0 : d = 0
              · subst h0; simp [hb]
              · simp [hb, h0, nI_ne0 (n := d) (by omega) (by omega)]
                exact nI_ne0 (n := d) (by omega) (by omega)
            · rw [if_neg hi, h6.2 u i hu]
              by_cases hi16 : i < 16
              · rw [if_neg (by omega), if_neg (by omega)]
              · simp [hi16]
          · by_cases m2 : u = b
            · subst m2
              rw [if_pos rfl, b2 i]
              by_cases hi : i = a
              · subst hi
                rw [if_pos rfl, if_pos rfl]
                by_cases h0 : d = 0
                · subst h0; simp [ha]
                · simp [ha, h0]
                  exact nI_ne0 (n := d) (by omega) (by omega)
              · rw [if_neg hi, h6.2 u i hu]
                by_cases hi16 : i < 16
                · rw [if_neg (by omega), if_neg (by omega)]
                · simp [hi16]
            · rw [if_neg m2, if_neg m1, h6.2 u i hu]
              by_cases hi16 : i < 16
              · rw [if_neg (by omega), if_neg (by omega)]
              · simp [hi16]
