theorem twot_cases {M : JI} (h1 : vTold (M 1 5) (M 67)) (x y : Int32) : (fX9_areTwoTold x y M = some (nI 0) ∧ (fX12_isParcel x M = some (nI 0) ∨ (fX12_isParcel x M = some (nI 1) ∧ fX12_isParcel y M = some (nI 0)) ∨ (fX12_isParcel x M = some (nI 1) ∧ fX12_isParcel y M = some (nI 1) ∧ x = y))) ∨ ∃ p o, p < 12 ∧ o < 12 ∧ p ≠ o ∧ x = nI p ∧ y = nI o ∧ fX9_areTwoTold x y M = some (nI 1) ∧ fX12_isParcel x M = some (nI 1) ∧ fX12_isParcel y M = some (nI 1) ∧ x ≠ y := by
  unfold fX9_areTwoTold
  rcases tl_cases h1 rfl rfl x with ⟨x1, x2, -⟩ | ⟨p, hp, rfl, hb, x1, x2⟩
  · exact Or.inl ⟨by rw [x1]; rfl, Or.inl x2⟩
  · rcases tl_cases h1 rfl rfl y with ⟨y1, y2, -⟩ | ⟨o, ho, rfl, hb2, y1, y2⟩
    · exact Or.inl ⟨by rw [x1, y1]; rfl, Or.inr (Or.inl ⟨x2, y2⟩)⟩
    · by_cases e : p = o
      · subst e
        exact Or.inl ⟨by rw [x1, Option.bind_some, if_neg (by decide), Option.bind_some, if_neg (by decide), if_pos rfl]; rfl, Or.inr (Or.inr ⟨x2, y2, rfl⟩)⟩
      · have hne : nI p ≠ nI o := fun h => e ((nI_eq (by omega) (by omega)).mp h)
        exact Or.inr ⟨p, o, hp, ho, e, rfl, rfl, by rw [x1, Option.bind_some, if_neg (by decide), y1, Option.bind_some, if_neg (by decide), if_neg hne]; rfl, x2, y2, hne⟩
theorem op_water {n : Nat} {M : JI} {L : JL} {D : JG} {S : JS} (h : Inv n M L D S) (hn : n < 4096) (x y : Int32) : ∃ r M1 M2, fX11_water x y M = some (r, M1) ∧ fX12_water x y M1 = some (r, M2) ∧ Inv (n + 1) M2 L D S := by
  have hh := h
  obtain ⟨h1, h2, h3, h4, h5, h6, h7, h8, h9, h10, h11, h12, h13, h14, h15, h16, h17, h18, h19⟩ := hh
  have no : fX11_water x y M = some (nI 0, M) → fX12_water x y M = some (nI 0, j_up M 66 0 (nI 0)) → ∃ r M1 M2, fX11_water x y M = some (r, M1) ∧ fX12_water x y M1 = some (r, M2) ∧ Inv (n + 1) M2 L D S := fun a b => ⟨_, _, _, a, b, inv_thr h _⟩
  have hc : ∀ x v, fX12_isParcel x (j_up M 66 0 v) = fX12_isParcel x M := fun x v => isp_cong (ju_row _ _ (by omega))
  rcases twot_cases h1 x y with ⟨y1, y2⟩ | ⟨p, o, hp, ho, hne, rfl, rfl, y1, y2, y3, y4⟩
  · refine no (by unfold fX11_water; rw [y1]; rfl) ?_
    unfold fX12_water
    rw [hc, hc]
    rcases y2 with y2 | ⟨y2, y3⟩ | ⟨y2, y3, y4⟩
    · rw [y2]; rfl
    · rw [y2, y3]; rfl
    · rw [y2, y3, Option.bind_some, if_neg (by decide), Option.bind_some, if_neg (by decide), if_pos y4]; rfl
  · have hbit := h5.1 p o hp
    have hbo : bt (M 4 p) o = decide (M 70 (12 * p + o) = nI 1) := by rw [hbit]; simp [ho]
    by_cases hw : M 70 (12 * p + o) = nI 1
    · have hb1 : bt (M 4 p) o = true := by rw [hbo]; simp [hw]
      refine no ?_ ?_
      · unfold fX11_water
        rw [y1, Option.bind_some, if_neg (by decide), jg_in hp (by decide), nI_clamp (by omega), if_neg (by rw [li_1, li_0, li_31, bt_test _ (by omega), hb1]; simp)]; rfl
      · unfold fX12_water
        rw [hc, hc, y2, Option.bind_some, if_neg (by decide), y3, Option.bind_some, if_neg (by decide), if_neg y4, at12, jg_in (by omega) (by decide), nI_clamp (by omega), ju_row _ _ (by omega), hw, if_neg (by decide)]; rfl
    · have hw0 : M 70 (12 * p + o) = nI 0 := by
        rcases h5.2 p o hp ho with h | h
        · exact h
        · exact absurd h hw
      have hb0 : bt (M 4 p) o = false := by rw [hbo]; simp [hw]
      refine ⟨nI 1, j_up (j_up (j_up M 1 9 (M 1 9 + nI 1)) 4 p (M 4 p ||| (nI 1 <<< (nI o &&& nI 31)))) 4 o (M 4 o ||| (nI 1 <<< (nI p &&& nI 31))), j_up (j_up (j_up (j_up (j_up (j_up M 1 9 (M 1 9 + nI 1)) 4 p (M 4 p ||| (nI 1 <<< (nI o &&& nI 31)))) 4 o (M 4 o ||| (nI 1 <<< (nI p &&& nI 31)))) 66 0 (nI 0)) 70 (12 * p + o) (nI 1)) 70 (12 * o + p) (nI 1), ?_, ?_, ?_⟩
      · unfold fX11_water
        rw [y1, Option.bind_some, if_neg (by decide), jg_in hp (by decide), nI_clamp (by omega), if_pos (by rw [li_1, li_0, li_31, bt_test _ (by omega), hb0]), jg_in hp (by decide), jg_in hp (by decide), jg_in ho (by decide), jg_in ho (by decide), nI_clamp (by omega), ju_row M _ (show (4 : Nat) ≠ 1 by omega), ju_cell _ _ (Ne.symm hne), ju_row M _ (show (4 : Nat) ≠ 1 by omega)]; rfl
      · unfold fX12_water
        have c1 : ∀ x, fX12_isParcel x (j_up (j_up (j_up (j_up M 1 9 (M 1 9 + nI 1)) 4 p (M 4 p ||| (nI 1 <<< (nI o &&& nI 31)))) 4 o (M 4 o ||| (nI 1 <<< (nI p &&& nI 31)))) 66 0 (0 : Int32)) = fX12_isParcel x M := fun x => isp_cong (by simp (disch := omega) only [ju_row, ju_cell, ju_cell2, ju_same, jr_ne, jr_at, jr_at2, jr_ne2, rE_up, rD_up, rP_up, rM_up, rH_up, rL_up, rE_jr, rD_jr, rP_jr, rM_jr, rH_jr, rL_jr])
        rw [c1, c1, y2, Option.bind_some, if_neg (by decide), y3, Option.bind_some, if_neg (by decide), if_neg y4, at12, at12, jg_in (by omega) (by decide), nI_clamp (by omega), nI_clamp (by omega)]
        have e1 : (j_up (j_up (j_up (j_up M 1 9 (M 1 9 + nI 1)) 4 p (M 4 p ||| (nI 1 <<< (nI o &&& nI 31)))) 4 o (M 4 o ||| (nI 1 <<< (nI p &&& nI 31)))) 66 0 (0 : Int32)) 70 (12 * p + o) = nI 0 := by
          simp (disch := omega) only [ju_row, ju_cell, ju_cell2, ju_same, jr_ne, jr_at, jr_at2, jr_ne2, rE_up, rD_up, rP_up, rM_up, rH_up, rL_up, rE_jr, rD_jr, rP_jr, rM_jr, rH_jr, rL_jr]; exact hw0
        rw [e1, if_pos (by decide), jg_in (by omega) (by decide), jg_in (by omega) (by decide)]; rfl
      · refine ⟨(by simpa (disch := omega) only [ju_row, ju_cell, ju_cell2, ju_same, jr_ne, jr_at, jr_at2, jr_ne2, rE_up, rD_up, rP_up, rM_up, rH_up, rL_up, rE_jr, rD_jr, rP_jr, rM_jr, rH_jr, rL_jr] using h1), (by simpa (disch := omega) only [ju_row, ju_cell, ju_cell2, ju_same, jr_ne, jr_at, jr_at2, jr_ne2, rE_up, rD_up, rP_up, rM_up, rH_up, rL_up, rE_jr, rD_jr, rP_jr, rM_jr, rH_jr, rL_jr] using h2), (by simpa (disch := omega) only [ju_row, ju_cell, ju_cell2, ju_same, jr_ne, jr_at, jr_at2, jr_ne2, rE_up, rD_up, rP_up, rM_up, rH_up, rL_up, rE_jr, rD_jr, rP_jr, rM_jr, rH_jr, rL_jr] using h3), (by simpa (disch := omega) only [ju_row, ju_cell, ju_cell2, ju_same, jr_ne, jr_at, jr_at2, jr_ne2, rE_up, rD_up, rP_up, rM_up, rH_up, rL_up, rE_jr, rD_jr, rP_jr, rM_jr, rH_jr, rL_jr] using h4), ?_, (by simpa (disch := omega) only [ju_row, ju_cell, ju_cell2, ju_same, jr_ne, jr_at, jr_at2, jr_ne2, rE_up, rD_up, rP_up, rM_up, rH_up, rL_up, rE_jr, rD_jr, rP_jr, rM_jr, rH_jr, rL_jr] using h6), (by simpa (disch := omega) only [ju_row, ju_cell, ju_cell2, ju_same, jr_ne, jr_at, jr_at2, jr_ne2, rE_up, rD_up, rP_up, rM_up, rH_up, rL_up, rE_jr, rD_jr, rP_jr, rM_jr, rH_jr, rL_jr] using h7), (by simpa (disch := omega) only [ju_row, ju_cell, ju_cell2, ju_same, jr_ne, jr_at, jr_at2, jr_ne2, rE_up, rD_up, rP_up, rM_up, rH_up, rL_up, rE_jr, rD_jr, rP_jr, rM_jr, rH_jr, rL_jr] using h8), (by simpa (disch := omega) only [ju_row, ju_cell, ju_cell2, ju_same, jr_ne, jr_at, jr_at2, jr_ne2, rE_up, rD_up, rP_up, rM_up, rH_up, rL_up, rE_jr, rD_jr, rP_jr, rM_jr, rH_jr, rL_jr] using h9), (by simpa (disch := omega) only [ju_row, ju_cell, ju_cell2, ju_same, jr_ne, jr_at, jr_at2, jr_ne2, rE_up, rD_up, rP_up, rM_up, rH_up, rL_up, rE_jr, rD_jr, rP_jr, rM_jr, rH_jr, rL_jr] using h10), (by simpa (disch := omega) only [ju_row, ju_cell, ju_cell2, ju_same, jr_ne, jr_at, jr_at2, jr_ne2, rE_up, rD_up, rP_up, rM_up, rH_up, rL_up, rE_jr, rD_jr, rP_jr, rM_jr, rH_jr, rL_jr] using (vChg_up h11 hn)), (by simpa (disch := omega) only [ju_row, ju_cell, ju_cell2, ju_same, jr_ne, jr_at, jr_at2, jr_ne2, rE_up, rD_up, rP_up, rM_up, rH_up, rL_up, rE_jr, rD_jr, rP_jr, rM_jr, rH_jr, rL_jr] using h12), (by simpa (disch := omega) only [ju_row, ju_cell, ju_cell2, ju_same, jr_ne, jr_at, jr_at2, jr_ne2, rE_up, rD_up, rP_up, rM_up, rH_up, rL_up, rE_jr, rD_jr, rP_jr, rM_jr, rH_jr, rL_jr] using h13), (by simpa (disch := omega) only [ju_row, ju_cell, ju_cell2, ju_same, jr_ne, jr_at, jr_at2, jr_ne2, rE_up, rD_up, rP_up, rM_up, rH_up, rL_up, rE_jr, rD_jr, rP_jr, rM_jr, rH_jr, rL_jr] using h14), (by simpa (disch := omega) only [ju_row, ju_cell, ju_cell2, ju_same, jr_ne, jr_at, jr_at2, jr_ne2, rE_up, rD_up, rP_up, rM_up, rH_up, rL_up, rE_jr, rD_jr, rP_jr, rM_jr, rH_jr, rL_jr] using (vMk_n h15)), (by simpa (disch := omega) only [ju_row, ju_cell, ju_cell2, ju_same, jr_ne, jr_at, jr_at2, jr_ne2, rE_up, rD_up, rP_up, rM_up, rH_up, rL_up, rE_jr, rD_jr, rP_jr, rM_jr, rH_jr, rL_jr] using (vOb_n h16)), (by simpa (disch := omega) only [ju_row, ju_cell, ju_cell2, ju_same, jr_ne, jr_at, jr_at2, jr_ne2, rE_up, rD_up, rP_up, rM_up, rH_up, rL_up, rE_jr, rD_jr, rP_jr, rM_jr, rH_jr, rL_jr] using (vC1_vac h11 hn)), (by simpa (disch := omega) only [ju_row, ju_cell, ju_cell2, ju_same, jr_ne, jr_at, jr_at2, jr_ne2, rE_up, rD_up, rP_up, rM_up, rH_up, rL_up, rE_jr, rD_jr, rP_jr, rM_jr, rH_jr, rL_jr] using (vC2_vac h11 hn)), (by simpa (disch := omega) only [ju_row, ju_cell, ju_cell2, ju_same, jr_ne, jr_at, jr_at2, jr_ne2, rE_up, rD_up, rP_up, rM_up, rH_up, rL_up, rE_jr, rD_jr, rP_jr, rM_jr, rH_jr, rL_jr] using (vC3_vac h11 hn))⟩
        simp (disch := omega) only [ju_row, ju_cell, ju_cell2, ju_same, jr_ne, jr_at, jr_at2, jr_ne2, rE_up, rD_up, rP_up, rM_up, rH_up, rL_up, rE_jr, rD_jr, rP_jr, rM_jr, rH_jr, rL_jr]
        refine ⟨fun u i hu => ?_, fun u v hu hv => ?_⟩
        · simp (disch := omega) only [ju_at, ju_row]
          have e0 := h5.1 u i hu
          by_cases m1 : u = p
          · subst m1
            rw [if_neg hne, if_pos rfl, bt_set _ (by omega), e0]
            by_cases hi : i = o
            · subst hi
              rw [if_neg (by omega), if_pos rfl]; simp [ho]
            · by_cases hi12 : i < 12
              · rw [if_neg (by omega), if_neg (by omega)]; simp [hi]
              · simp [hi12, hi]
          · by_cases m2 : u = o
            · subst m2
              rw [if_pos rfl, bt_set _ (by omega), e0]
              by_cases hi : i = p
              · subst hi
                rw [if_pos rfl]; simp [hp]
              · by_cases hi12 : i < 12
                · rw [if_neg (by omega), if_neg (by omega)]; simp [hi]
                · simp [hi12, hi]
            · rw [if_neg m2, if_neg m1, e0]
              by_cases hi12 : i < 12
              · rw [if_neg (by omega), if_neg (by omega)]
              · simp [hi12]
        · simp (disch := omega) only [ju_at, ju_row]
          split
          · exact Or.inr rfl
          · split
            · exact Or.inr rfl
            · exact h5.2 u v hu hv
theorem or_ne0 (x : Int32) {s : Nat} (hs : s < 32) : (x ||| (nI 1 <<< (nI s &&& nI 31))) ≠ nI 0 := by
  intro e
  have h := bt_set x hs s
  rw [e, bt_zero] at h
  simp at h
theorem lay_at (M : JI) {p o s : Nat} (hp : p < 12) (hs : s < 4) : fX9_layAt (nI p) (nI o) (nI s) M = some (j_up (j_up M 2 (4 * p + s) (M 2 (4 * p + s) ||| (nI 1 <<< (nI o &&& nI 31)))) 3 p (M 3 p ||| (nI 1 <<< (nI o &&& nI 31)))) := by
  unfold fX9_layAt
  rw [atp4, jg_in (by omega) (by decide), jg_in (by omega) (by decide), jg_in hp (by decide), jg_in hp (by decide), nI_clamp (by omega), nI_clamp (by omega), ju_row M _ (show (3 : Nat) ≠ 2 by omega)]; rfl
theorem op_beside {n : Nat} {M : JI} {L : JL} {D : JG} {S : JS} (h : Inv n M L D S) (hn : n < 4096) (x y z : Int32) : ∃ r M1 M2, fX11_beside x y z M = some (r, M1) ∧ fX12_beside x y z M1 = some (r, M2) ∧ Inv (n + 1) M2 L D S := by
  have hh := h
  obtain ⟨h1, h2, h3, h4, h5, h6, h7, h8, h9, h10, h11, h12, h13, h14, h15, h16, h17, h18, h19⟩ := hh
  have no : fX11_beside x y z M = some (nI 0, M) → fX12_beside x y z M = some (nI 0, j_up M 66 0 (nI 0)) → ∃ r M1 M2, fX11_beside x y z M = some (r, M1) ∧ fX12_beside x y z M1 = some (r, M2) ∧ Inv (n + 1) M2 L D S := fun a b => ⟨_, _, _, a, b, inv_thr h _⟩
  have hc : ∀ x v, fX12_isParcel x (j_up M 66 0 v) = fX12_isParcel x M := fun x v => isp_cong (ju_row _ _ (by omega))
  rcases twot_cases h1 x y with ⟨y1, y2⟩ | ⟨p, o, hp, ho, hne, rfl, rfl, y1, y2, y3, y4⟩
  · refine no (by unfold fX11_beside; rw [y1]; rfl) ?_
    unfold fX12_beside
    rw [hc, hc]
    rcases y2 with y2 | ⟨y2, y3⟩ | ⟨y2, y3, y4⟩
    · rw [y2]; rfl
    · rw [y2, y3]; rfl
    · rw [y2, y3, Option.bind_some, if_neg (by decide), Option.bind_some, if_neg (by decide), if_pos y4]; rfl
  · rcases ix_cases z 4 (by omega) with hz | hz | ⟨s, hs, rfl⟩
    · have g1 : z < 0 := hz
      refine no (by unfold fX11_beside; rw [y1, Option.bind_some, if_neg (by decide), if_pos g1]; rfl) ?_
      unfold fX12_beside fX12_within
      rw [hc, hc, y2, Option.bind_some, if_neg (by decide), y3, Option.bind_some, if_neg (by decide), if_neg y4, if_pos g1]; rfl
    · have g1 : ¬ z < 0 := ix_nlt hz (by omega) (k := 0) (by omega)
      have g2 : (3 : Int32) < z := ix_lt hz (by omega) (k := 3) (by omega)
      have g3 : ¬ z < (4 : Int32) := ix_nlt hz (by omega) (k := 4) (by omega)
      refine no (by unfold fX11_beside; rw [y1, Option.bind_some, if_neg (by decide), if_neg g1, if_neg g3]; rfl) ?_
      unfold fX12_beside fX12_within
      rw [hc, hc, y2, Option.bind_some, if_neg (by decide), y3, Option.bind_some, if_neg (by decide), if_neg y4, if_neg g1, if_pos g2]; rfl
    · have g1 : ¬ nI s < 0 := nI_pos (by omega)
      have g2 : ¬ (3 : Int32) < nI s := nI_nlt (a := 3) (by omega) (by omega)
      have g3 : nI s < (4 : Int32) := nI_lt (b := 4) (by omega) (by omega)
      have hb := h4.1 p o s hp ho hs
      have es : (nI s + (2 : Int32)) - (nI s + (2 : Int32)) / (4 : Int32) * (4 : Int32) = nI ((s + 2) % 4) := by
        show (nI s + nI 2) - (nI s + nI 2) / nI 4 * nI 4 = _
        rw [nI_add]
        exact pk_rem (by omega) (by omega) (by omega)
      have hs' : (s + 2) % 4 < 4 := Nat.mod_lt _ (by omega)
      by_cases hw : bt (M 69 (12 * p + o)) s = true
      · refine no ?_ ?_
        · unfold fX11_beside
          rw [y1, Option.bind_some, if_neg (by decide), if_neg g1, if_pos g3, atp4, jg_in (by omega) (by decide), nI_clamp (by omega), if_neg (by rw [li_1, li_0, li_31, bt_test _ (by omega), hb, hw]; simp)]; rfl
        · unfold fX12_beside fX12_within
          rw [hc, hc, y2, Option.bind_some, if_neg (by decide), y3, Option.bind_some, if_neg (by decide), if_neg y4, if_neg g1, if_neg g2, Option.bind_some, if_neg (by decide), at12, jg_in (by omega) (by decide), nI_clamp (by omega), ju_row _ _ (by omega), if_pos (by rw [li_1, li_31, bt_test1 _ (by omega), hw])]; rfl
      · have hw0 : bt (M 69 (12 * p + o)) s = false := by simpa using hw
        generalize hs2 : (s + 2) % 4 = s2 at es hs'
        have l1 := lay_at (j_up M 1 9 (M 1 9 + nI 1)) (p := p) (o := o) hp hs
        rw [ju_row _ _ (show (2 : Nat) ≠ 1 by omega), ju_row _ _ (show (3 : Nat) ≠ 1 by omega)] at l1
        have l2 := lay_at (j_up (j_up (j_up M 1 9 (M 1 9 + nI 1)) 2 (4 * p + s) (M 2 (4 * p + s) ||| (nI 1 <<< (nI o &&& nI 31)))) 3 p (M 3 p ||| (nI 1 <<< (nI o &&& nI 31)))) (p := o) (o := p) ho hs'
        rw [ju_row _ _ (show (2 : Nat) ≠ 3 by omega), ju_cell _ _ (show 4 * o + s2 ≠ 4 * p + s by omega), ju_row _ _ (show (2 : Nat) ≠ 1 by omega), ju_cell _ _ (Ne.symm hne), ju_row _ _ (show (3 : Nat) ≠ 2 by omega), ju_row _ _ (show (3 : Nat) ≠ 1 by omega)] at l2
        generalize hM1 : j_up (j_up (j_up (j_up (j_up M 1 9 (M 1 9 + nI 1)) 2 (4 * p + s) (M 2 (4 * p + s) ||| (nI 1 <<< (nI o &&& nI 31)))) 3 p (M 3 p ||| (nI 1 <<< (nI o &&& nI 31)))) 2 (4 * o + s2) (M 2 (4 * o + s2) ||| (nI 1 <<< (nI p &&& nI 31)))) 3 o (M 3 o ||| (nI 1 <<< (nI p &&& nI 31))) = M1 at l2
        have hM69 : M1 69 = M 69 := by rw [← hM1]; simp (disch := omega) only [ju_row, ju_cell, ju_cell2, ju_same, jr_ne, jr_at, jr_at2, jr_ne2, rE_up, rD_up, rP_up, rM_up, rH_up, rL_up, rE_jr, rD_jr, rP_jr, rM_jr, rH_jr, rL_jr]
        have hM67 : M1 67 = M 67 := by rw [← hM1]; simp (disch := omega) only [ju_row, ju_cell, ju_cell2, ju_same, jr_ne, jr_at, jr_at2, jr_ne2, rE_up, rD_up, rP_up, rM_up, rH_up, rL_up, rE_jr, rD_jr, rP_jr, rM_jr, rH_jr, rL_jr]
        refine ⟨nI 1, M1, j_up (j_up (j_up M1 66 0 (nI 0)) 69 (12 * p + o) (M 69 (12 * p + o) ||| (nI 1 <<< (nI s &&& nI 31)))) 69 (12 * o + p) (M 69 (12 * o + p) ||| (nI 1 <<< (nI s2 &&& nI 31))), ?_, ?_, ?_⟩
        · unfold fX11_beside
          have l1' : fX9_layAt (nI p) (nI o) (nI s) (j_up M 1 9 (M 1 9 + (1 : Int32))) = _ := l1
          rw [y1, Option.bind_some, if_neg (by decide), if_neg g1, if_pos g3, atp4, jg_in (by omega) (by decide), nI_clamp (by omega), if_pos (by rw [li_1, li_0, li_31, bt_test _ (by omega), hb, hw0]), l1', Option.bind_some, es, l2]; rfl
        · unfold fX12_beside fX12_within
          have c1 : ∀ x, fX12_isParcel x (j_up M1 66 0 (0 : Int32)) = fX12_isParcel x M := fun x => isp_cong (by rw [ju_row _ _ (by omega), hM67])
          rw [c1, c1, y2, Option.bind_some, if_neg (by decide), y3, Option.bind_some, if_neg (by decide), if_neg y4, if_neg g1, if_neg g2, Option.bind_some, if_neg (by decide), at12, at12, es, jg_in (by omega) (by decide), nI_clamp (by omega), nI_clamp (by omega), ju_row M1 _ (show (69 : Nat) ≠ 66 by omega), hM69, if_neg (by rw [li_1, li_31, bt_test1 _ (by omega), hw0]; simp), jg_in (by omega) (by decide), jg_in (by omega) (by decide), jg_in (by omega) (by decide), jg_in (by omega) (by decide), ju_cell _ _ (show 12 * o + p ≠ 12 * p + o by omega), ju_row M1 _ (show (69 : Nat) ≠ 66 by omega), hM69]; rfl
        · have hs22 : s2 < 4 ∧ s ≠ s2 := by omega
          rw [← hM1]
          refine ⟨(by simpa (disch := omega) only [ju_row, ju_cell, ju_cell2, ju_same, jr_ne, jr_at, jr_at2, jr_ne2, rE_up, rD_up, rP_up, rM_up, rH_up, rL_up, rE_jr, rD_jr, rP_jr, rM_jr, rH_jr, rL_jr] using h1), (by simpa (disch := omega) only [ju_row, ju_cell, ju_cell2, ju_same, jr_ne, jr_at, jr_at2, jr_ne2, rE_up, rD_up, rP_up, rM_up, rH_up, rL_up, rE_jr, rD_jr, rP_jr, rM_jr, rH_jr, rL_jr] using h2), (by simpa (disch := omega) only [ju_row, ju_cell, ju_cell2, ju_same, jr_ne, jr_at, jr_at2, jr_ne2, rE_up, rD_up, rP_up, rM_up, rH_up, rL_up, rE_jr, rD_jr, rP_jr, rM_jr, rH_jr, rL_jr] using h3), ?_, (by simpa (disch := omega) only [ju_row, ju_cell, ju_cell2, ju_same, jr_ne, jr_at, jr_at2, jr_ne2, rE_up, rD_up, rP_up, rM_up, rH_up, rL_up, rE_jr, rD_jr, rP_jr, rM_jr, rH_jr, rL_jr] using h5), (by simpa (disch := omega) only [ju_row, ju_cell, ju_cell2, ju_same, jr_ne, jr_at, jr_at2, jr_ne2, rE_up, rD_up, rP_up, rM_up, rH_up, rL_up, rE_jr, rD_jr, rP_jr, rM_jr, rH_jr, rL_jr] using h6), (by simpa (disch := omega) only [ju_row, ju_cell, ju_cell2, ju_same, jr_ne, jr_at, jr_at2, jr_ne2, rE_up, rD_up, rP_up, rM_up, rH_up, rL_up, rE_jr, rD_jr, rP_jr, rM_jr, rH_jr, rL_jr] using h7), (by simpa (disch := omega) only [ju_row, ju_cell, ju_cell2, ju_same, jr_ne, jr_at, jr_at2, jr_ne2, rE_up, rD_up, rP_up, rM_up, rH_up, rL_up, rE_jr, rD_jr, rP_jr, rM_jr, rH_jr, rL_jr] using h8), (by simpa (disch := omega) only [ju_row, ju_cell, ju_cell2, ju_same, jr_ne, jr_at, jr_at2, jr_ne2, rE_up, rD_up, rP_up, rM_up, rH_up, rL_up, rE_jr, rD_jr, rP_jr, rM_jr, rH_jr, rL_jr] using h9), (by simpa (disch := omega) only [ju_row, ju_cell, ju_cell2, ju_same, jr_ne, jr_at, jr_at2, jr_ne2, rE_up, rD_up, rP_up, rM_up, rH_up, rL_up, rE_jr, rD_jr, rP_jr, rM_jr, rH_jr, rL_jr] using h10), (by simpa (disch := omega) only [ju_row, ju_cell, ju_cell2, ju_same, jr_ne, jr_at, jr_at2, jr_ne2, rE_up, rD_up, rP_up, rM_up, rH_up, rL_up, rE_jr, rD_jr, rP_jr, rM_jr, rH_jr, rL_jr] using (vChg_up h11 hn)), (by simpa (disch := omega) only [ju_row, ju_cell, ju_cell2, ju_same, jr_ne, jr_at, jr_at2, jr_ne2, rE_up, rD_up, rP_up, rM_up, rH_up, rL_up, rE_jr, rD_jr, rP_jr, rM_jr, rH_jr, rL_jr] using h12), (by simpa (disch := omega) only [ju_row, ju_cell, ju_cell2, ju_same, jr_ne, jr_at, jr_at2, jr_ne2, rE_up, rD_up, rP_up, rM_up, rH_up, rL_up, rE_jr, rD_jr, rP_jr, rM_jr, rH_jr, rL_jr] using h13), (by simpa (disch := omega) only [ju_row, ju_cell, ju_cell2, ju_same, jr_ne, jr_at, jr_at2, jr_ne2, rE_up, rD_up, rP_up, rM_up, rH_up, rL_up, rE_jr, rD_jr, rP_jr, rM_jr, rH_jr, rL_jr] using h14), (by simpa (disch := omega) only [ju_row, ju_cell, ju_cell2, ju_same, jr_ne, jr_at, jr_at2, jr_ne2, rE_up, rD_up, rP_up, rM_up, rH_up, rL_up, rE_jr, rD_jr, rP_jr, rM_jr, rH_jr, rL_jr] using (vMk_n h15)), (by simpa (disch := omega) only [ju_row, ju_cell, ju_cell2, ju_same, jr_ne, jr_at, jr_at2, jr_ne2, rE_up, rD_up, rP_up, rM_up, rH_up, rL_up, rE_jr, rD_jr, rP_jr, rM_jr, rH_jr, rL_jr] using (vOb_n h16)), (by simpa (disch := omega) only [ju_row, ju_cell, ju_cell2, ju_same, jr_ne, jr_at, jr_at2, jr_ne2, rE_up, rD_up, rP_up, rM_up, rH_up, rL_up, rE_jr, rD_jr, rP_jr, rM_jr, rH_jr, rL_jr] using (vC1_vac h11 hn)), (by simpa (disch := omega) only [ju_row, ju_cell, ju_cell2, ju_same, jr_ne, jr_at, jr_at2, jr_ne2, rE_up, rD_up, rP_up, rM_up, rH_up, rL_up, rE_jr, rD_jr, rP_jr, rM_jr, rH_jr, rL_jr] using (vC2_vac h11 hn)), (by simpa (disch := omega) only [ju_row, ju_cell, ju_cell2, ju_same, jr_ne, jr_at, jr_at2, jr_ne2, rE_up, rD_up, rP_up, rM_up, rH_up, rL_up, rE_jr, rD_jr, rP_jr, rM_jr, rH_jr, rL_jr] using (vC3_vac h11 hn))⟩
          simp (disch := omega) only [ju_row, ju_cell, ju_cell2, ju_same, jr_ne, jr_at, jr_at2, jr_ne2, rE_up, rD_up, rP_up, rM_up, rH_up, rL_up, rE_jr, rD_jr, rP_jr, rM_jr, rH_jr, rL_jr]
          refine ⟨fun u v t hu hv ht => ?_, fun u i hu => ?_, fun u v i hu hv hi => ?_⟩
          · have e0 := h4.1 u v t hu hv ht
            simp (disch := omega) only [ju_at, ju_row]
            by_cases m1 : u = p ∧ v = o
            · obtain ⟨rfl, rfl⟩ := m1
              rw [if_neg (show ¬ 4 * u + t = 4 * v + s2 by omega), if_neg (show ¬ 12 * u + v = 12 * v + u by omega), if_pos (show 12 * u + v = 12 * u + v from rfl)]
              by_cases m2 : t = s
              · subst m2
                rw [if_pos rfl, bt_set _ (by omega), bt_set _ (by omega)]; simp
              · rw [if_neg (by omega), bt_set _ (by omega), e0]; simp [m2]
            · by_cases m3 : u = o ∧ v = p
              · obtain ⟨rfl, rfl⟩ := m3
                rw [if_pos (show 12 * u + v = 12 * u + v from rfl)]
                by_cases m2 : t = s2
                · subst m2
                  rw [if_pos rfl, bt_set _ (by omega), bt_set _ (by omega)]; simp
                · rw [if_neg (by omega), if_neg (by omega), bt_set _ (by omega), e0]; simp [m2]
              · rw [if_neg (show ¬ 12 * u + v = 12 * o + p by omega), if_neg (show ¬ 12 * u + v = 12 * p + o by omega)]
                by_cases c1 : 4 * u + t = 4 * o + s2
                · rw [if_pos c1, bt_set _ (by omega), ← c1, e0]
                  have : v ≠ p := by omega
                  simp [this]
                · rw [if_neg c1]
                  by_cases c2 : 4 * u + t = 4 * p + s
                  · rw [if_pos c2, bt_set _ (by omega), ← c2, e0]
                    have : v ≠ o := by omega
                    simp [this]
                  · rw [if_neg c2, e0]
          · have e0 := h4.2.1 u i hu
            simp (disch := omega) only [ju_at, ju_row]
            by_cases m1 : u = p
            · subst m1
              rw [if_neg hne, if_pos rfl, bt_set _ (by omega), e0]
              by_cases hi : i = o
              · subst hi
                rw [if_neg (by omega), if_pos rfl]
                simp [ho, or_ne0 _ (show s < 32 by omega)]
              · by_cases hi12 : i < 12
                · rw [if_neg (by omega), if_neg (by omega)]; simp [hi]
                · simp [hi12, hi]
            · by_cases m2 : u = o
              · subst m2
                rw [if_pos rfl, bt_set _ (by omega), e0]
                by_cases hi : i = p
                · subst hi
                  rw [if_pos rfl]
                  simp [hp, or_ne0 _ (show s2 < 32 by omega)]
                · by_cases hi12 : i < 12
                  · rw [if_neg (by omega), if_neg (by omega)]; simp [hi]
                  · simp [hi12, hi]
              · rw [if_neg m2, if_neg m1, e0]
                by_cases hi12 : i < 12
                · rw [if_neg (by omega), if_neg (by omega)]
                · simp [hi12]
          · have e0 := h4.2.2 u v i hu hv hi
            simp (disch := omega) only [ju_at, ju_row]
            split
            · rename_i c
              rw [bt_set _ (by omega), ← c, e0]; simp; omega
            · split
              · rename_i c
                rw [bt_set _ (by omega), ← c, e0]; simp; omega
              · exact e0
