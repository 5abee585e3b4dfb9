theorem wv_eq {M M' : JI} {k b q : Nat} {s : Bool} {g : Int32} (hk : k < 40) (hq : q < 16) (hJ : M' 113 (16 * k + q) = M 113 (16 * k + q)) (V : vP2 (16 * k + q) q s g (M (b + 2)) (M (b + 3)) (M (b + 4)) (M (b + 5)) M) : fX7_isWaived b (nI q) M = some (bI (bt (M (b + 5) 16) q)) ∧ jm_b01 (M' 113 (16 * k + q)) = bI (bt (M (b + 5) 16) q) := by
  obtain ⟨-, -, -, -, w5, -⟩ := V
  refine ⟨?_, by rw [hJ, w5, bI_b01]⟩
  unfold fX7_isWaived
  have e16 : (16 : Int32).toNatClampNeg = 16 := by decide
  have g16 : ∀ z : Option Int32, j_g (j_in (16 : Int32) 19) z = z := fun z => jg_in (k := 16) (by omega) (by decide)
  rw [g16, e16, li_31, li_1, li_0, bt_val _ (by omega)]
  cases bt (M (b + 5) 16) q <;> rfl
theorem op_waive {n : Nat} {M : JI} {L : JL} {D : JG} {S : JS} (h : Inv n M L D S) (x y : Int32) : ∃ r M1 M2, fX11_waive x y M D S = some (r, M1) ∧ fX12_waive x y M1 = some (r, M2) ∧ Inv (n + 1) M2 L D S := by
  have hh := h
  obtain ⟨h1, h2, h3, h4, h5, h6, h7, h8, h9, h10, h11, h12, h13, h14, h15, h16, h17, h18, h19⟩ := hh
  have no : fX11_waive x y M D S = some (nI 0, M) → fX12_waive x y M = some (nI 0, j_up M 66 0 (nI 0)) → ∃ r M1 M2, fX11_waive x y M D S = some (r, M1) ∧ fX12_waive x y M1 = some (r, M2) ∧ Inv (n + 1) M2 L D S := fun a b => ⟨_, _, _, a, b, inv_thr h _⟩
  rcases pa_cases h13 h16 x with ⟨x1, x2⟩ | ⟨m, k, b, hm, e0, hk, rfl, hb, h137, hS, x1, x2, V⟩
  · exact no (by unfold fX11_waive; rw [x1]; rfl) (by unfold fX12_waive fX12_mays; rw [x2 _ (ju_cell _ _ (by omega))]; rfl)
  · rcases ps_cases y with ⟨y1, y2⟩ | ⟨q, hq, rfl, y1, y2⟩
    · exact no (by unfold fX11_waive; rw [x1, Option.bind_some, jo_s, jg_d hS, y1]; rfl) (by unfold fX12_waive fX12_mays; rw [x2 _ (ju_cell _ _ (by omega)), y2]; rfl)
    · obtain ⟨v1, v2, v3, v4, v5, v6, v7, v8, v9, v10, v11, v12, s, es, vq⟩ := V
      obtain ⟨w1, w2, w3, w4, w5, w6⟩ := vq q hq
      have e16 : (16 : Int32).toNatClampNeg = 16 := by decide
      have g16 : ∀ {α : Type} (z : Option α), j_g (j_in (16 : Int32) 19) z = z := fun z => jg_in (k := 16) (by omega) (by decide)
      have hA : fX11_waive (nI k) (nI q) M D S = (if M 109 (16 * k + q) = -nI 1 then some ((0 : Int32), M) else (if bI (bt (M (b + 5) 16) q) = 0 then some ((1 : Int32), j_up M (b + 5) 16 (M (b + 5) 16 ||| (nI 1 <<< (nI q &&& nI 31)))) else some ((0 : Int32), M))) := by
        unfold fX11_waive
        rw [x1, Option.bind_some, jo_s, jg_d hS, y1, Option.bind_some, if_neg (by decide), jg_in hq (by decide), nI_clamp (by omega), ← w1, (wv_eq (M' := M) (by omega) hq rfl (vq q hq)).1, Option.bind_some, g16, g16, e16]; rfl
      have hB : ∀ N : JI, N 66 52 = M 66 52 → N 109 (16 * k + q) = M 109 (16 * k + q) → N 113 (16 * k + q) = M 113 (16 * k + q) → fX12_waive (nI k) (nI q) N = (if M 109 (16 * k + q) < 0 then some ((0 : Int32), j_up N 66 0 (0 : Int32)) else (if bI (bt (M (b + 5) 16) q) = 0 then some ((1 : Int32), j_up (j_up N 66 0 (0 : Int32)) 113 (16 * k + q) (1 : Int32)) else some ((0 : Int32), j_up N 66 0 (0 : Int32)))) := by
        intro N n1 n2 n3
        unfold fX12_waive fX12_mays
        rw [x2 (j_up N 66 0 (0 : Int32)) (by rw [ju_cell _ _ (by omega), n1]), Option.bind_some, if_neg (by decide), y2, Option.bind_some, if_neg (by decide), at16, jg_in (by omega) (by decide), jg_in (by omega) (by decide), jg_in (by omega) (by decide), nI_clamp (by omega), ju_row _ _ (show (109 : Nat) ≠ 66 by omega), n2, ju_row _ _ (show (113 : Nat) ≠ 66 by omega), (wv_eq (M' := N) (by omega) hq n3 (vq q hq)).2]
        by_cases c : M 109 (16 * k + q) < 0
        · rw [if_pos c, if_pos c]; rfl
        · rw [if_neg c, if_neg c]; rfl
      by_cases c1 : M 109 (16 * k + q) = -nI 1
      · exact no (by rw [hA, if_pos c1]; rfl) (by rw [hB M rfl rfl rfl, if_pos ((okR_neg w2 (by omega)).1.mpr c1)]; rfl)
      · have c1' : ¬ M 109 (16 * k + q) < 0 := fun hc => c1 ((okR_neg w2 (by omega)).1.mp hc)
        by_cases c2 : bt (M (b + 5) 16) q = true
        · exact no (by rw [hA, if_neg c1, c2]; rfl) (by rw [hB M rfl rfl rfl, if_neg c1', c2]; rfl)
        · have c2' : bt (M (b + 5) 16) q = false := by simpa using c2
          refine ⟨nI 1, j_up M (b + 5) 16 (M (b + 5) 16 ||| (nI 1 <<< (nI q &&& nI 31))), j_up (j_up (j_up M (b + 5) 16 (M (b + 5) 16 ||| (nI 1 <<< (nI q &&& nI 31)))) 66 0 (nI 0)) 113 (16 * k + q) (nI 1), ?_, ?_, ?_⟩
          · rw [hA, if_neg c1, c2']; rfl
          · rw [hB _ (by rw [ju_row _ _ (by omega)]) (by rw [ju_row _ _ (by omega)]) (by rw [ju_row _ _ (by omega)]), if_neg c1', c2']; rfl
          · generalize hu : (M (b + 5) 16 ||| (nI 1 <<< (nI q &&& nI 31))) = u
            have hub : ∀ i, bt u i = (bt (M (b + 5) 16) i || decide (i = q)) := fun i => by rw [← hu]; exact bt_set _ (by omega) i
            generalize hM2 : j_up (j_up (j_up M (b + 5) 16 u) 66 0 (nI 0)) 113 (16 * k + q) (nI 1) = M2
            have ro : ∀ a, a ≠ b + 5 → a ≠ 66 → a ≠ 113 → M2 a = M a := by
              intro a _ _ _
              rw [← hM2, ju_row _ _ (by omega), ju_row _ _ (by omega), ju_row _ _ (by omega)]
            have r5 : ∀ j, M2 (b + 5) j = if j = 16 then u else M (b + 5) j := by
              intro j
              rw [← hM2, ju_row _ _ (by omega), ju_row _ _ (by omega), ju_at]
            have r113 : ∀ j, M2 113 j = if j = 16 * k + q then nI 1 else M 113 j := by
              intro j
              rw [← hM2, ju_at]
              show (if j = 16 * k + q then nI 1 else _) = _
              rw [ju_row _ _ (by omega), ju_row _ _ (by omega)]
            have self : vP1 k (M2 b) (M2 (b + 1)) (M2 (b + 2)) (M2 (b + 3)) (M2 (b + 4)) (M2 (b + 5)) M2 := by
              unfold vP1
              rw [ro 96 (by omega) (by omega) (by omega), ro 97 (by omega) (by omega) (by omega), ro 98 (by omega) (by omega) (by omega), ro 99 (by omega) (by omega) (by omega), ro 100 (by omega) (by omega) (by omega), ro 101 (by omega) (by omega) (by omega), ro 102 (by omega) (by omega) (by omega), ro 103 (by omega) (by omega) (by omega), ro 104 (by omega) (by omega) (by omega), ro 105 (by omega) (by omega) (by omega), ro 106 (by omega) (by omega) (by omega), ro 107 (by omega) (by omega) (by omega), ro 108 (by omega) (by omega) (by omega), ro b (by omega) (by omega) (by omega), ro (b + 1) (by omega) (by omega) (by omega), ro (b + 2) (by omega) (by omega) (by omega), ro (b + 3) (by omega) (by omega) (by omega), ro (b + 4) (by omega) (by omega) (by omega), r5 18, r5 17, if_neg (by omega), if_neg (by omega)]
              refine ⟨v1, v2, v3, v4, v5, v6, v7, v8, v9, v10, v11, v12, s, es, fun q' hq' => ?_⟩
              have vv := vq q' hq'
              unfold vP2 at vv ⊢
              rw [ro 109 (by omega) (by omega) (by omega), ro 110 (by omega) (by omega) (by omega), ro 111 (by omega) (by omega) (by omega), ro 112 (by omega) (by omega) (by omega), r113, r5 q', r5 16, if_neg (show ¬ q' = 16 by omega), if_pos rfl, hub]
              by_cases c : q' = q
              · subst c
                rw [if_pos rfl]
                exact ⟨vv.1, vv.2.1, vv.2.2.1, vv.2.2.2.1, by simp [bI], vv.2.2.2.2.2⟩
              · rw [if_neg (by omega)]
                exact ⟨vv.1, vv.2.1, vv.2.2.1, vv.2.2.2.1, by simp [c, vv.2.2.2.2.1], vv.2.2.2.2.2⟩
            obtain ⟨s1, s2, s3⟩ := st_set h13 h16 (show k < 40 by omega) hb h137 (M2 := M2) (fun a h1 h2 => ro a h2 (by omega) (by omega)) (fun a j h1 h2 h3 => by rw [ro a (by omega) (by omega) (by omega)]) (fun a j q' h1 h2 h3 h4 => by
              by_cases e : a = 113
              · subst e; rw [r113, if_neg (by omega)]
              · rw [ro a (by omega) (by omega) e]) self
            subst hM2
            refine ⟨(by simpa (disch := omega) only [ju_row, ju_cell, ju_cell2, ju_same, jr_ne, jr_at, jr_at2, jr_ne2, rE_up, rD_up, rP_up, rM_up, rH_up, rL_up, rE_jr, rD_jr, rP_jr, rM_jr, rH_jr, rL_jr] using h1), (by simpa (disch := omega) only [ju_row, ju_cell, ju_cell2, ju_same, jr_ne, jr_at, jr_at2, jr_ne2, rE_up, rD_up, rP_up, rM_up, rH_up, rL_up, rE_jr, rD_jr, rP_jr, rM_jr, rH_jr, rL_jr] using h2), (by simpa (disch := omega) only [ju_row, ju_cell, ju_cell2, ju_same, jr_ne, jr_at, jr_at2, jr_ne2, rE_up, rD_up, rP_up, rM_up, rH_up, rL_up, rE_jr, rD_jr, rP_jr, rM_jr, rH_jr, rL_jr] using h3), (by simpa (disch := omega) only [ju_row, ju_cell, ju_cell2, ju_same, jr_ne, jr_at, jr_at2, jr_ne2, rE_up, rD_up, rP_up, rM_up, rH_up, rL_up, rE_jr, rD_jr, rP_jr, rM_jr, rH_jr, rL_jr] using h4), (by simpa (disch := omega) only [ju_row, ju_cell, ju_cell2, ju_same, jr_ne, jr_at, jr_at2, jr_ne2, rE_up, rD_up, rP_up, rM_up, rH_up, rL_up, rE_jr, rD_jr, rP_jr, rM_jr, rH_jr, rL_jr] using h5), (by simpa (disch := omega) only [ju_row, ju_cell, ju_cell2, ju_same, jr_ne, jr_at, jr_at2, jr_ne2, rE_up, rD_up, rP_up, rM_up, rH_up, rL_up, rE_jr, rD_jr, rP_jr, rM_jr, rH_jr, rL_jr] using h6), (by simpa (disch := omega) only [ju_row, ju_cell, ju_cell2, ju_same, jr_ne, jr_at, jr_at2, jr_ne2, rE_up, rD_up, rP_up, rM_up, rH_up, rL_up, rE_jr, rD_jr, rP_jr, rM_jr, rH_jr, rL_jr] using h7), (by simpa (disch := omega) only [ju_row, ju_cell, ju_cell2, ju_same, jr_ne, jr_at, jr_at2, jr_ne2, rE_up, rD_up, rP_up, rM_up, rH_up, rL_up, rE_jr, rD_jr, rP_jr, rM_jr, rH_jr, rL_jr] using h8), (by simpa (disch := omega) only [ju_row, ju_cell, ju_cell2, ju_same, jr_ne, jr_at, jr_at2, jr_ne2, rE_up, rD_up, rP_up, rM_up, rH_up, rL_up, rE_jr, rD_jr, rP_jr, rM_jr, rH_jr, rL_jr] using h9), (by simpa (disch := omega) only [ju_row, ju_cell, ju_cell2, ju_same, jr_ne, jr_at, jr_at2, jr_ne2, rE_up, rD_up, rP_up, rM_up, rH_up, rL_up, rE_jr, rD_jr, rP_jr, rM_jr, rH_jr, rL_jr] using h10), (by simpa (disch := omega) only [ju_row, ju_cell, ju_cell2, ju_same, jr_ne, jr_at, jr_at2, jr_ne2, rE_up, rD_up, rP_up, rM_up, rH_up, rL_up, rE_jr, rD_jr, rP_jr, rM_jr, rH_jr, rL_jr] using (vChg_n h11)), (by simpa (disch := omega) only [ju_row, ju_cell, ju_cell2, ju_same, jr_ne, jr_at, jr_at2, jr_ne2, rE_up, rD_up, rP_up, rM_up, rH_up, rL_up, rE_jr, rD_jr, rP_jr, rM_jr, rH_jr, rL_jr] using h12), ?_, ?_, ?_, (by simpa (disch := omega) only [ju_row, ju_cell, ju_cell2, ju_same, jr_ne, jr_at, jr_at2, jr_ne2, rE_up, rD_up, rP_up, rM_up, rH_up, rL_up, rE_jr, rD_jr, rP_jr, rM_jr, rH_jr, rL_jr] using (vOb_n h16)), (by simpa (disch := omega) only [ju_row, ju_cell, ju_cell2, ju_same, jr_ne, jr_at, jr_at2, jr_ne2, rE_up, rD_up, rP_up, rM_up, rH_up, rL_up, rE_jr, rD_jr, rP_jr, rM_jr, rH_jr, rL_jr] using h17), (by simpa (disch := omega) only [ju_row, ju_cell, ju_cell2, ju_same, jr_ne, jr_at, jr_at2, jr_ne2, rE_up, rD_up, rP_up, rM_up, rH_up, rL_up, rE_jr, rD_jr, rP_jr, rM_jr, rH_jr, rL_jr] using h18), (by simpa (disch := omega) only [ju_row, ju_cell, ju_cell2, ju_same, jr_ne, jr_at, jr_at2, jr_ne2, rE_up, rD_up, rP_up, rM_up, rH_up, rL_up, rE_jr, rD_jr, rP_jr, rM_jr, rH_jr, rL_jr] using h19)⟩
            · simp (disch := omega) only [ju_row, ju_cell, ju_cell2, ju_same, jr_ne, jr_at, jr_at2, jr_ne2, rE_up, rD_up, rP_up, rM_up, rH_up, rL_up, rE_jr, rD_jr, rP_jr, rM_jr, rH_jr, rL_jr] at s1 ⊢; exact s1
            · have := s2 _ _ _ _ h14
              simp (disch := omega) only [ju_row, ju_cell, ju_cell2, ju_same, jr_ne, jr_at, jr_at2, jr_ne2, rE_up, rD_up, rP_up, rM_up, rH_up, rL_up, rE_jr, rD_jr, rP_jr, rM_jr, rH_jr, rL_jr] at this ⊢; exact this
            · have := s3 _ _ _ _ _ _ (vMk_n h15)
              simp (disch := omega) only [ju_row, ju_cell, ju_cell2, ju_same, jr_ne, jr_at, jr_at2, jr_ne2, rE_up, rD_up, rP_up, rM_up, rH_up, rL_up, rE_jr, rD_jr, rP_jr, rM_jr, rH_jr, rL_jr] at this ⊢; exact this
theorem tk_eq {M : JI} {b : Nat} {x : Int32} (h : M (b + 5) 17 = x) : fX7_isTaken b M = some (bI (!decide (x = -nI 1))) := by
  unfold fX7_isTaken
  have e17 : (17 : Int32).toNatClampNeg = 17 := by decide
  have g17 : ∀ z : Option Int32, j_g (j_in (17 : Int32) 19) z = z := fun z => jg_in (k := 17) (by omega) (by decide)
  rw [g17, e17, h, li_1]
  by_cases c : x = -nI 1
  · rw [if_pos c]; simp [c]; rfl
  · rw [if_neg c]; simp [c]; rfl
theorem pr_cases (x : Int32) : (fX11_isPrice x = some (nI 0) ∧ fX12_within x (0 : Int32) (9999 : Int32) = some (nI 0)) ∨ ∃ v, v ≤ 9999 ∧ x = nI v ∧ fX11_isPrice x = some (nI 1) ∧ fX12_within x (0 : Int32) (9999 : Int32) = some (nI 1) := by
  unfold fX11_isPrice fX12_within
  rcases ix_cases x 10000 (by omega) with h | h | ⟨v, hv, rfl⟩
  · have g : x < 0 := h
    exact Or.inl ⟨by rw [if_pos g]; rfl, by rw [if_pos g]; rfl⟩
  · have g : ¬ x < 0 := ix_nlt h (by omega) (k := 0) (by omega)
    have g2 : (9999 : Int32) < x := ix_lt h (by omega) (k := 9999) (by omega)
    exact Or.inl ⟨by rw [if_neg g, if_pos g2]; rfl, by rw [if_neg g, if_pos g2]; rfl⟩
  · have g : ¬ nI v < 0 := nI_pos (by omega)
    have g2 : ¬ (9999 : Int32) < nI v := nI_nlt (a := 9999) (by omega) (by omega)
    exact Or.inr ⟨v, by omega, rfl, by rw [if_neg g, if_neg g2]; rfl, by rw [if_neg g, if_neg g2]; rfl⟩
theorem op_truly {n : Nat} {M : JI} {L : JL} {D : JG} {S : JS} (h : Inv n M L D S) (x y : Int32) : ∃ r M1 M2, fX11_truly x y M D S = some (r, M1) ∧ fX12_truly x y M1 = some (r, M2) ∧ Inv (n + 1) M2 L D S := by
  have hh := h
  obtain ⟨h1, h2, h3, h4, h5, h6, h7, h8, h9, h10, h11, h12, h13, h14, h15, h16, h17, h18, h19⟩ := hh
  have no : fX11_truly x y M D S = some (nI 0, M) → fX12_truly x y M = some (nI 0, j_up M 66 0 (nI 0)) → ∃ r M1 M2, fX11_truly x y M D S = some (r, M1) ∧ fX12_truly x y M1 = some (r, M2) ∧ Inv (n + 1) M2 L D S := fun a b => ⟨_, _, _, a, b, inv_thr h _⟩
  rcases pa_cases h13 h16 x with ⟨x1, x2⟩ | ⟨m, k, b, hm, e0, hk, rfl, hb, h137, hS, x1, x2, V⟩
  · exact no (by unfold fX11_truly; rw [x1]; rfl) (by unfold fX12_truly; rw [x2 _ (ju_cell _ _ (by omega))]; rfl)
  · rcases pr_cases y with ⟨y1, y2⟩ | ⟨pv, hpv, rfl, y1, y2⟩
    · exact no (by unfold fX11_truly; rw [x1, Option.bind_some, jo_s, jg_d hS, y1]; rfl) (by unfold fX12_truly; rw [x2 _ (ju_cell _ _ (by omega)), y2]; rfl)
    · obtain ⟨v1, v2, v3, v4, ⟨f, hf, f1, f2⟩, v6, v7, v8, v9, v10, ⟨t1, t2⟩, v12, s, es, vq⟩ := V
      have e18 : (18 : Int32).toNatClampNeg = 18 := by decide
      have g18 : ∀ {α : Type} (z : Option α), j_g (j_in (18 : Int32) 19) z = z := fun z => jg_in (k := 18) (by omega) (by decide)
      have gk : ∀ {α : Type} (z : Option α), j_g (j_in (nI k) 40) z = z := fun z => jg_in (by omega) (by decide)
      have ek : (nI k).toNatClampNeg = k := nI_clamp (by omega)
      have hA : fX11_truly (nI k) (nI pv) M D S = (if nI f = (1 : Int32) then some ((0 : Int32), M) else (if bI (!decide (M 106 k = -nI 1)) = 0 then some ((1 : Int32), j_up M (b + 5) 18 (nI pv)) else some ((0 : Int32), M))) := by
        unfold fX11_truly
        rw [x1, Option.bind_some, jo_s, jg_d hS, y1, Option.bind_some, if_neg (by decide), f2, tk_eq t1.symm, Option.bind_some, g18, e18]
      have hB : ∀ N : JI, N 66 52 = M 66 52 → N 100 k = M 100 k → N 106 k = M 106 k → fX12_truly (nI k) (nI pv) N = (if nI f = (1 : Int32) then some ((0 : Int32), j_up N 66 0 (0 : Int32)) else (if M 106 k < 0 then some ((1 : Int32), j_up (j_up N 66 0 (0 : Int32)) 102 k (nI pv)) else some ((0 : Int32), j_up N 66 0 (0 : Int32)))) := by
        intro N n1 n2 n3
        unfold fX12_truly
        rw [x2 (j_up N 66 0 (0 : Int32)) (by rw [ju_cell _ _ (by omega), n1]), Option.bind_some, if_neg (by decide), y2, Option.bind_some, if_neg (by decide), gk, gk, gk, ek, ju_row _ _ (show (100 : Nat) ≠ 66 by omega), n2, f1, ju_row _ _ (show (106 : Nat) ≠ 66 by omega), n3]
      by_cases c1 : nI f = (1 : Int32)
      · exact no (by rw [hA, if_pos c1]; rfl) (by rw [hB M rfl rfl rfl, if_pos c1]; rfl)
      · by_cases c2 : M 106 k = -nI 1
        · refine ⟨nI 1, j_up M (b + 5) 18 (nI pv), j_up (j_up (j_up M (b + 5) 18 (nI pv)) 66 0 (nI 0)) 102 k (nI pv), ?_, ?_, ?_⟩
          · rw [hA, if_neg c1, if_pos (by simp [c2]; rfl)]; rfl
          · rw [hB _ (by rw [ju_row _ _ (by omega)]) (by rw [ju_row _ _ (by omega)]) (by rw [ju_row _ _ (by omega)]), if_neg c1, if_pos ((okR_neg t2 (by omega)).1.mpr c2)]; rfl
          · generalize hM2 : j_up (j_up (j_up M (b + 5) 18 (nI pv)) 66 0 (nI 0)) 102 k (nI pv) = M2
            have ro : ∀ a, a ≠ b + 5 → a ≠ 66 → a ≠ 102 → M2 a = M a := by
              intro a _ _ _
              rw [← hM2, ju_row _ _ (by omega), ju_row _ _ (by omega), ju_row _ _ (by omega)]
            have r5 : ∀ j, M2 (b + 5) j = if j = 18 then nI pv else M (b + 5) j := by
              intro j
              rw [← hM2, ju_row _ _ (by omega), ju_row _ _ (by omega), ju_at]
            have r102 : ∀ j, M2 102 j = if j = k then nI pv else M 102 j := by
              intro j
              rw [← hM2, ju_at]
              show (if j = k then nI pv else _) = _
              rw [ju_row _ _ (by omega), ju_row _ _ (by omega)]
            have self : vP1 k (M2 b) (M2 (b + 1)) (M2 (b + 2)) (M2 (b + 3)) (M2 (b + 4)) (M2 (b + 5)) M2 := by
              unfold vP1
              rw [ro 96 (by omega) (by omega) (by omega), ro 97 (by omega) (by omega) (by omega), ro 98 (by omega) (by omega) (by omega), ro 99 (by omega) (by omega) (by omega), ro 100 (by omega) (by omega) (by omega), ro 101 (by omega) (by omega) (by omega), ro 103 (by omega) (by omega) (by omega), ro 104 (by omega) (by omega) (by omega), ro 105 (by omega) (by omega) (by omega), ro 106 (by omega) (by omega) (by omega), ro 107 (by omega) (by omega) (by omega), ro 108 (by omega) (by omega) (by omega), ro b (by omega) (by omega) (by omega), ro (b + 1) (by omega) (by omega) (by omega), ro (b + 2) (by omega) (by omega) (by omega), ro (b + 3) (by omega) (by omega) (by omega), ro (b + 4) (by omega) (by omega) (by omega), r102, if_pos rfl, r5 18, r5 17, if_pos rfl, if_neg (by omega)]
              refine ⟨v1, v2, v3, v4, ⟨f, hf, f1, f2⟩, v6, ⟨pv, hpv, rfl, rfl⟩, v8, v9, v10, ⟨t1, t2⟩, v12, s, es, fun q' hq' => ?_⟩
              have vv := vq q' hq'
              unfold vP2 at vv ⊢
              rw [ro 109 (by omega) (by omega) (by omega), ro 110 (by omega) (by omega) (by omega), ro 111 (by omega) (by omega) (by omega), ro 112 (by omega) (by omega) (by omega), ro 113 (by omega) (by omega) (by omega), r5 q', r5 16, if_neg (show ¬ q' = 18 by omega), if_neg (by omega)]
              exact vv
            obtain ⟨s1, s2, s3⟩ := st_set h13 h16 (show k < 40 by omega) hb h137 (M2 := M2) (fun a h1 h2 => ro a h2 (by omega) (by omega)) (fun a j h1 h2 h3 => by
              by_cases e : a = 102
              · subst e; rw [r102, if_neg h3]
              · rw [ro a (by omega) (by omega) e]) (fun a j q' h1 h2 h3 h4 => by rw [ro a (by omega) (by omega) (by omega)]) self
            subst hM2
            refine ⟨(by simpa (disch := omega) only [ju_row, ju_cell, ju_cell2, ju_same, jr_ne, jr_at, jr_at2, jr_ne2, rE_up, rD_up, rP_up, rM_up, rH_up, rL_up, rE_jr, rD_jr, rP_jr, rM_jr, rH_jr, rL_jr] using h1), (by simpa (disch := omega) only [ju_row, ju_cell, ju_cell2, ju_same, jr_ne, jr_at, jr_at2, jr_ne2, rE_up, rD_up, rP_up, rM_up, rH_up, rL_up, rE_jr, rD_jr, rP_jr, rM_jr, rH_jr, rL_jr] using h2), (by simpa (disch := omega) only [ju_row, ju_cell, ju_cell2, ju_same, jr_ne, jr_at, jr_at2, jr_ne2, rE_up, rD_up, rP_up, rM_up, rH_up, rL_up, rE_jr, rD_jr, rP_jr, rM_jr, rH_jr, rL_jr] using h3), (by simpa (disch := omega) only [ju_row, ju_cell, ju_cell2, ju_same, jr_ne, jr_at, jr_at2, jr_ne2, rE_up, rD_up, rP_up, rM_up, rH_up, rL_up, rE_jr, rD_jr, rP_jr, rM_jr, rH_jr, rL_jr] using h4), (by simpa (disch := omega) only [ju_row, ju_cell, ju_cell2, ju_same, jr_ne, jr_at, jr_at2, jr_ne2, rE_up, rD_up, rP_up, rM_up, rH_up, rL_up, rE_jr, rD_jr, rP_jr, rM_jr, rH_jr, rL_jr] using h5), (by simpa (disch := omega) only [ju_row, ju_cell, ju_cell2, ju_same, jr_ne, jr_at, jr_at2, jr_ne2, rE_up, rD_up, rP_up, rM_up, rH_up, rL_up, rE_jr, rD_jr, rP_jr, rM_jr, rH_jr, rL_jr] using h6), (by simpa (disch := omega) only [ju_row, ju_cell, ju_cell2, ju_same, jr_ne, jr_at, jr_at2, jr_ne2, rE_up, rD_up, rP_up, rM_up, rH_up, rL_up, rE_jr, rD_jr, rP_jr, rM_jr, rH_jr, rL_jr] using h7), (by simpa (disch := omega) only [ju_row, ju_cell, ju_cell2, ju_same, jr_ne, jr_at, jr_at2, jr_ne2, rE_up, rD_up, rP_up, rM_up, rH_up, rL_up, rE_jr, rD_jr, rP_jr, rM_jr, rH_jr, rL_jr] using h8), (by simpa (disch := omega) only [ju_row, ju_cell, ju_cell2, ju_same, jr_ne, jr_at, jr_at2, jr_ne2, rE_up, rD_up, rP_up, rM_up, rH_up, rL_up, rE_jr, rD_jr, rP_jr, rM_jr, rH_jr, rL_jr] using h9), (by simpa (disch := omega) only [ju_row, ju_cell, ju_cell2, ju_same, jr_ne, jr_at, jr_at2, jr_ne2, rE_up, rD_up, rP_up, rM_up, rH_up, rL_up, rE_jr, rD_jr, rP_jr, rM_jr, rH_jr, rL_jr] using h10), (by simpa (disch := omega) only [ju_row, ju_cell, ju_cell2, ju_same, jr_ne, jr_at, jr_at2, jr_ne2, rE_up, rD_up, rP_up, rM_up, rH_up, rL_up, rE_jr, rD_jr, rP_jr, rM_jr, rH_jr, rL_jr] using (vChg_n h11)), (by simpa (disch := omega) only [ju_row, ju_cell, ju_cell2, ju_same, jr_ne, jr_at, jr_at2, jr_ne2, rE_up, rD_up, rP_up, rM_up, rH_up, rL_up, rE_jr, rD_jr, rP_jr, rM_jr, rH_jr, rL_jr] using h12), ?_, ?_, ?_, (by simpa (disch := omega) only [ju_row, ju_cell, ju_cell2, ju_same, jr_ne, jr_at, jr_at2, jr_ne2, rE_up, rD_up, rP_up, rM_up, rH_up, rL_up, rE_jr, rD_jr, rP_jr, rM_jr, rH_jr, rL_jr] using (vOb_n h16)), (by simpa (disch := omega) only [ju_row, ju_cell, ju_cell2, ju_same, jr_ne, jr_at, jr_at2, jr_ne2, rE_up, rD_up, rP_up, rM_up, rH_up, rL_up, rE_jr, rD_jr, rP_jr, rM_jr, rH_jr, rL_jr] using h17), (by simpa (disch := omega) only [ju_row, ju_cell, ju_cell2, ju_same, jr_ne, jr_at, jr_at2, jr_ne2, rE_up, rD_up, rP_up, rM_up, rH_up, rL_up, rE_jr, rD_jr, rP_jr, rM_jr, rH_jr, rL_jr] using h18), (by simpa (disch := omega) only [ju_row, ju_cell, ju_cell2, ju_same, jr_ne, jr_at, jr_at2, jr_ne2, rE_up, rD_up, rP_up, rM_up, rH_up, rL_up, rE_jr, rD_jr, rP_jr, rM_jr, rH_jr, rL_jr] using h19)⟩
            · simp (disch := omega) only [ju_row, ju_cell, ju_cell2, ju_same, jr_ne, jr_at, jr_at2, jr_ne2, rE_up, rD_up, rP_up, rM_up, rH_up, rL_up, rE_jr, rD_jr, rP_jr, rM_jr, rH_jr, rL_jr] at s1 ⊢; exact s1
            · have := s2 _ _ _ _ h14
              simp (disch := omega) only [ju_row, ju_cell, ju_cell2, ju_same, jr_ne, jr_at, jr_at2, jr_ne2, rE_up, rD_up, rP_up, rM_up, rH_up, rL_up, rE_jr, rD_jr, rP_jr, rM_jr, rH_jr, rL_jr] at this ⊢; exact this
            · have := s3 _ _ _ _ _ _ (vMk_n h15)
              simp (disch := omega) only [ju_row, ju_cell, ju_cell2, ju_same, jr_ne, jr_at, jr_at2, jr_ne2, rE_up, rD_up, rP_up, rM_up, rH_up, rL_up, rE_jr, rD_jr, rP_jr, rM_jr, rH_jr, rL_jr] at this ⊢; exact this
        · have c2' : ¬ M 106 k < 0 := fun hc => c2 ((okR_neg t2 (by omega)).1.mp hc)
          exact no (by rw [hA, if_neg c1, if_neg (by simp [c2]; decide)]; rfl) (by rw [hB M rfl rfl rfl, if_neg c1, if_neg c2']; rfl)
