theorem day_of {x : Int32} {a d : Nat} (h1 : ¬ x < nI a) (h2 : x ≤ nI d) (hd : d ≤ 9999) (ha : a ≤ 9999) : ∃ e, e ≤ 9999 ∧ x = nI e := by
  obtain ⟨j, hj, rfl⟩ := nI_of (x := x) (by
    rw [fa_lt] at h1 ⊢
    rw [nI_toInt (by omega)] at h1
    have : (0 : Int32).toInt = 0 := by decide
    omega)
  refine ⟨j, ?_, rfl⟩
  rw [nI_leI hj (by omega)] at h2
  omega
theorem op_hears {n : Nat} {M : JI} {L : JL} {D : JG} {S : JS} (h : Inv n M L D S) (x y z : Int32) : ∃ r M1 M2, fX11_hears x y z M D S = some (r, M1) ∧ fX12_hears x y z M1 = some (r, M2) ∧ Inv (n + 1) M2 L D S := by
  have hh := h
  obtain ⟨h1, h2, h3, h4, h5, h6, h7, h8, h9, h10, h11, h12, h13, h14, h15, h16, h17, h18, h19⟩ := hh
  have no : fX11_hears x y z M D S = some (nI 0, M) → fX12_hears x y z M = some (nI 0, j_up M 66 0 (nI 0)) → ∃ r M1 M2, fX11_hears x y z M D S = some (r, M1) ∧ fX12_hears x y z M1 = some (r, M2) ∧ Inv (n + 1) M2 L D S := fun a b => ⟨_, _, _, a, b, inv_thr h _⟩
  rcases pa_cases h13 h16 x with ⟨x1, x2⟩ | ⟨m, k, b, hm, e0, hk, rfl, hb, h137, hS, x1, x2, V⟩
  · exact no (by unfold fX11_hears; rw [x1]; rfl) (by unfold fX12_hears; rw [x2 _ (ju_cell _ _ (by omega))]; rfl)
  · have x2' := x2 (j_up M 66 0 (0 : Int32)) (ju_cell _ _ (by omega))
    rcases ps_cases y with ⟨y1, y2⟩ | ⟨q, hq, rfl, y1, y2⟩
    · exact no (by unfold fX11_hears; rw [x1, Option.bind_some, jo_s, jg_d hS, y1]; rfl) (by unfold fX12_hears; rw [x2', y2]; rfl)
    · have V0 := V
      obtain ⟨v1, v2, v3, v4, v5, v6, v7, ⟨d, hd, d1, d2⟩, v9, v10, v11, v12, s, es, vq⟩ := V
      obtain ⟨w1, w2, w3, w4, w5, w6⟩ := vq q hq
      obtain ⟨e9, dn, hdn, edn⟩ := h9
      have gk : ∀ {α : Type} (z : Option α), j_g (j_in (nI k) 40) z = z := fun z => jg_in (by omega) (by decide)
      have ek : (nI k).toNatClampNeg = k := nI_clamp (by omega)
      have hA : ∀ K, fX11_hears (nI k) (nI q) z M D S = K ↔ (if z < nI d then some ((0 : Int32), M) else (if z ≤ nI dn then (if M 112 (16 * k + q) = -nI 1 then some ((1 : Int32), j_up M (b + 5) q z) else some ((0 : Int32), M)) else some ((0 : Int32), M))) = K := by
        intro K
        unfold fX11_hears
        rw [x1, Option.bind_some, jo_s, jg_d hS, y1, Option.bind_some, if_neg (by decide), d2, edn, jg_in (by omega) (by decide), jg_in (by omega) (by decide), nI_clamp (by omega), ← w3]
        exact Iff.rfl
      have hB : ∀ N : JI, N 66 52 = M 66 52 → N 103 k = M 103 k → N 66 8 = M 66 8 → N 112 (16 * k + q) = M 112 (16 * k + q) → fX12_hears (nI k) (nI q) z N = (if z < nI d then some ((0 : Int32), j_up N 66 0 (0 : Int32)) else (if nI dn < z then some ((0 : Int32), j_up N 66 0 (0 : Int32)) else (if M 112 (16 * k + q) < 0 then some ((1 : Int32), j_up (j_up N 66 0 (0 : Int32)) 112 (16 * k + q) z) else some ((0 : Int32), j_up N 66 0 (0 : Int32))))) := by
        intro N n1 n2 n3 n4
        unfold fX12_hears
        rw [x2 (j_up N 66 0 (0 : Int32)) (by rw [ju_cell _ _ (by omega), n1]), Option.bind_some, if_neg (by decide), y2, Option.bind_some, if_neg (by decide), gk, ek, ju_row _ _ (show (103 : Nat) ≠ 66 by omega), n2, d1, ju_cell _ _ (show (8 : Nat) ≠ 0 by omega), n3, ← e9, edn, at16, jg_in (by omega) (by decide), jg_in (by omega) (by decide), nI_clamp (by omega), ju_row _ _ (show (112 : Nat) ≠ 66 by omega), n4]
      by_cases c1 : z < nI d
      · exact no (by rw [hA, if_pos c1]; rfl) (by rw [hB M rfl rfl rfl rfl, if_pos c1]; rfl)
      · by_cases c2 : z ≤ nI dn
        · have c2' : ¬ nI dn < z := by rw [Int32.not_lt]; exact c2
          by_cases c3 : M 112 (16 * k + q) = -nI 1
          · obtain ⟨dz, hdz, rfl⟩ := day_of c1 c2 hdn hd
            refine ⟨nI 1, j_up M (b + 5) q (nI dz), j_up (j_up (j_up M (b + 5) q (nI dz)) 66 0 (nI 0)) 112 (16 * k + q) (nI dz), ?_, ?_, ?_⟩
            · rw [hA, if_neg c1, if_pos c2, if_pos c3]; rfl
            · rw [hB _ (by rw [ju_row _ _ (by omega)]) (by rw [ju_row _ _ (by omega)]) (by rw [ju_row _ _ (by omega)]) (by rw [ju_row _ _ (by omega)]), if_neg c1, if_neg c2', if_pos ((okR_neg w4 (by omega)).1.mpr c3)]; rfl
            · generalize hM2 : j_up (j_up (j_up M (b + 5) q (nI dz)) 66 0 (nI 0)) 112 (16 * k + q) (nI dz) = M2
              have ro : ∀ a, a ≠ b + 5 → a ≠ 66 → a ≠ 112 → M2 a = M a := by
                intro a _ _ _
                rw [← hM2, ju_row _ _ (by omega), ju_row _ _ (by omega), ju_row _ _ (by omega)]
              have r5 : ∀ j, M2 (b + 5) j = if j = q then nI dz else M (b + 5) j := by
                intro j
                rw [← hM2, ju_row _ _ (by omega), ju_row _ _ (by omega), ju_at]
              have r112 : ∀ j, M2 112 j = if j = 16 * k + q then nI dz else M 112 j := by
                intro j
                rw [← hM2, ju_at]
                show (if j = 16 * k + q then nI dz else _) = _
                rw [ju_row _ _ (by omega), ju_row _ _ (by omega)]
              have self : vP1 k (M2 b) (M2 (b + 1)) (M2 (b + 2)) (M2 (b + 3)) (M2 (b + 4)) (M2 (b + 5)) M2 := by
                unfold vP1
                rw [ro 96 (by omega) (by omega) (by omega), ro 97 (by omega) (by omega) (by omega), ro 98 (by omega) (by omega) (by omega), ro 99 (by omega) (by omega) (by omega), ro 100 (by omega) (by omega) (by omega), ro 101 (by omega) (by omega) (by omega), ro 102 (by omega) (by omega) (by omega), ro 103 (by omega) (by omega) (by omega), ro 104 (by omega) (by omega) (by omega), ro 105 (by omega) (by omega) (by omega), ro 106 (by omega) (by omega) (by omega), ro 107 (by omega) (by omega) (by omega), ro 108 (by omega) (by omega) (by omega), ro b (by omega) (by omega) (by omega), ro (b + 1) (by omega) (by omega) (by omega), ro (b + 2) (by omega) (by omega) (by omega), ro (b + 3) (by omega) (by omega) (by omega), ro (b + 4) (by omega) (by omega) (by omega), r5 18, r5 17, if_neg (by omega), if_neg (by omega)]
                refine ⟨v1, v2, v3, v4, v5, v6, v7, ⟨d, hd, d1, d2⟩, v9, v10, v11, v12, s, es, fun q' hq' => ?_⟩
                have vv := vq q' hq'
                unfold vP2 at vv ⊢
                rw [ro 109 (by omega) (by omega) (by omega), ro 110 (by omega) (by omega) (by omega), ro 111 (by omega) (by omega) (by omega), ro 113 (by omega) (by omega) (by omega), r112, r5 q', r5 16, if_neg (show ¬ 16 = q by omega)]
                by_cases c : q' = q
                · subst c
                  rw [if_pos rfl, if_pos rfl]
                  exact ⟨vv.1, vv.2.1, rfl, Or.inr ⟨dz, by omega, rfl⟩, vv.2.2.2.2⟩
                · rw [if_neg c, if_neg (by omega)]
                  exact vv
              obtain ⟨s1, s2, s3⟩ := st_set h13 h16 (show k < 40 by omega) hb h137 (M2 := M2) (fun a h1 h2 => ro a h2 (by omega) (by omega)) (fun a j h1 h2 h3 => by rw [ro a (by omega) (by omega) (by omega)]) (fun a j q' h1 h2 h3 h4 => by
                by_cases e : a = 112
                · subst e; rw [r112, if_neg (by omega)]
                · rw [ro a (by omega) (by omega) e]) self
              have h9 : vNow (M 1 8) (M 66 8) := ⟨e9, dn, hdn, edn⟩
              subst hM2
              refine ⟨(by simpa (disch := omega) only [ju_row, ju_cell, ju_cell2, ju_same, jr_ne, jr_at, jr_at2, jr_ne2, rE_up, rD_up, rP_up, rM_up, rH_up, rL_up, rE_jr, rD_jr, rP_jr, rM_jr, rH_jr, rL_jr] using h1), (by simpa (disch := omega) only [ju_row, ju_cell, ju_cell2, ju_same, jr_ne, jr_at, jr_at2, jr_ne2, rE_up, rD_up, rP_up, rM_up, rH_up, rL_up, rE_jr, rD_jr, rP_jr, rM_jr, rH_jr, rL_jr] using h2), (by simpa (disch := omega) only [ju_row, ju_cell, ju_cell2, ju_same, jr_ne, jr_at, jr_at2, jr_ne2, rE_up, rD_up, rP_up, rM_up, rH_up, rL_up, rE_jr, rD_jr, rP_jr, rM_jr, rH_jr, rL_jr] using h3), (by simpa (disch := omega) only [ju_row, ju_cell, ju_cell2, ju_same, jr_ne, jr_at, jr_at2, jr_ne2, rE_up, rD_up, rP_up, rM_up, rH_up, rL_up, rE_jr, rD_jr, rP_jr, rM_jr, rH_jr, rL_jr] using h4), (by simpa (disch := omega) only [ju_row, ju_cell, ju_cell2, ju_same, jr_ne, jr_at, jr_at2, jr_ne2, rE_up, rD_up, rP_up, rM_up, rH_up, rL_up, rE_jr, rD_jr, rP_jr, rM_jr, rH_jr, rL_jr] using h5), (by simpa (disch := omega) only [ju_row, ju_cell, ju_cell2, ju_same, jr_ne, jr_at, jr_at2, jr_ne2, rE_up, rD_up, rP_up, rM_up, rH_up, rL_up, rE_jr, rD_jr, rP_jr, rM_jr, rH_jr, rL_jr] using h6), (by simpa (disch := omega) only [ju_row, ju_cell, ju_cell2, ju_same, jr_ne, jr_at, jr_at2, jr_ne2, rE_up, rD_up, rP_up, rM_up, rH_up, rL_up, rE_jr, rD_jr, rP_jr, rM_jr, rH_jr, rL_jr] using h7), (by simpa (disch := omega) only [ju_row, ju_cell, ju_cell2, ju_same, jr_ne, jr_at, jr_at2, jr_ne2, rE_up, rD_up, rP_up, rM_up, rH_up, rL_up, rE_jr, rD_jr, rP_jr, rM_jr, rH_jr, rL_jr] using h8), (by simpa (disch := omega) only [ju_row, ju_cell, ju_cell2, ju_same, jr_ne, jr_at, jr_at2, jr_ne2, rE_up, rD_up, rP_up, rM_up, rH_up, rL_up, rE_jr, rD_jr, rP_jr, rM_jr, rH_jr, rL_jr] using h9), (by simpa (disch := omega) only [ju_row, ju_cell, ju_cell2, ju_same, jr_ne, jr_at, jr_at2, jr_ne2, rE_up, rD_up, rP_up, rM_up, rH_up, rL_up, rE_jr, rD_jr, rP_jr, rM_jr, rH_jr, rL_jr] using h10), (by simpa (disch := omega) only [ju_row, ju_cell, ju_cell2, ju_same, jr_ne, jr_at, jr_at2, jr_ne2, rE_up, rD_up, rP_up, rM_up, rH_up, rL_up, rE_jr, rD_jr, rP_jr, rM_jr, rH_jr, rL_jr] using (vChg_n h11)), (by simpa (disch := omega) only [ju_row, ju_cell, ju_cell2, ju_same, jr_ne, jr_at, jr_at2, jr_ne2, rE_up, rD_up, rP_up, rM_up, rH_up, rL_up, rE_jr, rD_jr, rP_jr, rM_jr, rH_jr, rL_jr] using h12), ?_, ?_, ?_, (by simpa (disch := omega) only [ju_row, ju_cell, ju_cell2, ju_same, jr_ne, jr_at, jr_at2, jr_ne2, rE_up, rD_up, rP_up, rM_up, rH_up, rL_up, rE_jr, rD_jr, rP_jr, rM_jr, rH_jr, rL_jr] using (vOb_n h16)), (by simpa (disch := omega) only [ju_row, ju_cell, ju_cell2, ju_same, jr_ne, jr_at, jr_at2, jr_ne2, rE_up, rD_up, rP_up, rM_up, rH_up, rL_up, rE_jr, rD_jr, rP_jr, rM_jr, rH_jr, rL_jr] using h17), (by simpa (disch := omega) only [ju_row, ju_cell, ju_cell2, ju_same, jr_ne, jr_at, jr_at2, jr_ne2, rE_up, rD_up, rP_up, rM_up, rH_up, rL_up, rE_jr, rD_jr, rP_jr, rM_jr, rH_jr, rL_jr] using h18), (by simpa (disch := omega) only [ju_row, ju_cell, ju_cell2, ju_same, jr_ne, jr_at, jr_at2, jr_ne2, rE_up, rD_up, rP_up, rM_up, rH_up, rL_up, rE_jr, rD_jr, rP_jr, rM_jr, rH_jr, rL_jr] using h19)⟩
              · simp (disch := omega) only [ju_row, ju_cell, ju_cell2, ju_same, jr_ne, jr_at, jr_at2, jr_ne2, rE_up, rD_up, rP_up, rM_up, rH_up, rL_up, rE_jr, rD_jr, rP_jr, rM_jr, rH_jr, rL_jr] at s1 ⊢; exact s1
              · have := s2 _ _ _ _ h14
                simp (disch := omega) only [ju_row, ju_cell, ju_cell2, ju_same, jr_ne, jr_at, jr_at2, jr_ne2, rE_up, rD_up, rP_up, rM_up, rH_up, rL_up, rE_jr, rD_jr, rP_jr, rM_jr, rH_jr, rL_jr] at this ⊢; exact this
              · have := s3 _ _ _ _ _ _ (vMk_n h15)
                simp (disch := omega) only [ju_row, ju_cell, ju_cell2, ju_same, jr_ne, jr_at, jr_at2, jr_ne2, rE_up, rD_up, rP_up, rM_up, rH_up, rL_up, rE_jr, rD_jr, rP_jr, rM_jr, rH_jr, rL_jr] at this ⊢; exact this
          · have c3' : ¬ M 112 (16 * k + q) < 0 := fun hc => c3 ((okR_neg w4 (by omega)).1.mp hc)
            exact no (by rw [hA, if_neg c1, if_pos c2, if_neg c3]; rfl) (by rw [hB M rfl rfl rfl rfl, if_neg c1, if_neg c2', if_neg c3']; rfl)
        · have c2' : nI dn < z := by rw [Int32.not_le] at c2; exact c2
          exact no (by rw [hA, if_neg c1, if_neg c2]; rfl) (by rw [hB M rfl rfl rfl rfl, if_neg c1, if_pos c2']; rfl)
