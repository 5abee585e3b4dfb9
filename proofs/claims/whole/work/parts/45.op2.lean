def jr4 (M : JI) (t : Nat) (r1 r2 r3 r4 : Nat → Int32) : JI := jr (jr (jr (jr M (t + 1) r1) (t + 2) r2) (t + 3) r3) (t + 4) r4
theorem jr4_of {M M' : JI} {t : Nat} (h : ∀ a, a ≠ t + 1 → a ≠ t + 2 → a ≠ t + 3 → a ≠ t + 4 → M' a = M a) : M' = jr4 M t (M' (t + 1)) (M' (t + 2)) (M' (t + 3)) (M' (t + 4)) := by
  funext a
  unfold jr4 jr
  by_cases e4 : a = t + 4
  · rw [if_pos e4, e4]
  · rw [if_neg e4]
    by_cases e3 : a = t + 3
    · rw [if_pos e3, e3]
    · rw [if_neg e3]
      by_cases e2 : a = t + 2
      · rw [if_pos e2, e2]
      · rw [if_neg e2]
        by_cases e1 : a = t + 1
        · rw [if_pos e1, e1]
        · rw [if_neg e1, h a e1 e2 e3 e4]
theorem hdr_add {M : JI} {t : Nat} {h : Nat → Nat → Nat} (hv : vHd (M (t + 1)) (M (t + 2)) (M (t + 3)) (M (t + 4)) h) {p q v : Nat} (hp : p < 12) (hq : q < 16) {d : Int32} (hd : nI (h p q) + d = nI v) (h1 : h p q < 1000) (h2 : v < 1000) :
    ∃ r1 r2 r3 r4, fX1_add t (nI p) (nI q) d M = some (jr4 M t r1 r2 r3 r4) ∧ vHd r1 r2 r3 r4 (up2 h p q v) := by
  obtain ⟨M', e1, e2, e3⟩ := hd_add hv hp hq hd h1 h2
  exact ⟨_, _, _, _, by rw [e1]; exact congrArg some (jr4_of e2), e3⟩
theorem hdr_move {M : JI} {t : Nat} {h : Nat → Nat → Nat} (hv : vHd (M (t + 1)) (M (t + 2)) (M (t + 3)) (M (t + 4)) h) {p f g n : Nat} (hp : p < 12) (hf : f < 16) (hg : g < 16) (hne : f ≠ g) (hn : n ≤ h p f) (h1 : h p f < 500) (h2 : h p g < 500) :
    ∃ r1 r2 r3 r4, fX1_move t (nI p) (nI f) (nI g) (nI n) M = some (jr4 M t r1 r2 r3 r4) ∧ vHd r1 r2 r3 r4 (mvh h p f g n) := by
  obtain ⟨M', e1, e2, e3⟩ := hd_move hv hp hf hg hne hn h1 h2
  exact ⟨_, _, _, _, by rw [e1]; exact congrArg some (jr4_of e2), e3⟩
theorem jr1_of {M M' : JI} {t : Nat} (h : ∀ a, a ≠ t → M' a = M a) : M' = jr M t (M' t) := by
  funext a
  unfold jr
  by_cases e : a = t
  · rw [if_pos e, e]
  · rw [if_neg e, h a e]
theorem rfr_moves {M : JI} {h : Nat → Nat → Nat} (e : twRep (M 68) h) {p f g n : Nat} (hp : p < 12) (hf : f < 16) (hg : g < 16) (hne : f ≠ g) (hn : n ≤ h p f) :
    ∃ r, fX12_moves (nI p) (nI f) (nI g) (nI n) M = some (jr M 68 r) ∧ twRep r (mvh h p f g n) := by
  obtain ⟨M', e1, e2, e3, e4⟩ := rf_moves e hp hf hg hne hn
  exact ⟨_, by rw [e1]; exact congrArg some (jr1_of e2), e3⟩
theorem vHo_told {t t' c30 c66 : Int32} {J B : JI} {D31 : Nat → Option Nat} (ht : ∀ p, p < 12 → bt t p = true → bt t' p = true) (h : vHo t c30 c66 J B D31) : vHo t' c30 c66 J B D31 := by
  obtain ⟨m, hm, e1, e2, h⟩ := h
  refine ⟨m, hm, e1, e2, fun i hi => ?_⟩
  obtain ⟨b, hb, h137, ⟨p, hp, a1, a2, a3⟩, h2⟩ := h i hi
  exact ⟨b, hb, h137, ⟨p, hp, a1, a2, ht p hp a3⟩, h2⟩
theorem vMk_told {n : Nat} {c0 c66 cP t t' : Int32} {J B : JI} {D43 : Nat → Option Nat} (ht : ∀ p, p < 12 → bt t p = true → bt t' p = true) (h : vMk n c0 c66 cP t J B D43) : vMk n c0 c66 cP t' J B D43 := by
  obtain ⟨l, hl, e0, e66, cP', hcP, ecP, ld, pm, hmk, hord⟩ := h
  refine ⟨l, hl, e0, e66, cP', hcP, ecP, ld, pm, fun j hj => ?_, hord⟩
  obtain ⟨a1, a2, a3, a4⟩ := hmk j hj
  refine ⟨a1, a2, a3, fun b hb => ?_⟩
  obtain ⟨c1, c2, c3⟩ := a4 b hb
  exact ⟨c1, c2, fun hne => ⟨(c3 hne).1, fun p hp hbt => ht p hp ((c3 hne).2.1 p hp hbt), (c3 hne).2.2⟩⟩
theorem op_parcel {n : Nat} {M : JI} {L : JL} {D : JG} {S : JS} (h : Inv n M L D S) (hn : n < 4096) (x y : Int32) : ∃ r M1 M2, fX11_parcel x y M = some (r, M1) ∧ fX12_parcel x y M1 = some (r, M2) ∧ Inv (n + 1) M2 L D S := by
  have hh := h
  obtain ⟨h1, h2, h3, h4, h5, h6, h7, h8, h9, h10, h11, h12, h13, h14, h15, h16, h17, h18, h19⟩ := hh
  rcases ix_cases x 12 (by omega) with hx | hx | ⟨p, hp, rfl⟩
  · refine ⟨nI 0, M, j_up M 66 0 (nI 0), ?_, ?_, inv_thr h _⟩
    · unfold fX11_parcel
      have h' : x < 0 := hx
      rw [if_pos h']; rfl
    · unfold fX12_parcel fX12_within
      have h' : x < 0 := hx
      rw [if_pos h']; rfl
  · have g0 : ¬ x < 0 := ix_nlt hx (by omega) (k := 0) (by omega)
    have g1 : (12 : Int32) ≤ x := hx
    have g2 : (11 : Int32) < x := ix_lt hx (by omega) (k := 11) (by omega)
    refine ⟨nI 0, M, j_up M 66 0 (nI 0), ?_, ?_, inv_thr h _⟩
    · unfold fX11_parcel
      rw [if_neg g0, if_pos g1]; rfl
    · unfold fX12_parcel fX12_within
      rw [if_neg g0, if_pos g2]; rfl
  · have g0 : ¬ nI p < 0 := nI_pos (by omega)
    have g1 : ¬ (12 : Int32) ≤ nI p := nI_ge (b := 12) hp (by omega)
    have g2 : ¬ (11 : Int32) < nI p := nI_nlt (a := 11) (b := p) (by omega) (by omega)
    have ecl : (nI p).toNatClampNeg = p := nI_clamp (by omega)
    have hr : ∀ v, (j_up M 66 0 v) 67 p = bI (bt (M 1 5) p) := by
      intro v
      rw [ju_row _ _ (by omega), h1.1 p hp]
    have htold : fX9_isTold (nI p) M = some (bI (bt (M 1 5) p)) := by
      unfold fX9_isTold
      rw [if_neg g0, if_neg g1]
      by_cases hb : bt (M 1 5) p = true
      · rw [if_neg (by rw [li_1, li_0, li_31, bt_test _ (by omega), hb]; simp), hb]; rfl
      · have hb' : bt (M 1 5) p = false := by simpa using hb
        rw [if_pos (by rw [li_1, li_0, li_31, bt_test _ (by omega), hb']), hb']; rfl
    by_cases hb : bt (M 1 5) p = true
    · refine ⟨nI 0, M, j_up M 66 0 (nI 0), ?_, ?_, inv_thr h _⟩
      · unfold fX11_parcel
        rw [if_neg g0, if_neg g1, htold, hb]
        rcases ps_cases y with ⟨y1, y2⟩ | ⟨o, ho, rfl, y1, y2⟩
        · rw [y1]; rfl
        · rw [y1]; rfl
      · unfold fX12_parcel fX12_within
        rw [if_neg g0, if_neg g2, Option.bind_some, if_neg (by decide), jg_in hp (by decide), ecl, hr, bI_b01, hb]; rfl
    · have hb' : bt (M 1 5) p = false := by simpa using hb
      rcases ps_cases y with ⟨y1, y2⟩ | ⟨o, ho, rfl, y1, y2⟩
      · refine ⟨nI 0, M, j_up M 66 0 (nI 0), ?_, ?_, inv_thr h _⟩
        · unfold fX11_parcel
          rw [if_neg g0, if_neg g1, y1]; rfl
        · unfold fX12_parcel fX12_within
          rw [if_neg g0, if_neg g2, Option.bind_some, if_neg (by decide), jg_in hp (by decide), ecl, hr, bI_b01, hb', y2]; rfl
      · have hz : ∀ q, q < 16 → hN (M 68) p q = 0 := by
          have := h2.2 p hp
          rw [hb', if_neg (by simp)] at this
          exact fb_sm_zero this
        let Ma : JI := j_up (j_up M 1 9 (M 1 9 + nI 1)) 1 5 (M 1 5 ||| (nI 1 <<< (nI p &&& nI 31)))
        have hMa : Ma = j_up (j_up M 1 9 (M 1 9 + nI 1)) 1 5 (M 1 5 ||| (nI 1 <<< (nI p &&& nI 31))) := rfl
        obtain ⟨r1, r2, r3, r4, e1, e2⟩ := hdr_add (M := Ma) (t := 7) (h := hN (M 68)) (by rw [hMa]; exact (by simpa (disch := omega) only [ju_row, ju_cell, ju_cell2, ju_same, jr_ne, jr_at, jr_at2, jr_ne2, rE_up, rD_up, rP_up, rM_up, rH_up, rL_up, rE_jr, rD_jr, rP_jr, rM_jr, rH_jr, rL_jr] using h3)) hp ho (d := nI 12) (v := 12) (by rw [hz o ho, nI_add]) (by rw [hz o ho]; omega) (by omega)
        have hat : (16 : Int32) * nI p + nI o = nI (16 * p + o) := by
          show nI 16 * nI p + nI o = _
          rw [pk_mul, nI_add]
        refine ⟨nI 1, jr4 Ma 7 r1 r2 r3 r4, j_up (j_up (j_up (jr4 Ma 7 r1 r2 r3 r4) 66 0 (nI 0)) 67 p (nI 1)) 68 (16 * p + o) (nI 12), ?_, ?_, ?_⟩
        · unfold fX11_parcel
          rw [if_neg g0, if_neg g1, y1, Option.bind_some, if_neg (by decide), htold, hb', Option.bind_some, if_pos (by decide), ju_cell M _ (by decide)]
          have e1' : fX1_add 7 (nI p) (nI o) (12 : Int32) (j_up (j_up M 1 9 (M 1 9 + (1 : Int32))) 1 5 (M 1 5 ||| ((1 : Int32) <<< (nI p &&& 31)))) = some (jr4 Ma 7 r1 r2 r3 r4) := e1
          rw [e1']; rfl
        · unfold fX12_parcel fX12_within
          have hr2 : ∀ v, (j_up (jr4 Ma 7 r1 r2 r3 r4) 66 0 v) 67 p = bI false := by
            intro v
            rw [ju_row _ _ (by omega)]
            unfold jr4
            rw [jr_ne _ _ (by omega), jr_ne _ _ (by omega), jr_ne _ _ (by omega), jr_ne _ _ (by omega), hMa, ju_row _ _ (by omega), ju_row _ _ (by omega), h1.1 p hp, hb']
          rw [if_neg g0, if_neg g2, Option.bind_some, if_neg (by decide), jg_in hp (by decide), ecl, hr2, bI_b01, if_pos (by decide), y2, Option.bind_some, if_neg (by decide), jg_in hp (by decide), hat, jg_in (by omega) (by decide), nI_clamp (by omega)]
          rfl
        · have hrep : twRep (fun k => if k = 16 * p + o then nI 12 else M 68 k) (up2 (hN (M 68)) p o 12) := by
            intro p' q' hp' hq'
            unfold up2
            show (if 16 * p' + q' = 16 * p + o then nI 12 else M 68 (16 * p' + q')) = _
            by_cases c : p' = p ∧ q' = o
            · rw [if_pos c, if_pos (by omega)]
            · rw [if_neg c, if_neg (by omega)]
              exact (h2.1 p' q' hp' hq').1
          have hle : ∀ p' q', p' < 12 → q' < 16 → up2 (hN (M 68)) p o 12 p' q' ≤ 12 := by
            intro p' q' hp' hq'
            unfold up2
            split
            · omega
            · exact (h2.1 p' q' hp' hq').2
          unfold jr4
          rw [hMa]
          have hadd : 7 + 1 = 8 ∧ 7 + 2 = 9 ∧ 7 + 3 = 10 ∧ 7 + 4 = 11 := ⟨rfl, rfl, rfl, rfl⟩
          rw [hadd.1, hadd.2.1, hadd.2.2.1, hadd.2.2.2]
          refine ⟨?_, ?_, ?_, (by simpa (disch := omega) only [ju_row, ju_cell, ju_cell2, ju_same, jr_ne, jr_at, jr_at2, jr_ne2, rE_up, rD_up, rP_up, rM_up, rH_up, rL_up, rE_jr, rD_jr, rP_jr, rM_jr, rH_jr, rL_jr] using h4), (by simpa (disch := omega) only [ju_row, ju_cell, ju_cell2, ju_same, jr_ne, jr_at, jr_at2, jr_ne2, rE_up, rD_up, rP_up, rM_up, rH_up, rL_up, rE_jr, rD_jr, rP_jr, rM_jr, rH_jr, rL_jr] using h5), (by simpa (disch := omega) only [ju_row, ju_cell, ju_cell2, ju_same, jr_ne, jr_at, jr_at2, jr_ne2, rE_up, rD_up, rP_up, rM_up, rH_up, rL_up, rE_jr, rD_jr, rP_jr, rM_jr, rH_jr, rL_jr] using h6), (by simpa (disch := omega) only [ju_row, ju_cell, ju_cell2, ju_same, jr_ne, jr_at, jr_at2, jr_ne2, rE_up, rD_up, rP_up, rM_up, rH_up, rL_up, rE_jr, rD_jr, rP_jr, rM_jr, rH_jr, rL_jr] using h7), (by simpa (disch := omega) only [ju_row, ju_cell, ju_cell2, ju_same, jr_ne, jr_at, jr_at2, jr_ne2, rE_up, rD_up, rP_up, rM_up, rH_up, rL_up, rE_jr, rD_jr, rP_jr, rM_jr, rH_jr, rL_jr] using h8), (by simpa (disch := omega) only [ju_row, ju_cell, ju_cell2, ju_same, jr_ne, jr_at, jr_at2, jr_ne2, rE_up, rD_up, rP_up, rM_up, rH_up, rL_up, rE_jr, rD_jr, rP_jr, rM_jr, rH_jr, rL_jr] using h9), (by simpa (disch := omega) only [ju_row, ju_cell, ju_cell2, ju_same, jr_ne, jr_at, jr_at2, jr_ne2, rE_up, rD_up, rP_up, rM_up, rH_up, rL_up, rE_jr, rD_jr, rP_jr, rM_jr, rH_jr, rL_jr] using h10), (by simpa (disch := omega) only [ju_row, ju_cell, ju_cell2, ju_same, jr_ne, jr_at, jr_at2, jr_ne2, rE_up, rD_up, rP_up, rM_up, rH_up, rL_up, rE_jr, rD_jr, rP_jr, rM_jr, rH_jr, rL_jr] using (vChg_up h11 hn)), (by simpa (disch := omega) only [ju_row, ju_cell, ju_cell2, ju_same, jr_ne, jr_at, jr_at2, jr_ne2, rE_up, rD_up, rP_up, rM_up, rH_up, rL_up, rE_jr, rD_jr, rP_jr, rM_jr, rH_jr, rL_jr] using h12), (by simpa (disch := omega) only [ju_row, ju_cell, ju_cell2, ju_same, jr_ne, jr_at, jr_at2, jr_ne2, rE_up, rD_up, rP_up, rM_up, rH_up, rL_up, rE_jr, rD_jr, rP_jr, rM_jr, rH_jr, rL_jr] using h13), ?_, ?_, (by simpa (disch := omega) only [ju_row, ju_cell, ju_cell2, ju_same, jr_ne, jr_at, jr_at2, jr_ne2, rE_up, rD_up, rP_up, rM_up, rH_up, rL_up, rE_jr, rD_jr, rP_jr, rM_jr, rH_jr, rL_jr] using (vOb_n h16)), (by simpa (disch := omega) only [ju_row, ju_cell, ju_cell2, ju_same, jr_ne, jr_at, jr_at2, jr_ne2, rE_up, rD_up, rP_up, rM_up, rH_up, rL_up, rE_jr, rD_jr, rP_jr, rM_jr, rH_jr, rL_jr] using (vC1_vac h11 hn)), (by simpa (disch := omega) only [ju_row, ju_cell, ju_cell2, ju_same, jr_ne, jr_at, jr_at2, jr_ne2, rE_up, rD_up, rP_up, rM_up, rH_up, rL_up, rE_jr, rD_jr, rP_jr, rM_jr, rH_jr, rL_jr] using (vC2_vac h11 hn)), (by simpa (disch := omega) only [ju_row, ju_cell, ju_cell2, ju_same, jr_ne, jr_at, jr_at2, jr_ne2, rE_up, rD_up, rP_up, rM_up, rH_up, rL_up, rE_jr, rD_jr, rP_jr, rM_jr, rH_jr, rL_jr] using (vC3_vac h11 hn))⟩
          · simp (disch := omega) only [ju_row, ju_cell, ju_cell2, ju_same, jr_ne, jr_at, jr_at2, jr_ne2, rE_up, rD_up, rP_up, rM_up, rH_up, rL_up, rE_jr, rD_jr, rP_jr, rM_jr, rH_jr, rL_jr, ju_at]
            refine ⟨fun p' hp' => ?_, fun i hi => ?_⟩
            · rw [bt_set _ (by omega)]
              show (if p' = p then nI 1 else M 67 p') = _
              by_cases c : p' = p
              · rw [if_pos c]; simp [c, bI]
              · rw [if_neg c, h1.1 p' hp']; simp [c]
            · rw [bt_set _ (by omega), h1.2 i hi]
              simp; omega
          · simp (disch := omega) only [ju_row, ju_cell, ju_cell2, ju_same, jr_ne, jr_at, jr_at2, jr_ne2, rE_up, rD_up, rP_up, rM_up, rH_up, rL_up, rE_jr, rD_jr, rP_jr, rM_jr, rH_jr, rL_jr, ju_at]
            refine vTw_of hrep hle ?_
            intro p' hp'
            rw [bt_set _ (by omega)]
            by_cases c : p' = p
            · subst c
              have e := up2_row (hN (M 68)) (p := p') (q := o) (v := 12) ho
              have hs := h2.2 p' hp
              rw [hb', if_neg (by simp)] at hs
              rw [hz o ho] at e
              simp; omega
            · rw [up2_rowo _ c, h2.2 p' hp']; simp [c]
          · simp (disch := omega) only [ju_row, ju_cell, ju_cell2, ju_same, jr_ne, jr_at, jr_at2, jr_ne2, rE_up, rD_up, rP_up, rM_up, rH_up, rL_up, rE_jr, rD_jr, rP_jr, rM_jr, rH_jr, rL_jr, ju_at]
            exact vHd_cong (fun p' q' hp' hq' => hN_of hrep hle hp' hq') e2
          · simp (disch := omega) only [ju_row, ju_cell, ju_cell2, ju_same, jr_ne, jr_at, jr_at2, jr_ne2, rE_up, rD_up, rP_up, rM_up, rH_up, rL_up, rE_jr, rD_jr, rP_jr, rM_jr, rH_jr, rL_jr, ju_at]
            refine vHo_told (fun p' hp' hb1 => ?_) h14
            rw [bt_set _ (by omega), hb1]; rfl
          · simp (disch := omega) only [ju_row, ju_cell, ju_cell2, ju_same, jr_ne, jr_at, jr_at2, jr_ne2, rE_up, rD_up, rP_up, rM_up, rH_up, rL_up, rE_jr, rD_jr, rP_jr, rM_jr, rH_jr, rL_jr, ju_at]
            refine vMk_told (fun p' hp' hb1 => ?_) (vMk_n h15)
            rw [bt_set _ (by omega), hb1]; rfl
