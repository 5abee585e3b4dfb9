/-! ===== the plain calls ===== -/
theorem inv_thr {n : Nat} {M : JI} {L : JL} {D : JG} {S : JS} (h : Inv n M L D S) (v : Int32) : Inv (n + 1) (j_up M 66 0 v) L D S := by
  obtain ⟨h1, h2, h3, h4, h5, h6, h7, h8, h9, h10, h11⟩ := h
  exact ⟨(by simpa (disch := omega) only [ju_row, ju_cell, ju_cell2, ju_same] using h1), (by simpa (disch := omega) only [ju_row, ju_cell, ju_cell2, ju_same] using h2), (by simpa (disch := omega) only [ju_row, ju_cell, ju_cell2, ju_same] using h3), (by simpa (disch := omega) only [ju_row, ju_cell, ju_cell2, ju_same] using h4), (by simpa (disch := omega) only [ju_row, ju_cell, ju_cell2, ju_same] using h5), (by simpa (disch := omega) only [ju_row, ju_cell, ju_cell2, ju_same] using h6), (by simpa (disch := omega) only [ju_row, ju_cell, ju_cell2, ju_same] using h7), (by simpa (disch := omega) only [ju_row, ju_cell, ju_cell2, ju_same] using h8), (by simpa (disch := omega) only [ju_row, ju_cell, ju_cell2, ju_same] using h9), (by simpa (disch := omega) only [ju_row, ju_cell, ju_cell2, ju_same] using h10), by
    have h := vChg_n h11
    simpa (disch := omega) only [ju_row, ju_cell, ju_cell2, ju_same] using h⟩
theorem wb_bits (x : Int32) {q : Nat} (hq : q < 32) (b : Bool) : ∃ y, fX11_withBit x (nI q) (bI b) = some y ∧ ∀ i, bt y i = if i = q then b else bt x i := by
  cases b with
  | true =>
    refine ⟨x ||| (nI 1 <<< (nI q &&& nI 31)), ?_, ?_⟩
    · unfold fX11_withBit
      rw [if_neg (by decide)]; rfl
    · intro i
      rw [bt_set x hq]
      by_cases e : i = q <;> simp [e]
  | false =>
    refine ⟨x &&& ((nI 1 <<< (nI q &&& nI 31)) ^^^ -nI 1), ?_, ?_⟩
    · unfold fX11_withBit
      rw [if_pos (by decide)]; rfl
    · intro i
      rw [bt_clr x hq]
      by_cases e : i = q <;> simp [e]
theorem op_need {n : Nat} {M : JI} {L : JL} {D : JG} {S : JS} (h : Inv n M L D S) (hn : n < 4096) (x : Int32) (b : Bool) : ∃ r M1 M2, fX11_need x (bI b) M = some (r, M1) ∧ fX12_need x (bI b) M1 = some (r, M2) ∧ Inv (n + 1) M2 L D S := by
  rcases ps_cases x with ⟨h1, h2⟩ | ⟨q, hq, rfl, h1, h2⟩
  · refine ⟨nI 0, M, j_up M 66 0 (nI 0), ?_, ?_, inv_thr h _⟩
    · unfold fX11_need; rw [h1]; rfl
    · unfold fX12_need; rw [h2]; rfl
  · obtain ⟨y, hy, hb⟩ := wb_bits (M 1 6) (q := q) (by omega) b
    refine ⟨nI 1, j_up (j_up M 1 9 (M 1 9 + nI 1)) 1 6 y, j_up (j_up (j_up (j_up M 1 9 (M 1 9 + nI 1)) 1 6 y) 66 0 (nI 0)) 72 q (bI b), ?_, ?_, ?_⟩
    · unfold fX11_need; rw [h1, Option.bind_some, if_neg (by decide), ju_cell M _ (by decide), hy]; rfl
    · unfold fX12_need
      rw [h2, Option.bind_some, if_neg (by decide), jg_in hq (by decide), jg_d (bI_b01 b), nI_clamp (by omega)]
      rfl
    · obtain ⟨h1, h2, h3, h4, h5, h6, h7, h8, h9, h10, h11⟩ := h
      refine ⟨(by simpa (disch := omega) only [ju_row, ju_cell, ju_cell2, ju_same] using h1), (by simpa (disch := omega) only [ju_row, ju_cell, ju_cell2, ju_same] using h2), (by simpa (disch := omega) only [ju_row, ju_cell, ju_cell2, ju_same] using h3), (by simpa (disch := omega) only [ju_row, ju_cell, ju_cell2, ju_same] using h4), (by simpa (disch := omega) only [ju_row, ju_cell, ju_cell2, ju_same] using h5), (by simpa (disch := omega) only [ju_row, ju_cell, ju_cell2, ju_same] using h6), ?_, (by simpa (disch := omega) only [ju_row, ju_cell, ju_cell2, ju_same] using h8), (by simpa (disch := omega) only [ju_row, ju_cell, ju_cell2, ju_same] using h9), (by simpa (disch := omega) only [ju_row, ju_cell, ju_cell2, ju_same] using h10), ?_⟩
      · simp (disch := omega) only [ju_row, ju_cell, ju_cell2, ju_same, ju_at]
        intro q' hq'
        rw [hb]
        by_cases e : q' = q
        · simp [e]
        · simp [e, h7 q' hq']
      · have h := vChg_up h11 hn
        simpa (disch := omega) only [ju_row, ju_cell, ju_cell2, ju_same] using h
theorem op_care {n : Nat} {M : JI} {L : JL} {D : JG} {S : JS} (h : Inv n M L D S) (hn : n < 4096) (x : Int32) (b : Bool) : ∃ r M1 M2, fX11_care x (bI b) M = some (r, M1) ∧ fX12_care x (bI b) M1 = some (r, M2) ∧ Inv (n + 1) M2 L D S := by
  rcases ps_cases x with ⟨h1, h2⟩ | ⟨q, hq, rfl, h1, h2⟩
  · refine ⟨nI 0, M, j_up M 66 0 (nI 0), ?_, ?_, inv_thr h _⟩
    · unfold fX11_care; rw [h1]; rfl
    · unfold fX12_care; rw [h2]; rfl
  · obtain ⟨y, hy, hb⟩ := wb_bits (M 1 7) (q := q) (by omega) b
    refine ⟨nI 1, j_up (j_up M 1 9 (M 1 9 + nI 1)) 1 7 y, j_up (j_up (j_up (j_up M 1 9 (M 1 9 + nI 1)) 1 7 y) 66 0 (nI 0)) 73 q (bI b), ?_, ?_, ?_⟩
    · unfold fX11_care; rw [h1, Option.bind_some, if_neg (by decide), ju_cell M _ (by decide), hy]; rfl
    · unfold fX12_care
      rw [h2, Option.bind_some, if_neg (by decide), jg_in hq (by decide), jg_d (bI_b01 b), nI_clamp (by omega)]
      rfl
    · obtain ⟨h1, h2, h3, h4, h5, h6, h7, h8, h9, h10, h11⟩ := h
      refine ⟨(by simpa (disch := omega) only [ju_row, ju_cell, ju_cell2, ju_same] using h1), (by simpa (disch := omega) only [ju_row, ju_cell, ju_cell2, ju_same] using h2), (by simpa (disch := omega) only [ju_row, ju_cell, ju_cell2, ju_same] using h3), (by simpa (disch := omega) only [ju_row, ju_cell, ju_cell2, ju_same] using h4), (by simpa (disch := omega) only [ju_row, ju_cell, ju_cell2, ju_same] using h5), (by simpa (disch := omega) only [ju_row, ju_cell, ju_cell2, ju_same] using h6), (by simpa (disch := omega) only [ju_row, ju_cell, ju_cell2, ju_same] using h7), ?_, (by simpa (disch := omega) only [ju_row, ju_cell, ju_cell2, ju_same] using h9), (by simpa (disch := omega) only [ju_row, ju_cell, ju_cell2, ju_same] using h10), ?_⟩
      · simp (disch := omega) only [ju_row, ju_cell, ju_cell2, ju_same, ju_at]
        intro q' hq'
        rw [hb]
        by_cases e : q' = q
        · simp [e]
        · simp [e, h8 q' hq']
      · have h := vChg_up h11 hn
        simpa (disch := omega) only [ju_row, ju_cell, ju_cell2, ju_same] using h
theorem op_days {n : Nat} {M : JI} {L : JL} {D : JG} {S : JS} (h : Inv n M L D S) (hn : n < 4096) (x : Int32) : ∃ r M1 M2, fX11_days x M = some (r, M1) ∧ fX12_days x M1 = some (r, M2) ∧ Inv (n + 1) M2 L D S := by
  have hh := h
  obtain ⟨h1, h2, h3, h4, h5, h6, h7, h8, ⟨e9, d, hd, ed⟩, h10, h11⟩ := hh
  rcases ix_cases x 1001 (by omega) with hx | hx | ⟨k, hk, rfl⟩
  · refine ⟨-nI 1, M, j_up M 66 0 (nI 0), ?_, ?_, inv_thr h _⟩
    · unfold fX11_days
      have h' : x < 0 := hx
      rw [if_pos h']; rfl
    · unfold fX12_days fX12_within
      have h' : x < 0 := hx
      rw [if_pos h']; rfl
  · have g0 : ¬ x < 0 := ix_nlt hx (by omega) (k := 0) (by omega)
    have g1 : (1000 : Int32) < x := ix_lt hx (by omega) (k := 1000) (by omega)
    refine ⟨-nI 1, M, j_up M 66 0 (nI 0), ?_, ?_, inv_thr h _⟩
    · unfold fX11_days
      rw [if_neg g0, if_pos g1]; rfl
    · unfold fX12_days fX12_within
      rw [if_neg g0, if_pos g1]; rfl
  · have g0 : ¬ nI k < 0 := nI_pos (by omega)
    have g1 : ¬ (1000 : Int32) < nI k := nI_nlt (a := 1000) (b := k) (by omega) (by omega)
    by_cases hk2 : d + k ≤ 9999
    · have hle : nI d + nI k ≤ (9999 : Int32) := by rw [nI_add]; exact nI_le (b := 9999) hk2 (by omega)
      refine ⟨nI (d + k), j_up (j_up M 1 9 (M 1 9 + nI 1)) 1 8 (nI (d + k)), j_up (j_up (j_up (j_up M 1 9 (M 1 9 + nI 1)) 1 8 (nI (d + k))) 66 0 (nI 0)) 66 8 (nI (d + k)), ?_, ?_, ?_⟩
      · unfold fX11_days
        rw [if_neg g0, if_neg g1, ed, if_pos hle, ju_cell M _ (by decide), ed, ju_same, nI_add]; rfl
      · unfold fX12_days fX12_within
        rw [if_neg g0, if_neg g1, Option.bind_some, if_neg (by decide)]
        have e1 : (j_up (j_up (j_up M 1 9 (M 1 9 + nI 1)) 1 8 (nI (d + k))) 66 0 (0 : Int32)) 66 8 = nI d := by
          rw [ju_cell _ _ (by decide), ju_row _ _ (by decide), ju_row _ _ (by decide), ← e9, ed]
        rw [e1, if_pos hle, ju_same, nI_add]; rfl
      · refine ⟨(by simpa (disch := omega) only [ju_row, ju_cell, ju_cell2, ju_same] using h1), (by simpa (disch := omega) only [ju_row, ju_cell, ju_cell2, ju_same] using h2), (by simpa (disch := omega) only [ju_row, ju_cell, ju_cell2, ju_same] using h3), (by simpa (disch := omega) only [ju_row, ju_cell, ju_cell2, ju_same] using h4), (by simpa (disch := omega) only [ju_row, ju_cell, ju_cell2, ju_same] using h5), (by simpa (disch := omega) only [ju_row, ju_cell, ju_cell2, ju_same] using h6), (by simpa (disch := omega) only [ju_row, ju_cell, ju_cell2, ju_same] using h7), (by simpa (disch := omega) only [ju_row, ju_cell, ju_cell2, ju_same] using h8), ?_, (by simpa (disch := omega) only [ju_row, ju_cell, ju_cell2, ju_same] using h10), ?_⟩
        · simp (disch := omega) only [ju_row, ju_cell, ju_cell2, ju_same]
          exact ⟨rfl, d + k, hk2, rfl⟩
        · have h := vChg_up h11 hn
          simpa (disch := omega) only [ju_row, ju_cell, ju_cell2, ju_same] using h
    · have hle : ¬ nI d + nI k ≤ (9999 : Int32) := by rw [nI_add]; exact nI_ge (a := 9999) (by omega) (by omega)
      refine ⟨-nI 1, M, j_up M 66 0 (nI 0), ?_, ?_, inv_thr h _⟩
      · unfold fX11_days
        rw [if_neg g0, if_neg g1, ed, if_neg hle]; rfl
      · unfold fX12_days fX12_within
        rw [if_neg g0, if_neg g1, Option.bind_some, if_neg (by decide)]
        have e1 : (j_up M 66 0 (0 : Int32)) 66 8 = nI d := by
          rw [ju_cell _ _ (by decide), ← e9, ed]
        rw [e1, if_neg hle]; rfl
