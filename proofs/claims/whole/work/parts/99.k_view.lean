/-! what both see of a token -/
theorem lT_cases (tx : Nat → Nat) (m b : Nat) (ht : b < m → tx b ≤ 126) : lT tx m b < 31 ∨ lT tx m b = 32 ∨ lT tx m b = 33 ∨ lT tx m b = 34 ∨ (isSg (lT tx m b) = true ∧ lT tx m b < 127) := by
  unfold lT
  by_cases c : m ≤ b
  · rw [if_pos c]; omega
  · rw [if_neg c]
    by_cases c1 : isL (tx b) = true
    · rw [if_pos c1]
      split
      · rcases tkW_le (vB 27 (fun i => tx (b + i) - 96) (rnE isL tx m b - b)) with h | h <;> omega
      · omega
    · rw [if_neg c1]
      by_cases c2 : isDg (tx b) = true
      · rw [if_pos c2]; split <;> omega
      · rw [if_neg c2]
        by_cases c3 : isSg (tx b) = true
        · rw [if_pos c3]
          right; right; right; right
          exact ⟨c3, by have := ht (by omega); omega⟩
        · rw [if_neg c3]; omega
theorem sg_ge {c : Nat} (h : isSg c = true) : 40 ≤ c ∧ c ≤ 61 := by
  unfold isSg at h
  simp at h
  omega
theorem RT_word {N : JI} {L : JL} {tx : Nat → Nat} {m b : Nat} (h : RT N L tx m b) {k : Nat} (hk : k < 31) : fX12_isWord (lN (kc k)) N L = some (bI (decide (lT tx m b = k))) := by
  have hkc : ∀ k, k < 31 → kc k < 282429536481 := by decide +kernel
  unfold fX12_isWord
  obtain ⟨-, -, h⟩ := h
  rcases h with ⟨h1, ⟨v, v1, v2, v3⟩, -⟩ | ⟨h1, h2, -⟩ | ⟨h1, h2, h3, -⟩ | ⟨h1, h2, -⟩ | ⟨h1, h2, -⟩
  · rw [h1, if_pos (show nI 1 = (1 : Int32) from rfl), v2, v3]
    have e : (lg_cmp (lN v) (lN (kc k)) = 0) = (tkW v = k) := by
      apply propext
      rw [lg_cmp_eq, tkW_iff hk, fb_lN_inj (by have := hkc k hk; omega) (by have := hkc k hk; omega)]
      exact ⟨fun e => e.symm, fun e => e.symm⟩
    by_cases c : tkW v = k
    · rw [if_pos (by rw [e]; exact c), decide_eq_true c]; rfl
    · rw [if_neg (by rw [e]; exact c), decide_eq_false c]; rfl
  · rw [h1, if_neg (show ¬ nI 2 = (1 : Int32) by decide), decide_eq_false (by omega)]; rfl
  · rw [h1, if_neg (show ¬ nI 3 = (1 : Int32) by decide), decide_eq_false (by have := sg_ge h3; omega)]; rfl
  · rw [h1, if_neg (show ¬ nI 0 = (1 : Int32) by decide), decide_eq_false (by omega)]; rfl
  · rw [h1, if_neg (show ¬ nI 4 = (1 : Int32) by decide), decide_eq_false (by omega)]; rfl
theorem RT_sign {N : JI} {L : JL} {tx : Nat → Nat} {m b : Nat} (h : RT N L tx m b) (hN : txR (N 74) tx m) {c : Nat} (hc : isSg c = true) : fX12_isSign (nI c) N = some (bI (decide (lT tx m b = c))) := by
  have hcg := sg_ge hc
  have hm := hN.1
  unfold fX12_isSign
  obtain ⟨h13, -, h⟩ := h
  rcases h with ⟨h1, ⟨v, v1, v2, v3⟩, -⟩ | ⟨h1, h2, -⟩ | ⟨h1, h2, h3, h4⟩ | ⟨h1, h2, -⟩ | ⟨h1, h2, -⟩
  · rw [h1, if_neg (show ¬ nI 1 = (3 : Int32) by decide), v3, decide_eq_false (by rcases tkW_le v with q | q <;> omega)]; rfl
  · rw [h1, if_neg (show ¬ nI 2 = (3 : Int32) by decide), decide_eq_false (by omega)]; rfl
  · have ht := (hN.2 b h4).2
    rw [h1, if_pos (show nI 3 = (3 : Int32) from rfl), h13, jg_in (by omega) (by decide), nI_clamp (by omega), (hN.2 b h4).1, h2]
    by_cases e : tx b = c
    · rw [if_pos (by rw [e]), decide_eq_true e]; rfl
    · rw [if_neg (fun x => e ((nI_eq (by omega) (by omega)).mp x)), decide_eq_false e]; rfl
  · rw [h1, if_neg (show ¬ nI 0 = (3 : Int32) by decide), decide_eq_false (by omega)]; rfl
  · rw [h1, if_neg (show ¬ nI 4 = (3 : Int32) by decide), decide_eq_false (by omega)]; rfl
theorem RT_two {N : JI} {L : JL} {tx : Nat → Nat} {m b : Nat} (h : RT N L tx m b) : (N 66 14 = (2 : Int32)) = (lT tx m b = 32) := by
  apply propext
  obtain ⟨-, -, h⟩ := h
  rcases h with ⟨h1, ⟨v, v1, v2, v3⟩, -⟩ | ⟨h1, h2, -⟩ | ⟨h1, h2, h3, -⟩ | ⟨h1, h2, -⟩ | ⟨h1, h2, -⟩
  · rw [h1, v3]; exact ⟨fun e => absurd e (by decide), fun e => by rcases tkW_le v with q | q <;> omega⟩
  · rw [h1, h2]; exact ⟨fun _ => rfl, fun _ => rfl⟩
  · rw [h1, h2]; exact ⟨fun e => absurd e (by decide), fun e => by have := sg_ge h3; omega⟩
  · rw [h1, h2]; exact ⟨fun e => absurd e (by decide), fun e => by omega⟩
  · rw [h1, h2]; exact ⟨fun e => absurd e (by decide), fun e => by omega⟩
theorem RT_zero {N : JI} {L : JL} {tx : Nat → Nat} {m b : Nat} (h : RT N L tx m b) : (N 66 14 = (0 : Int32)) = (lT tx m b = 33) := by
  apply propext
  obtain ⟨-, -, h⟩ := h
  rcases h with ⟨h1, ⟨v, v1, v2, v3⟩, -⟩ | ⟨h1, h2, -⟩ | ⟨h1, h2, h3, -⟩ | ⟨h1, h2, -⟩ | ⟨h1, h2, -⟩
  · rw [h1, v3]; exact ⟨fun e => absurd e (by decide), fun e => by rcases tkW_le v with q | q <;> omega⟩
  · rw [h1, h2]; exact ⟨fun e => absurd e (by decide), fun e => by omega⟩
  · rw [h1, h2]; exact ⟨fun e => absurd e (by decide), fun e => by have := sg_ge h3; omega⟩
  · rw [h1, h2]; exact ⟨fun _ => rfl, fun _ => rfl⟩
  · rw [h1, h2]; exact ⟨fun e => absurd e (by decide), fun e => by omega⟩
theorem RT_told {N : JI} {L : JL} {tx : Nat → Nat} {m b : Nat} (h : RT N L tx m b) (ht : lT tx m b = 32) : N 66 16 = nI (lV tx m b) := by
  obtain ⟨-, -, h⟩ := h
  rcases h with ⟨h1, ⟨v, v1, v2, v3⟩, -⟩ | ⟨h1, h2, h3, -⟩ | ⟨h1, h2, h3, -⟩ | ⟨h1, h2, -⟩ | ⟨h1, h2, -⟩
  · rcases tkW_le v with q | q <;> omega
  · exact h3
  · have := sg_ge h3; omega
  · omega
  · omega
theorem RT_form {N : JI} {L : JL} {tx : Nat → Nat} {m b : Nat} (h : RT N L tx m b) : fX12_form N L = some (if 6 ≤ lT tx m b ∧ lT tx m b < 9 then nI (lT tx m b - 6) else -nI 1) := by
  obtain ⟨-, -, -, -, -, -, k6, k7, k8, -⟩ := kc_val
  have w6 := RT_word h (k := 6) (by omega)
  have w7 := RT_word h (k := 7) (by omega)
  have w8 := RT_word h (k := 8) (by omega)
  rw [k6] at w6
  rw [k7] at w7
  rw [k8] at w8
  have w6' : fX12_isWord (375035 : Int64) N L = some (bI (decide (lT tx m b = 6))) := w6
  have w7' : fX12_isWord (144524 : Int64) N L = some (bI (decide (lT tx m b = 7))) := w7
  have w8' : fX12_isWord (390787 : Int64) N L = some (bI (decide (lT tx m b = 8))) := w8
  unfold fX12_form
  rw [w6', Option.bind_some, w7', Option.bind_some, w8', Option.bind_some]
  by_cases c6 : lT tx m b = 6
  · rw [c6]; rfl
  · rw [decide_eq_false c6, if_pos (show bI false = 0 by decide)]
    by_cases c7 : lT tx m b = 7
    · rw [c7]; rfl
    · rw [decide_eq_false c7, if_pos (show bI false = 0 by decide)]
      by_cases c8 : lT tx m b = 8
      · rw [c8]; rfl
      · rw [decide_eq_false c8, if_pos (show bI false = 0 by decide), if_neg (by omega)]; rfl
theorem RT_fact {N : JI} {L : JL} {tx : Nat → Nat} {m b : Nat} (h : RT N L tx m b) : fX12_fact N L = some (if lT tx m b < 14 then nI (lT tx m b + 1) else nI 0) := by
  have hf := RT_form h
  have h' := h
  obtain ⟨-, -, h'⟩ := h'
  unfold fX12_fact
  rcases h' with ⟨h1, ⟨v, v1, v2, v3⟩, -⟩ | ⟨h1, h2, -⟩ | ⟨h1, h2, h3, -⟩ | ⟨h1, h2, -⟩ | ⟨h1, h2, -⟩
  · have e : ∀ k, k < 31 → ∀ c : Int64, c = lN (kc k) → (lg_cmp (L 66 15) c = 0) = (lT tx m b = k) := by
      intro k hk c hc
      apply propext
      have hkc : ∀ k, k < 31 → kc k < 282429536481 := by decide +kernel
      rw [lg_cmp_eq, v2, v3, hc, tkW_iff hk, fb_lN_inj (by have := hkc k hk; omega) (by have := hkc k hk; omega)]
      exact ⟨fun e => e.symm, fun e => e.symm⟩
    obtain ⟨k0, k1, k2, k3, k4, k5, k6, k7, k8, k9, k10, k11, k12, k13, -⟩ := kc_val
    have e0 := e 0 (by omega) 14 (by rw [k0]; rfl)
    have e1 := e 1 (by omega) 8863997 (by rw [k1]; rfl)
    have e2 := e 2 (by omega) 315904 (by rw [k2]; rfl)
    have e3 := e 3 (by omega) 5948362 (by rw [k3]; rfl)
    have e4 := e 4 (by omega) 82236848 (by rw [k4]; rfl)
    have e5 := e 5 (by omega) 5878 (by rw [k5]; rfl)
    have e9 := e 9 (by omega) 279346 (by rw [k9]; rfl)
    have e10 := e 10 (by omega) 4555648 (by rw [k10]; rfl)
    have e11 := e 11 (by omega) 312409 (by rw [k11]; rfl)
    have e12 := e 12 (by omega) 60203876 (by rw [k12]; rfl)
    have e13 := e 13 (by omega) 2968 (by rw [k13]; rfl)
    rw [h1, if_pos (show nI 1 = (1 : Int32) from rfl), hf]
    simp only [e0, e1, e2, e3, e4, e5, e9, e10, e11, e12, e13, Option.bind_some]
    by_cases c0 : lT tx m b = 0
    · simp only [c0]; rfl
    · rw [if_neg c0]
      by_cases c1 : lT tx m b = 1
      · simp only [c1]; rfl
      · rw [if_neg c1]
        by_cases c2 : lT tx m b = 2
        · simp only [c2]; rfl
        · rw [if_neg c2]
          by_cases c3 : lT tx m b = 3
          · simp only [c3]; rfl
          · rw [if_neg c3]
            by_cases c4 : lT tx m b = 4
            · simp only [c4]; rfl
            · rw [if_neg c4]
              by_cases c5 : lT tx m b = 5
              · simp only [c5]; rfl
              · rw [if_neg c5]
                by_cases c9 : lT tx m b = 9
                · simp only [c9]; rfl
                · rw [if_neg c9]
                  by_cases c10 : lT tx m b = 10
                  · simp only [c10]; rfl
                  · rw [if_neg c10]
                    by_cases c11 : lT tx m b = 11
                    · simp only [c11]; rfl
                    · rw [if_neg c11]
                      by_cases c12 : lT tx m b = 12
                      · simp only [c12]; rfl
                      · rw [if_neg c12]
                        by_cases c13 : lT tx m b = 13
                        · simp only [c13]; rfl
                        · rw [if_neg c13]
                          by_cases c6 : 6 ≤ lT tx m b ∧ lT tx m b < 9
                          · rw [if_pos c6, if_pos (show (0 : Int32) ≤ nI (lT tx m b - 6) from nI_le (a := 0) (Nat.zero_le _) (by omega)), if_pos (show lT tx m b < 14 by omega), show (7 : Int32) + nI (lT tx m b - 6) = nI (lT tx m b + 1) by
                              show nI 7 + nI (lT tx m b - 6) = _
                              rw [nI_add]; congr 1; omega]
                          · rw [if_neg c6, if_neg (show ¬ (0 : Int32) ≤ -nI 1 by decide), if_neg (show ¬ lT tx m b < 14 by omega)]; rfl
  · rw [h1, if_neg (show ¬ nI 2 = (1 : Int32) by decide), if_neg (by omega)]; rfl
  · rw [h1, if_neg (show ¬ nI 3 = (1 : Int32) by decide), if_neg (by have := sg_ge h3; omega)]; rfl
  · rw [h1, if_neg (show ¬ nI 0 = (1 : Int32) by decide), if_neg (by omega)]; rfl
  · rw [h1, if_neg (show ¬ nI 4 = (1 : Int32) by decide), if_neg (by omega)]; rfl
/-- the class, with no fault, at the token b -/
def LC (I : JI) (tx : Nat → Nat) (m b : Nat) : Prop := txR (I 13) tx m ∧ b ≤ m ∧ I 12 1 = nI m ∧ I 12 2 = nI (lE tx m b) ∧ I 12 3 = nI b ∧ I 12 4 = nI (lT tx m b) ∧ (lT tx m b = 32 → I 12 5 = nI (lV tx m b)) ∧ I 12 6 = nI 0
/-- the reference, at the token b -/
def LR (N : JI) (L : JL) (tx : Nat → Nat) (m b : Nat) : Prop := txR (N 74) tx m ∧ b ≤ m ∧ N 66 11 = nI m ∧ RT N L tx m b
/-- the class behind a fault -/
def FL (I : JI) (tx : Nat → Nat) (m f : Nat) : Prop := txR (I 13) tx m ∧ I 12 1 = nI m ∧ I 12 2 = nI m ∧ I 12 4 = nI 33 ∧ I 12 6 = nI f ∧ 1 ≤ f ∧ f < 20000
def nxB (tx : Nat → Nat) (m b : Nat) : Nat := lB tx m (lE tx m b)
theorem nxB_ok {tx : Nat → Nat} {m b : Nat} (h : b < m) : b < nxB tx m b ∧ nxB tx m b ≤ m := by
  obtain ⟨h1, h2⟩ := lE_ok (tx := tx) h
  have := rn_le (P := isBl) (tx := tx) h2
  unfold nxB lB
  omega
theorem lT_33 {tx : Nat → Nat} {m b : Nat} (h : lT tx m b ≠ 33) (hb : b ≤ m) : b < m := by
  by_cases c : b < m
  · exact c
  · exfalso
    apply h
    unfold lT
    rw [if_pos (by omega)]
theorem LC_next {I : JI} {tx : Nat → Nat} {m b : Nat} (h : LC I tx m b) (hb : b < m) : ∃ I', fX8_next I = some I' ∧ cN I I' ∧ LC I' tx m (nxB tx m b) := by
  obtain ⟨h0, hbm, h1, h2, h3, h4, h5, h6⟩ := h
  obtain ⟨e1, e2⟩ := lE_ok (tx := tx) hb
  have hm := h0.1
  obtain ⟨I', a1, a2, a3, a4, a5, a6⟩ := cnx_0 (tx := tx) (m := m) (m - lE tx m b) (lE tx m b) (by omega) 100000 (by omega) I h0 h1 h2
  exact ⟨I', a1, a2, by rw [a2.1 13 (by omega)]; exact h0, (nxB_ok hb).2, by rw [a2.2 1 (by omega)]; exact h1, a4, a3, a5, a6, by rw [a2.2 6 (by omega)]; exact h6⟩
theorem LR_next {N : JI} {L : JL} {tx : Nat → Nat} {m b : Nat} (h : LR N L tx m b) (hb : b < m) : ∃ N' L', fX12_nextToken N L = some (N', L') ∧ rN N N' L L' ∧ LR N' L' tx m (nxB tx m b) := by
  obtain ⟨h0, hbm, h1, h2⟩ := h
  obtain ⟨e1, e2⟩ := lE_ok (tx := tx) hb
  have hm := h0.1
  obtain ⟨N', L', a1, a2, a3⟩ := rnx_0 (tx := tx) (m := m) (m - lE tx m b) (lE tx m b) (by omega) 100000 (by omega) N L h0 h1 h2.2.1
  exact ⟨N', L', a1, a2, by rw [a2.1 74 (by omega)]; exact h0, (nxB_ok hb).2, by rw [a2.2.1 11 (by omega)]; exact h1, a3⟩
theorem FL_next {I : JI} {tx : Nat → Nat} {m f : Nat} (h : FL I tx m f) : ∃ I', fX8_next I = some I' ∧ cN I I' ∧ FL I' tx m f := by
  obtain ⟨h0, h1, h2, h4, h6, hf⟩ := h
  have hm := h0.1
  obtain ⟨I', a1, a2, a3, a4, a5, a6⟩ := cnx_0 (tx := tx) (m := m) 0 m (by omega) 100000 (by omega) I h0 h1 h2
  have hs : lB tx m m = m := rn_stop (by omega)
  have hE : lE tx m m = m := by unfold lE; rw [if_pos (Nat.le_refl _)]
  have hT : lT tx m m = 33 := by unfold lT; rw [if_pos (Nat.le_refl _)]
  rw [hs, hE] at a4
  rw [hs, hT] at a5
  exact ⟨I', a1, a2, by rw [a2.1 13 (by omega)]; exact h0, by rw [a2.2 1 (by omega)]; exact h1, a4, a5, by rw [a2.2 6 (by omega)]; exact h6, hf⟩
def cW (I I' : JI) : Prop := (∀ a, a ≠ 12 → I' a = I a) ∧ ∀ k, (k < 2 ∨ 6 < k) → I' 12 k = I 12 k
theorem cW_rfl (I : JI) : cW I I := ⟨fun _ _ => rfl, fun _ _ => rfl⟩
theorem cW_tr {I I' I'' : JI} (h : cW I I') (h' : cW I' I'') : cW I I'' := ⟨fun a ha => (h'.1 a ha).trans (h.1 a ha), fun k hk => (h'.2 k hk).trans (h.2 k hk)⟩
theorem cW_n {I I' : JI} (h : cN I I') : cW I I' := ⟨h.1, fun k hk => h.2 k (by omega)⟩
/-- the first fault -/
theorem LC_wrong {I : JI} {tx : Nat → Nat} {m b : Nat} (h : LC I tx m b) {k : Nat} (hk : 1 ≤ k ∧ k ≤ 5) : ∃ I', fX8_wrong (nI k) I = some I' ∧ cW I I' ∧ FL I' tx m (k + 16 * b) := by
  obtain ⟨h0, hbm, h1, h2, h3, h4, h5, h6⟩ := h
  have hm := h0.1
  unfold fX8_wrong
  rw [h6, if_pos (show nI 0 = (0 : Int32) from rfl), h3]
  have e : nI k + (16 : Int32) * nI b = nI (k + 16 * b) := by
    show nI k + nI 16 * nI b = _
    rw [pk_mul, nI_add]
  rw [e, ju_cell _ _ (show (1 : Nat) ≠ 6 by omega), h1]
  refine ⟨_, rfl, ⟨fun a ha => by rw [ju_row _ _ ha, ju_row _ _ ha, ju_row _ _ ha], fun j hj => by rw [ju_cell _ _ (by omega), ju_cell _ _ (by omega), ju_cell _ _ (by omega)]⟩, ?_, ?_, ?_, ?_, ?_, by omega, by omega⟩
  · rw [ju_row _ _ (by omega), ju_row _ _ (by omega), ju_row _ _ (by omega)]; exact h0
  · rw [ju_cell _ _ (by omega), ju_cell _ _ (by omega), ju_cell _ _ (by omega)]; exact h1
  · rw [ju_cell _ _ (by omega), ju_same]
  · rw [ju_same]; rfl
  · rw [ju_cell _ _ (by omega), ju_cell _ _ (by omega), ju_same]
theorem FL_wrong {I : JI} {tx : Nat → Nat} {m f : Nat} (h : FL I tx m f) (k : Int32) : ∃ I', fX8_wrong k I = some I' ∧ cW I I' ∧ FL I' tx m f := by
  obtain ⟨h0, h1, h2, h4, h6, hf⟩ := h
  have hm := h0.1
  unfold fX8_wrong
  have hne : ¬ I 12 6 = (0 : Int32) := by
    rw [h6]
    exact nI_ne0 (by omega) (by omega)
  rw [if_neg hne, h1]
  refine ⟨_, rfl, ⟨fun a ha => by rw [ju_row _ _ ha, ju_row _ _ ha], fun j hj => by rw [ju_cell _ _ (by omega), ju_cell _ _ (by omega)]⟩, ?_, ?_, ?_, ?_, ?_, hf⟩
  · rw [ju_row _ _ (by omega), ju_row _ _ (by omega)]; exact h0
  · rw [ju_cell _ _ (by omega), ju_cell _ _ (by omega)]; exact h1
  · rw [ju_cell _ _ (by omega), ju_same]
  · rw [ju_same]; rfl
  · rw [ju_cell _ _ (by omega), ju_cell _ _ (by omega)]; exact h6
theorem LR_fails {N : JI} {L : JL} {tx : Nat → Nat} {m b : Nat} (h : LR N L tx m b) (k : Nat) : fX12_fails (nI k) N = some (nI 0, j_up N 66 17 (nI (k + 16 * b))) := by
  unfold fX12_fails
  rw [h.2.2.2.1]
  have e : nI k + (16 : Int32) * nI b = nI (k + 16 * b) := by
    show nI k + nI 16 * nI b = _
    rw [pk_mul, nI_add]
  rw [e]; rfl
