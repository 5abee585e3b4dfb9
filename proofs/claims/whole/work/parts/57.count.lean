theorem bt_nI (v i : Nat) : bt (nI v) i = (decide (i < 32) && v.testBit i) := by
  show (BitVec.ofNat 32 v).getLsbD i = _
  rw [BitVec.getLsbD_ofNat]
theorem b_4095 : ∀ i, i < 32 → bt (nI 4095) i = decide (i < 12) := by decide +kernel
theorem low12 {x : Int32} (h : ∀ i, 12 ≤ i → bt x i = false) : ∃ v, v < 4096 ∧ x = nI v := by
  obtain ⟨j, hj, e⟩ := pk_andE x (m := nI 4095) 12 (by decide)
  refine ⟨j, hj, ?_⟩
  rw [← e]
  apply b_ext
  intro i hi
  rw [b_and, b_4095 i hi]
  by_cases c : i < 12
  · simp [c]
  · rw [h i (by omega)]; simp
theorem bc_eq {x : Int32} (h : ∀ i, 12 ≤ i → bt x i = false) : fJ6_bitCount_0f7a4 x = some (nI (fb_ct (bt x) 12)) := by
  obtain ⟨v, hv, rfl⟩ := low12 h
  have := all2_ok _ 12 0 bc_12 v (by omega) (by omega)
  rw [of_decide_eq_true this]
  congr 2
  exact fb_ct_cong (fun k hk => by rw [bt_nI]; simp; omega)
theorem ct_told {M' : JI} {t : Int32} (h1 : ∀ p, p < 12 → M' 67 p = bI (bt t p)) (x : Int32) : ∀ d k, k + d = 12 → ∀ n, d < n → fX12_count_25 n x (nI (fb_ct (bt t) k)) (nI k) M' = fX12_count_54 x (nI (fb_ct (bt t) 12)) M' := by
  intro d
  induction d with
  | zero =>
    intro k hk n hn
    obtain ⟨n', rfl⟩ := suc_of hn
    have : k = 12 := by omega
    subst this
    rw [fX12_count_25, if_pos (by decide)]
  | succ d ih =>
    intro k hk n hn
    obtain ⟨n', rfl⟩ := suc_of hn
    have e1 : nI k + (1 : Int32) = nI (k + 1) := nI_1 k
    rw [fX12_count_25, if_neg (show ¬ (12 : Int32) ≤ nI k from nI_ge (b := 12) (by omega) (by omega)), jg_in (by omega) (by decide), nI_clamp (by omega), h1 k (by omega), bI_b01, e1, ← ih (k + 1) (by omega) n' (by omega), fb_ct_succ]
    cases bt t k with
    | true => rw [if_neg (by decide), nI_1]; rfl
    | false => rw [if_pos (by decide)]; show fX12_count_25 n' x (nI _ + nI 0) _ _ = _; rw [nI_add]; rfl
theorem ct_taken {n0 : Nat} {M M' : JI} {D : JG} {S : JS} {m : Nat} (h16 : vOb n0 (D 42) (D 43) (D 31) S) (hm : m ≤ 40) (e0 : M 0 12 = nI m) (e66 : M' 66 52 = nI m) (hp : ∀ k, k < m → ∃ b, D 42 k = some b ∧ M' 106 k = M (b + 5) 17 ∧ okR (M' 106 k) 16) : ∀ d k, k + d = m → ∀ n, d < n → ∀ A, ∃ x, fX11_takenOnes_4 n (nI A) (nI k) M D S = some x ∧ fX12_count_61 n (nI 3) (nI A) (nI k) M' = some (x, M') := by
  intro d
  induction d with
  | zero =>
    intro k hk n hn A
    obtain ⟨n', rfl⟩ := suc_of hn
    have : k = m := by omega
    subst this
    refine ⟨nI A, ?_, ?_⟩
    · rw [fX11_takenOnes_4, e0, if_pos (nI_le (Nat.le_refl _) (by omega))]
    · rw [fX12_count_61, e66, if_pos (nI_le (Nat.le_refl _) (by omega))]; rfl
  | succ d ih =>
    intro k hk n hn A
    obtain ⟨n', rfl⟩ := suc_of hn
    have e1 : nI k + (1 : Int32) = nI (k + 1) := nI_1 k
    have g1 : ¬ nI m ≤ nI k := nI_ge (by omega) (by omega)
    have g2 : ¬ (40 : Int32) ≤ nI k := nI_ge (b := 40) (by omega) (by omega)
    obtain ⟨b, hb, w1, w2⟩ := hp k (by omega)
    have hS : S[b]? = some (7, 9) := by
      have := (h16.2.2.2.1 k b (by omega) (by unfold slA; rw [if_pos (by omega)]; exact hb)).2.2
      rw [this]; unfold slS; rw [if_pos (by omega)]
    rw [fX11_takenOnes_4, fX12_count_61, e0, e66, if_neg g1, if_neg g1, if_neg g2, jg_in (by omega) (by decide), jg_in (by omega) (by decide), jg_in (by omega) (by decide), nI_clamp (by omega), hb, jo_s, jg_d hS, jo_s, jg_d hS, tk_eq w1.symm, Option.bind_some, e1]
    by_cases c : M' 106 k = -nI 1
    · rw [if_pos (show bI (!decide (M' 106 k = -nI 1)) = 0 by simp [c]; rfl), if_pos ((okR_neg w2 (by omega)).1.mpr c)]
      have : nI A + (0 : Int32) = nI A := Int32.add_zero _
      rw [this]
      exact ih (k + 1) (by omega) n' (by omega) A
    · rw [if_neg (show ¬ bI (!decide (M' 106 k = -nI 1)) = 0 by simp [c]; decide), if_neg (fun hc => c ((okR_neg w2 (by omega)).1.mp hc)), nI_1]
      exact ih (k + 1) (by omega) n' (by omega) (A + 1)
theorem mb_loop {M : JI} {ln : Nat} (hl : ln ≤ 36) (e : M 66 18 = nI ln) (hb : ∀ i, i < ln → M 76 i = nI 0 ∨ M 76 i = nI 1) : ∀ d k, k + d = ln → ∀ n, d < n → fX12_maybes_4 n (nI (fb_ct (lwMb M) k)) (nI k) M = some (nI (fb_ct (lwMb M) ln)) := by
  intro d
  induction d with
  | zero =>
    intro k hk n hn
    obtain ⟨n', rfl⟩ := suc_of hn
    have : k = ln := by omega
    subst this
    rw [fX12_maybes_4, e, if_pos (nI_le (Nat.le_refl _) (by omega))]
  | succ d ih =>
    intro k hk n hn
    obtain ⟨n', rfl⟩ := suc_of hn
    have e1 : nI k + (1 : Int32) = nI (k + 1) := nI_1 k
    have e0 : ∀ x, nI x + (0 : Int32) = nI x := fun x => Int32.add_zero _
    rw [fX12_maybes_4, e, if_neg (nI_ge (by omega) (by omega)), jg_in (by omega) (by decide), nI_clamp (by omega), e1, ← ih (k + 1) (by omega) n' (by omega), fb_ct_succ]
    rcases hb k (by omega) with c | c
    · have : lwMb M k = false := by unfold lwMb; rw [c]; decide
      rw [c, this, if_pos (by decide), e0]; rfl
    · have : lwMb M k = true := by unfold lwMb; rw [c]; decide
      rw [c, this, if_neg (by decide), nI_1]; rfl
theorem mb_eq {M : JI} {ln : Nat} (hl : ln ≤ 36) (e : M 66 18 = nI ln) (hb : ∀ i, i < ln → M 76 i = nI 0 ∨ M 76 i = nI 1) : fX12_maybes M = some (nI (fb_ct (lwMb M) ln)) := mb_loop hl e hb ln 0 (by omega) 100000 (by omega)
theorem rgL_c {M : JI} {a k : Nat} (h : pL a k = true) : rg pL M a k = M a k := rg_in h
/-- the first words of the law in force, out of the region -/
theorem lw_head {X : Nat} {M : JI} {l : Nat → Int64} (hX : X = 44 ∨ X = 55) (h : lwOK X (rg pL M) l) : ∃ ln, ln ≤ 18 ∧ M 66 18 = nI ln ∧ M X 11 = nI ln ∧ fb_ct (lwMb M) ln ≤ 6 ∧ M X 14 = nI (fb_ct (lwMb M) ln) ∧ M X 12 = nI (ln - fb_ct (lwMb M) ln) ∧ (∀ i, i < ln → M 76 i = nI 0 ∨ M 76 i = nI 1) ∧ fb_ct (lwMb M) ln ≤ ln := by
  obtain ⟨ln, hl, a1, a2, a3, a4, a5, a6, -, -, a7⟩ := h
  have ec : fb_ct (lwMb (rg pL M)) ln = fb_ct (lwMb M) ln := fb_ct_cong (fun k hk => by
    unfold lwMb
    rw [rgL_c (by unfold pL; simp; omega)])
  rw [ec] at a3 a5 a6
  refine ⟨ln, hl, ?_, ?_, a3, ?_, ?_, fun i hi => ?_, fb_ct_le _ _⟩
  · rw [← a1, rgL_c (by decide)]
  · rw [← a2]; rcases hX with rfl | rfl <;> rw [rgL_c (by decide)]
  · rw [← a5]; rcases hX with rfl | rfl <;> rw [rgL_c (by decide)]
  · rw [← a6]; rcases hX with rfl | rfl <;> rw [rgL_c (by decide)]
  · have := (a7 i hi).2.1
    rw [rgL_c (by unfold pL; simp; omega)] at this
    exact this
theorem lay_at_S {n : Nat} {D42 D43 D31 : Nat → Option Nat} {S : JS} (h16 : vOb n D42 D43 D31 S) {a : Nat} {sh : Nat × Nat} (ha : lay_S[a]? = some sh) : S[a]? = some sh := by
  obtain ⟨⟨T, rfl⟩, -⟩ := h16
  rw [List.getElem?_append_left (List.getElem?_eq_some_iff.mp ha).1]
  exact ha
theorem op_count {n : Nat} {M : JI} {L : JL} {D : JG} {S : JS} (h : Inv n M L D S) (x : Int32) : ∃ r M2, fX11_count x M D S = some r ∧ fX12_count x M = some (r, M2) ∧ Inv (n + 1) M2 L D S := by
  have hh := h
  obtain ⟨h1, h2, h3, h4, h5, h6, h7, h8, h9, h10, h11, h12, h13, h14, h15, h16, h17, h18, h19⟩ := hh
  rcases ix_cases x 8 (by omega) with hx | hx | ⟨w, hw, rfl⟩
  · refine ⟨-nI 1, j_up M 66 0 (nI 0), ?_, ?_, inv_thr h _⟩
    · have ne : ∀ k : Nat, k < 8 → x ≠ nI k := fun k hk e => by rw [e] at hx; exact nI_pos (by omega) hx
      unfold fX11_count
      rw [if_neg (show ¬ x = (0 : Int32) from ne 0 (by omega)), if_neg (show ¬ x = (1 : Int32) from ne 1 (by omega)), if_neg (show ¬ x = (2 : Int32) from ne 2 (by omega)), if_neg (show ¬ x = (3 : Int32) from ne 3 (by omega)), if_neg (show ¬ x = (4 : Int32) from ne 4 (by omega)), if_neg (show ¬ x = (5 : Int32) from ne 5 (by omega)), if_neg (show ¬ x = (6 : Int32) from ne 6 (by omega)), if_neg (show ¬ x = (7 : Int32) from ne 7 (by omega))]; rfl
    · unfold fX12_count fX12_within
      have g : x < 0 := hx
      rw [if_pos g]; rfl
  · refine ⟨-nI 1, j_up M 66 0 (nI 0), ?_, ?_, inv_thr h _⟩
    · have ne : ∀ k : Nat, k < 8 → x ≠ nI k := fun k hk e => by rw [e] at hx; exact nI_ge hk (by omega) hx
      unfold fX11_count
      rw [if_neg (show ¬ x = (0 : Int32) from ne 0 (by omega)), if_neg (show ¬ x = (1 : Int32) from ne 1 (by omega)), if_neg (show ¬ x = (2 : Int32) from ne 2 (by omega)), if_neg (show ¬ x = (3 : Int32) from ne 3 (by omega)), if_neg (show ¬ x = (4 : Int32) from ne 4 (by omega)), if_neg (show ¬ x = (5 : Int32) from ne 5 (by omega)), if_neg (show ¬ x = (6 : Int32) from ne 6 (by omega)), if_neg (show ¬ x = (7 : Int32) from ne 7 (by omega))]; rfl
    · unfold fX12_count fX12_within
      have g : ¬ x < 0 := ix_nlt hx (by omega) (k := 0) (by omega)
      have g2 : (7 : Int32) < x := ix_lt hx (by omega) (k := 7) (by omega)
      rw [if_neg g, if_pos g2]; rfl
  · have g : ¬ nI w < 0 := nI_pos (by omega)
    have g2 : ¬ (7 : Int32) < nI w := nI_nlt (a := 7) (by omega) (by omega)
    obtain ⟨X, Y, x1, x2, x3, hXY, hlw⟩ := h12
    have hX : X = 44 ∨ X = 55 := by omega
    obtain ⟨ln, hl, a1, a2, a3, a5, a6, a7, a8⟩ := lw_head hX hlw
    have hSX : S[X]? = some (4, 17) := lay_at_S h16 (by rcases hX with rfl | rfl <;> decide +kernel)
    have hmb := mb_eq (M := j_up M 66 0 (0 : Int32)) (ln := ln) (by omega) (by rw [ju_cell _ _ (by omega)]; exact a1) (fun i hi => by rw [ju_row _ _ (by omega)]; exact a7 i hi)
    have emb : lwMb (j_up M 66 0 (0 : Int32)) = lwMb M := by
      funext i
      unfold lwMb
      rw [ju_row _ _ (by omega)]
    rw [emb] at hmb
    have h12 : vLaw (rg pL M) (L 46) (L 57) (D 0 10) (D 0 11) (D 15 5) := ⟨X, Y, x1, x2, x3, hXY, hlw⟩
    have fin : ∀ r, fX11_count (nI w) M D S = some r → fX12_count (nI w) M = some (r, j_up M 66 0 (nI 0)) → ∃ r M2, fX11_count (nI w) M D S = some r ∧ fX12_count (nI w) M = some (r, M2) ∧ Inv (n + 1) M2 L D S := fun r a b => ⟨r, _, a, b, inv_thr h _⟩
    have hpre : ∀ K, (if nI w = 0 then (fX12_count_25 100000 (nI w) (0 : Int32) (0 : Int32) (j_up M 66 0 (0 : Int32))) else (fX12_count_54 (nI w) (0 : Int32) (j_up M 66 0 (0 : Int32)))) = K → fX12_count (nI w) M = K := by
      intro K hK
      unfold fX12_count fX12_within
      rw [if_neg g, if_neg g2, Option.bind_some, if_neg (by decide)]
      exact hK
    have hw8 : w = 0 ∨ w = 1 ∨ w = 2 ∨ w = 3 ∨ w = 4 ∨ w = 5 ∨ w = 6 ∨ w = 7 := by omega
    rcases hw8 with rfl | rfl | rfl | rfl | rfl | rfl | rfl | rfl
    · refine fin (nI (fb_ct (bt (M 1 5)) 12)) ?_ (hpre _ ?_)
      · show (fJ6_bitCount_0f7a4 (M 1 5)).bind (fun q1 => some q1) = _
        rw [bc_eq h1.2]; rfl
      · rw [if_pos (by decide)]
        have := ct_told (M' := j_up M 66 0 (0 : Int32)) (t := M 1 5) (fun p hp => by rw [ju_row _ _ (by omega)]; exact h1.1 p hp) (nI 0) 12 0 (by omega) 100000 (by omega)
        refine this.trans ?_
        rw [fX12_count_54, if_neg (by decide), fX12_count_92, if_pos (by decide)]; rfl
    · refine fin (M 1 8) rfl (hpre _ ?_)
      rw [if_neg (by decide), fX12_count_54, if_neg (by decide), fX12_count_92]
      show some ((j_up M 66 0 (0 : Int32)) 66 8, _) = _
      rw [ju_cell _ _ (by omega), ← h9.1]; rfl
    · obtain ⟨m, hm, e0, e66, -⟩ := h13
      refine fin (M 0 12) rfl (hpre _ ?_)
      rw [if_neg (by decide), fX12_count_54, if_neg (by decide), fX12_count_92]
      show some ((j_up M 66 0 (0 : Int32)) 66 52, _) = _
      rw [ju_cell _ _ (by omega), e66, e0]; rfl
    · obtain ⟨m, hm, e0, e66, hp⟩ := h13
      obtain ⟨x, r1, r2⟩ := ct_taken (M := M) (M' := j_up M 66 0 (0 : Int32)) h16 hm e0 (by rw [ju_cell _ _ (by omega)]; exact e66) (fun k hk => by
        obtain ⟨b, hb, h137, v⟩ := hp k hk
        obtain ⟨-, -, -, -, -, -, -, -, -, -, ⟨t1, t2⟩, -⟩ := v
        rw [rgD_at (by omega)] at t1
        refine ⟨b, hb, ?_, ?_⟩
        · rw [ju_row _ _ (by omega)]; exact t1
        · rw [ju_row _ _ (by omega)]; exact t2) m 0 (by omega) 100000 (by omega) 0
      refine fin x ?_ (hpre _ ?_)
      · have r1' : fX11_takenOnes M D S = some x := by unfold fX11_takenOnes; exact r1
        unfold fX11_count
        rw [if_neg (by decide), if_neg (by decide), if_neg (by decide), if_pos (by decide), r1']; rfl
      · rw [if_neg (by decide), fX12_count_54, if_pos (by decide)]
        exact r2
    · refine fin (nI (ln - fb_ct (lwMb M) ln)) ?_ (hpre _ ?_)
      · show j_opt (D 0 10) none (fun b3 => j_g (decide (S[b3]? = some (4, 17))) (some (M b3 12))) = _
        rw [x1, jo_s, jg_d hSX, a6]
      · rw [if_neg (by decide), fX12_count_54, if_neg (by decide), fX12_count_92]
        show (fX12_maybes (j_up M 66 0 (0 : Int32))).bind (fun q3 => some (((j_up M 66 0 (0 : Int32)) 66 18) - q3, _)) = _
        rw [hmb, Option.bind_some, ju_cell _ _ (by omega), a1, pk_sub a8]; rfl
    · refine fin (nI (fb_ct (lwMb M) ln)) ?_ (hpre _ ?_)
      · show j_opt (D 0 10) none (fun b3 => j_g (decide (S[b3]? = some (4, 17))) (some (M b3 14))) = _
        rw [x1, jo_s, jg_d hSX, a5]
      · rw [if_neg (by decide), fX12_count_54, if_neg (by decide), fX12_count_92]
        show (fX12_maybes (j_up M 66 0 (0 : Int32))).bind (fun q3 => some (q3, _)) = _
        rw [hmb]; rfl
    · obtain ⟨m, hm, e0, e66, -⟩ := h14
      refine fin (M 30 6) rfl (hpre _ ?_)
      rw [if_neg (by decide), fX12_count_54, if_neg (by decide), fX12_count_92]
      show some ((j_up M 66 0 (0 : Int32)) 66 81, _) = _
      rw [ju_cell _ _ (by omega), e66, e0]; rfl
    · obtain ⟨m, hm, e0, e66, -⟩ := h10
      refine fin (M 12 1) rfl (hpre _ ?_)
      rw [if_neg (by decide), fX12_count_54, if_neg (by decide), fX12_count_92]
      show some ((j_up M 66 0 (0 : Int32)) 66 9, _) = _
      rw [ju_cell _ _ (by omega), e66, e0]; rfl
