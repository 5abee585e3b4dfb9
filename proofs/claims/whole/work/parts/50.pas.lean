/-! ===== passings ===== -/
theorem rgD_at {M : JI} {a : Nat} (h : 137 ≤ a) : rg pD M a = M a := by
  funext k
  exact rg_in (by unfold pD; simp [h])
theorem rg_row {P : Nat → Nat → Bool} {M : JI} {a0 k0 a : Nat} {v : Int32} (h : a ≠ a0) : rg P (j_up M a0 k0 v) a = rg P M a := by
  funext k
  unfold rg
  rw [ju_cell2 _ _ h]
theorem rg_rowc {P : Nat → Nat → Bool} {M M' : JI} {a : Nat} (h : M' a = M a) : rg P M' a = rg P M a := by
  funext k
  unfold rg
  rw [h]
theorem vP1_J {k : Nat} {B0 B1 B2 B3 B4 B5 : Nat → Int32} {M : JI} (h : vP1 k B0 B1 B2 B3 B4 B5 (rg pP M)) : vP1 k B0 B1 B2 B3 B4 B5 M := h
theorem vP1_J' {k : Nat} {B0 B1 B2 B3 B4 B5 : Nat → Int32} {M : JI} (h : vP1 k B0 B1 B2 B3 B4 B5 M) : vP1 k B0 B1 B2 B3 B4 B5 (rg pP M) := h
theorem pa_cases {n : Nat} {M : JI} {D : JG} {S : JS} (h13 : vPs (M 0 12) (M 66 52) (rg pP M) (rg pD M) (D 42)) (h16 : vOb n (D 42) (D 43) (D 31) S) (x : Int32) : (fX11_passingAt x M D S = some none ∧ ∀ M' : JI, M' 66 52 = M 66 52 → fX12_isPassed x M' = some (nI 0)) ∨ ∃ m k b, m ≤ 40 ∧ M 0 12 = nI m ∧ k < m ∧ x = nI k ∧ D 42 k = some b ∧ 137 ≤ b ∧ S[b]? = some (7, 9) ∧ fX11_passingAt x M D S = some (some b) ∧ (∀ M' : JI, M' 66 52 = M 66 52 → fX12_isPassed x M' = some (nI 1)) ∧ vP1 k (M b) (M (b + 1)) (M (b + 2)) (M (b + 3)) (M (b + 4)) (M (b + 5)) M := by
  obtain ⟨m, hm, e0, e66, hp⟩ := h13
  unfold fX11_passingAt fX12_isPassed
  rcases ix_cases x m (by omega) with hx | hx | ⟨k, hk, rfl⟩
  · have g : x < 0 := hx
    exact Or.inl ⟨by rw [if_pos g], fun M' hM' => by rw [if_pos g]; rfl⟩
  · have g : ¬ x < 0 := ix_nlt hx (by omega) (k := 0) (by omega)
    exact Or.inl ⟨by rw [if_neg g, e0, if_pos hx], fun M' hM' => by rw [if_neg g, hM', e66, if_pos hx]; rfl⟩
  · obtain ⟨b, hb, h137, hv⟩ := hp k hk
    have g : ¬ nI k < 0 := nI_pos (by omega)
    have g2 : ¬ nI m ≤ nI k := nI_ge hk (by omega)
    have hS : S[b]? = some (7, 9) := by
      have := (h16.2.2.2.1 k b (by omega) (by unfold slA; rw [if_pos (by omega)]; exact hb)).2.2
      rw [this]; unfold slS; rw [if_pos (by omega)]
    refine Or.inr ⟨m, k, b, hm, e0, hk, rfl, hb, h137, hS, ?_, fun M' hM' => ?_, ?_⟩
    · rw [if_neg g, e0, if_neg g2, if_pos (show nI k < (40 : Int32) from nI_lt (b := 40) (by omega) (by omega)), jg_in (by omega) (by decide), nI_clamp (by omega), hb, jo_s, jg_d hS]
    · rw [if_neg g, hM', e66, if_neg g2]; rfl
    · rw [rgD_at h137, rgD_at (by omega), rgD_at (by omega), rgD_at (by omega), rgD_at (by omega), rgD_at (by omega)] at hv
      exact vP1_J hv
theorem okR_neg {x : Int32} {b : Nat} (h : okR x b) (hb : b < 2 ^ 31) : (x < 0 ↔ x = -nI 1) ∧ (0 ≤ x ↔ ¬ x = -nI 1) := by
  rcases h with h | ⟨r, hr, h⟩
  · rw [h]; decide
  · rw [h]
    have h1 : ¬ nI r = -nI 1 := by rw [nm_ne (by omega)]; simp
    have h2 : ¬ nI r < 0 := nI_pos (by omega)
    have h3 : 0 ≤ nI r := nI_pos' (by omega)
    simp [h1, h2, h3]
theorem op_may {n : Nat} {M : JI} {L : JL} {D : JG} {S : JS} (h : Inv n M L D S) (x y : Int32) : ∃ r M2, fX11_may x y M D S = some r ∧ fX12_may x y M = some (r, M2) ∧ Inv (n + 1) M2 L D S := by
  have hh := h
  obtain ⟨h1, h2, h3, h4, h5, h6, h7, h8, h9, h10, h11, h12, h13, h14, h15, h16, h17, h18, h19⟩ := hh
  unfold fX11_may fX12_may fX12_mays
  rcases pa_cases h13 h16 x with ⟨x1, x2⟩ | ⟨m, k, b, hm, e0, hk, rfl, hb, h137, hS, x1, x2, V⟩
  · exact ⟨-nI 1, j_up M 66 0 (nI 0), by rw [x1]; rfl, by rw [x2 _ (ju_cell _ _ (by omega))]; rfl, inv_thr h _⟩
  · have x2' := x2 (j_up M 66 0 (0 : Int32)) (ju_cell _ _ (by omega))
    rcases ps_cases y with ⟨y1, y2⟩ | ⟨q, hq, rfl, y1, y2⟩
    · exact ⟨-nI 1, j_up M 66 0 (nI 0), by rw [x1, Option.bind_some, jo_s, jg_d hS, y1]; rfl, by rw [x2', y2]; rfl, inv_thr h _⟩
    · obtain ⟨-, -, -, -, -, -, -, -, -, -, -, -, s, -, vq⟩ := V
      obtain ⟨w1, w2, -⟩ := vq q hq
      refine ⟨M 109 (16 * k + q), j_up M 66 0 (nI 0), ?_, ?_, inv_thr h _⟩
      · rw [x1, Option.bind_some, jo_s, jg_d hS, y1, Option.bind_some, if_neg (by decide), jg_in hq (by decide), nI_clamp (by omega), ← w1]
      · rw [x2', Option.bind_some, if_neg (by decide), y2, Option.bind_some, if_neg (by decide), at16, jg_in (by omega) (by decide), nI_clamp (by omega), ju_row _ _ (show (109 : Nat) ≠ 66 by omega)]
        by_cases c : M 109 (16 * k + q) < 0
        · rw [if_pos c, (okR_neg w2 (by omega)).1.mp c]; rfl
        · rw [if_neg c, Option.bind_some, if_neg (by decide), jg_in (by omega) (by decide)]; rfl
theorem op_till {n : Nat} {M : JI} {L : JL} {D : JG} {S : JS} (h : Inv n M L D S) (x y : Int32) : ∃ r M2, fX11_till x y M D S = some r ∧ fX12_till x y M = some (r, M2) ∧ Inv (n + 1) M2 L D S := by
  have hh := h
  obtain ⟨h1, h2, h3, h4, h5, h6, h7, h8, h9, h10, h11, h12, h13, h14, h15, h16, h17, h18, h19⟩ := hh
  unfold fX11_till fX12_till fX12_mays
  rcases pa_cases h13 h16 x with ⟨x1, x2⟩ | ⟨m, k, b, hm, e0, hk, rfl, hb, h137, hS, x1, x2, V⟩
  · exact ⟨-nI 1, j_up M 66 0 (nI 0), by rw [x1]; rfl, by rw [x2 _ (ju_cell _ _ (by omega))]; rfl, inv_thr h _⟩
  · have x2' := x2 (j_up M 66 0 (0 : Int32)) (ju_cell _ _ (by omega))
    rcases ps_cases y with ⟨y1, y2⟩ | ⟨q, hq, rfl, y1, y2⟩
    · exact ⟨-nI 1, j_up M 66 0 (nI 0), by rw [x1, Option.bind_some, jo_s, jg_d hS, y1]; rfl, by rw [x2', y2]; rfl, inv_thr h _⟩
    · obtain ⟨-, -, -, -, -, -, -, -, -, -, -, -, s, -, vq⟩ := V
      obtain ⟨w1, w2, w3, w4, -, w6⟩ := vq q hq
      have eA : fX11_isPerson (nI q) = some (nI 1) := y1
      by_cases c : M 109 (16 * k + q) = -nI 1
      · refine ⟨-nI 1, j_up M 66 0 (nI 0), ?_, ?_, inv_thr h _⟩
        · rw [x1, Option.bind_some, jo_s, jg_d hS, y1, Option.bind_some, if_neg (by decide), jg_in hq (by decide), nI_clamp (by omega), ← w1, li_1, if_pos c]
        · rw [x2', Option.bind_some, if_neg (by decide), y2, Option.bind_some, if_neg (by decide), at16, jg_in (by omega) (by decide), nI_clamp (by omega), ju_row _ _ (show (109 : Nat) ≠ 66 by omega), if_pos ((okR_neg w2 (by omega)).1.mpr c)]; rfl
      · have c' : ¬ M 109 (16 * k + q) < 0 := fun hc => c ((okR_neg w2 (by omega)).1.mp hc)
        obtain ⟨⟨w, hw, ew, ew2⟩, -⟩ := w6 c
        by_cases c2 : M 112 (16 * k + q) = -nI 1
        · refine ⟨-nI 1, j_up M 66 0 (nI 0), ?_, ?_, inv_thr h _⟩
          · rw [x1, Option.bind_some, jo_s, jg_d hS, y1, Option.bind_some, if_neg (by decide), jg_in hq (by decide), nI_clamp (by omega), ← w1, li_1, if_neg c, jg_in (by omega) (by decide), ← w3, if_pos c2]
          · rw [x2', Option.bind_some, if_neg (by decide), y2, Option.bind_some, if_neg (by decide), at16, jg_in (by omega) (by decide), nI_clamp (by omega), ju_row _ _ (show (109 : Nat) ≠ 66 by omega), ju_row _ _ (show (112 : Nat) ≠ 66 by omega), if_neg c', Option.bind_some, if_neg (by decide), jg_in (by omega) (by decide), if_neg (fun hc => ((okR_neg w4 (by omega)).2.mp hc) c2)]; rfl
        · refine ⟨M 112 (16 * k + q) + M 110 (16 * k + q), j_up M 66 0 (nI 0), ?_, ?_, inv_thr h _⟩
          · rw [x1, Option.bind_some, jo_s, jg_d hS, y1, Option.bind_some, if_neg (by decide), jg_in hq (by decide), nI_clamp (by omega), ← w1, li_1, if_neg c, jg_in (by omega) (by decide), ← w3, if_neg c2, jg_in (by omega) (by decide), jg_in hq (by decide), ew, ew2]
          · rw [x2', Option.bind_some, if_neg (by decide), y2, Option.bind_some, if_neg (by decide), at16, jg_in (by omega) (by decide), nI_clamp (by omega), ju_row _ _ (show (109 : Nat) ≠ 66 by omega), ju_row _ _ (show (112 : Nat) ≠ 66 by omega), ju_row _ _ (show (110 : Nat) ≠ 66 by omega), if_neg c', Option.bind_some, if_neg (by decide), jg_in (by omega) (by decide), if_pos ((okR_neg w4 (by omega)).2.mpr c2), jg_in (by omega) (by decide), jg_in (by omega) (by decide)]; rfl
/-- the price asked -/
theorem pr_eq {M M' : JI} {k b : Nat} (hk : k < 40) (hJ : ∀ a, 96 ≤ a → a ≤ 113 → M' a = M a) (V : vP1 k (M b) (M (b + 1)) (M (b + 2)) (M (b + 3)) (M (b + 4)) (M (b + 5)) M) : ∃ x, x ≤ 9999 ∧ fX7_priceAsked b M = some (nI x) ∧ fX12_askedPrice (nI k) M' = some (nI x) := by
  obtain ⟨-, -, -, -, -, ⟨x, hx, x1, x2⟩, ⟨y, hy, y1, y2⟩, -, -, -, -, ⟨c, c1, c2⟩, -⟩ := V
  unfold fX7_priceAsked fX12_askedPrice
  rw [jg_in hk (by decide), jg_in hk (by decide), jg_in hk (by decide), nI_clamp (by omega), hJ 107 (by omega) (by omega), hJ 101 (by omega) (by omega), hJ 102 (by omega) (by omega), c1, c2, bI_b01, x1, x2, y1]
  cases c with
  | false => exact ⟨x, hx, by rw [if_pos (by decide)], by rw [if_pos (by decide)]⟩
  | true =>
    refine ⟨y, hy, ?_, ?_⟩
    · rw [if_neg (by decide)]
      show j_g (j_in (nI 18) 19) (some (M (b + 5) (nI 18).toNatClampNeg)) = _
      rw [jg_in (by omega) (by decide), nI_clamp (by omega), y2]
    · rw [if_neg (by decide)]
theorem op_look {n : Nat} {M : JI} {L : JL} {D : JG} {S : JS} (h : Inv n M L D S) (x y : Int32) : ∃ k L1 S1 r M2, fL_look x y 136 M L D S = some (k, L1, S1) ∧ fX12_look x y M = some (r, M2) ∧ M2 66 0 = k ∧ (k = nI 0 → L1 136 0 = r.toInt64) ∧ ((k = nI 0 ∧ S1 = S) ∨ (k = nI 1 ∧ S1 = S ++ [(90, 6)])) ∧ (∃ v, L1 = j_up L 136 0 v ∨ L1 = L) ∧ M2 = j_up M 66 0 k := by
  have hh := h
  obtain ⟨h1, h2, h3, h4, h5, h6, h7, h8, h9, h10, h11, h12, h13, h14, h15, h16, h17, h18, h19⟩ := hh
  unfold fL_look fX12_look
  have bad : fX12_look_24 x y (1 : Int32) M = some (nI 0, j_up M 66 0 (nI 1)) := by
    unfold fX12_look_24
    rw [ju_same, if_pos (by decide)]; rfl
  rcases pa_cases h13 h16 x with ⟨x1, x2⟩ | ⟨m, k, b, hm, e0, hk, rfl, hb, h137, hS, x1, x2, V⟩
  · refine ⟨nI 1, L, S ++ [(90, 6)], nI 0, j_up M 66 0 (nI 1), by rw [x1]; rfl, ?_, ju_same _ _ _ _, fun e => absurd e (by decide), Or.inr ⟨rfl, rfl⟩, ⟨0, Or.inr rfl⟩, rfl⟩
    rw [x2 M rfl, Option.bind_some, if_pos (by decide)]
    exact bad
  · rcases ix_cases y 12 (by omega) with hy | hy | ⟨w, hw, rfl⟩
    · have g : y < 0 := hy
      refine ⟨nI 1, L, S ++ [(90, 6)], nI 0, j_up M 66 0 (nI 1), by rw [x1, Option.bind_some, jo_s, jg_d hS, if_pos g]; rfl, ?_, ju_same _ _ _ _, fun e => absurd e (by decide), Or.inr ⟨rfl, rfl⟩, ⟨0, Or.inr rfl⟩, rfl⟩
      unfold fX12_within
      rw [x2 M rfl, Option.bind_some, if_neg (by decide), if_pos g, Option.bind_some, if_pos (by decide)]
      exact bad
    · have g : ¬ y < 0 := ix_nlt hy (by omega) (k := 0) (by omega)
      have g2 : (11 : Int32) < y := ix_lt hy (by omega) (k := 11) (by omega)
      have g3 : ¬ y ≤ (11 : Int32) := by rw [Int32.not_le]; exact g2
      refine ⟨nI 1, L, S ++ [(90, 6)], nI 0, j_up M 66 0 (nI 1), by rw [x1, Option.bind_some, jo_s, jg_d hS, if_neg g, if_neg g3]; rfl, ?_, ju_same _ _ _ _, fun e => absurd e (by decide), Or.inr ⟨rfl, rfl⟩, ⟨0, Or.inr rfl⟩, rfl⟩
      unfold fX12_within
      rw [x2 M rfl, Option.bind_some, if_neg (by decide), if_neg g, if_pos g2, Option.bind_some, if_pos (by decide)]
      exact bad
    · have g : ¬ nI w < 0 := nI_pos (by omega)
      have g2 : ¬ (11 : Int32) < nI w := nI_nlt (a := 11) (by omega) (by omega)
      have g3 : nI w ≤ (11 : Int32) := nI_le (b := 11) (by omega) (by omega)
      have key : ∃ r, fX7_tells b (nI w) M = some r ∧ fX12_look_24 (nI k) (nI w) (0 : Int32) M = some (r, j_up M 66 0 (nI 0)) := by
        obtain ⟨px, hpx, p1, p2⟩ := pr_eq (M' := j_up M 66 0 (0 : Int32)) (show k < 40 by omega) (fun a _ _ => ju_row _ _ (by omega)) V
        obtain ⟨⟨a1, -, f1, f1'⟩, ⟨a2, -, f2, f2'⟩, ⟨a3, -, f3, f3'⟩, ⟨a4, -, -, f4, f4'⟩, ⟨a5, -, f5, f5'⟩, ⟨a6, -, f6, f6'⟩, ⟨a7, -, f7, f7'⟩, ⟨a8, -, f8, f8'⟩, ⟨a9, f9, f9'⟩, ⟨f10, -⟩, ⟨f11, -⟩, -⟩ := V
        have ek : (nI k).toNatClampNeg = k := nI_clamp (by omega)
        have gk : ∀ {α : Type} (z : Option α), j_g (j_in (nI k) 40) z = z := fun z => jg_in (by omega) (by decide)
        have hJ : ∀ a, a ≠ 66 → (j_up M 66 0 (0 : Int32)) a k = M a k := fun a ha => ju_cell2 _ _ ha
        have hw12 : w = 0 ∨ w = 1 ∨ w = 2 ∨ w = 3 ∨ w = 4 ∨ w = 5 ∨ w = 6 ∨ w = 7 ∨ w = 8 ∨ w = 9 ∨ w = 10 ∨ w = 11 := by omega
        have e18 : (18 : Int32).toNatClampNeg = 18 := by decide
        have e17 : (17 : Int32).toNatClampNeg = 17 := by decide
        rcases hw12 with rfl | rfl | rfl | rfl | rfl | rfl | rfl | rfl | rfl | rfl | rfl | rfl
        · refine ⟨M (b + 1) 0, rfl, ?_⟩
          show j_g (j_in (nI k) 40) (some ((j_up M 66 0 (0 : Int32)) 96 (nI k).toNatClampNeg, j_up M 66 0 (nI 0))) = _
          rw [gk, ek, hJ 96 (by omega), f1, f1']
        · refine ⟨M (b + 1) 1, rfl, ?_⟩
          show j_g (j_in (nI k) 40) (some ((j_up M 66 0 (0 : Int32)) 97 (nI k).toNatClampNeg, j_up M 66 0 (nI 0))) = _
          rw [gk, ek, hJ 97 (by omega), f2, f2']
        · refine ⟨M (b + 1) 2, rfl, ?_⟩
          show j_g (j_in (nI k) 40) (some ((j_up M 66 0 (0 : Int32)) 98 (nI k).toNatClampNeg, j_up M 66 0 (nI 0))) = _
          rw [gk, ek, hJ 98 (by omega), f3, f3']
        · refine ⟨M (b + 1) 3, rfl, ?_⟩
          show j_g (j_in (nI k) 40) (some ((j_up M 66 0 (0 : Int32)) 99 (nI k).toNatClampNeg, j_up M 66 0 (nI 0))) = _
          rw [gk, ek, hJ 99 (by omega), f4, f4']
        · refine ⟨M (b + 1) 4, rfl, ?_⟩
          show j_g (j_in (nI k) 40) (some ((j_up M 66 0 (0 : Int32)) 100 (nI k).toNatClampNeg, j_up M 66 0 (nI 0))) = _
          rw [gk, ek, hJ 100 (by omega), f5, f5']
        · refine ⟨M (b + 1) 5, rfl, ?_⟩
          show j_g (j_in (nI k) 40) (some ((j_up M 66 0 (0 : Int32)) 101 (nI k).toNatClampNeg, j_up M 66 0 (nI 0))) = _
          rw [gk, ek, hJ 101 (by omega), f6, f6']
        · refine ⟨M (b + 5) 18, rfl, ?_⟩
          show j_g (j_in (nI k) 40) (some ((j_up M 66 0 (0 : Int32)) 102 (nI k).toNatClampNeg, j_up M 66 0 (nI 0))) = _
          rw [gk, ek, hJ 102 (by omega), f7, f7']
        · refine ⟨M b 5, rfl, ?_⟩
          show j_g (j_in (nI k) 40) (some ((j_up M 66 0 (0 : Int32)) 103 (nI k).toNatClampNeg, j_up M 66 0 (nI 0))) = _
          rw [gk, ek, hJ 103 (by omega), f8, f8']
        · refine ⟨bI a9, ?_, ?_⟩
          · show (if (jm_b01 (M b 6)) = 0 then (some ((0 : Int32))) else (some ((1 : Int32)))) = _
            rw [f9']; cases a9 <;> rfl
          · show j_g (j_in (nI k) 40) (if (jm_b01 ((j_up M 66 0 (0 : Int32)) 104 (nI k).toNatClampNeg)) = 0 then (some ((0 : Int32), (j_up M 66 0 (0 : Int32)))) else (some ((1 : Int32), (j_up M 66 0 (0 : Int32))))) = _
            rw [gk, ek, hJ 104 (by omega), f9, bI_b01]; cases a9 <;> rfl
        · refine ⟨M b 7, rfl, ?_⟩
          show j_g (j_in (nI k) 40) (some ((j_up M 66 0 (0 : Int32)) 105 (nI k).toNatClampNeg, j_up M 66 0 (nI 0))) = _
          rw [gk, ek, hJ 105 (by omega), f10]
        · refine ⟨M (b + 5) 17, rfl, ?_⟩
          show j_g (j_in (nI k) 40) (some ((j_up M 66 0 (0 : Int32)) 106 (nI k).toNatClampNeg, j_up M 66 0 (nI 0))) = _
          rw [gk, ek, hJ 106 (by omega), f11]
        · refine ⟨nI px, ?_, ?_⟩
          · show (fX7_priceAsked b M).bind (fun q1 => some (q1)) = _
            rw [p1]; rfl
          · show (fX12_askedPrice (nI k) (j_up M 66 0 (0 : Int32))).bind (fun q3 => some (q3, (j_up M 66 0 (0 : Int32)))) = _
            rw [p2]; rfl
      obtain ⟨r, k1, k2⟩ := key
      refine ⟨nI 0, j_up L 136 0 r.toInt64, S, r, j_up M 66 0 (nI 0), ?_, ?_, ju_same _ _ _ _, fun _ => ju_same _ _ _ _, Or.inl ⟨rfl, rfl⟩, ⟨_, Or.inl rfl⟩, rfl⟩
      · rw [x1, Option.bind_some, jo_s, jg_d hS, if_neg g, if_pos g3, k1]; rfl
      · unfold fX12_within
        rw [x2 M rfl, Option.bind_some, if_neg (by decide), if_neg g, if_neg g2, Option.bind_some, if_neg (by decide)]
        exact k2
