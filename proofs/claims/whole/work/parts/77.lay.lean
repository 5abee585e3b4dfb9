theorem cp_eq (I : JI) {t u : Nat} (hd : t + 4 < u + 1 ∨ u + 4 < t + 1) : ∃ M', fX1_copyAll t u I = some M' ∧ (∀ a, a ≠ t + 1 → a ≠ t + 2 → a ≠ t + 3 → a ≠ t + 4 → M' a = I a) ∧ (∀ k, k < 192 → M' (t + 1) k = I (u + 1) k) ∧ (∀ k, k < 12 → M' (t + 2) k = I (u + 2) k) ∧ (∀ k, k < 16 → M' (t + 3) k = I (u + 3) k) ∧ ∀ k, k < 16 → M' (t + 4) k = I (u + 4) k := by
  have c0 : (0 : Int32).toNatClampNeg = 0 := by decide
  have c192 : (192 : Int32).toNatClampNeg = 192 := by decide
  have c12 : (12 : Int32).toNatClampNeg = 12 := by decide
  have c16 : (16 : Int32).toNatClampNeg = 16 := by decide
  refine ⟨j_cpy (j_cpy (j_cpy (j_cpy I (u + 1) 0 (t + 1) 0 192) (u + 2) 0 (t + 2) 0 12) (u + 3) 0 (t + 3) 0 16) (u + 4) 0 (t + 4) 0 16, ?_, fun a a1 a2 a3 a4 => ?_, fun k hk => ?_, fun k hk => ?_, fun k hk => ?_, fun k hk => ?_⟩
  · unfold fX1_copyAll
    rw [jg_d (show ¬ u + 1 = t + 1 by omega), jg_d (by decide), jg_d (show ¬ u + 2 = t + 2 by omega), jg_d (by decide), jg_d (show ¬ u + 3 = t + 3 by omega), jg_d (by decide), jg_d (show ¬ u + 4 = t + 4 by omega), jg_d (by decide), c0, c192, c12, c16]
  · rw [jp_row _ a4, jp_row _ a3, jp_row _ a2, jp_row _ a1]
  · rw [jp_row _ (by omega), jp_row _ (by omega), jp_row _ (by omega), jp_at]
    show (if 0 ≤ k ∧ k < 0 + 192 then I (u + 1) (0 + (k - 0)) else _) = _
    rw [if_pos (by omega)]; congr 1; omega
  · rw [jp_row _ (by omega), jp_row _ (by omega), jp_at]
    show (if 0 ≤ k ∧ k < 0 + 12 then (j_cpy I (u + 1) 0 (t + 1) 0 192) (u + 2) (0 + (k - 0)) else _) = _
    rw [if_pos (by omega), jp_row _ (by omega)]; congr 1; omega
  · rw [jp_row _ (by omega), jp_at]
    show (if 0 ≤ k ∧ k < 0 + 16 then (j_cpy (j_cpy I (u + 1) 0 (t + 1) 0 192) (u + 2) 0 (t + 2) 0 12) (u + 3) (0 + (k - 0)) else _) = _
    rw [if_pos (by omega), jp_row _ (by omega), jp_row _ (by omega)]; congr 1; omega
  · rw [jp_at]
    show (if 0 ≤ k ∧ k < 0 + 16 then (j_cpy (j_cpy (j_cpy I (u + 1) 0 (t + 1) 0 192) (u + 2) 0 (t + 2) 0 12) (u + 3) 0 (t + 3) 0 16) (u + 4) (0 + (k - 0)) else _) = _
    rw [if_pos (by omega), jp_row _ (by omega), jp_row _ (by omega), jp_row _ (by omega)]; congr 1; omega
theorem vHd_rows {r8 r9 r10 r11 s8 s9 s10 s11 : Nat → Int32} {h : Nat → Nat → Nat} (e8 : ∀ k, k < 192 → s8 k = r8 k) (e9 : ∀ k, k < 12 → s9 k = r9 k) (e10 : ∀ k, k < 16 → s10 k = r10 k) (e11 : ∀ k, k < 16 → s11 k = r11 k) (hv : vHd r8 r9 r10 r11 h) : vHd s8 s9 s10 s11 h := by
  obtain ⟨a1, a2, a3, a4⟩ := hv
  exact ⟨fun p q hp hq => by rw [e8 _ (by omega)]; exact a1 p q hp hq, fun p i hp => by rw [e9 p hp]; exact a2 p i hp, fun q hq => by rw [e10 q hq]; exact a3 q hq, fun q hq => by rw [e11 q hq]; exact a4 q hq⟩
theorem ly38 {n0 : Nat} {M0 : JI} {D : JG} {S : JS} {b u m : Nat} (h16 : vOb n0 (D 42) (D 43) (D 31) S) {s0 : Nat} (hs0 : 40 ≤ s0) (hs0' : s0 < 44) (hb0 : slA (D 42) (D 43) (D 31) s0 = some b) (hm : m ≤ 40) (e5 : M0 b 5 = nI m) (bk : Nat → Nat) (hbk : ∀ k, k < m → D 42 k = some (bk k)) : ∀ d k, k + d = m → ∀ n, d < n → ∀ M : JI, (∀ a, a ≠ b + 6 → M a = M0 a) → (∀ j i, j < k → i < 19 → M (b + 6) (19 * j + i) = M0 (bk j + 5) i) → ∃ M', fX5_lay_38 b u n (nI k) M D S = some M' ∧ (∀ a, a ≠ b + 6 → M' a = M0 a) ∧ ∀ j i, j < m → i < 19 → M' (b + 6) (19 * j + i) = M0 (bk j + 5) i := by
  have hN7 : slN s0 = 7 := by unfold slN; rw [if_neg (by omega), if_pos (by omega)]
  intro d
  induction d with
  | zero =>
    intro k hk n hn M h1 h2
    obtain ⟨n', rfl⟩ := suc_of hn
    have : k = m := by omega
    subst this
    refine ⟨M, ?_, h1, h2⟩
    rw [fX5_lay_38, h1 b (by omega), e5, if_pos (nI_le (Nat.le_refl _) (by omega))]
  | succ d ih =>
    intro k hk n hn M h1 h2
    obtain ⟨n', rfl⟩ := suc_of hn
    have e1 : nI k + (1 : Int32) = nI (k + 1) := nI_1 k
    have e19 : nI k * (19 : Int32) = nI (19 * k) := by show nI k * nI 19 = _; rw [pk_mul, Nat.mul_comm]
    have c0 : (0 : Int32).toNatClampNeg = 0 := by decide
    have c19 : (19 : Int32).toNatClampNeg = 19 := by decide
    have hbk' := hbk k (by omega)
    have hsl := sl42 (D43 := D 43) (D31 := D 31) (show k < 40 by omega) hbk'
    have hS : S[bk k]? = some (7, 9) := by
      rw [(h16.2.2.2.1 k _ (by omega) hsl).2.2]; unfold slS; rw [if_pos (by omega)]
    have far := ob_far2 h16 (by omega) (by omega) (by omega) hb0 hsl
    rw [hN7, n42 (show k < 40 by omega)] at far
    have f56 := far 6 5 (by omega) (by omega)
    rw [fX5_lay_38, h1 b (by omega), e5, if_neg (nI_ge (by omega) (by omega)), if_neg (show ¬ (40 : Int32) ≤ nI k from nI_ge (b := 40) (by omega) (by omega)), jg_in (by omega) (by decide), nI_clamp (by omega), hbk', jo_s, jg_d hS, jg_in (by omega) (by decide), jo_s, jg_d hS, jg_d (show ¬ bk k + 5 = b + 6 from f56), e19, c0, c19, nI_clamp (by omega), jg_d (show ¬ (0 : Int32) < 0 ∧ ¬ nI (19 * k) < 0 ∧ ¬ (19 : Int32) < 0 ∧ 0 + 19 ≤ 19 ∧ 19 * k + 19 ≤ 760 from ⟨by decide, nI_pos (by omega), by decide, by omega, by omega⟩), e1]
    refine ih (k + 1) (by omega) n' (by omega) _ (fun a ha => by rw [jp_row _ ha, h1 a ha]) (fun j i hj hi => ?_)
    rw [jp_at]
    show (if 19 * k ≤ 19 * j + i ∧ 19 * j + i < 19 * k + 19 then M (bk k + 5) (0 + (19 * j + i - 19 * k)) else M (b + 6) (19 * j + i)) = _
    by_cases e : j = k
    · subst e
      rw [if_pos (by omega), show 0 + (19 * j + i - 19 * j) = i by omega, h1 _ f56]
    · rw [if_neg (by omega)]
      exact h2 j i (by omega) hi
/-- the class's laying of a mark -/
theorem lay_eq {n0 : Nat} {M : JI} {D : JG} {S : JS} {b m : Nat} {lv : Int32} (h16 : vOb n0 (D 42) (D 43) (D 31) S) {s0 : Nat} (hs0 : 40 ≤ s0) (hs0' : s0 < 44) (hb0 : slA (D 42) (D 43) (D 31) s0 = some b) (hm : m ≤ 40) (bk : Nat → Nat) (hbk : ∀ k, k < m → D 42 k = some (bk k)) : ∃ M', fX5_lay b lv 7 (nI m) M D S = some M' ∧ (∀ a, (a < b ∨ b + 6 < a) → M' a = M a) ∧ M' b 2 = lv ∧ M' b 3 = M 1 5 ∧ M' b 4 = M 1 8 ∧ M' b 5 = nI m ∧ (∀ k, k < 192 → M' (b + 2) k = M 8 k) ∧ (∀ k, k < 12 → M' (b + 3) k = M 9 k) ∧ (∀ k, k < 16 → M' (b + 4) k = M 10 k) ∧ (∀ k, k < 16 → M' (b + 5) k = M 11 k) ∧ ∀ j i, j < m → i < 19 → M' (b + 6) (19 * j + i) = M (bk j + 5) i := by
  have h137 := (h16.2.2.2.1 s0 b (by omega) hb0).1
  have hN7 : slN s0 = 7 := by unfold slN; rw [if_neg (by omega), if_pos (by omega)]
  generalize hA : j_up (j_up (j_up (j_up M b 2 lv) b 3 (M 1 5)) b 4 (M 1 8)) b 5 (nI m) = A
  have rA : ∀ a, a ≠ b → A a = M a := fun a ha => by rw [← hA, ju_row _ _ ha, ju_row _ _ ha, ju_row _ _ ha, ju_row _ _ ha]
  obtain ⟨B, b1, b2, b3, b4, b5, b6⟩ := cp_eq A (t := b + 1) (u := 7) (by omega)
  have e5 : B b 5 = nI m := by rw [b2 b (by omega) (by omega) (by omega) (by omega), ← hA, ju_same]
  obtain ⟨C, c1, c2, c3⟩ := ly38 (u := 7) h16 hs0 hs0' hb0 hm e5 bk hbk m 0 (by omega) 100000 (by omega) B (fun _ _ => rfl) (fun j i hj => absurd hj (by omega))
  have rC : ∀ a, (a < b + 2 ∨ b + 5 < a) → a ≠ b + 6 → C a = A a := fun a a1 a2 => by rw [c2 a a2, b2 a (by omega) (by omega) (by omega) (by omega)]
  refine ⟨C, ?_, fun a ha => by rw [rC a (by omega) (by omega), rA a (by omega)], ?_, ?_, ?_, ?_, fun k hk => ?_, fun k hk => ?_, fun k hk => ?_, fun k hk => ?_, fun j i hj hi => ?_⟩
  · unfold fX5_lay
    rw [ju_row _ _ (show (1 : Nat) ≠ b by omega), ju_row _ _ (show (1 : Nat) ≠ b by omega), ju_row _ _ (show (1 : Nat) ≠ b by omega), hA, b1, Option.bind_some]
    exact c1
  · rw [rC b (by omega) (by omega), ← hA, ju_cell _ _ (by omega), ju_cell _ _ (by omega), ju_cell _ _ (by omega), ju_same]
  · rw [rC b (by omega) (by omega), ← hA, ju_cell _ _ (by omega), ju_cell _ _ (by omega), ju_same]
  · rw [rC b (by omega) (by omega), ← hA, ju_cell _ _ (by omega), ju_same]
  · rw [rC b (by omega) (by omega), ← hA, ju_same]
  · rw [c2 _ (by omega)]; show B (b + 1 + 1) k = _; rw [b3 k hk, rA _ (by omega)]
  · rw [c2 _ (by omega)]; show B (b + 1 + 2) k = _; rw [b4 k hk, rA _ (by omega)]
  · rw [c2 _ (by omega)]; show B (b + 1 + 3) k = _; rw [b5 k hk, rA _ (by omega)]
  · rw [c2 _ (by omega)]; show B (b + 1 + 4) k = _; rw [b6 k hk, rA _ (by omega)]
  · have hsl := sl42 (D43 := D 43) (D31 := D 31) (show j < 40 by omega) (hbk j hj)
    have far := ob_far2 h16 (by omega) (by omega) (by omega) hb0 hsl
    rw [hN7, n42 (show j < 40 by omega)] at far
    have f0 := far 0 5 (by omega) (by omega)
    have f2 := far 2 5 (by omega) (by omega)
    have f3 := far 3 5 (by omega) (by omega)
    have f4 := far 4 5 (by omega) (by omega)
    have f5 := far 5 5 (by omega) (by omega)
    rw [c3 j i hj hi, b2 _ (by omega) (by omega) (by omega) (by omega), rA _ (by omega)]
theorem mi_eq (M : JI) (L : JL) (G D : JG) (S : JS) : ∃ q : JI × JL × JG × JG × JS, fX5_init (S).length (j_clr M (S).length 0) (j_clr L (S).length 0) (j_clr G (S).length none) (j_clr D (S).length none) (S ++ [(5, 6)]) = some q ∧ (∀ a, a < S.length → q.1 a = M a) ∧ (∀ a, a < S.length → q.2.1 a = L a) ∧ (∀ a, a < S.length → q.2.2.2.1 a = D a) ∧ q.2.2.2.2 = S ++ [(5, 6), (1, 4), (20, 192), (20, 12), (20, 16), (20, 16), (20, 760)] ∧ q.1 S.length 2 = nI 0 := by
  have hS : (((((((S ++ [(5, 6)]) ++ [(1, 4)]) ++ [(20, 192)]) ++ [(20, 12)]) ++ [(20, 16)]) ++ [(20, 16)]) : JS) = S ++ [(5, 6), (1, 4), (20, 192), (20, 12), (20, 16), (20, 16)] := by simp
  have g1 : (((((((S ++ [(5, 6)]) ++ [(1, 4)]) ++ [(20, 192)]) ++ [(20, 12)]) ++ [(20, 16)]) ++ [(20, 16)]) : JS)[(S).length]? = some (5, 6) := by
    rw [hS, List.getElem?_append_right (Nat.le_refl _), Nat.sub_self]; rfl
  have g2 : (((((((S ++ [(5, 6)]) ++ [(1, 4)]) ++ [(20, 192)]) ++ [(20, 12)]) ++ [(20, 16)]) ++ [(20, 16)]) : JS)[(S ++ [(5, 6)]).length]? = some (1, 4) := by
    rw [hS, List.length_append, List.getElem?_append_right (by omega), Nat.add_sub_cancel_left]; rfl
  unfold fX5_init fX1_init
  simp only [Option.bind_some]
  rw [jg_d g1, jg_d g2]
  refine ⟨_, rfl, ?_, ?_, ?_, ?_, ?_⟩
  · intro a ha
    simp only [List.length_append, List.length_cons, List.length_nil]
    rw [jc_row _ _ (by omega), jc_row _ _ (by omega), jc_row _ _ (by omega), jc_row _ _ (by omega), jc_row _ _ (by omega), jc_row _ _ (by omega), jc_row _ _ (by omega)]
  · intro a ha
    simp only [List.length_append, List.length_cons, List.length_nil]
    rw [jc_row _ _ (by omega), jc_row _ _ (by omega)]
  · intro a ha
    simp only [List.length_append, List.length_cons, List.length_nil]
    rw [jc_row _ _ (by omega), jc_row _ _ (by omega)]
  · simp
  · simp only [List.length_append, List.length_cons, List.length_nil]
    rw [jc_row _ _ (by omega), jc_row _ _ (by omega), jc_row _ _ (by omega), jc_row _ _ (by omega), jc_row _ _ (by omega), jc_row _ _ (by omega), jc_at]; rfl
