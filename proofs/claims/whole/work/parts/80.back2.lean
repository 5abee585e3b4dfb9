theorem rs49_loop {n0 : Nat} {M0 : JI} {D : JG} {S : JS} {b u m : Nat} (h16 : vOb n0 (D 42) (D 43) (D 31) S) {s0 : Nat} (hs0 : 40 ≤ s0) (hs0' : s0 < 44) (hb0 : slA (D 42) (D 43) (D 31) s0 = some b) (hm : m ≤ 40) (e5 : M0 b 5 = nI m) (bk : Nat → Nat) (hbk : ∀ k, k < m → D 42 k = some (bk k)) : ∀ d k, k + d = m → ∀ n, d < n → ∀ M : JI, (∀ a, (∀ j, j < k → a ≠ bk j + 5) → M a = M0 a) → (∀ j i, j < k → i < 19 → M (bk j + 5) i = M0 (b + 6) (19 * j + i)) → ∃ M', fX5_restore_49 b u n (nI k) M D S = some M' ∧ (∀ a, (∀ j, j < m → a ≠ bk j + 5) → M' a = M0 a) ∧ ∀ j i, j < m → i < 19 → M' (bk j + 5) i = M0 (b + 6) (19 * j + i) := by
  have hN7 : slN s0 = 7 := by unfold slN; rw [if_neg (by omega), if_pos (by omega)]
  have hsl : ∀ k, k < m → slA (D 42) (D 43) (D 31) k = some (bk k) := fun k hk => sl42 (show k < 40 by omega) (hbk k hk)
  have fmk : ∀ k i, k < m → i < 7 → bk k + 5 ≠ b + i := fun k i hk hi => by
    have far := ob_far2 h16 (by omega) (by omega) (by omega) hb0 (hsl k hk)
    rw [hN7, n42 (show k < 40 by omega)] at far
    exact far i 5 hi (by omega)
  have fkk : ∀ j k, j < m → k < m → j ≠ k → bk j + 5 ≠ bk k + 5 := fun j k hj hk hne => by
    have far := ob_far2 h16 (by omega) (by omega) hne (hsl k hk) (hsl j hj)
    rw [n42 (show k < 40 by omega), n42 (show j < 40 by omega)] at far
    exact far 5 5 (by omega) (by omega)
  intro d
  induction d with
  | zero =>
    intro k hk n hn M h1 h2
    obtain ⟨n', rfl⟩ := suc_of hn
    have : k = m := by omega
    subst this
    refine ⟨M, ?_, h1, h2⟩
    rw [fX5_restore_49, h1 b (fun j hj => by have := fmk j 0 hj (by omega); omega), e5, if_pos (nI_le (Nat.le_refl _) (by omega))]
  | succ d ih =>
    intro k hk n hn M h1 h2
    obtain ⟨n', rfl⟩ := suc_of hn
    have e1 : nI k + (1 : Int32) = nI (k + 1) := nI_1 k
    have e19 : nI k * (19 : Int32) = nI (19 * k) := by show nI k * nI 19 = _; rw [pk_mul, Nat.mul_comm]
    have c0 : (0 : Int32).toNatClampNeg = 0 := by decide
    have c19 : (19 : Int32).toNatClampNeg = 19 := by decide
    have hbk' := hbk k (by omega)
    have hS : S[bk k]? = some (7, 9) := by
      rw [(h16.2.2.2.1 k _ (by omega) (hsl k (by omega))).2.2]; unfold slS; rw [if_pos (by omega)]
    have f6 := fmk k 6 (by omega) (by omega)
    rw [fX5_restore_49, h1 b (fun j hj => by have := fmk j 0 (by omega) (by omega); omega), e5, if_neg (nI_ge (by omega) (by omega)), if_neg (show ¬ (40 : Int32) ≤ nI k from nI_ge (b := 40) (by omega) (by omega)), jg_in (by omega) (by decide), nI_clamp (by omega), hbk', jo_s, jg_d hS, jg_in (by omega) (by decide), jo_s, jg_d hS, jg_d (show ¬ b + 6 = bk k + 5 from fun e => f6 e.symm), e19, c0, c19, nI_clamp (by omega), jg_d (show ¬ nI (19 * k) < 0 ∧ ¬ (0 : Int32) < 0 ∧ ¬ (19 : Int32) < 0 ∧ 19 * k + 19 ≤ 760 ∧ 0 + 19 ≤ 19 from ⟨nI_pos (by omega), by decide, by decide, by omega, by omega⟩), e1]
    refine ih (k + 1) (by omega) n' (by omega) _ (fun a ha => by rw [jp_row _ (ha k (by omega)), h1 a (fun j hj => ha j (by omega))]) (fun j i hj hi => ?_)
    by_cases e : j = k
    · subst e
      rw [jp_at]
      show (if 0 ≤ i ∧ i < 0 + 19 then M (b + 6) (19 * j + (i - 0)) else M (bk j + 5) i) = _
      rw [if_pos (by omega), h1 (b + 6) (fun j' hj' => fun e => fmk j' 6 (by omega) (by omega) e.symm), Nat.sub_zero]
    · rw [jp_row _ (fkk j k (by omega) (by omega) e)]
      exact h2 j i (by omega) hi
theorem gb59_loop {n0 : Nat} {M0 : JI} {D : JG} {S : JS} {b m : Nat} (h16 : vOb n0 (D 42) (D 43) (D 31) S) (hm : m < 4) (hb : D 43 m = some b) (ld : Nat → Nat) (hld : ∀ j, j < 4 → ld j < 2 ^ 31 ∧ ∀ bj, D 43 j = some bj → M0 bj 2 = nI (ld j)) : ∀ d k, k + d = 4 → ∀ n, d < n → ∀ M : JI, (∀ a, (∀ j bj, j < k → D 43 j = some bj → a ≠ bj) → M a = M0 a) → (∀ j bj i, j < k → D 43 j = some bj → i ≠ 2 → M bj i = M0 bj i) → (∀ j bj, j < k → D 43 j = some bj → M bj 2 = nI (if ld j ≤ ld m then ld j else 0)) → ∃ M', fX11_goBack_59 n b (nI k) M D S = some (nI 1, M') ∧ (∀ a, (∀ j bj, j < 4 → D 43 j = some bj → a ≠ bj) → M' a = M0 a) ∧ (∀ j bj i, j < 4 → D 43 j = some bj → i ≠ 2 → M' bj i = M0 bj i) ∧ ∀ j bj, j < 4 → D 43 j = some bj → M' bj 2 = nI (if ld j ≤ ld m then ld j else 0) := by
  have fjj : ∀ j j' bj bj', j < 4 → j' < 4 → j ≠ j' → D 43 j = some bj → D 43 j' = some bj' → bj ≠ bj' := fun j j' bj bj' hj hj' hne h1 h2 => by
    have far := ob_far2 h16 (by omega) (by omega) (show 40 + j ≠ 40 + j' by omega) (sl43 hj' h2) (sl43 hj h1)
    rw [n43 hj, n43 hj'] at far
    have := far 0 0 (by omega) (by omega)
    omega
  intro d
  induction d with
  | zero =>
    intro k hk n hn M h1 h2 h3
    obtain ⟨n', rfl⟩ := suc_of hn
    have : k = 4 := by omega
    subst this
    exact ⟨M, by rw [fX11_goBack_59, if_pos (by decide)]; rfl, h1, h2, h3⟩
  | succ d ih =>
    intro k hk n hn M h1 h2 h3
    obtain ⟨n', rfl⟩ := suc_of hn
    have e1 : nI k + (1 : Int32) = nI (k + 1) := nI_1 k
    rw [fX11_goBack_59, if_neg (show ¬ (4 : Int32) ≤ nI k from nI_ge (b := 4) (by omega) (by omega)), jg_in (by omega) (by decide), nI_clamp (by omega), e1]
    cases hd : D 43 k with
    | none =>
      rw [jo_n]
      refine ih (k + 1) (by omega) n' (by omega) M (fun a ha => h1 a (fun j bj hj hbj => ha j bj (by omega) hbj)) (fun j bj i hj hbj hi => ?_) (fun j bj hj hbj => ?_)
      · by_cases e : j = k
        · subst e; rw [hd] at hbj; exact absurd hbj (by simp)
        · exact h2 j bj i (by omega) hbj hi
      · by_cases e : j = k
        · subst e; rw [hd] at hbj; exact absurd hbj (by simp)
        · exact h3 j bj (by omega) hbj
    | some bk =>
      have hS : S[bk]? = some (5, 6) := by
        rw [(h16.2.2.2.1 (40 + k) bk (by omega) (sl43 (by omega) hd)).2.2]; unfold slS; rw [if_neg (by omega), if_pos (by omega)]
      have eK : M bk 2 = nI (ld k) := by
        rw [h1 bk (fun j bj hj hbj => fjj k j bk bj (by omega) (by omega) (by omega) hd hbj)]
        exact (hld k (by omega)).2 bk hd
      have eM : M b 2 = nI (ld m) := by
        by_cases c : m < k
        · rw [h3 m b c hb, if_pos (Nat.le_refl _)]
        · rw [h1 b (fun j bj hj hbj => fjj m j b bj hm (by omega) (by omega) hb hbj)]
          exact (hld m hm).2 b hb
      have b1 := (hld k (by omega)).1
      have b2 := (hld m hm).1
      rw [jo_s, jg_d hS, jg_in (by omega) (by decide), jo_s, jg_d hS, eK, eM]
      by_cases c : ld k ≤ ld m
      · rw [if_pos (nI_le c b2)]
        refine ih (k + 1) (by omega) n' (by omega) M (fun a ha => h1 a (fun j bj hj hbj => ha j bj (by omega) hbj)) (fun j bj i hj hbj hi => ?_) (fun j bj hj hbj => ?_)
        · by_cases e : j = k
          · subst e
            rw [hd] at hbj
            cases hbj
            rw [h1 bk (fun j' bj hj' hbj => fjj j j' bk bj (by omega) (by omega) (by omega) hd hbj)]
          · exact h2 j bj i (by omega) hbj hi
        · by_cases e : j = k
          · subst e
            rw [hd] at hbj
            cases hbj
            rw [if_pos c]; exact eK
          · exact h3 j bj (by omega) hbj
      · rw [if_neg (nI_ge (by omega) b1), jg_in (by omega) (by decide), jo_s, jg_d hS]
        refine ih (k + 1) (by omega) n' (by omega) _ (fun a ha => by rw [ju_row _ _ (ha k bk (by omega) hd), h1 a (fun j bj hj hbj => ha j bj (by omega) hbj)]) (fun j bj i hj hbj hi => ?_) (fun j bj hj hbj => ?_)
        · rw [j_up_ne _ _ (fun x => hi x.2)]
          by_cases e : j = k
          · subst e
            rw [hd] at hbj
            cases hbj
            rw [h1 bk (fun j' bj hj' hbj => fjj j j' bk bj (by omega) (by omega) (by omega) hd hbj)]
          · exact h2 j bj i (by omega) hbj hi
        · by_cases e : j = k
          · subst e
            rw [hd] at hbj
            cases hbj
            rw [ju_same, if_neg c]; rfl
          · rw [ju_row _ _ (fjj j k bj bk (by omega) (by omega) e hbj hd)]
            exact h3 j bj (by omega) hbj
/-- going back, the class's side -/
theorem gb_eq {n0 : Nat} {M : JI} {D : JG} {S : JS} {b m pm dn : Nat} {h hm : Nat → Nat → Nat} (h16 : vOb n0 (D 42) (D 43) (D 31) S) (hmm : m < 4) (hb : D 43 m = some b) (ld : Nat → Nat) (hld : ∀ j, j < 4 → ld j < 2 ^ 31 ∧ ∀ bj, D 43 j = some bj → M bj 2 = nI (ld j)) (hne : ld m ≠ 0) (hpm : pm ≤ 40) (e5 : M b 5 = nI pm) (e4 : M b 4 = nI dn) (bk : Nat → Nat) (hbk : ∀ k, k < pm → D 42 k = some (bk k)) (h3 : vHd (M 8) (M 9) (M 10) (M 11) h) (hh : ∀ p q, p < 12 → q < 16 → h p q ≤ 12) (hmh : ∀ p q, p < 12 → q < 16 → M (b + 2) (16 * p + q) = nI (hm p q)) (hmb : ∀ p q, p < 12 → q < 16 → hm p q ≤ 12) :
    ∃ M', fX11_goBack (nI m) M D S = some (nI 1, M') ∧ (∀ a, a ≠ 0 → a ≠ 1 → (a < 8 ∨ 11 < a) → (∀ j, j < pm → a ≠ bk j + 5) → (∀ j bj, j < 4 → D 43 j = some bj → a ≠ bj) → M' a = M a) ∧ (∀ k, k ≠ 12 → M' 0 k = M 0 k) ∧ M' 0 12 = nI pm ∧ (∀ k, k ≠ 8 → k ≠ 9 → M' 1 k = M 1 k) ∧ M' 1 8 = nI dn ∧ M' 1 9 = M 1 9 + nI 1 ∧ vHd (M' 8) (M' 9) (M' 10) (M' 11) (fun p q => if bt (M b 3) p = true then hm p q else h p q) ∧ (∀ j i, j < pm → i < 19 → M' (bk j + 5) i = M (b + 6) (19 * j + i)) ∧ (∀ j bj i, j < 4 → D 43 j = some bj → i ≠ 2 → M' bj i = M bj i) ∧ ∀ j bj, j < 4 → D 43 j = some bj → M' bj 2 = nI (if ld j ≤ ld m then ld j else 0) := by
  have hsl := sl43 (D42 := D 42) (D31 := D 31) hmm hb
  have hslot := h16.2.2.2.1 (40 + m) b (by omega) hsl
  have h137 : 137 ≤ b := hslot.1
  have hSb : S[b]? = some (5, 6) := by rw [hslot.2.2]; unfold slS; rw [if_neg (by omega), if_pos (by omega)]
  have em : (nI m).toNatClampNeg = m := nI_clamp (by omega)
  have m137 : ∀ j bj, j < 4 → D 43 j = some bj → 137 ≤ bj := fun j bj hj hbj => (h16.2.2.2.1 (40 + j) bj (by omega) (sl43 hj hbj)).1
  have k137 : ∀ k, k < pm → 137 ≤ bk k := fun k hk => (h16.2.2.2.1 k _ (by omega) (sl42 (by omega) (hbk k hk))).1
  generalize hMa : j_up (j_up M 1 9 (M 1 9 + nI 1)) 1 8 (nI dn) = Ma
  have ra : ∀ a, a ≠ 1 → Ma a = M a := fun a ha => by rw [← hMa, ju_row _ _ ha, ju_row _ _ ha]
  obtain ⟨Mb, b1, b2, b3⟩ := rs11_loop (n0 := 0) (b := b) (u := 7) (hm := hm) (D := D) (S := S) h137 hmb (tb := M b 3) 12 0 (by omega) 100000 (by omega) Ma h (by rw [ra b (by omega)]) (by rw [ra 8 (by omega), ra 9 (by omega), ra 10 (by omega), ra 11 (by omega)]; exact h3) hh (by rw [ra (b + 2) (by omega)]; exact hmh)
  have rb : ∀ a, a ≠ 1 → (a < 8 ∨ 11 < a) → Mb a = M a := fun a a1 a2 => by rw [b2 a a2, ra a a1]
  obtain ⟨Mc, c1, c2, c3⟩ := rs49_loop (u := 7) h16 (show 40 ≤ 40 + m by omega) (by omega) hsl hpm (M0 := Mb) (by rw [rb b (by omega) (by omega)]; exact e5) bk hbk pm 0 (by omega) 100000 (by omega) Mb (fun _ _ => rfl) (fun j i hj => absurd hj (by omega))
  have fmk : ∀ j bj k, j < 4 → D 43 j = some bj → k < pm → ∀ i, i < 7 → bj + i ≠ bk k + 5 := fun j bj k hj hbj hk i hi => by
    have far := ob_far2 h16 (by omega) (by omega) (show 40 + j ≠ k by omega) (sl42 (show k < 40 by omega) (hbk k hk)) (sl43 hj hbj)
    rw [n43 hj, n42 (show k < 40 by omega)] at far
    exact far 5 i (by omega) hi
  generalize hMd : j_up Mc 0 12 (nI pm) = Md
  have rd : ∀ a, a ≠ 0 → Md a = Mc a := fun a ha => by rw [← hMd, ju_row _ _ ha]
  have rmk : ∀ j bj i, j < 4 → D 43 j = some bj → i < 7 → Md (bj + i) = M (bj + i) := fun j bj i hj hbj hi => by
    have := m137 j bj hj hbj
    rw [rd _ (by omega), c2 _ (fun k hk => fmk j bj k hj hbj hk i hi), rb _ (by omega) (by omega)]
  obtain ⟨Me, g1, g2, g3, g4⟩ := gb59_loop h16 hmm hb ld (M0 := Md) (fun j hj => ⟨(hld j hj).1, fun bj hbj => by
    have := rmk j bj 0 hj hbj (by omega)
    rw [Nat.add_zero] at this
    rw [this]; exact (hld j hj).2 bj hbj⟩) 4 0 (by omega) 100000 (by omega) Md (fun _ _ => rfl) (fun j bj i hj => absurd hj (by omega)) (fun j bj hj => absurd hj (by omega))
  have low : ∀ a, a < 137 → Me a = Md a := fun a ha => g2 a (fun j bj hj hbj => by have := m137 j bj hj hbj; omega)
  have lowc : ∀ a, a < 137 → Mc a = Mb a := fun a ha => c2 a (fun j hj => by have := k137 j hj; omega)
  refine ⟨Me, ?_, fun a a1 a2 a3 a4 a5 => ?_, fun k hk => ?_, ?_, fun k k1 k2 => ?_, ?_, ?_, ?_, fun j i hj hi => ?_, fun j bj i hj hbj hi => ?_, g4⟩
  · unfold fX11_goBack fX5_restore
    have e2 : ¬ M b 2 = 0 := by rw [(hld m hmm).2 b hb]; exact nI_ne0 (by omega) (hld m hmm).1
    have e94 : (j_up M 1 9 (M 1 9 + (1 : Int32))) b 4 = nI dn := by rw [ju_row _ _ (by omega)]; exact e4
    have b1' : fX5_restore_11 b 7 100000 (0 : Int32) (j_up (j_up M 1 9 (M 1 9 + (1 : Int32))) 1 8 (nI dn)) D S = fX5_restore_46 b 7 Mb D S := by rw [← hMa] at b1; exact b1
    rw [jg_in hmm (by decide), em, hb, jo_s, jg_d hSb, if_neg e2, e94, b1']
    have c1' : fX5_restore_46 b 7 Mb D S = some Mc := by unfold fX5_restore_46; exact c1
    have eb5 : Mc b 5 = nI pm := by
      rw [c2 b (fun k hk => by have := fmk m b k hmm hb hk 0 (by omega); omega), rb b (by omega) (by omega)]; exact e5
    rw [c1', Option.bind_some, eb5, hMd]
    exact g1
  · rw [g2 a a5, rd a a1, c2 a a4, rb a a2 a3]
  · rw [low 0 (by omega), ← hMd, ju_cell _ _ hk, lowc 0 (by omega), rb 0 (by omega) (by omega)]
  · rw [low 0 (by omega), ← hMd, ju_same]
  · rw [low 1 (by omega), rd 1 (by omega), lowc 1 (by omega), b2 1 (by omega), ← hMa, ju_cell _ _ k1, ju_cell _ _ k2]
  · rw [low 1 (by omega), rd 1 (by omega), lowc 1 (by omega), b2 1 (by omega), ← hMa, ju_same]
  · rw [low 1 (by omega), rd 1 (by omega), lowc 1 (by omega), b2 1 (by omega), ← hMa, ju_cell _ _ (by omega), ju_same]
  · rw [low 8 (by omega), low 9 (by omega), low 10 (by omega), low 11 (by omega), rd 8 (by omega), rd 9 (by omega), rd 10 (by omega), rd 11 (by omega), lowc 8 (by omega), lowc 9 (by omega), lowc 10 (by omega), lowc 11 (by omega)]
    refine vHd_cong (fun p q _ _ => ?_) b3
    by_cases c : bt (M b 3) p = true
    · rw [if_pos c, if_pos ⟨by omega, c⟩]
    · rw [if_neg c, if_neg (fun h => c h.2)]
  · rw [g2 _ (fun j' bj hj' hbj => fun e => by have := fmk j' bj j hj' hbj hj 0 (by omega); omega), rd _ (by have := k137 j hj; omega), c3 j i hj hi, rb _ (by omega) (by omega)]
  · have := rmk j bj 0 hj hbj (by omega)
    rw [Nat.add_zero] at this
    rw [g3 j bj i hj hbj hi, this]
