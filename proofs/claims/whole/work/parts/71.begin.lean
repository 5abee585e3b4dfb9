theorem b01_b01 (x : Int32) : jm_b01 (jm_b01 x) = jm_b01 x := by
  unfold jm_b01
  by_cases c : x = 0
  · rw [if_pos c, if_pos rfl]
  · rw [if_neg c, if_neg (by decide)]
theorem bg_eq {M : JI} {D : JG} {S : JS} {X b : Nat} {h : Nat → Nat → Nat} {ln p f g : Nat} {E : Nat → (Nat → Int32) → Int32} {now : Int32} (hX : X = 44 ∨ X = 55) (h137 : 137 ≤ b) (d5 : D 15 5 = some X) (d6 : D 15 6 = some 7) (s1 : S[X]? = some (4, 17)) (s2 : S[7]? = some (1, 4)) (hln : ln ≤ 18) (hp : p < 12) (hg : g < 16) {sh : Bool} (hsh : jm_b01 (M X 16) = bI sh) (h3 : vHd (M 8) (M 9) (M 10) (M 11) h) (h4 : vSide (M 2) (M 3) (M 69)) (h5 : vWet (M 4) (M 70)) (hl : ∀ i, i < ln → LWl X M E i) (q0 : M 14 0 = nI p) (q2 : M 14 2 = nI g) {may : Nat → Bool} {lf : Nat → Nat} (hbits : ∀ i, bt (M 15 9) i = (decide (i < 16) && may i)) (hmay : ∀ q, q < 16 → may q = true → lf q < ln ∧ M 75 (lf q) = nI 0 ∧ M 19 q = nI (lf q) ∧ 0 < wtS (M 69) (M 70) (M 71) h (M 77 (lf q)).toNatClampNeg p f q) (h19 : M 19 g = lnV ln (lf g)) :
    ∃ M', fX7_begin b 14 now M D S = some M' ∧ (∀ a, (a < b ∨ b + 5 < a) → M' a = M a) ∧ M' b 5 = now ∧ jm_b01 (M' b 6) = jm_b01 (M 15 8) ∧ M' b 7 = (if lf g < ln then M (X + 3) (lf g) else -nI 1) ∧ jm_b01 (M' b 8) = jm_b01 (M X 15) ∧ (∀ k, k < 7 → M' (b + 1) k = M 14 k) ∧ (∀ q, q < 16 → bgQ (M' (b + 2)) (M' (b + 3)) (M' (b + 4)) (M' (b + 5)) X M h p f sh may lf q) ∧ M' (b + 5) 16 = nI 0 ∧ M' (b + 5) 17 = -nI 1 ∧ M' (b + 5) 18 = M 14 6 := by
  have ta := tl_at M (b + 1) (M 14 0) (M 14 1) (M 14 2) (M 14 3) (M 14 4) (M 14 5) (M 14 6)
  have tr : ∀ a, a ≠ b + 1 → tlM M (b + 1) (M 14 0) (M 14 1) (M 14 2) (M 14 3) (M 14 4) (M 14 5) (M 14 6) a = M a := fun a ha => tl_row M _ _ _ _ _ _ _ ha
  have hcp : fX0_copyAll (b + 1) 14 M = some (tlM M (b + 1) (M 14 0) (M 14 1) (M 14 2) (M 14 3) (M 14 4) (M 14 5) (M 14 6)) := rfl
  generalize tlM M (b + 1) (M 14 0) (M 14 1) (M 14 2) (M 14 3) (M 14 4) (M 14 5) (M 14 6) = Mq at ta tr hcp
  have e158 : (j_up Mq b 5 now) 15 8 = M 15 8 := by rw [ju_row _ _ (by omega), tr 15 (by omega)]
  generalize hMr : j_up (j_up Mq b 5 now) b 6 (jm_b01 (M 15 8)) = Mr
  have rr : ∀ a, a ≠ b → a ≠ b + 1 → Mr a = M a := by
    intro a a1 a2
    rw [← hMr, ju_row _ _ a1, ju_row _ _ a1, tr a a2]
  have hrk : fX3_rankBy (nI g) Mr D S = some (if lf g < ln then M (X + 3) (lf g) else -nI 1) := by
    unfold fX3_rankBy
    rw [jg_in hg (by decide), nI_clamp (by omega), rr 19 (by omega) (by omega), h19, li_1]
    unfold lnV
    by_cases c : lf g < ln
    · rw [if_pos c, if_pos c, if_neg (by rw [nm_ne (by omega)]; simp), d5, jo_s, jg_d s1, jg_in hg (by decide), jg_in (by omega) (by decide), nI_clamp (by omega), rr (X + 3) (by omega) (by omega)]
    · rw [if_neg c, if_neg c, if_pos rfl]
  generalize hrv : (if lf g < ln then M (X + 3) (lf g) else -nI 1) = rv at hrk ⊢
  have eX15 : (j_up Mr b 7 rv) X 15 = M X 15 := by rw [ju_row _ _ (by omega), rr X (by omega) (by omega)]
  generalize hM0 : j_up (j_up Mr b 7 rv) b 8 (jm_b01 (M X 15)) = M0
  have r0 : ∀ a, a ≠ b → a ≠ b + 1 → M0 a = M a := by
    intro a a1 a2
    rw [← hM0, ju_row _ _ a1, ju_row _ _ a1, rr a a1 a2]
  have r1 : M0 (b + 1) = Mq (b + 1) := by
    rw [← hM0, ju_row _ _ (by omega), ju_row _ _ (by omega), ← hMr, ju_row _ _ (by omega), ju_row _ _ (by omega)]
  have emb : lwMb M0 = lwMb M := by funext i; unfold lwMb; rw [r0 76 (by omega) (by omega)]
  have eff : lwFf M0 = lwFf M := by funext i; unfold lwFf; rw [emb, r0 75 (by omega) (by omega)]
  have hl0 : ∀ i, i < ln → LWl X M0 E i := by
    intro i hi
    have hh := hl i hi
    unfold LWl kdR cE at hh ⊢
    rw [eff, r0 75 (by omega) (by omega), r0 76 (by omega) (by omega), r0 77 (by omega) (by omega), r0 78 (by omega) (by omega), r0 80 (by omega) (by omega), r0 (X + 1) (by omega) (by omega), r0 (X + 3) (by omega) (by omega), r0 (X + 4) (by omega) (by omega), r0 (X + 5) (by omega) (by omega), r0 (X + 7) (by omega) (by omega), r0 (X + 8) (by omega) (by omega), r0 (X + 9) (by omega) (by omega), r0 (X + 10) (by omega) (by omega)]
    exact hh
  obtain ⟨M', g1, g2, g3⟩ := bg_loop (M0 := M0) (u2 := 14) (h := h) (p := p) (f := f) (E := E) hX h137 d5 d6 s1 s2 hln hp (by rw [r0 X (by omega) (by omega)]; exact hsh) (by rw [r0 8 (by omega) (by omega), r0 9 (by omega) (by omega), r0 10 (by omega) (by omega), r0 11 (by omega) (by omega)]; exact h3) (by rw [r0 2 (by omega) (by omega), r0 3 (by omega) (by omega), r0 69 (by omega) (by omega)]; exact h4) (by rw [r0 4 (by omega) (by omega), r0 70 (by omega) (by omega)]; exact h5) hl0 (by rw [r1, ta.1]; exact q0) (may := may) (lf := lf) (by rw [r0 15 (by omega) (by omega)]; exact hbits) (by
    rw [r0 75 (by omega) (by omega), r0 19 (by omega) (by omega), r0 69 (by omega) (by omega), r0 70 (by omega) (by omega), r0 71 (by omega) (by omega), r0 77 (by omega) (by omega)]; exact hmay) 16 0 (by omega) 100000 (by omega) M0 (fun a _ _ _ _ => rfl) (fun q hq => absurd hq (by omega))
  have c16 : (16 : Int32).toNatClampNeg = 16 := by decide
  have c17 : (17 : Int32).toNatClampNeg = 17 := by decide
  have c18 : (18 : Int32).toNatClampNeg = 18 := by decide
  have g16 : ∀ {α : Type} (z : Option α), j_g (j_in (16 : Int32) 19) z = z := fun z => jg_in (k := 16) (by omega) (by decide)
  have g17 : ∀ {α : Type} (z : Option α), j_g (j_in (17 : Int32) 19) z = z := fun z => jg_in (k := 17) (by omega) (by decide)
  have g18 : ∀ {α : Type} (z : Option α), j_g (j_in (18 : Int32) 19) z = z := fun z => jg_in (k := 18) (by omega) (by decide)
  have e146 : (j_up (j_up M' (b + 5) 16 (0 : Int32)) (b + 5) 17 (-1 : Int32)) 14 6 = M 14 6 := by
    rw [ju_row _ _ (by omega), ju_row _ _ (by omega), g2 14 (by omega) (by omega) (by omega) (by omega), r0 14 (by omega) (by omega)]
  have gb : ∀ a, a ≠ b + 2 → a ≠ b + 3 → a ≠ b + 4 → a ≠ b + 5 → M' a = M0 a := g2
  refine ⟨j_up (j_up (j_up M' (b + 5) 16 (nI 0)) (b + 5) 17 (-nI 1)) (b + 5) 18 (M 14 6), ?_, fun a ha => ?_, ?_, ?_, ?_, ?_, fun k hk => ?_, fun q hq => ?_, ?_, ?_, ju_same _ _ _ _⟩
  · unfold fX7_begin
    rw [hcp, Option.bind_some, e158]
    have e142 : (j_up (j_up Mq b 5 now) b 6 (jm_b01 (M 15 8))) 14 2 = nI g := by
      rw [ju_row _ _ (by omega), ju_row _ _ (by omega), tr 14 (by omega)]; exact q2
    rw [e142, hMr, hrk, Option.bind_some, d5, jo_s, jg_d s1, eX15, hM0]
    refine Eq.trans g1 ?_
    unfold fX7_begin_95
    rw [g16, g17, g18, c16, c17, c18, e146]; rfl
  · rw [ju_row _ _ (by omega), ju_row _ _ (by omega), ju_row _ _ (by omega), gb a (by omega) (by omega) (by omega) (by omega), r0 a (by omega) (by omega)]
  · rw [ju_row _ _ (by omega), ju_row _ _ (by omega), ju_row _ _ (by omega), gb b (by omega) (by omega) (by omega) (by omega), ← hM0, ju_cell _ _ (by omega), ju_cell _ _ (by omega), ← hMr, ju_cell _ _ (by omega), ju_same]
  · rw [ju_row _ _ (by omega), ju_row _ _ (by omega), ju_row _ _ (by omega), gb b (by omega) (by omega) (by omega) (by omega), ← hM0, ju_cell _ _ (by omega), ju_cell _ _ (by omega), ← hMr, ju_same, b01_b01]
  · rw [ju_row _ _ (by omega), ju_row _ _ (by omega), ju_row _ _ (by omega), gb b (by omega) (by omega) (by omega) (by omega), ← hM0, ju_cell _ _ (by omega), ju_same]
  · rw [ju_row _ _ (by omega), ju_row _ _ (by omega), ju_row _ _ (by omega), gb b (by omega) (by omega) (by omega) (by omega), ← hM0, ju_same, b01_b01]
  · rw [ju_row _ _ (by omega), ju_row _ _ (by omega), ju_row _ _ (by omega), gb (b + 1) (by omega) (by omega) (by omega) (by omega), r1]
    have hk7 : k = 0 ∨ k = 1 ∨ k = 2 ∨ k = 3 ∨ k = 4 ∨ k = 5 ∨ k = 6 := by omega
    rcases hk7 with rfl | rfl | rfl | rfl | rfl | rfl | rfl
    · exact ta.1
    · exact ta.2.1
    · exact ta.2.2.1
    · exact ta.2.2.2.1
    · exact ta.2.2.2.2.1
    · exact ta.2.2.2.2.2.1
    · exact ta.2.2.2.2.2.2
  · have := g3 q hq
    unfold bgQ at this ⊢
    rw [r0 (X + 3) (by omega) (by omega), r0 (X + 6) (by omega) (by omega), r0 69 (by omega) (by omega), r0 70 (by omega) (by omega), r0 71 (by omega) (by omega), r0 77 (by omega) (by omega)] at this
    rw [ju_row _ _ (show b + 2 ≠ b + 5 by omega), ju_row _ _ (show b + 2 ≠ b + 5 by omega), ju_row _ _ (show b + 2 ≠ b + 5 by omega), ju_row _ _ (show b + 3 ≠ b + 5 by omega), ju_row _ _ (show b + 3 ≠ b + 5 by omega), ju_row _ _ (show b + 3 ≠ b + 5 by omega), ju_row _ _ (show b + 4 ≠ b + 5 by omega), ju_row _ _ (show b + 4 ≠ b + 5 by omega), ju_row _ _ (show b + 4 ≠ b + 5 by omega), ju_cell _ _ (show q ≠ 18 by omega), ju_cell _ _ (show q ≠ 17 by omega), ju_cell _ _ (show q ≠ 16 by omega)]
    exact this
  · rw [ju_cell _ _ (by omega), ju_cell _ _ (by omega), ju_same]
  · rw [ju_cell _ _ (by omega), ju_same]
/-- a new passing behind the others -/
theorem ps_new {n : Nat} {M M2 : JI} {D : JG} {S : JS} {m b : Nat} {c0 c66 : Int32} (h13 : vPs c0 c66 (rg pP M) (rg pD M) (D 42)) (h16 : vOb n (D 42) (D 43) (D 31) S) (hm : m < 40) (ec0 : c0 = nI m) (hb : D 42 m = some b) (h137 : 137 ≤ b) (f1 : ∀ a, 137 ≤ a → (a < b ∨ b + 5 < a) → M2 a = M a) (f2 : ∀ a j, 96 ≤ a → a ≤ 108 → j ≠ m → M2 a j = M a j) (f3 : ∀ a j q, 109 ≤ a → a ≤ 113 → j ≠ m → q < 16 → M2 a (16 * j + q) = M a (16 * j + q)) (self : vP1 m (M2 b) (M2 (b + 1)) (M2 (b + 2)) (M2 (b + 3)) (M2 (b + 4)) (M2 (b + 5)) M2) :
    vPs (nI (m + 1)) (nI (m + 1)) (rg pP M2) (rg pD M2) (D 42) ∧ (∀ t c c' J, vHo t c c' J (rg pD M) (D 31) → vHo t c c' J (rg pD M2) (D 31)) ∧ ∀ n c c' t J, vMk n c c' (nI m) t J (rg pD M) (D 43) → vMk n c c' (nI (m + 1)) t J (rg pD M2) (D 43) := by
  have row : ∀ a, 137 ≤ a → (a < b ∨ b + 5 < a) → rg pD M2 a = rg pD M a := fun a h h' => by rw [rgD_at h, rgD_at h, f1 a h h']
  obtain ⟨m', hm', e0, e66, hp⟩ := h13
  have : m' = m := by
    rw [ec0] at e0
    exact ((nI_eq (by omega) (by omega)).mp e0).symm
  subst this
  refine ⟨?_, ?_, ?_⟩
  · refine ⟨m' + 1, by omega, rfl, rfl, fun j hj => ?_⟩
    by_cases hjk : j = m'
    · subst hjk
      refine ⟨b, hb, h137, ?_⟩
      rw [rgD_at h137, rgD_at (by omega), rgD_at (by omega), rgD_at (by omega), rgD_at (by omega), rgD_at (by omega)]
      exact vP1_J' self
    · obtain ⟨b', hb', h137', v⟩ := hp j (by omega)
      have far := ob_far h16 hm hb (s := j) (by omega) hjk (by unfold slA; rw [if_pos (by omega)]; exact hb')
      have e6 : slN j = 6 := by unfold slN; rw [if_pos (by omega)]
      rw [e6] at far
      have rw1 : ∀ i, i < 6 → rg pD M2 (b' + i) = rg pD M (b' + i) := fun i hi => row _ (by omega) (by
        have a0 := far 0 i (by omega) hi
        have a1 := far 1 i (by omega) hi
        have a2 := far 2 i (by omega) hi
        have a3 := far 3 i (by omega) hi
        have a4 := far 4 i (by omega) hi
        have a5 := far 5 i (by omega) hi
        omega)
      refine ⟨b', hb', h137', ?_⟩
      have r0 := rw1 0 (by omega)
      rw [Nat.add_zero] at r0
      rw [r0, rw1 1 (by omega), rw1 2 (by omega), rw1 3 (by omega), rw1 4 (by omega), rw1 5 (by omega)]
      exact vP1_J' (vP1_sameJ (fun a h1 h2 => f2 a j h1 h2 hjk) (fun a q h1 h2 hq => f3 a j q h1 h2 hjk hq) (vP1_J v))
  · rintro t c c' J ⟨mm, hmm, e0, e66, hp⟩
    refine ⟨mm, hmm, e0, e66, fun j hj => ?_⟩
    obtain ⟨b', hb', h137', v⟩ := hp j hj
    have far := ob_far h16 hm hb (s := 44 + j) (by omega) (by omega) (by unfold slA; rw [if_neg (by omega), if_neg (by omega), show 44 + j - 44 = j by omega]; exact hb')
    have e6 : slN (44 + j) = 1 := by unfold slN; rw [if_neg (by omega), if_neg (by omega)]
    rw [e6] at far
    refine ⟨b', hb', h137', ?_⟩
    rw [row b' h137' (by
      have a0 := far 0 0 (by omega) (by omega)
      have a1 := far 1 0 (by omega) (by omega)
      have a2 := far 2 0 (by omega) (by omega)
      have a3 := far 3 0 (by omega) (by omega)
      have a4 := far 4 0 (by omega) (by omega)
      have a5 := far 5 0 (by omega) (by omega)
      omega)]
    exact v
  · rintro n c c' t J ⟨l, hl, e0, e66, cP', hcP, ecP, ld, pm, hmk, hord⟩
    have hcm : cP' = m' := ((nI_eq (by omega) (by omega)).mp ecP).symm
    refine ⟨l, hl, e0, e66, m' + 1, by omega, rfl, ld, pm, fun j hj => ?_, hord⟩
    obtain ⟨a1, a2, a3, a4⟩ := hmk j hj
    refine ⟨a1, a2, a3, fun b' hb' => ?_⟩
    obtain ⟨c1, c2, c3⟩ := a4 b' hb'
    have far := ob_far h16 hm hb (s := 40 + j) (by omega) (by omega) (by unfold slA; rw [if_neg (by omega), if_pos (by omega), show 40 + j - 40 = j by omega]; exact hb')
    have e6 : slN (40 + j) = 7 := by unfold slN; rw [if_neg (by omega), if_pos (by omega)]
    rw [e6] at far
    have rw1 : ∀ i, i < 7 → rg pD M2 (b' + i) = rg pD M (b' + i) := fun i hi => row _ (by omega) (by
      have a0 := far 0 i (by omega) hi
      have a1 := far 1 i (by omega) hi
      have a2 := far 2 i (by omega) hi
      have a3 := far 3 i (by omega) hi
      have a4 := far 4 i (by omega) hi
      have a5 := far 5 i (by omega) hi
      omega)
    have r0 := rw1 0 (by omega)
    rw [Nat.add_zero] at r0
    refine ⟨c1, by rw [r0]; exact c2, fun hne => ⟨by have := (c3 hne).1; omega, ?_⟩⟩
    rw [r0, rw1 2 (by omega), rw1 3 (by omega), rw1 4 (by omega), rw1 5 (by omega), rw1 6 (by omega)]
    exact (c3 hne).2
