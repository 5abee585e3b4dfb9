theorem bspr_13 {U : BU} {a b s : Nat} {B : Bf} (hB : BI a b B) (hs : bm B s = true) (h13 : ∀ x, bm B x = true → 13 ≤ x) : BI a b (bspr U s B) ∧ EX B (bspr U s B) ∧ (∀ x, bm (bspr U s B) x = true → 13 ≤ x) ∧ ∀ k, bN B ≤ k → k < bN (bspr U s B) → bD (bspr U s B) (bQ (bspr U s B) k) = bD B s + 1 := by
  have hs13 := h13 s hs
  obtain ⟨s1, -⟩ := hB.2.2.1 s hs
  obtain ⟨p1, p2, -, -, p5, p6⟩ := btwo_ok (U := U) (m0 := s / 13 - 1) hB hs (by omega)
  have e : btryN U s 1 (s % 13) (btryN U s 0 (s / 13 - 1) B) = bspr U s B := rfl
  rw [e] at p1 p2 p5 p6
  refine ⟨p1, p2, fun x hx => ?_, p6⟩
  rcases p5 x hx with c | ⟨n, n1, n2, n3, -⟩ | ⟨n, n1, n2, n3, -⟩
  · exact h13 x c
  · unfold bto at n3
    rw [if_pos rfl] at n3
    omega
  · unfold bto at n3
    rw [if_neg (by decide)] at n3
    omega
theorem brun_step {U : BU} {n k : Nat} {B : Bf} (hk : k < bN B) (h13 : 13 ≤ bQ B k) (hn : ¬ fa_first (U 0 (bQ B k) (bQ B k / 13)) 3 < 3) : brun U (n + 1) k B = brun U n (k + 1) (bspr U (bQ B k) B) := by
  rw [brun, if_neg (by omega), if_neg (by omega), bpop_spr h13 hn]
theorem brun_end {U : BU} {a b : Nat} : ∀ d k i, k + d = i → ∀ n, 170 ≤ n + k → ∀ B, BI a b B → (∀ x, bm B x = true → 13 ≤ x) → i < bN B → fa_first (U 0 (bQ B i) (bQ B i / 13)) 3 < 3 → (∀ j, k ≤ j → j < i → ¬ fa_first (U 0 (bQ B j) (bQ B j / 13)) 3 < 3) → ∃ B', brun U n k B = (some (bQ B i % 13), B') ∧ EX B B' ∧ BI a b B' ∧ bm B' (bQ B i % 13) = true ∧ bS B' (bQ B i % 13) = bQ B i ∧ bV B' (bQ B i % 13) = 3 * (bQ B i / 13) + fa_first (U 0 (bQ B i) (bQ B i / 13)) 3 ∧ bD B' (bQ B i % 13) = bD B (bQ B i) + 1 := by
  intro d
  induction d with
  | zero =>
    intro k i hki n hn B hB h13 hi ho hno
    have hkk : k = i := by omega
    subst hkk
    have hN : bN B ≤ 169 := by rw [hB.1]; exact fb_ct_le _ _
    obtain ⟨n', rfl⟩ := suc_of (show 0 < n by omega)
    have hs := hB.2.1 k hi
    have hs13 := h13 _ hs
    generalize hsk : bQ B k = s at ho hs hs13 ⊢
    obtain ⟨s1, -⟩ := hB.2.2.1 s hs
    obtain ⟨c1, c2, c3, c4, c5⟩ := btryN_ok (U := U) (a := a) (b := b) (s := s) (w := 0) (by omega) (s / 13 - 1) hB hs (by unfold blim; rw [if_pos rfl]; omega)
    generalize hC : btryN U s 0 (s / 13 - 1) B = C at c1 c2 c3 c4 c5
    have hC13 : ∀ x, bm C x = true → 13 ≤ x := by
      intro x hx
      rcases c4 x hx with e | ⟨n, n1, n2, n3, -⟩
      · exact h13 x e
      · unfold bto at n3
        rw [if_pos rfl] at n3
        omega
    have hto : bto 0 s (s / 13) = s % 13 := by unfold bto; rw [if_pos rfl]; omega
    have hnm : bm C (s % 13) = false := by
      cases e : bm C (s % 13) with
      | false => rfl
      | true => exact absurd (hC13 _ e) (by omega)
    obtain ⟨hsC, -, -, hdC⟩ := c2.1 s hs
    obtain ⟨f1, f2, f3⟩ := bpush_ok (fm := fa_first (U 0 s (s / 13)) 3) c1 hsC (w := 0) (n := s / 13) (by omega) (by omega) (by unfold blim; rw [if_pos rfl]; exact Nat.le_refl _) ho (by rw [hto]; exact hnm)
    have hF : btryN U s 0 (s / 13) B = bpush C s 0 (s / 13) (fa_first (U 0 s (s / 13)) 3) := by
      have e : s / 13 = (s / 13 - 1) + 1 := by omega
      have e1 : btryN U s 0 (s / 13) B = btry U s 0 (s / 13) (btryN U s 0 (s / 13 - 1) B) := by
        have : ∀ m, m = (s / 13 - 1) + 1 → btryN U s 0 m B = btry U s 0 m (btryN U s 0 (s / 13 - 1) B) := by
          intro m hm; subst hm; rfl
        exact this _ e
      rw [e1, hC]
      unfold btry
      rw [hto, hnm, if_neg (by simp), if_pos ho]
    have e1 : bm (bpush C s 0 (s / 13) (fa_first (U 0 s (s / 13)) 3)) (s % 13) = true ∧ bS (bpush C s 0 (s / 13) (fa_first (U 0 s (s / 13)) 3)) (s % 13) = s ∧ bV (bpush C s 0 (s / 13) (fa_first (U 0 s (s / 13)) 3)) (s % 13) = 39 * 0 + 3 * (s / 13) + fa_first (U 0 s (s / 13)) 3 ∧ bD (bpush C s 0 (s / 13) (fa_first (U 0 s (s / 13)) 3)) (s % 13) = bD C s + 1 := by
      refine ⟨?_, ?_, ?_, ?_⟩
      · show (if s % 13 = bto 0 s (s / 13) then true else _) = true
        rw [if_pos hto.symm]
      · show (if s % 13 = bto 0 s (s / 13) then s else _) = s
        rw [if_pos hto.symm]
      · show (if s % 13 = bto 0 s (s / 13) then 39 * 0 + 3 * (s / 13) + fa_first (U 0 s (s / 13)) 3 else _) = _
        rw [if_pos hto.symm]
      · show (if s % 13 = bto 0 s (s / 13) then bD C s + 1 else _) = _
        rw [if_pos hto.symm]
    have e2 : bN (bpush C s 0 (s / 13) (fa_first (U 0 s (s / 13)) 3)) = bN C + 1 := rfl
    have e3 : bQ (bpush C s 0 (s / 13) (fa_first (U 0 s (s / 13)) 3)) (bN C) = s % 13 := by
      show (if bN C = bN C then bto 0 s (s / 13) else _) = _
      rw [if_pos rfl, hto]
    generalize bpush C s 0 (s / 13) (fa_first (U 0 s (s / 13)) 3) = F at f1 f2 hF e1 e2 e3
    obtain ⟨hsF, -⟩ := f2.1 s hsC
    obtain ⟨g1, g2, -⟩ := btryN_ok (U := U) (a := a) (b := b) (s := s) (w := 1) (by omega) (s % 13) f1 hsF (by unfold blim; rw [if_neg (by decide)]; exact Nat.le_refl _)
    have hG : bpop U s B = btryN U s 1 (s % 13) F := by unfold bpop; rw [hF]
    rw [← hG] at g1 g2
    have hle := g2.2.1
    have hle2 := c2.2.1
    have hGN : bN (bpop U s B) ≤ 169 := by rw [g1.1]; exact fb_ct_le _ _
    have q1 : bQ (bpop U s B) (bN C) = s % 13 := by rw [g2.2.2 _ (by omega), e3]
    obtain ⟨B', r1, r2, r3⟩ := brun_to (U := U) (a := a) (b := b) (bN C - (k + 1)) (k + 1) (bN C) (by omega) n' (by omega) (bpop U s B) g1 (by omega) (by rw [q1]; omega) (fun i i1 i2 => by
      rw [g2.2.2 i (by omega), f2.2.2 i i2]
      exact hC13 _ (c1.2.1 i i2))
    have hEX : EX F B' := EX_tr g2 r2
    obtain ⟨x1, x2, x3, x4⟩ := hEX.1 _ e1.1
    refine ⟨B', ?_, EX_tr c2 (EX_tr f2 hEX), r3, x1, x2.trans e1.2.1, ?_, ?_⟩
    · rw [brun, if_neg (by omega), hsk, if_neg (by omega), r1, q1]
    · rw [x3, e1.2.2.1]; omega
    · rw [x4, e1.2.2.2, hdC]
  | succ d ih =>
    intro k i hki n hn B hB h13 hi ho hno
    have hN : bN B ≤ 169 := by rw [hB.1]; exact fb_ct_le _ _
    obtain ⟨n', rfl⟩ := suc_of (show 0 < n by omega)
    have hs := hB.2.1 k (by omega)
    have hs13 := h13 _ hs
    obtain ⟨p1, p2, p3, p4⟩ := bspr_13 (U := U) hB hs h13
    have hle := p2.2.1
    obtain ⟨B', r1, r2, r3, r4, r5, r6, r7⟩ := ih (k + 1) i (by omega) n' (by omega) (bspr U (bQ B k) B) p1 p3 (by omega) (by rw [p2.2.2 i hi]; exact ho) (fun j j1 j2 => by rw [p2.2.2 j (by omega)]; exact hno j (by omega) j2)
    rw [p2.2.2 i hi] at r1 r4 r5 r6 r7
    refine ⟨B', ?_, EX_tr p2 r2, r3, r4, r5, r6, ?_⟩
    · rw [brun_step (by omega) hs13 (hno k (Nat.le_refl _) (by omega)), r1]
    · rw [r7, (p2.1 _ (hB.2.1 i hi)).2.2.2]
/-- what can be come to -/
def RC (U : BU) (st x : Nat) : Prop := ∀ P : Nat → Prop, P st → (∀ s w n, P s → 13 ≤ s → w < 2 → 1 ≤ n → n ≤ blim w s → fa_first (U w s n) 3 < 3 → P (bto w s n)) → P x
theorem RC_st (U : BU) (st : Nat) : RC U st st := fun _ h _ => h
theorem RC_go {U : BU} {st s w n : Nat} (h : RC U st s) (h13 : 13 ≤ s) (hw : w < 2) (h1 : 1 ≤ n) (h2 : n ≤ blim w s) (h3 : fa_first (U w s n) 3 < 3) : RC U st (bto w s n) := fun P p1 p2 => p2 s w n (h P p1 p2) h13 hw h1 h2 h3
theorem brun_rc {U : BU} {a b st : Nat} : ∀ n k, 170 ≤ n + k → ∀ B, BI a b B → bm B st = true → (∀ x, bm B x = true → RC U st x) → k ≤ bN B → (∀ j, j < k → 13 ≤ bQ B j ∧ ∀ w n, w < 2 → 1 ≤ n → n ≤ blim w (bQ B j) → fa_first (U w (bQ B j) n) 3 < 3 → bm B (bto w (bQ B j) n) = true) → ((brun U n k B).1 = none → ¬ ∃ e, e < 13 ∧ RC U st e) ∧ ∀ e, (brun U n k B).1 = some e → e < 13 ∧ RC U st e := by
  intro n
  induction n with
  | zero =>
    intro k hk B hB _ _ hkB
    have hN : bN B ≤ 169 := by rw [hB.1]; exact fb_ct_le _ _
    omega
  | succ n ih =>
    intro k hk B hB hst hrc hkB hcl
    rw [brun]
    by_cases c : bN B ≤ k
    · rw [if_pos c]
      refine ⟨fun _ => ?_, fun e he => absurd he (by simp)⟩
      rintro ⟨e, e1, e2⟩
      have := e2 (fun x => bm B x = true) hst (fun s w n p1 p2 p3 p4 p5 p6 => by
        obtain ⟨j, j1, rfl⟩ := hB.2.2.2.2 s p1
        exact (hcl j (by omega)).2 w n p3 p4 p5 p6)
      obtain ⟨j, j1, rfl⟩ := hB.2.2.2.2 e this
      have := (hcl j (by omega)).1
      omega
    · rw [if_neg c]
      by_cases q : bQ B k < 13
      · rw [if_pos q]
        refine ⟨fun h => absurd h (by simp), fun e he => ?_⟩
        have he' : some (bQ B k) = some e := he
        have : bQ B k = e := by simpa using he'
        rw [← this]
        exact ⟨q, hrc _ (hB.2.1 k (by omega))⟩
      · rw [if_neg q]
        have hs := hB.2.1 k (by omega)
        obtain ⟨p1, p2, p3, p4, p5, p6⟩ := btwo_ok (U := U) hB hs (Nat.le_refl (bQ B k / 13))
        have e : btryN U (bQ B k) 1 (bQ B k % 13) (btryN U (bQ B k) 0 (bQ B k / 13) B) = bpop U (bQ B k) B := rfl
        rw [e] at p1 p2 p3 p4 p5 p6
        have hle := p2.2.1
        refine ih (k + 1) (by omega) (bpop U (bQ B k) B) p1 (p2.1 _ hst).1 (fun x hx => ?_) (by omega) (fun j hj => ?_)
        · rcases p5 x hx with c | ⟨n, n1, n2, rfl, n4⟩ | ⟨n, n1, n2, rfl, n4⟩
          · exact hrc x c
          · exact RC_go (hrc _ hs) (by omega) (by omega) n1 (by unfold blim; rw [if_pos rfl]; exact n2) n4
          · exact RC_go (hrc _ hs) (by omega) (by omega) n1 (by unfold blim; rw [if_neg (by decide)]; exact n2) n4
        · rw [p2.2.2 j (by omega)]
          by_cases cj : j = k
          · subst cj
            refine ⟨by omega, fun w n w1 n1 n2 n3 => ?_⟩
            have hw : w = 0 ∨ w = 1 := by omega
            rcases hw with rfl | rfl
            · exact p3 n n1 (by unfold blim at n2; rw [if_pos rfl] at n2; exact n2) n3
            · exact p4 n n1 (by unfold blim at n2; rw [if_neg (by decide)] at n2; exact n2) n3
          · obtain ⟨h1, h2⟩ := hcl j (by omega)
            exact ⟨h1, fun w n w1 n1 n2 n3 => (p2.1 _ (h2 w n w1 n1 n2 n3)).1⟩
