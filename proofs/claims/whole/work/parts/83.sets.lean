/-! ===== sets as bits of a long ===== -/
def bL (w : Int64) (s : Nat) : Bool := w.toBitVec.getLsbD s
theorem bL_and (a b : Int64) (s : Nat) : bL (a &&& b) s = (bL a s && bL b s) := by
  unfold bL; rw [Int64.toBitVec_and, BitVec.getLsbD_and]
theorem bL_or (a b : Int64) (s : Nat) : bL (a ||| b) s = (bL a s || bL b s) := by
  unfold bL; rw [Int64.toBitVec_or, BitVec.getLsbD_or]
theorem bL_ones {s : Nat} (hs : s < 64) : bL (-1) s = true := by
  have ha : (-1 : Int64).toBitVec = BitVec.allOnes 64 := by decide
  unfold bL; rw [ha, BitVec.getLsbD_allOnes]; simpa using hs
theorem bL_not (a : Int64) {s : Nat} (hs : s < 64) : bL (a ^^^ (-1 : Int64)) s = !bL a s := by
  have h1 := bL_ones hs
  unfold bL at h1 ⊢
  rw [Int64.toBitVec_xor, BitVec.getLsbD_xor, h1]; simp
theorem bL_zero (s : Nat) : bL 0 s = false := by
  have ha : (0 : Int64).toBitVec = 0#64 := by decide
  unfold bL; rw [ha]; simp
theorem bL_ext {a b : Int64} (h : ∀ s, s < 64 → bL a s = bL b s) : a = b := by
  apply Int64.toBitVec_inj.mp
  apply BitVec.eq_of_getLsbD_eq
  intro i hi
  exact h i hi
theorem bL_cmp (a : Int64) : lg_cmp a (0 : Int64) = 0 ↔ ∀ s, s < 64 → bL a s = false := by
  rw [lg_cmp_eq]
  constructor
  · intro h s _; rw [h]; exact bL_zero s
  · intro h; exact bL_ext (fun s hs => by rw [h s hs, bL_zero])
theorem bL_sets : ∀ c, c < 6 → ∀ s, s < 64 → bL (jm_sets c) s = bt (nI s) c := by decide +kernel
theorem bL_line {X : Nat} {M : JI} {L : JL} {ln i s : Nat} (hL : LSets X M L ln) (hi : i < ln) (hs : s < 64) : bL (L (X + 2) i) s = acR M (nI s) i := by
  rw [hL.1 i hi]
  unfold acR
  by_cases cm : lwMb M i = true
  · rw [if_pos cm, bL_sets _ (mb_lt hL.2 hi cm) s hs, cm]; rfl
  · have cm0 : lwMb M i = false := by simpa using cm
    rw [if_neg cm, bL_ones hs, cm0]; rfl
/-- a line of the second kind that refuses set s -/
def rfG (M0 : JI) (h : Nat → Nat → Nat) (p f g : Nat) (fb : Nat → Int32) (E : Nat → (Nat → Int32) → Int32) (s i : Nat) : Bool := !kdR M0 i && acR M0 (nI s) i && cnG M0 h p f fb E i g
theorem os2_loop {M0 : JI} {D : JG} {S : JS} {X t dq : Nat} {h : Nat → Nat → Nat} {ln p f g fm : Nat} {fb : Nat → Int32} {E : Nat → (Nat → Int32) → Int32} (B : CB M0 D S X t dq h ln p f g fm fb E) {L : JL} {l1 : Int64} (hL : LSets X M0 L ln) : ∀ d k, k + d = ln → ∀ n, d < n → ∀ M (w : Int64), jSame M0 M → ∃ w' M', fX3_openSets_186 n l1 ((1 : Int32) <<< (nI g &&& 31)) w (nI k) M L D S = some (l1 &&& (w' ^^^ (-1 : Int64)), M') ∧ cSame M M' ∧ ∀ s, s < 64 → (bL w' s = true ↔ bL w s = true ∧ ∀ i, k ≤ i → i < ln → rfG M0 h p f g fb E s i = false) := by
  have B0 := B
  obtain ⟨⟨d1, d2, d3, s1, s2, s3⟩, ⟨hX, ht, hdq⟩, ⟨q0, q1, q2, q4⟩, ⟨hp, hf, hg, hfm, hln, hne⟩, -, -, -, -, -, b10, hl⟩ := B
  intro d
  induction d with
  | zero =>
    intro k hk n hn M w hM
    obtain ⟨n', rfl⟩ := suc_of hn
    have : k = ln := by omega
    subst this
    refine ⟨w, M, ?_, cSame_rfl M, fun s hs => ⟨fun hw => ⟨hw, fun i h1 h2 => absurd h2 (by omega)⟩, fun hw => hw.1⟩⟩
    rw [fX3_openSets_186, d1, jo_s, jg_d s1, hM.1 X (by omega) (by omega) (by omega) (by omega), b10, if_pos (nI_le (Nat.le_refl _) (by omega))]
  | succ d ih =>
    intro k hk n hn M w hM
    obtain ⟨n', rfl⟩ := suc_of hn
    have e1 : nI k + (1 : Int32) = nI (k + 1) := nI_1 k
    obtain ⟨l1', l2, l3, l4, l5, l6⟩ := hl k (by omega)
    have go : ∀ (M1 : JI) (w1 : Int64), cSame M M1 → (∀ s, s < 64 → (bL w1 s = true ↔ bL w s = true ∧ rfG M0 h p f g fb E s k = false)) → ∃ w' M', fX3_openSets_186 n' l1 ((1 : Int32) <<< (nI g &&& 31)) w1 (nI (k + 1)) M1 L D S = some (l1 &&& (w' ^^^ (-1 : Int64)), M') ∧ cSame M M' ∧ ∀ s, s < 64 → (bL w' s = true ↔ bL w s = true ∧ ∀ i, k ≤ i → i < ln → rfG M0 h p f g fb E s i = false) := by
      intro M1 w1 hc hw
      obtain ⟨w', M', a1, a2, a3⟩ := ih (k + 1) (by omega) n' (by omega) M1 w1 (jSame_c hM hc)
      refine ⟨w', M', a1, cSame_tr hc a2, fun s hs => ?_⟩
      rw [a3 s hs, hw s hs]
      constructor
      · rintro ⟨⟨b1, b2⟩, b3⟩
        refine ⟨b1, fun i hi hi2 => ?_⟩
        by_cases e : i = k
        · rw [e]; exact b2
        · exact b3 i (by omega) hi2
      · rintro ⟨b1, b2⟩
        exact ⟨⟨b1, b2 k (by omega) (by omega)⟩, fun i hi hi2 => b2 i (by omega) hi2⟩
    rw [fX3_openSets_186, d1, jo_s, jg_d s1, hM.1 X (by omega) (by omega) (by omega) (by omega), b10, if_neg (nI_ge (by omega) (by omega))]
    by_cases cw : lg_cmp w (0 : Int64) = 0
    · rw [if_pos cw]
      refine ⟨w, M, rfl, cSame_rfl M, fun s hs => ?_⟩
      rw [(bL_cmp w).mp cw s hs]; simp
    · rw [if_neg cw, jo_s, jg_d s1, jg_in (by omega) (by decide), nI_clamp (by omega), hM.1 (X + 1) (by omega) (by omega) (by omega) (by omega), l3, e1]
      by_cases ck : kdR M0 k = true
      · rw [ck, if_neg (by decide)]
        exact go M w (cSame_rfl M) (fun s hs => by unfold rfG; rw [ck]; simp)
      · have ck0 : kdR M0 k = false := by simpa using ck
        rw [ck0, if_pos (by decide), jo_s, jg_d s1, jg_in (by omega) (by decide)]
        by_cases ch : lg_cmp (w &&& L (X + 2) k) (0 : Int64) = 0
        · rw [if_pos ch]
          refine go M w (cSame_rfl M) (fun s hs => ⟨fun hb => ⟨hb, ?_⟩, fun hb => hb.1⟩)
          have := (bL_cmp _).mp ch s hs
          rw [bL_and, bL_line hL (by omega) hs, hb] at this
          unfold rfG
          rw [show acR M0 (nI s) k = false by simpa using this]; simp
        · rw [if_neg ch]
          obtain ⟨y, M', y1, y2, y3⟩ := ho2_eq B0 (i := k) (by omega) (P := nI 1 <<< (nI g &&& nI 31)) (bit_hi hg) hM
          have y1' : fX3_holdsForOne (nI k) ((1 : Int32) <<< (nI g &&& 31)) M D S = some (bI y, M') := y1
          rw [y1', Option.bind_some]
          have hy : y = cnG M0 h p f fb E k g := by
            apply Bool.eq_iff_iff.mpr
            rw [y3]
            constructor
            · rintro ⟨q', hq', h1, h2⟩
              rw [bit_one hg] at h1
              have : q' = g := by simpa using h1
              subst this; exact h2
            · intro h2
              exact ⟨g, hg, by rw [bit_one hg]; simp, h2⟩
          cases y with
          | false =>
            rw [if_pos (show bI false = 0 by decide)]
            exact go M' w y2 (fun s hs => by unfold rfG; rw [← hy]; simp)
          | true =>
            rw [if_neg (show ¬ bI true = 0 by decide), jo_s, jg_d s1, jg_in (by omega) (by decide)]
            refine go M' (w &&& (L (X + 2) k ^^^ (-1 : Int64))) y2 (fun s hs => ?_)
            rw [bL_and, bL_not _ hs, bL_line hL (by omega) hs]
            unfold rfG
            rw [← hy, ck0]; simp
