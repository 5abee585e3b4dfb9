def mbq (N : JI) (i : Nat) : Bool := decide (N 76 (18 + i) = nI 1)
def ffq (N : JI) (i : Nat) : Bool := decide (N 75 (18 + i) = nI 0) && !mbq N i
/-- a line as both hold it while they read -/
def LnR (X : Nat) (tx : Nat → Nat) (m cs q : Nat) (I : JI) (Lr : Nat → Int64) (N : JI) (i : Nat) : Prop := (N 75 (18 + i) = nI 0 ∨ N 75 (18 + i) = nI 1) ∧ (N 76 (18 + i) = nI 0 ∨ N 76 (18 + i) = nI 1) ∧ jm_b01 (I (X + 1) i) = bI (decide (N 75 (18 + i) = nI 0)) ∧ Lr i = (if mbq N i then jm_sets (fb_ct (mbq N) i) else -1) ∧ I (X + 3) i = (if ffq N i then nI (fb_ct (ffq N) i) else -nI 1) ∧ (N 75 (18 + i) = nI 0 → FW X i I N) ∧ LW X tx m i cs q I N
def LSt (X : Nat) (tx : Nat → Nat) (m l fi ff mb cs q : Nat) (I : JI) (Lc : JL) (N : JI) : Prop := l = fi + mb ∧ fi ≤ 12 ∧ mb ≤ 6 ∧ I X 10 = nI cs ∧ I X 11 = nI l ∧ I X 12 = nI fi ∧ I X 13 = nI ff ∧ I X 14 = nI mb ∧ N 66 28 = nI (1000 + q) ∧ fb_ct (mbq N) l = mb ∧ fb_ct (ffq N) l = ff ∧ ∀ i, i < l → LnR X tx m cs q I (Lc (X + 2)) N i
theorem LW_fr {X : Nat} {tx : Nat → Nat} {m i cs q cs' q' : Nat} {I I' N N' : JI} (h : LW X tx m i cs q I N) (hc : cs ≤ cs') (hq : q ≤ q') (r7 : I' (X + 7) i = I (X + 7) i) (r8 : I' (X + 8) i = I (X + 8) i) (r9 : I' (X + 9) i = I (X + 9) i) (r10 : ∀ j, j < cs → I' (X + 10) j = I (X + 10) j) (s80 : N' 80 (18 + i) = N 80 (18 + i)) (s81 : N' 81 (18 + i) = N 81 (18 + i)) (s82 : N' 82 (18 + i) = N 82 (18 + i)) (s83 : ∀ j, j < 1000 + q → N' 83 j = N 83 j) : LW X tx m i cs' q' I' N' := by
  rcases h with ⟨h1, h2⟩ | ⟨h1, b, cf, c0, g1, g2, g3, g4, g5, g6, g7, g8, g9, g10⟩
  · exact Or.inl ⟨by rw [s80]; exact h1, by rw [r7, r8]; exact h2⟩
  · refine Or.inr ⟨by rw [s80]; exact h1, b, cf, c0, g1, by rw [r7]; exact g2, by rw [r8]; exact g3, by omega, seg_cong _ _ (fun j j1 j2 => r10 j (by omega)) g5, by rw [s81]; exact g6, by rw [s82]; exact g7, by omega, seg_cong _ _ (fun j j1 j2 => s83 j (by omega)) g9, by rw [r9]; exact g10⟩
theorem ls_rule {X : Nat} (hX : X = 44 ∨ X = 55) {tx : Nat → Nat} {m l fi ff mb cs q cs' q' : Nat} {s0 my : Bool} {I I1 I' N N' : JI} {L L' Lc Lc' : JL} (hS : LSt X tx m l fi ff mb cs q I Lc N) (hfi : my = false → fi < 12) (hmb : my = true → mb < 6) (hA : ALn X l cs fi ff mb s0 my I I1 Lc Lc') (hC : lC X l I1 I') (hR : lR l (j_up (j_up N 75 (18 + l) (bI !s0)) 76 (18 + l) (bI my)) N' L L') (e10 : I' X 10 = nI cs') (hc : cs ≤ cs') (e28 : N' 66 28 = nI (1000 + q')) (hq : q ≤ q') (r10 : ∀ j, j < cs → I' (X + 10) j = I1 (X + 10) j) (s83 : ∀ j, j < 1000 + q → N' 83 j = (j_up (j_up N 75 (18 + l) (bI !s0)) 76 (18 + l) (bI my)) 83 j) (hF : s0 = true → FW X l I' N') (hW : LW X tx m l cs' q' I' N') : LSt X tx m (l + 1) (if my = true then fi else fi + 1) (if (s0 && !my) = true then ff + 1 else ff) (if my = true then mb + 1 else mb) cs' q' I' Lc' N' := by
  obtain ⟨h1, h2, h3, h4, h5, h6, h7, h8, h9, h10, h11, h12⟩ := hS
  obtain ⟨z1, z2, z3, z4, z5, z6, z7, z8, z9, z10, z11, z12, z13, z14, z15⟩ := hA
  obtain ⟨c1, c2, c3, c4⟩ := hC
  obtain ⟨d1, d2, d3, d4, d5⟩ := hR
  have n75 : N' 75 (18 + l) = bI !s0 := by rw [d1 75 (by omega) (by omega), ju_row _ _ (by omega), ju_same]
  have n76 : N' 76 (18 + l) = bI my := by rw [d1 76 (by omega) (by omega), ju_same]
  have o75 : ∀ i, i ≠ l → N' 75 (18 + i) = N 75 (18 + i) := fun i hi => by rw [d1 75 (by omega) (by omega), ju_row _ _ (by omega), ju_cell _ _ (by omega)]
  have o76 : ∀ i, i ≠ l → N' 76 (18 + i) = N 76 (18 + i) := fun i hi => by rw [d1 76 (by omega) (by omega), ju_cell _ _ (by omega), ju_row _ _ (by omega)]
  have oN : ∀ a i, 77 ≤ a → a ≤ 82 → i ≠ l → N' a (18 + i) = N a (18 + i) := fun a i g1 g2 hi => by rw [d5 a (18 + i) g1 g2 (by omega), ju_row _ _ (by omega), ju_row _ _ (by omega)]
  have oI : ∀ a i, a ≠ 12 → a ≠ X → a ≠ X + 10 → i ≠ l → I' a i = I a i := fun a i g1 g2 g3 hi => by rw [c4 a i g1 g2 g3 hi, z3 a i g2 hi]
  have qm : ∀ i, i < l → mbq N' i = mbq N i := fun i hi => by unfold mbq; rw [o76 i (by omega)]
  have qf : ∀ i, i < l → ffq N' i = ffq N i := fun i hi => by unfold ffq; rw [o75 i (by omega), qm i hi]
  have ctm : ∀ i, i ≤ l → fb_ct (mbq N') i = fb_ct (mbq N) i := fun i hi => fb_ct_cong (fun k hk => qm k (by omega))
  have ctf : ∀ i, i ≤ l → fb_ct (ffq N') i = fb_ct (ffq N) i := fun i hi => fb_ct_cong (fun k hk => qf k (by omega))
  have ml : mbq N' l = my := by unfold mbq; rw [n76]; cases my <;> decide
  have fl : ffq N' l = (s0 && !my) := by unfold ffq; rw [ml, n75]; cases s0 <;> cases my <;> decide
  refine ⟨?_, ?_, ?_, e10, ?_, ?_, ?_, ?_, e28, ?_, ?_, fun i hi => ?_⟩
  · cases my
    · show l + 1 = fi + 1 + mb
      omega
    · show l + 1 = fi + (mb + 1)
      omega
  · cases my
    · exact hfi rfl
    · exact h2
  · cases my
    · exact h3
    · exact hmb rfl
  · rw [c3 11 (by omega)]; exact z9
  · rw [c3 12 (by omega)]; exact z10
  · rw [c3 13 (by omega)]; exact z11
  · rw [c3 14 (by omega)]; exact z12
  · rw [fb_ct_succ, ctm l (Nat.le_refl _), h10, ml]; cases my <;> rfl
  · rw [fb_ct_succ, ctf l (Nat.le_refl _), h11, fl]; cases s0 <;> cases my <;> rfl
  · by_cases ci : i = l
    · subst ci
      refine ⟨?_, ?_, ?_, ?_, ?_, fun h => hF ?_, hW⟩
      · rw [n75]; cases s0
        · exact Or.inr rfl
        · exact Or.inl rfl
      · rw [n76]; cases my
        · exact Or.inl rfl
        · exact Or.inr rfl
      · rw [c1 (X + 1) (by omega) (by omega) (by omega) (by omega) (by omega) (by omega) (by omega) (by omega), z4, n75]; cases s0 <;> decide
      · rw [z15, ml, ctm i (Nat.le_refl _), h10]
      · rw [c1 (X + 3) (by omega) (by omega) (by omega) (by omega) (by omega) (by omega) (by omega) (by omega), z5, fl, ctf i (Nat.le_refl _), h11]
      · rw [n75] at h; cases s0
        · exact absurd h (by decide)
        · rfl
    · obtain ⟨x1, x2, x3, x4, x5, x6, x7⟩ := h12 i (by omega)
      unfold LnR
      rw [o75 i ci, o76 i ci, oI (X + 1) i (by omega) (by omega) (by omega) ci, oI (X + 3) i (by omega) (by omega) (by omega) ci, z14 i ci, qm i (by omega), qf i (by omega), ctm i (by omega), ctf i (by omega)]
      refine ⟨x1, x2, x3, x4, x5, fun h => ?_, LW_fr x7 hc hq (oI _ i (by omega) (by omega) (by omega) ci) (oI _ i (by omega) (by omega) (by omega) ci) (oI _ i (by omega) (by omega) (by omega) ci) (fun j hj => ?_) (oN 80 i (by omega) (by omega) ci) (oN 81 i (by omega) (by omega) ci) (oN 82 i (by omega) (by omega) ci) (fun j hj => ?_)⟩
      · have hf := x6 h
        unfold FW at hf ⊢
        rw [oN 77 i (by omega) (by omega) ci, oN 78 i (by omega) (by omega) ci, oN 79 i (by omega) (by omega) ci, oI (X + 4) i (by omega) (by omega) (by omega) ci, oI (X + 5) i (by omega) (by omega) (by omega) ci, oI (X + 6) i (by omega) (by omega) (by omega) ci]
        exact hf
      · rw [r10 j hj, z1 (X + 10) (by omega) (by omega) (by omega) (by omega) (by omega) (by omega) (by omega)]
      · rw [s83 j hj, ju_row _ _ (by omega), ju_row _ _ (by omega)]
