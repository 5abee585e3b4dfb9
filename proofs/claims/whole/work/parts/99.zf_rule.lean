/-- one rule, from its word on -/
theorem j_rule {X : Nat} (hX : X = 44 ∨ X = 55) {D : JG} {S : JS} (d9 : D 12 9 = some X) (sX : S[X]? = some (4, 17)) {tx : Nat → Nat} {m b cs q l fi ff mb : Nat} {s0 my : Bool} {I N : JI} {L Lc : JL} (hI : LC I tx m b) (hN : LR N L tx m b) (hbm : b < m) (hl : l < 18) (e10 : I X 10 = nI cs) (hcs : cs ≤ b) (e11 : I X 11 = nI l) (e12 : I X 12 = nI fi) (e13 : I X 13 = nI ff) (e14 : I X 14 = nI mb) (hmb : my = true → mb < 6) (e28 : N 66 28 = nI (1000 + q)) (hq : q ≤ b) : ∃ I1 Lc' I' N' L' v, fX8_readRule_36 (bI my) (bI s0) I Lc D S = some (I', Lc') ∧ (fX12_nextToken (j_up (j_up N 75 (18 + l) (bI !s0)) 76 (18 + l) (bI my)) L).bind (fun q17 => if bI s0 = 0 then fX12_readsWhen (nI (18 + l)) q17.1 q17.2 else fX12_readsFirst (nI (18 + l)) q17.1 q17.2) = some (v, N', L') ∧ ALn X l cs fi ff mb s0 my I I1 Lc Lc' ∧ JO X tx m l b cs q (fun I N => s0 = true → FW X l I N) I1 (j_up (j_up N 75 (18 + l) (bI !s0)) 76 (18 + l) (bI my)) L I' N' L' v := by
  obtain ⟨n1, n2⟩ := nxB_ok (tx := tx) hbm
  obtain ⟨I1, Lc', a1, a2⟩ := al_eq hX (L := Lc) (s0 := s0) hl e10 e11 e12 e13 e14 hmb
  obtain ⟨z1, z2, z3, z4, z5, z6, z7, z8, z9, z10, z11, z12, z13, z14, z15⟩ := id a2
  have hI1 : LC I1 tx m b := LC_fr hI (z1 12 (by omega) (by omega) (by omega) (by omega) (by omega) (by omega) (by omega)) (z1 13 (by omega) (by omega) (by omega) (by omega) (by omega) (by omega) (by omega))
  have hN1 : LR (j_up (j_up N 75 (18 + l) (bI !s0)) 76 (18 + l) (bI my)) L tx m b := LR_fr hN (by rw [ju_row _ _ (by omega), ju_row _ _ (by omega)]) (fun k _ _ => by rw [ju_row _ _ (by omega), ju_row _ _ (by omega)]) rfl
  obtain ⟨I2, b1, b2, b3⟩ := LC_next hI1 hbm
  obtain ⟨N2, L2, r1, r2, r3⟩ := LR_next hN1 hbm
  have e10' : I2 X 10 = nI cs := by rw [b2.1 X (by omega), z2 10 (by omega)]; exact e10
  have e28' : N2 66 28 = nI (1000 + q) := by rw [r2.2.1 28 (by omega), ju_row _ _ (by omega), ju_row _ _ (by omega)]; exact e28
  have e7' : I2 (X + 7) l = nI cs := by rw [b2.1 (X + 7) (by omega)]; exact z7
  have e8' : I2 (X + 8) l = nI cs := by rw [b2.1 (X + 8) (by omega)]; exact z8
  have e5' : I2 (X + 5) l = nI 0 := by rw [b2.1 (X + 5) (by omega)]; exact z6
  have hjg : ∀ x : Option (JI × JL), j_g true x = x := fun x => rfl
  cases s0 with
  | false =>
    obtain ⟨I', N', L', v, x1, x2, x3, x4, x5⟩ := j_when hX d9 sX (Lc := Lc') b3 r3 e10' (by omega) e28' (by omega) hl e7'
    refine ⟨I1, Lc', I', N', L', v, ?_, ?_, a2, JO_pre (lC_w hX (cW_n b2)) (lR_n r2) (b2.1 (X + 10) (by omega)) (r2.1 83 (by omega)) (Nat.le_of_lt n1) ⟨lC_c x3, lR_r x4, ?_⟩⟩
    · unfold fX8_readRule_36 fX8_readRule_82
      rw [jo_some d9, sX, show decide (some (4, 17) = some ((4, 17) : Nat × Nat)) = true by decide, hjg, a1, Option.bind_some, b1, Option.bind_some, if_pos (show bI false = (0 : Int32) by decide), if_pos (show bI false = (0 : Int32) by decide)]
      exact x1
    · rw [r1, Option.bind_some, if_pos (show bI false = (0 : Int32) by decide)]
      exact x2
    · rcases x5 with ⟨e, b', cs', q', y1, y2, y3, y4, y5, y6, y7, y8, y9, y10, y11⟩ | x5
      · exact Or.inl ⟨e, b', cs', q', y1, y2, y3, y4, y5, y6, y7, y8, y9, fun h => absurd h (by decide), Or.inr ⟨y10, y11⟩⟩
      · exact Or.inr x5
  | true =>
    obtain ⟨I', N', L', v, x1, x2, x3⟩ := j_first hX d9 sX (Lc := Lc') b3 r3 e10' (by omega) e28' (by omega) hl e7' e8' e5'
    refine ⟨I1, Lc', I', N', L', v, ?_, ?_, a2, JO_pre (lC_w hX (cW_n b2)) (lR_n r2) (b2.1 (X + 10) (by omega)) (r2.1 83 (by omega)) (Nat.le_of_lt n1) ?_⟩
    · unfold fX8_readRule_36
      rw [jo_some d9, sX, show decide (some (4, 17) = some ((4, 17) : Nat × Nat)) = true by decide, hjg, a1, Option.bind_some, b1, Option.bind_some, if_neg (show ¬ bI true = (0 : Int32) by decide)]
      exact x1
    · rw [r1, Option.bind_some, if_neg (show ¬ bI true = (0 : Int32) by decide)]
      exact x2
    · obtain ⟨y1, y2, y3⟩ := x3
      refine ⟨y1, y2, ?_⟩
      rcases y3 with ⟨e, b', cs', q', y1, y2, y3, y4, y5, y6, y7, y8, y9, y10, y11⟩ | y3
      · exact Or.inl ⟨e, b', cs', q', y1, y2, y3, y4, y5, y6, y7, y8, y9, fun _ => y10, y11⟩
      · exact Or.inr y3
