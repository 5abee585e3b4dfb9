theorem LPs_next {X : Nat} (hX : X = 44 ∨ X = 55) {tx : Nat → Nat} {m b l fi ff mb cs q : Nat} {p1 p2 : Bool} {I N : JI} {L Lc : JL} (hP : LPs X tx m b l fi ff mb cs q p1 p2 I Lc N L) (hb : b < m) : ∃ I1 N1 L1, fX8_next I = some I1 ∧ fX12_nextToken N L = some (N1, L1) ∧ CFr X I I1 Lc Lc ∧ RFr N N1 L L1 ∧ LPs X tx m (nxB tx m b) l fi ff mb cs q p1 p2 I1 Lc N1 L1 := by
  obtain ⟨hI, hN, hL, hcs, hq, h7, h8, h15, h16⟩ := hP
  obtain ⟨I1, a1, a2, a3⟩ := LC_next hI hb
  obtain ⟨N1, L1, b1, b2, b3⟩ := LR_next hN hb
  have hn := nxB_ok (tx := tx) hb
  have hy : yR 33 N N1 L L1 := ⟨b2.1, fun k hk _ => b2.2.1 k (by omega), b2.2.2⟩
  refine ⟨I1, N1, L1, a1, b1, CFr_w hX (cW_n a2) Lc, RFr_n b2, a3, b3, ls_y (k0 := 7) (x0 := 15) (r0 := 33) (L := L) (L' := L1) hX (Or.inl rfl) (Or.inl rfl) hL (yC_w hX (cW_n a2)) hy, by omega, by omega, ?_, ?_, ?_, ?_⟩
  · rw [a2.2 7 (by omega)]; exact h7
  · rw [a2.2 8 (by omega)]; exact h8
  · rw [a2.1 X (by omega), b2.2.1 33 (by omega)]; exact h15
  · rw [a2.1 X (by omega), b2.2.1 34 (by omega)]; exact h16
theorem r_177f {tx : Nat → Nat} {m b : Nat} {N : JI} {L : JL} {k48 : Int32 → Int32 → Int32 → Int32 → JI → JL → Option (Int32 × JI × JL)} {l1 l2 l3 l4 l5 : Int32} (hN : LR N L tx m b) (h18 : lT tx m b ≠ 18) (h19 : lT tx m b ≠ 19) : fX12_readsAll_177 k48 l1 l2 l3 l4 l5 N L = some (nI 0, j_up N 66 17 (nI (1 + 16 * b)), L) := by
  obtain ⟨-, -, -, -, -, -, -, -, -, -, -, -, -, -, -, -, -, -, k18, k19, -⟩ := kc_val
  have w18 : fX12_isWord (3379448 : Int64) N L = some (bI (decide (lT tx m b = 18))) := by have := RT_word hN.2.2.2 (k := 18) (by omega); rw [k18] at this; exact this
  have w19 : fX12_isWord (131360 : Int64) N L = some (bI (decide (lT tx m b = 19))) := by have := RT_word hN.2.2.2 (k := 19) (by omega); rw [k19] at this; exact this
  have hf : fX12_fails (1 : Int32) N = some (nI 0, j_up N 66 17 (nI (1 + 16 * b))) := LR_fails hN 1
  have hbf : bI false = (0 : Int32) := by decide
  unfold fX12_readsAll_177
  rw [w18, w19, decide_eq_false h18, decide_eq_false h19, Option.bind_some, if_pos hbf, Option.bind_some, if_pos hbf, hf]
  rfl
theorem j_one {X : Nat} (hX : X = 44 ∨ X = 55) {D : JG} {S : JS} {tx : Nat → Nat} {m b c n : Nat} {my : Bool} {I N : JI} {L Lc : JL} (hI : LC I tx m b) (hN : LR N L tx m b) (h18 : lT tx m b ≠ 18) (h19 : lT tx m b ≠ 19) (h : my = false → lT tx m b ≠ 1 ∧ lT tx m b ≠ 21) : ∃ r I' N', fX8_read_101 X (fX8_read_38 X (n + 1)) (nI c) (bI my) I Lc D S = some (r, I', Lc, D) ∧ (∀ k48 l1 l2 l3 l4 l5, fX12_readsAll_177 k48 l1 l2 l3 l4 l5 N L = some (nI 0, N', L)) ∧ LOut X tx m I Lc N L r I' Lc N' L (nI 0) := by
  obtain ⟨I1, a1, a2, a3⟩ := LC_wrong hI (k := 1) (by omega)
  have a1' : fX8_wrong (1 : Int32) I = some I1 := a1
  refine ⟨nI (1 + 16 * b), j_up I1 12 1 (0 : Int32), j_up N 66 17 (nI (1 + 16 * b)), ?_, fun k48 l1 l2 l3 l4 l5 => r_177f hN h18 h19, LOut_fl hX a3 (CFr_w hX a2 Lc) (RFr_f N L 17 (Or.inl rfl) _) (ju_same _ _ _ _)⟩
  rw [(c_101 (X := X) (k := fX8_read_38 X (n + 1)) (D := D) (S := S) (c := c) (my := my) (Lc := Lc) hI).2.2.2 h18 h19 h, a1', Option.bind_some, e_fl a3]
/-- a way said twice -/
theorem j_twice {X : Nat} (hX : X = 44 ∨ X = 55) {D : JG} {S : JS} {tx : Nat → Nat} {m b n : Nat} {I N : JI} {L Lc : JL} (c : Int32) (hI : LC I tx m b) (hN : LR N L tx m b) : ∃ r I1 I' N', (jm_b01 (I 12 7) = bI true → fX8_readPrice I D S = some I1) ∧ (jm_b01 (I 12 8) = bI true → fX8_readParts I D S = some I1) ∧ fX8_read_38 X (n + 1) c I1 Lc D S = some (r, I', Lc, D) ∧ (∀ k48 l l3 l4, fX12_readsAll_79 k48 (bI true) l l3 l4 (bI true) N L = some (nI 0, N', L) ∧ fX12_readsAll_79 k48 l (bI true) l3 l4 (bI false) N L = some (nI 0, N', L)) ∧ LOut X tx m I Lc N L r I' Lc N' L (nI 0) := by
  obtain ⟨I1, a1, a2, a3⟩ := LC_wrong hI (k := 3) (by omega)
  have a1' : fX8_wrong (3 : Int32) I = some I1 := a1
  have hbt : ¬ bI true = (0 : Int32) := by decide
  refine ⟨nI (3 + 16 * b), I1, j_up I1 12 1 (0 : Int32), j_up N 66 17 (nI (3 + 16 * b)), fun h => ?_, fun h => ?_, e_fl a3 n c Lc D S, fun k48 l l3 l4 => r_79f hN, LOut_fl hX a3 (CFr_w hX a2 Lc) (RFr_f N L 17 (Or.inl rfl) _) (ju_same _ _ _ _)⟩
  · unfold fX8_readPrice
    rw [h, if_neg hbt, a1', Option.bind_some]
  · unfold fX8_readParts
    rw [h, if_neg hbt, a1', Option.bind_some]
/-- too many maybes -/
theorem j_six {X : Nat} (hX : X = 44 ∨ X = 55) {D : JG} {S : JS} (d9 : D 12 9 = some X) (sX : S[X]? = some (4, 17)) {tx : Nat → Nat} {m b n : Nat} {I N : JI} {L Lc : JL} (c : Int32) (hI : LC I tx m b) (h14 : I X 14 = nI 6) : ∃ r I', fX8_read_68 X (fX8_read_38 X (n + 1)) c (1 : Int32) I Lc D S = some (r, I', Lc, D) ∧ LOut X tx m I Lc N L r I' Lc (j_up N 66 17 (nI (5 + 16 * b))) L (nI 0) := by
  obtain ⟨I1, a1, a2, a3⟩ := LC_wrong hI (k := 5) (by omega)
  have a1' : fX8_wrong (5 : Int32) I = some I1 := a1
  obtain ⟨I2, b1, b2⟩ := e_101 hX a3 n c (1 : Int32) Lc D S
  refine ⟨nI (5 + 16 * b), I2, ?_, CFr_tr (CFr_w hX a2 Lc) b2.1, RFr_f N L 17 (Or.inl rfl) _, b2.2, Or.inr ⟨rfl, 5 + 16 * b, by omega, ?_, rfl, ju_same _ _ _ _⟩⟩
  · unfold fX8_read_68
    rw [if_neg (show ¬ (1 : Int32) = 0 by decide), jo_some d9, sX, show decide (some (4, 17) = some ((4, 17) : Nat × Nat)) = true by decide]
    show (if I X 14 < (6 : Int32) then _ else _) = _
    rw [h14, if_neg (show ¬ nI 6 < (6 : Int32) by decide), a1', Option.bind_some, b1]
  · exact a3.2.2.2.2.2.2
theorem c_68 {X : Nat} {D : JG} {S : JS} (d9 : D 12 9 = some X) (sX : S[X]? = some (4, 17)) {mb : Nat} {I I1 : JI} {Lc : JL} {k : Int32 → JI → JL → JG → JS → Option (Int32 × JI × JL × JG)} {c : Int32} (hmb : mb < 6) (h14 : I X 14 = nI mb) (h : fX8_next I = some I1) : fX8_read_68 X k c (1 : Int32) I Lc D S = fX8_read_101 X k c (bI true) I1 Lc D S := by
  unfold fX8_read_68
  rw [if_neg (show ¬ (1 : Int32) = 0 by decide), jo_some d9, sX, show decide (some (4, 17) = some ((4, 17) : Nat × Nat)) = true by decide]
  show (if I X 14 < (6 : Int32) then _ else _) = _
  rw [h14, if_pos (show nI mb < (6 : Int32) from nI_lt (a := mb) (b := 6) hmb (by omega)), if_neg (show ¬ (1 : Int32) = 0 by decide), h, Option.bind_some]
  rfl
