def lC (X l : Nat) (I I' : JI) : Prop := (∀ a, a ≠ 12 → a ≠ X → a ≠ X + 4 → a ≠ X + 5 → a ≠ X + 6 → a ≠ X + 8 → a ≠ X + 9 → a ≠ X + 10 → I' a = I a) ∧ (∀ k, (k < 2 ∨ 6 < k) → I' 12 k = I 12 k) ∧ (∀ k, k ≠ 10 → I' X k = I X k) ∧ ∀ a j, a ≠ 12 → a ≠ X → a ≠ X + 10 → j ≠ l → I' a j = I a j
def lR (l : Nat) (N N' : JI) (L L' : JL) : Prop := (∀ a, a ≠ 66 → (a < 77 ∨ 85 < a) → N' a = N a) ∧ (∀ k, (k < 12 ∨ (17 < k ∧ k ≠ 28)) → N' 66 k = N 66 k) ∧ (∀ a, a ≠ 66 → L' a = L a) ∧ (∀ j, j < 1000 → N' 83 j = N 83 j) ∧ ∀ a j, 77 ≤ a → a ≤ 82 → j ≠ 18 + l → N' a j = N a j
theorem lC_c {X l : Nat} {I I' : JI} (h : wC X l I I') : lC X l I I' := ⟨fun a h1 h2 _ _ _ h6 h7 h8 => h.1 a h1 h2 h6 h7 h8, h.2.1, h.2.2.1, fun a j h1 h2 h3 hj => by
  by_cases c8 : a = X + 8
  · rw [c8]; exact (h.2.2.2 j hj).1
  · by_cases c9 : a = X + 9
    · rw [c9]; exact (h.2.2.2 j hj).2
    · rw [h.1 a h1 h2 c8 c9 h3]⟩
theorem lR_r {l : Nat} {N N' : JI} {L L' : JL} (h : wR l N N' L L') : lR l N N' L L' := ⟨fun a h1 h2 => h.1 a h1 (by omega) (by omega) (by omega) (by omega) (by omega) (by omega), h.2.1, h.2.2.1, h.2.2.2.1, fun a j h1 h2 hj => by
  by_cases c0 : a = 80
  · rw [c0]; exact (h.2.2.2.2 j hj).1
  · by_cases c1 : a = 81
    · rw [c1]; exact (h.2.2.2.2 j hj).2.1
    · by_cases c2 : a = 82
      · rw [c2]; exact (h.2.2.2.2 j hj).2.2
      · rw [h.1 a (by omega) c0 c1 c2 (by omega) (by omega) (by omega)]⟩
theorem lC_tr {X l : Nat} {I I' I'' : JI} (h : lC X l I I') (h' : lC X l I' I'') : lC X l I I'' := ⟨fun a h1 h2 h3 h4 h5 h6 h7 h8 => (h'.1 a h1 h2 h3 h4 h5 h6 h7 h8).trans (h.1 a h1 h2 h3 h4 h5 h6 h7 h8), fun k hk => (h'.2.1 k hk).trans (h.2.1 k hk), fun k hk => (h'.2.2.1 k hk).trans (h.2.2.1 k hk), fun a j h1 h2 h3 h4 => (h'.2.2.2 a j h1 h2 h3 h4).trans (h.2.2.2 a j h1 h2 h3 h4)⟩
theorem lR_tr {l : Nat} {N N' N'' : JI} {L L' L'' : JL} (h : lR l N N' L L') (h' : lR l N' N'' L' L'') : lR l N N'' L L'' := ⟨fun a h1 h2 => (h'.1 a h1 h2).trans (h.1 a h1 h2), fun k hk => (h'.2.1 k hk).trans (h.2.1 k hk), fun a ha => (h'.2.2.1 a ha).trans (h.2.2.1 a ha), fun j hj => (h'.2.2.2.1 j hj).trans (h.2.2.2.1 j hj), fun a j h1 h2 h3 => (h'.2.2.2.2 a j h1 h2 h3).trans (h.2.2.2.2 a j h1 h2 h3)⟩
theorem lC_w {X l : Nat} (hX : X = 44 ∨ X = 55) {I I' : JI} (h : cW I I') : lC X l I I' := lC_c (wC_w hX h)
theorem lR_n {l : Nat} {N N' : JI} {L L' : JL} (h : rN N N' L L') : lR l N N' L L' := lR_r (wR_f (rF_n h))
theorem lR_f {l : Nat} {N : JI} {L : JL} (v : Int32) : lR l N (j_up N 66 17 v) L L := lR_r (wR_f (rF_w v))
theorem lR_u {l a : Nat} (ha : 77 ≤ a ∧ a ≤ 82) (N : JI) (L : JL) (v : Int32) : lR l N (j_up N a (18 + l) v) L L := ⟨fun a' h1 h2 => ju_row _ _ (by omega), fun k _ => by rw [ju_row _ _ (by omega)], fun _ _ => rfl, fun j _ => by rw [ju_row _ _ (by omega)], fun a' j h1 h2 h3 => by
  by_cases c : a' = a
  · rw [c, ju_cell _ _ h3]
  · rw [ju_row _ _ c]⟩
theorem lC_u {X l a : Nat} (ha : a = X + 4 ∨ a = X + 5 ∨ a = X + 6) (hX : X = 44 ∨ X = 55) (I : JI) (v : Int32) : lC X l I (j_up I a l v) := ⟨fun a' h1 h2 h3 h4 h5 h6 h7 h8 => ju_row _ _ (by omega), fun k _ => by rw [ju_row _ _ (by omega)], fun k _ => by rw [ju_row _ _ (by omega)], fun a' j h1 h2 h3 h4 => by
  by_cases c : a' = a
  · rw [c, ju_cell _ _ h4]
  · rw [ju_row _ _ c]⟩
def FW (X l : Nat) (I N : JI) : Prop := (∃ w, w < 4 ∧ N 77 (18 + l) = nI w ∧ I (X + 4) l = nI w) ∧ I (X + 5) l = N 78 (18 + l) ∧ ∃ d, d ≤ 999 ∧ N 79 (18 + l) = nI d ∧ I (X + 6) l = nI d
def LW (X : Nat) (tx : Nat → Nat) (m l cs q : Nat) (I N : JI) : Prop := (N 80 (18 + l) = nI 0 ∧ I (X + 7) l = I (X + 8) l) ∨ (N 80 (18 + l) = nI 1 ∧ WL X tx m l cs q I N)
/-- how a line ends for both -/
def JO (X : Nat) (tx : Nat → Nat) (m l b cs q : Nat) (P : JI → JI → Prop) (I N : JI) (L : JL) (I' N' : JI) (L' : JL) (v : Int32) : Prop := lC X l I I' ∧ lR l N N' L L' ∧ ((v = nI 1 ∧ ∃ b' cs' q', b < b' ∧ LC I' tx m b' ∧ LR N' L' tx m b' ∧ I' X 10 = nI cs' ∧ (cs ≤ cs' ∧ cs' ≤ b') ∧ N' 66 28 = nI (1000 + q') ∧ (q ≤ q' ∧ q' ≤ b') ∧ (∀ j, j < cs → I' (X + 10) j = I (X + 10) j) ∧ (∀ j, j < 1000 + q → N' 83 j = N 83 j) ∧ P I' N' ∧ LW X tx m l cs' q' I' N') ∨ (v = nI 0 ∧ ∃ f, FL I' tx m f ∧ N' 66 17 = nI f))
theorem JO_pre {X : Nat} {tx : Nat → Nat} {m l b b1 cs q : Nat} {P : JI → JI → Prop} {I N I1 N1 I' N' : JI} {L L1 L' : JL} {v : Int32} (h1 : lC X l I I1) (h2 : lR l N N1 L L1) (h3 : I1 (X + 10) = I (X + 10)) (h4 : N1 83 = N 83) (hb : b ≤ b1) (h : JO X tx m l b1 cs q P I1 N1 L1 I' N' L' v) : JO X tx m l b cs q P I N L I' N' L' v := by
  obtain ⟨g1, g2, g3⟩ := h
  refine ⟨lC_tr h1 g1, lR_tr h2 g2, ?_⟩
  rcases g3 with ⟨e, b', cs', q', x1, x2, x3, x4, x5, x6, x7, x8, x9, x10, x11⟩ | g3
  · exact Or.inl ⟨e, b', cs', q', by omega, x2, x3, x4, x5, x6, x7, fun j hj => by rw [x8 j hj, h3], fun j hj => by rw [x9 j hj, h4], x10, x11⟩
  · exact Or.inr g3
/-- the end of a first line: a condition or none -/
theorem j_r82 {X : Nat} (hX : X = 44 ∨ X = 55) {D : JG} {S : JS} (d9 : D 12 9 = some X) (sX : S[X]? = some (4, 17)) {tx : Nat → Nat} {m b cs q l : Nat} {I N : JI} {L Lc : JL} (hI : LC I tx m b) (hN : LR N L tx m b) (e10 : I X 10 = nI cs) (hcs : cs ≤ b) (e28 : N 66 28 = nI (1000 + q)) (hq : q ≤ b) (hl : l < 18) (e7 : I (X + 7) l = nI cs) (e8 : I (X + 8) l = nI cs) (hF : FW X l I N) (e80 : N 80 (18 + l) = nI 0) : ∃ I' N' L' v, fX8_readRule_82 (nI 1) (nI l) I Lc D S = some (I', Lc) ∧ (fX12_isSign (59 : Int32) N).bind (fun q19 => if q19 = 0 then ((fX12_readsWhen (nI (18 + l)) N L).bind (fun q21 => j_g (decide (jm_b01 q21.1 = q21.1)) (some (q21.1, q21.2.1, q21.2.2)))) else ((fX12_nextToken N L).bind (fun q20 => some ((1 : Int32), q20.1, q20.2)))) = some (v, N', L') ∧ JO X tx m l b cs q (FW X l) I N L I' N' L' v := by
  have hlt : lT tx m b < 127 := lT_lt hI.1
  have hbm0 := hN.2.1
  have hm := hN.1.1
  have s59 : fX12_isSign (59 : Int32) N = some (bI (decide (lT tx m b = 59))) := RT_sign hN.2.2.2 hN.1 (c := 59) (by decide)
  have e4 : I 12 4 = nI (lT tx m b) := hI.2.2.2.2.2.1
  have n1 : ¬ nI 1 = (0 : Int32) := by decide
  by_cases c24 : lT tx m b = 24
  · obtain ⟨I', N', L', v, a1, a2, a3, a4, a5⟩ := j_when hX d9 sX (Lc := Lc) hI hN e10 hcs e28 hq hl e7
    refine ⟨I', N', L', v, ?_, ?_, lC_c a3, lR_r a4, ?_⟩
    · unfold fX8_readRule_82
      rw [if_neg n1, e4, c24, if_pos (show nI 24 = (24 : Int32) from rfl), a1]
    · rw [s59, decide_eq_false (by omega), Option.bind_some, if_pos (show bI false = (0 : Int32) by decide), a2, Option.bind_some]
      rcases a5 with ⟨rfl, -⟩ | ⟨rfl, -⟩ <;> rfl
    · rcases a5 with ⟨e, b', cs', q', x1, x2, x3, x4, x5, x6, x7, x8, x9, x10, x11⟩ | a5
      · refine Or.inl ⟨e, b', cs', q', x1, x2, x3, x4, x5, x6, x7, x8, x9, ?_, Or.inr ⟨x10, x11⟩⟩
        obtain ⟨f1, f2, f3⟩ := hF
        unfold FW
        rw [a4.1 77 (by omega) (by omega) (by omega) (by omega) (by omega) (by omega) (by omega), a4.1 78 (by omega) (by omega) (by omega) (by omega) (by omega) (by omega) (by omega), a4.1 79 (by omega) (by omega) (by omega) (by omega) (by omega) (by omega) (by omega), a3.1 (X + 4) (by omega) (by omega) (by omega) (by omega) (by omega), a3.1 (X + 5) (by omega) (by omega) (by omega) (by omega) (by omega), a3.1 (X + 6) (by omega) (by omega) (by omega) (by omega) (by omega)]
        exact ⟨f1, f2, f3⟩
      · exact Or.inr a5
  · have n24 : ¬ nI (lT tx m b) = (24 : Int32) := fun e => c24 ((nI_eq (b := 24) (by omega) (by omega)).mp e)
    obtain ⟨I1, a1, a2, a3⟩ := want_eq hI (by omega) hlt (k := 59) (by omega) (by omega)
    have a1' : fX8_want (59 : Int32) I = some I1 := a1
    have hC : fX8_readRule_82 (nI 1) (nI l) I Lc D S = some (I1, Lc) := by
      unfold fX8_readRule_82
      rw [if_neg n1, e4, if_neg n24, a1', Option.bind_some]
    by_cases c59 : lT tx m b = 59
    · have hbm : b < m := lT_33 (tx := tx) (by omega) hbm0
      obtain ⟨k1, k2⟩ := nxB_ok (tx := tx) hbm
      obtain ⟨N1, L1, r1, r2, r3⟩ := LR_next hN hbm
      have a4 : LC I1 tx m (nxB tx m b) := by
        rcases a3 with ⟨-, h⟩ | ⟨h, -⟩
        · exact h
        · exact absurd c59 h
      refine ⟨I1, N1, L1, nI 1, hC, ?_, lC_w hX a2, lR_n r2, Or.inl ⟨rfl, nxB tx m b, cs, q, k1, a4, r3, by rw [a2.1 X (by omega)]; exact e10, by omega, by rw [r2.2.1 28 (by omega)]; exact e28, by omega, fun j _ => by rw [a2.1 (X + 10) (by omega)], fun j _ => by rw [r2.1 83 (by omega)], ?_, Or.inl ⟨?_, ?_⟩⟩⟩
      · rw [s59, decide_eq_true c59, Option.bind_some, if_neg (show ¬ bI true = (0 : Int32) by decide), r1, Option.bind_some]; rfl
      · unfold FW
        rw [r2.1 77 (by omega), r2.1 78 (by omega), r2.1 79 (by omega), a2.1 (X + 4) (by omega), a2.1 (X + 5) (by omega), a2.1 (X + 6) (by omega)]
        exact hF
      · rw [r2.1 80 (by omega)]; exact e80
      · rw [a2.1 (X + 7) (by omega), a2.1 (X + 8) (by omega), e7, e8]
    · have a4 : FL I1 tx m (1 + 16 * b) := by
        rcases a3 with ⟨h, -⟩ | ⟨-, h⟩
        · exact absurd h c59
        · exact h
      obtain ⟨-, -, -, -, -, -, -, -, -, -, -, -, -, -, -, -, -, -, -, -, -, -, -, -, k24, -⟩ := kc_val
      have w24 : fX12_isWord (458690 : Int64) N L = some (bI (decide (lT tx m b = 24))) := by have := RT_word hN.2.2.2 (k := 24) (by omega); rw [k24] at this; exact this
      have hf : fX12_fails (1 : Int32) N = some (nI 0, j_up N 66 17 (nI (1 + 16 * b))) := LR_fails hN 1
      refine ⟨I1, j_up N 66 17 (nI (1 + 16 * b)), L, nI 0, hC, ?_, lC_w hX a2, lR_f _, Or.inr ⟨rfl, 1 + 16 * b, a4, ju_same _ _ _ _⟩⟩
      unfold fX12_readsWhen
      rw [s59, decide_eq_false c59, Option.bind_some, if_pos (show bI false = (0 : Int32) by decide), w24, decide_eq_false c24, Option.bind_some, if_pos (show bI false = (0 : Int32) by decide), hf, Option.bind_some]; rfl
