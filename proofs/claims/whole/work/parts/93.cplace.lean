theorem i_back (x y : Int32) : x + -(x - y) = y := by
  apply Int32.toBitVec_inj.mp
  simp only [Int32.toBitVec_add, Int32.toBitVec_neg, Int32.toBitVec_sub]
  rw [BitVec.sub_eq_add_neg, BitVec.neg_add, BitVec.sub_eq_add_neg, BitVec.neg_neg, ← BitVec.add_assoc, BitVec.add_right_neg, BitVec.zero_add]
theorem hd_lay {M : JI} {t : Nat} {h : Nat → Nat → Nat} (hv : vHd (M (t + 1)) (M (t + 2)) (M (t + 3)) (M (t + 4)) h) {p f g n : Nat} (hp : p < 12) (hf : f < 16) (hg : g < 16) (hne : f ≠ g) (hn : n ≤ h p f + h p g) (h1 : h p f < 200) (h2 : h p g < 200) :
    ∃ M', fX1_move t (nI p) (nI f) (nI g) (nI (h p f) - nI n) M = some M' ∧ (∀ a, a ≠ t + 1 → a ≠ t + 2 → a ≠ t + 3 → a ≠ t + 4 → M' a = M a) ∧ vHd (M' (t + 1)) (M' (t + 2)) (M' (t + 3)) (M' (t + 4)) (lih h p f g n) := by
  obtain ⟨M1, a1, a2, a3⟩ := hd_add hv hp hf (v := n) (d := -(nI (h p f) - nI n)) (i_back _ _) (by omega) (by omega)
  have e3 : up2 h p f n p g = h p g := by unfold up2; rw [if_neg (by omega)]
  have e4 : nI (h p g) + (nI (h p f) - nI n) = nI (h p f + h p g - n) := by
    rw [← pk_sub hn, ← nI_add, Int32.sub_eq_add_neg, Int32.sub_eq_add_neg, ← Int32.add_assoc, Int32.add_comm (nI (h p g))]
  obtain ⟨M2, b1, b2, b3⟩ := hd_add a3 hp hg (d := nI (h p f) - nI n) (v := h p f + h p g - n) (by rw [e3, e4]) (by rw [e3]; omega) (by omega)
  refine ⟨M2, ?_, ?_, b3⟩
  · unfold fX1_move
    rw [a1, Option.bind_some, b1]; rfl
  · intro a n1 n2 n3 n4
    rw [b2 a n1 n2 n3 n4, a2 a n1 n2 n3 n4]
theorem cpl_eq {h : Nat → Nat → Nat} {p o f g a b : Nat} (H : HB h p o f g a b) {ec s s1 : Nat} (hs : sOK a b s) (hs1 : sOK a b s1) {I : JI} (hC : CC I p o f g ec) (hv : vHd (I 22) (I 23) (I 24) (I 25) (hst h p o f g s1)) : ∃ I', fX10_place (nI s) I = some I' ∧ (∀ a, (a < 22 ∨ 25 < a) → I' a = I a) ∧ vHd (I' 22) (I' 23) (I' 24) (I' 25) (hst h p o f g s) := by
  obtain ⟨e1, e2, e3⟩ := hst_pf H hs1
  obtain ⟨-, -, e4⟩ := hst_pf H hs
  have hle := hst_le H hs1.1
  have H0 := H
  obtain ⟨⟨hp, hf, hg, hne, ho, hop⟩, -⟩ := H0
  obtain ⟨c1, c2, c3, c4, c5⟩ := hC
  have hd : fX10_left (nI s) (0 : Int32) = some (nI (s / 13)) := by
    unfold fX10_left
    rw [if_pos rfl, show nI s / (13 : Int32) = nI (s / 13) from pk_div (d := 13) (by have := hs.1; omega) (by omega) (by omega)]
  have hr : fX10_left (nI s) (1 : Int32) = some (nI (s % 13)) := by
    unfold fX10_left
    rw [if_neg (by decide), show nI s - nI s / (13 : Int32) * (13 : Int32) = nI (s % 13) from pk_rem (d := 13) (by have := hs.1; omega) (by omega) (by omega)]
  obtain ⟨M1, a1, a2, a3⟩ := hd_lay (M := I) (t := 21) hv hp hf hg hne (n := s / 13) (by rw [e1, e2]; omega) (by have := hle p f hp hf; omega) (by have := hle p g hp hg; omega)
  have r1 : ∀ a, (a < 22 ∨ 25 < a) → M1 a = I a := fun a ha => a2 a (by omega) (by omega) (by omega) (by omega)
  unfold fX10_place
  rw [c1, c3, c4, of_eq (M := I) (t := 21) hv.1 hp hf, Option.bind_some, hd, Option.bind_some, a1, Option.bind_some, r1 20 (by omega), c2, c3, c4]
  by_cases c : o < 12
  · obtain ⟨e5, e6, e7⟩ := hst_of H hs1 c
    obtain ⟨-, -, e8⟩ := hst_of H hs c
    have eo : ov o = nI o := by unfold ov; rw [if_pos c]
    have lf : lih (hst h p o f g s1) p f g (s / 13) o f = hst h p o f g s1 o f := by unfold lih; rw [if_neg (by omega), if_neg (by omega)]
    have lg : lih (hst h p o f g s1) p f g (s / 13) o g = hst h p o f g s1 o g := by unfold lih; rw [if_neg (by omega), if_neg (by omega)]
    have hmo := hle o f c hf
    have hmg := hle o g c hg
    obtain ⟨M2, b1, b2, b3⟩ := hd_lay (M := M1) (t := 21) a3 c hf hg hne (n := s % 13) (by rw [lf, lg, e5, e6]; omega) (by rw [lf]; omega) (by rw [lg]; omega)
    rw [eo, if_neg (show ¬ nI o = (-1 : Int32) by rw [show (-1 : Int32) = -nI 1 from rfl, nm_ne (by omega)]; simp), of_eq (M := M1) (t := 21) a3.1 c hf, Option.bind_some, hr, Option.bind_some, b1, Option.bind_some]
    exact ⟨M2, rfl, fun a ha => by rw [b2 a (by omega) (by omega) (by omega) (by omega), r1 a ha], vHd_cong (hst_go2 H hs hs1 c) b3⟩
  · have eo : ov o = -nI 1 := by unfold ov; rw [if_neg c]
    rw [eo, if_pos (show -nI 1 = (-1 : Int32) from rfl)]
    exact ⟨M1, rfl, r1, vHd_cong (hst_go1 H hs hs1 c) a3⟩
theorem CC_fr {I I' : JI} {p o f g ec : Nat} (h : CC I p o f g ec) (hf : ∀ k, 9 ≤ k → k ≤ 13 → I' 20 k = I 20 k) : CC I' p o f g ec := by
  obtain ⟨c1, c2, c3, c4, c5⟩ := h
  exact ⟨by rw [hf 9 (by omega) (by omega)]; exact c1, by rw [hf 10 (by omega) (by omega)]; exact c2, by rw [hf 11 (by omega) (by omega)]; exact c3, by rw [hf 12 (by omega) (by omega)]; exact c4, by rw [hf 13 (by omega) (by omega)]; exact c5⟩
/-- turning to one of the parcels that is there -/
theorem ctn_eq {M : JI} {L : JL} {S : JS} {X ln : Nat} {E : Nat → (Nat → Int32) → Int32} (W : WB M L S X ln E) {h : Nat → Nat → Nat} {p o f g a b : Nat} (H : HB h p o f g a b) {ec s w : Nat} (hw : w = 0 ∨ (w = 1 ∧ o < 12)) {I : JI} {D : JG} (hk : kS M I) (hC : CC I p o f g ec) (hv : vHd (I 22) (I 23) (I 24) (I 25) (hst h p o f g s)) (d5 : D 15 5 = some X) : ∃ I', fX10_turnTo (nI w) I D S = some (I', j_up D 15 6 (some 21)) ∧ (∀ a, a ≠ 18 → a ≠ 20 → I' a = I a) ∧ (∀ k, k ≠ 14 → I' 20 k = I 20 k) ∧ CT M I' (j_up D 15 6 (some 21)) X h p o f g ec s (if w = 0 then p else o) := by
  have H0 := H
  obtain ⟨⟨hp, hf, hg, hne, ho, hop⟩, -⟩ := H0
  have hpw : (if w = 0 then p else o) < 12 := by
    rcases hw with rfl | ⟨rfl, h⟩
    · rw [if_pos rfl]; exact hp
    · rw [if_neg (by decide)]; exact h
  have hk1 : kS M (j_up I 20 14 (nI (if w = 0 then p else o))) := fun a ha => by rw [ju_row _ _ (by omega)]; exact hk a ha
  obtain ⟨r, a1, a2⟩ := cls_set (D := D) W hk1 (t := 21) (by omega) (h := hst h p o f g s) (by rw [ju_row _ _ (by omega), ju_row _ _ (by omega), ju_row _ _ (by omega), ju_row _ _ (by omega)]; exact hv) hpw hf
  have hx : fX10_turnTo (nI w) I D S = fX10_turnTo_16 (nI (if w = 0 then p else o)) I D S := by
    unfold fX10_turnTo
    rcases hw with rfl | ⟨rfl, h⟩
    · rw [if_pos (show nI 0 = (0 : Int32) from rfl), hC.1, if_pos rfl]
    · rw [if_neg (by decide), hC.2.1, if_neg (by decide)]
      unfold ov
      rw [if_pos h]
  refine ⟨jr (j_up I 20 14 (nI (if w = 0 then p else o))) 18 r, ?_, fun a h1 h2 => by rw [jr_ne _ _ h1, ju_row _ _ h2], fun k hk => by rw [jr_ne _ _ (by omega), ju_cell _ _ hk], ?_⟩
  · rw [hx]
    unfold fX10_turnTo_16
    rw [ju_same, if_neg (show ¬ nI (if w = 0 then p else o) = (-1 : Int32) by rw [show (-1 : Int32) = -nI 1 from rfl, nm_ne (by omega)]; simp), ju_cell _ _ (by omega), hC.2.2.1, a1, Option.bind_some]
  · refine ⟨fun a ha => by rw [jr_ne _ _ (by omega)]; exact hk1 a ha, CC_fr hC (fun k k1 k2 => by rw [jr_ne _ _ (by omega), ju_cell _ _ (by omega)]), by rw [jr_ne _ _ (by omega), ju_same], ?_, by rw [jr_at]; exact a2, by rw [ju_cell _ _ (by omega)]; exact d5, ju_same _ _ _ _⟩
    rw [jr_ne _ _ (by omega), jr_ne _ _ (by omega), jr_ne _ _ (by omega), jr_ne _ _ (by omega), ju_row _ _ (by omega), ju_row _ _ (by omega), ju_row _ _ (by omega), ju_row _ _ (by omega)]; exact hv
def CR (I : JI) (B : Bf) : Prop := I 20 8 = nI (bN B) ∧ (∀ k, k < bN B → I 27 k = nI (bQ B k)) ∧ (∀ s, s < 169 → I 28 s = if bm B s = true then nI (bS B s) else -nI 1) ∧ (∀ s, bm B s = true → bD B s ≠ 0 → I 29 s = nI (bV B s)) ∧ ∀ s, bm B s = true → bS B s < 169
theorem CR_fr {I I' : JI} {B : Bf} (h : CR I B) (h8 : I' 20 8 = I 20 8) (h27 : I' 27 = I 27) (h28 : I' 28 = I 28) (h29 : I' 29 = I 29) : CR I' B := by
  unfold CR at h ⊢
  rw [h8, h27, h28, h29]; exact h
def cFr (I I' : JI) : Prop := (∀ a, (a < 16 ∨ a = 19 ∨ a = 21 ∨ 29 < a) → I' a = I a) ∧ ∀ k, k ≠ 8 → k ≠ 14 → k ≠ 15 → k ≠ 17 → I' 20 k = I 20 k
theorem cFr_rfl (I : JI) : cFr I I := ⟨fun _ _ => rfl, fun _ _ _ _ _ => rfl⟩
theorem cFr_tr {I I' I'' : JI} (h : cFr I I') (h' : cFr I' I'') : cFr I I'' := ⟨fun a h1 => (h'.1 a h1).trans (h.1 a h1), fun k h1 h2 h3 h4 => (h'.2 k h1 h2 h3 h4).trans (h.2 k h1 h2 h3 h4)⟩
theorem cFr_o {I I' : JI} (h : oFr I I') : cFr I I' := ⟨fun a ha => h.1 a (by omega) (by omega) (by omega) (by omega), fun k h1 h2 h3 h4 => h.2 k h3⟩
/-- the search's place, class side -/
def CP (M I : JI) (D : JG) (X : Nat) (h : Nat → Nat → Nat) (p o f g ec s : Nat) : Prop := kS M I ∧ CC I p o f g ec ∧ vHd (I 22) (I 23) (I 24) (I 25) (hst h p o f g s) ∧ D 15 5 = some X
theorem CP_T {M I : JI} {D : JG} {X : Nat} {h : Nat → Nat → Nat} {p o f g ec s pw : Nat} (hc : CT M I D X h p o f g ec s pw) : CP M I D X h p o f g ec s := by
  obtain ⟨c1, c2, c7, c8, c9, c10, c11⟩ := hc
  exact ⟨c1, c2, c8, c10⟩
theorem lg_fa {r : Int64} {U : Nat → Bool} {q : Nat → Bool} (h : ∀ x, x < 64 → bL r x = (bL (1 : Int64) x && q x)) (hq : q 0 = decide (fa_first U 3 < 3)) : (lg_cmp r (0 : Int64) = 0) = ¬ fa_first U 3 < 3 := by
  apply propext
  rw [bL_cmp]
  constructor
  · intro h1
    have e := h 0 (by omega)
    rw [h1 0 (by omega), bL_one 0 (by omega), hq] at e
    simpa using e.symm
  · intro h1 x hx
    rw [h x hx, bL_one x hx]
    by_cases x0 : x = 0
    · rw [x0, hq, decide_eq_false h1]; rfl
    · rw [decide_eq_false x0]; rfl
/-- a step is kept -/
theorem kst_eq {I : JI} {B : Bf} (hR : CR I B) {s w n fm : Nat} (hto : bto w s n < 169) (h15 : I 20 15 = nI fm) : fX10_keepStep (nI s) (nI (bto w s n)) (nI w) (nI n) I = some (j_up (j_up I 28 (bto w s n) (nI s)) 29 (bto w s n) (nI (39 * w + 3 * n + fm))) := by
  unfold fX10_keepStep
  rw [jg_in hto (by decide), jg_in hto (by decide), nI_clamp (by omega), ju_row _ _ (show (20 : Nat) ≠ 28 by omega), h15]
  have : (nI w * (13 : Int32) + nI n) * (3 : Int32) + nI fm = nI (39 * w + 3 * n + fm) := by
    show (nI w * nI 13 + nI n) * nI 3 + nI fm = _
    rw [pk_mul, nI_add, pk_mul, nI_add]
    congr 1
    omega
  rw [this]
