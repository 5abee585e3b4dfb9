/-! ===== the reference's side of a passing's beginning ===== -/
def rs2 (N0 N : JI) : Prop := (∀ a, a < 86 → a ≠ 66 → N a = N0 a) ∧ (∀ k, k ≠ 51 → N 66 k = N0 66 k) ∧ ∀ k, (k < 10 ∨ 13 < k) → N 95 k = N0 95 k
theorem rs2_r {N0 N N' : JI} (h : rs2 N0 N) (h' : rSame N N') : rs2 N0 N' := ⟨fun a h1 h2 => (h'.1 a (by omega) h2).trans (h.1 a h1 h2), fun k h1 => (h'.2.1 k h1).trans (h.2.1 k h1), fun k h1 => (h'.2.2 k h1).trans (h.2.2 k h1)⟩
theorem rs2_up {N0 N : JI} (h : rs2 N0 N) {a k : Nat} {v : Int32} (ha : 96 ≤ a) : rs2 N0 (j_up N a k v) := ⟨fun b h1 h2 => by rw [ju_row _ _ (by omega), h.1 b h1 h2], fun j h1 => by rw [ju_row _ _ (by omega), h.2.1 j h1], fun j h1 => by rw [ju_row _ _ (by omega), h.2.2 j h1]⟩
theorem RB_2 {N0 N : JI} {h : Nat → Nat → Nat} {ln p f g fm : Nat} {sm : Int32} {E : Nat → (Nat → Int32) → Int32} (B : RB N0 h ln p f g fm sm E) (hN : rs2 N0 N) : RB N h ln p f g fm sm E := by
  obtain ⟨⟨e68, hb⟩, hb2, ⟨b1, b2, b3, b4, b5, b6⟩, ⟨r2, r3, hsd⟩, ⟨r4, hwet⟩, ⟨r5, r6, hdeg⟩, ⟨x, hx⟩, hl⟩ := B
  refine ⟨⟨by rw [hN.1 68 (by omega) (by omega)]; exact e68, hb⟩, hb2, ⟨by rw [hN.2.1 18 (by omega)]; exact b1, by rw [hN.2.1 46 (by omega)]; exact b2, by rw [hN.2.1 47 (by omega)]; exact b3, by rw [hN.2.1 48 (by omega)]; exact b4, by rw [hN.2.1 49 (by omega)]; exact b5, by rw [hN.2.1 50 (by omega)]; exact b6⟩, ⟨r2, r3, by rw [hN.1 69 (by omega) (by omega)]; exact hsd⟩, ⟨r4, by rw [hN.1 70 (by omega) (by omega)]; exact hwet⟩, ⟨r5, r6, by rw [hN.1 71 (by omega) (by omega)]; exact hdeg⟩, ⟨x, by rw [hN.1 72 (by omega) (by omega)]; exact hx⟩, fun i hi => ?_⟩
  have := hl i hi
  unfold rE at this ⊢
  rw [hN.1 75 (by omega) (by omega), hN.1 76 (by omega) (by omega), hN.1 77 (by omega) (by omega), hN.1 80 (by omega) (by omega), hN.1 81 (by omega) (by omega), hN.1 82 (by omega) (by omega), hN.1 83 (by omega) (by omega)]
  exact this
theorem sp_2 {N0 N : JI} {h : Nat → Nat → Nat} {ln p f g fm : Nat} {sm : Int32} {E : Nat → (Nat → Int32) → Int32} (B : RB N0 h ln p f g fm sm E) (hN : rs2 N0 N) : (∀ q, lfR N h ln p f fm sm E q = lfR N0 h ln p f fm sm E q) ∧ frR N h ln p f g sm E = frR N0 h ln p f g sm E ∧ kaR N sm = kaR N0 sm := by
  have hl := B.2.2.2.2.2.2.2
  obtain ⟨c1, c2⟩ := br_eq (N0 := N) (M := N0) (h := h) (ln := ln) (p := p) (f := f) (g := g) (fm := fm) (sm := sm) (fb := fun k => N0 95 (k + 1)) (E := E) (fun a ha => hN.1 a (by omega) (by omega)) (fun k hk => hN.2.2 (k + 1) (by omega)) (fun i hi => (hl i hi).2.2.1)
  refine ⟨fun q => c1 q, c2, ?_⟩
  funext i
  unfold kaR kdR acR
  have emb : lwMb N = lwMb N0 := by funext j; unfold lwMb; rw [hN.1 76 (by omega) (by omega)]
  rw [emb, hN.1 75 (by omega) (by omega)]
/-- what is kept of one of the people -/
def rgQ (N : JI) (m : Nat) (N0 : JI) (h : Nat → Nat → Nat) (ln p f : Nat) (sm : Int32) (may : Nat → Bool) (lf : Nat → Nat) (q : Nat) : Prop := N 109 (16 * m + q) = (if may q then rkR N0 sm ln (lf q) else -nI 1) ∧ N 110 (16 * m + q) = (if may q then N0 79 (lf q) else nI 0) ∧ N 111 (16 * m + q) = (if may q then nI (wtS (N0 69) (N0 70) (N0 71) h (N0 77 (lf q)).toNatClampNeg p f q) else nI 0) ∧ N 112 (16 * m + q) = -nI 1 ∧ N 113 (16 * m + q) = nI 0
theorem rp_loop {N0 : JI} {h : Nat → Nat → Nat} {ln p f g fm m : Nat} {sm nw : Int32} {E : Nat → (Nat → Int32) → Int32} (B : RB N0 h ln p f g fm sm E) (hm : m < 40) : ∀ d k, k + d = 16 → ∀ n, d < n → ∀ N, rs2 N0 N → N 104 m = bI (frR N0 h ln p f g sm E) → N 105 m = rkR N0 sm ln (lfR N0 h ln p f fm sm E g) → (∀ q, q < k → rgQ N m N0 h ln p f sm (cmR N0 h ln p f g fm sm E) (lfR N0 h ln p f fm sm E) q) → ∃ N', fX12_pass_203 n (nI p) (nI f) (nI g) nw (nI m) (nI k) N = fX12_pass_381 (nI p) (nI f) (nI g) nw (nI m) N' ∧ rs2 N0 N' ∧ (∀ q, q < 16 → rgQ N' m N0 h ln p f sm (cmR N0 h ln p f g fm sm E) (lfR N0 h ln p f fm sm E) q) ∧ (∀ a, 95 < a → (a < 109 ∨ 113 < a) → N' a = N a) ∧ ∀ a i, 109 ≤ a → a ≤ 113 → (i < 16 * m ∨ 16 * m + 16 ≤ i) → N' a i = N a i := by
  have B0 := B
  obtain ⟨⟨e68, hb⟩, ⟨hp, hf, hg, hln, hfm⟩, -, ⟨z2, z3, hsd⟩, ⟨z4, hwet⟩, ⟨z5, z6, hdeg⟩, -, hl⟩ := B
  intro d
  induction d with
  | zero =>
    intro k hk n hn N hN h104 h105 hq
    obtain ⟨n', rfl⟩ := suc_of hn
    have : k = 16 := by omega
    subst this
    exact ⟨N, by rw [fX12_pass_203, if_pos (by decide)], hN, hq, fun _ _ _ => rfl, fun _ _ _ _ _ => rfl⟩
  | succ d ih =>
    intro k hk n hn N hN h104 h105 hq
    obtain ⟨n', rfl⟩ := suc_of hn
    have e1 : nI k + (1 : Int32) = nI (k + 1) := nI_1 k
    have em : (nI m).toNatClampNeg = m := nI_clamp (by omega)
    have ei : (nI (16 * m + k)).toNatClampNeg = 16 * m + k := nI_clamp (by omega)
    have gm : ∀ {α : Type} (z : Option α), j_g (j_in (nI m) 40) z = z := fun z => jg_in hm (by decide)
    have gi : ∀ {α : Type} (z : Option α), j_g (j_in (nI (16 * m + k)) 640) z = z := fun z => jg_in (by omega) (by decide)
    have BN := RB_2 B0 hN
    obtain ⟨sp1, sp2, sp3⟩ := sp_2 B0 hN
    obtain ⟨N1, r1, r2, r3⟩ := rk_eq BN (q := k) (by omega) (rSame_rfl N)
    have ecf := cf_eq BN (q := k) (by omega) r2
    have erk : ∀ l, rkR N sm ln l = rkR N0 sm ln l := fun l => by unfold rkR; rw [sp3]
    rw [sp1, erk] at r1
    rw [sp1] at r3
    rw [sp1, sp1, erk, erk] at ecf
    have hN1 := rs2_r hN r2
    have h104' : N1 104 m = bI (frR N0 h ln p f g sm E) := by rw [r2.1 104 (by omega) (by omega)]; exact h104
    have h105' : N1 105 m = rkR N0 sm ln (lfR N0 h ln p f fm sm E g) := by rw [r2.1 105 (by omega) (by omega)]; exact h105
    have hrec : ∀ (v1 v2 v3 : Int32), v1 = (if cmR N0 h ln p f g fm sm E k then rkR N0 sm ln (lfR N0 h ln p f fm sm E k) else -nI 1) → v2 = (if cmR N0 h ln p f g fm sm E k then N0 79 (lfR N0 h ln p f fm sm E k) else nI 0) → v3 = (if cmR N0 h ln p f g fm sm E k then nI (wtS (N0 69) (N0 70) (N0 71) h (N0 77 (lfR N0 h ln p f fm sm E k)).toNatClampNeg p f k) else nI 0) → ∃ N', fX12_pass_203 n' (nI p) (nI f) (nI g) nw (nI m) (nI (k + 1)) (j_up (j_up (j_up (j_up (j_up N1 109 (16 * m + k) v1) 110 (16 * m + k) v2) 111 (16 * m + k) v3) 112 (16 * m + k) (-1 : Int32)) 113 (16 * m + k) (0 : Int32)) = fX12_pass_381 (nI p) (nI f) (nI g) nw (nI m) N' ∧ rs2 N0 N' ∧ (∀ q, q < 16 → rgQ N' m N0 h ln p f sm (cmR N0 h ln p f g fm sm E) (lfR N0 h ln p f fm sm E) q) ∧ (∀ a, 95 < a → (a < 109 ∨ 113 < a) → N' a = N a) ∧ ∀ a i, 109 ≤ a → a ≤ 113 → (i < 16 * m ∨ 16 * m + 16 ≤ i) → N' a i = N a i := by
      intro v1 v2 v3 e1 e2 e3
      generalize hN2 : j_up (j_up (j_up (j_up (j_up N1 109 (16 * m + k) v1) 110 (16 * m + k) v2) 111 (16 * m + k) v3) 112 (16 * m + k) (-1 : Int32)) 113 (16 * m + k) (0 : Int32) = N2
      have s2 : rs2 N0 N2 := by rw [← hN2]; exact rs2_up (rs2_up (rs2_up (rs2_up (rs2_up hN1 (by omega)) (by omega)) (by omega)) (by omega)) (by omega)
      have ro : ∀ a, (a < 109 ∨ 113 < a) → N2 a = N1 a := by
        intro a ha
        rw [← hN2, ju_row _ _ (by omega), ju_row _ _ (by omega), ju_row _ _ (by omega), ju_row _ _ (by omega), ju_row _ _ (by omega)]
      have rc : ∀ a i, i ≠ 16 * m + k → N2 a i = N1 a i := by
        intro a i hi
        rw [← hN2, j_up_ne _ _ (fun e => hi e.2), j_up_ne _ _ (fun e => hi e.2), j_up_ne _ _ (fun e => hi e.2), j_up_ne _ _ (fun e => hi e.2), j_up_ne _ _ (fun e => hi e.2)]
      obtain ⟨N', a1, a2, a3, a4, a5⟩ := ih (k + 1) (by omega) n' (by omega) N2 s2 (by rw [ro 104 (by omega)]; exact h104') (by rw [ro 105 (by omega)]; exact h105') (fun q hqk => by
        by_cases e : q = k
        · subst e
          refine ⟨?_, ?_, ?_, ?_, ?_⟩
          · rw [← hN2, ju_row _ _ (by omega), ju_row _ _ (by omega), ju_row _ _ (by omega), ju_row _ _ (by omega), ju_same]; exact e1
          · rw [← hN2, ju_row _ _ (by omega), ju_row _ _ (by omega), ju_row _ _ (by omega), ju_same]; exact e2
          · rw [← hN2, ju_row _ _ (by omega), ju_row _ _ (by omega), ju_same]; exact e3
          · rw [← hN2, ju_row _ _ (by omega), ju_same]; rfl
          · rw [← hN2, ju_same]; rfl
        · obtain ⟨g1, g2, g3, g4, g5⟩ := hq q (by omega)
          have rr : ∀ a, 109 ≤ a → a ≤ 113 → N2 a (16 * m + q) = N a (16 * m + q) := fun a x1 x2 => by rw [rc a _ (by omega), r2.1 a (by omega) (by omega)]
          refine ⟨?_, ?_, ?_, ?_, ?_⟩
          · rw [rr 109 (by omega) (by omega)]; exact g1
          · rw [rr 110 (by omega) (by omega)]; exact g2
          · rw [rr 111 (by omega) (by omega)]; exact g3
          · rw [rr 112 (by omega) (by omega)]; exact g4
          · rw [rr 113 (by omega) (by omega)]; exact g5)
      refine ⟨N', a1, a2, a3, fun a x1 x2 => by rw [a4 a x1 x2, ro a x2, r2.1 a (by omega) (by omega)], fun a i x1 x2 x3 => by rw [a5 a i x1 x2 x3, rc a i (by omega), r2.1 a (by omega) (by omega)]⟩
    have no : cmR N0 h ln p f g fm sm E k = false → fX12_pass_251 (fX12_pass_203 n') (nI p) (nI f) (nI g) nw (nI m) (nI k) (rkR N0 sm ln (lfR N0 h ln p f fm sm E k)) (0 : Int32) N1 = fX12_pass_203 n' (nI p) (nI f) (nI g) nw (nI m) (nI (k + 1)) (j_up (j_up (j_up (j_up (j_up N1 109 (16 * m + k) (-1 : Int32)) 110 (16 * m + k) (0 : Int32)) 111 (16 * m + k) (0 : Int32)) 112 (16 * m + k) (-1 : Int32)) 113 (16 * m + k) (0 : Int32)) := by
      intro _
      unfold fX12_pass_251
      rw [if_pos rfl]
      unfold fX12_pass_276
      rw [at16, gi, if_pos rfl]
      unfold fX12_pass_307
      rw [gi, if_pos rfl]
      unfold fX12_pass_346
      rw [at16, gi, gi, gi, ei, e1]
    rw [fX12_pass_203, if_neg (show ¬ (16 : Int32) ≤ nI k from nI_ge (b := 16) (by omega) (by omega)), r1, Option.bind_some, gm, em]
    show ∃ N', (if (jm_b01 (N1 104 m)) = 0 then (j_g (j_in (nI m) 40) ((fX12_comesFirst (nI k) (rkR N0 sm ln (lfR N0 h ln p f fm sm E k)) (N1 105 m) N1).bind (fun q6 => if q6 = 0 then (fX12_pass_251 (fX12_pass_203 n') (nI p) (nI f) (nI g) nw (nI m) (nI k) (rkR N0 sm ln (lfR N0 h ln p f fm sm E k)) (0 : Int32) N1) else (fX12_pass_251 (fX12_pass_203 n') (nI p) (nI f) (nI g) nw (nI m) (nI k) (rkR N0 sm ln (lfR N0 h ln p f fm sm E k)) (1 : Int32) N1)))) else (fX12_pass_251 (fX12_pass_203 n') (nI p) (nI f) (nI g) nw (nI m) (nI k) (rkR N0 sm ln (lfR N0 h ln p f fm sm E k)) (0 : Int32) N1)) = _ ∧ _
    rw [h104', h105', bI_b01, gm]
    by_cases cfr : frR N0 h ln p f g sm E = true
    · have c0 : cmR N0 h ln p f g fm sm E k = false := by unfold cmR; rw [cfr]; rfl
      rw [cfr, if_neg (by decide), no c0]
      exact hrec _ _ _ (by rw [c0]; rfl) (by rw [c0]; rfl) (by rw [c0]; rfl)
    · have cfr0 : frR N0 h ln p f g sm E = false := by simpa using cfr
      rw [cfr0, if_pos (by decide), ecf, Option.bind_some]
      have ecm : cmR N0 h ln p f g fm sm E k = (!decide (k = g) && decide (lfR N0 h ln p f fm sm E k < lfR N0 h ln p f fm sm E g)) := by unfold cmR; rw [cfr0]; rfl
      rw [← ecm]
      by_cases c : cmR N0 h ln p f g fm sm E k = true
      · have hlt : lfR N0 h ln p f fm sm E k < ln := by
          have := c
          rw [ecm] at this
          simp at this
          have h2 := lf_le (N := N0) (h := h) (ln := ln) (p := p) (f := f) (fm := fm) (sm := sm) (E := E) g
          omega
        have h51 := r3 hlt
        have hkd : N0 75 (lfR N0 h ln p f fm sm E k) = nI 0 := by
          have := lf_ka hlt
          unfold kaR kdR at this
          simp only [Bool.and_eq_true, decide_eq_true_eq] at this
          exact this.1
        obtain ⟨w, hw, ew⟩ := (hl _ hlt).2.2.2 hkd
        rw [c, if_neg (by decide)]
        unfold fX12_pass_251
        rw [if_neg (by decide)]
        unfold fX12_pass_276
        rw [at16, gi, if_neg (by decide), ju_row _ _ (show (66 : Nat) ≠ 109 by omega), h51, jg_in (by omega) (by decide), ei, nI_clamp (by omega), ju_row _ _ (show (79 : Nat) ≠ 109 by omega), hN1.1 79 (by omega) (by omega)]
        unfold fX12_pass_307
        rw [gi, if_neg (by decide), ei, ju_row _ _ (show (66 : Nat) ≠ 110 by omega), ju_row _ _ (show (66 : Nat) ≠ 109 by omega), h51, jg_in (by omega) (by decide), nI_clamp (by omega), ju_row _ _ (show (77 : Nat) ≠ 110 by omega), ju_row _ _ (show (77 : Nat) ≠ 109 by omega), hN1.1 77 (by omega) (by omega), ew]
        have rr : ∀ a, a < 86 → a ≠ 66 → (j_up (j_up N1 109 (16 * m + k) (rkR N0 sm ln (lfR N0 h ln p f fm sm E k))) 110 (16 * m + k) (N0 79 (lfR N0 h ln p f fm sm E k))) a = N0 a := fun a x1 x2 => by rw [ju_row _ _ (by omega), ju_row _ _ (by omega), hN1.1 a x1 x2]
        have hwt := wt_eq (M := j_up (j_up N1 109 (16 * m + k) (rkR N0 sm ln (lfR N0 h ln p f fm sm E k))) 110 (16 * m + k) (N0 79 (lfR N0 h ln p f fm sm E k))) (h := h) (r2 := z2) (r3 := z3) (r4 := z4) (r5 := z5) (r6 := z6) (by rw [rr 69 (by omega) (by omega)]; exact hsd) (by rw [rr 70 (by omega) (by omega)]; exact hwet) (by rw [rr 71 (by omega) (by omega)]; exact hdeg) (by rw [rr 68 (by omega) (by omega)]; exact e68) hw hp hf (show k < 16 by omega)
        rw [rr 69 (by omega) (by omega), rr 70 (by omega) (by omega), rr 71 (by omega) (by omega)] at hwt
        rw [hwt, Option.bind_some]
        unfold fX12_pass_346
        rw [at16, gi, gi, gi, ei, e1]
        exact hrec _ _ _ (by rw [c]; rfl) (by rw [c]; rfl) (by
          rw [c, if_pos rfl, ew, nI_clamp (by omega)])
      · have c0 : cmR N0 h ln p f g fm sm E k = false := by simpa using c
        rw [c0, if_pos (by decide), no c0]
        exact hrec _ _ _ (by rw [c0]; rfl) (by rw [c0]; rfl) (by rw [c0]; rfl)
