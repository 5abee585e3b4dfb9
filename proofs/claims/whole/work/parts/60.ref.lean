/-! ===== the reference's judgment ===== -/
def rSame (N0 N : JI) : Prop := (∀ a, (a < 86 ∨ 95 < a) → a ≠ 66 → N a = N0 a) ∧ (∀ k, k ≠ 51 → N 66 k = N0 66 k) ∧ ∀ k, (k < 10 ∨ 13 < k) → N 95 k = N0 95 k
theorem rSame_rfl (N : JI) : rSame N N := ⟨fun _ _ _ => rfl, fun _ _ => rfl, fun _ _ => rfl⟩
theorem rSame_tr {N0 N N' : JI} (h : rSame N0 N) (h' : rSame N N') : rSame N0 N' := ⟨fun a h1 h2 => (h'.1 a h1 h2).trans (h.1 a h1 h2), fun k h1 => (h'.2.1 k h1).trans (h.2.1 k h1), fun k h1 => (h'.2.2 k h1).trans (h.2.2 k h1)⟩
def rE (N0 : JI) (i : Nat) (E : (Nat → Int32) → Int32) : Prop := (∀ N : JI, N 81 i = N0 81 i → N 82 i = N0 82 i → (∀ k, k < 1000 → N 83 k = N0 83 k) → ∃ N', fX12_worth (nI i) N = some (E (fun k => N 95 (k + 1)), N') ∧ ∀ a, (a < 86 ∨ 94 < a) → N' a = N a) ∧ ∀ f g : Nat → Int32, (∀ k, k < 14 → f k = g k) → E f = E g
/-- what the reference's judgment stands on -/
def RB (N : JI) (h : Nat → Nat → Nat) (ln p f g fm : Nat) (sm : Int32) (E : Nat → (Nat → Int32) → Int32) : Prop :=
  (twRep (N 68) h ∧ (∀ p q, p < 12 → q < 16 → h p q ≤ 12)) ∧ (p < 12 ∧ f < 16 ∧ g < 16 ∧ ln ≤ 18 ∧ fm < 3) ∧ (N 66 18 = nI ln ∧ N 66 46 = nI p ∧ N 66 47 = nI f ∧ N 66 48 = nI g ∧ N 66 49 = nI fm ∧ N 66 50 = sm) ∧ (∃ r2 r3, vSide r2 r3 (N 69)) ∧ (∃ r4, vWet r4 (N 70)) ∧ (∃ r5 r6, vDeg r5 r6 (N 71)) ∧ (∃ x, vBits x (N 72)) ∧
  ∀ i, i < ln → (N 75 i = nI 0 ∨ N 75 i = nI 1) ∧ (N 76 i = nI 0 ∨ N 76 i = nI 1) ∧ (N 80 i = nI 0 ∨ (N 80 i = nI 1 ∧ rE N i (E i))) ∧ (N 75 i = nI 0 → ∃ w, w < 4 ∧ N 77 i = nI w)
def owS (h : Nat → Nat → Nat) (q : Nat) : Nat := fb_ct (fun p => decide (0 < h p q)) 12
def kdR (N : JI) (i : Nat) : Bool := decide (N 75 i = nI 0)
def acR (N : JI) (sm : Int32) (i : Nat) : Bool := !lwMb N i || bt sm (fb_ct (lwMb N) i)
def foR (N : JI) (fm i : Nat) : Bool := bt (N 78 i) fm
def wtR (N : JI) (h : Nat → Nat → Nat) (p f i q : Nat) : Bool := decide (0 < wtS (N 69) (N 70) (N 71) h (N 77 i).toNatClampNeg p f q)
def fcR (N : JI) (h : Nat → Nat → Nat) (p f q k : Nat) : Int32 := if k = 9 then N 72 q else if k = 10 then nI (h p q) else if k = 11 then nI (owS h q) else if k = 12 then N 71 (16 * f + q) else N 95 (k + 1)
def cnR (N : JI) (h : Nat → Nat → Nat) (p f : Nat) (E : Nat → (Nat → Int32) → Int32) (i q : Nat) : Bool := decide (N 80 i = nI 0) || !decide (E i (fcR N h p f q) = nI 0)
def qyR (N : JI) (h : Nat → Nat → Nat) (p f fm : Nat) (sm : Int32) (E : Nat → (Nat → Int32) → Int32) (q i : Nat) : Bool := kdR N i && acR N sm i && foR N fm i && wtR N h p f i q && cnR N h p f E i q
def lfR (N : JI) (h : Nat → Nat → Nat) (ln p f fm : Nat) (sm : Int32) (E : Nat → (Nat → Int32) → Int32) (q : Nat) : Nat := if q = f then ln else fa_first (qyR N h p f fm sm E q) ln
def frR (N : JI) (h : Nat → Nat → Nat) (ln p f g : Nat) (sm : Int32) (E : Nat → (Nat → Int32) → Int32) : Bool := decide (fa_first (fun i => !kdR N i && acR N sm i && cnR N h p f E i g) ln < ln)
theorem ow_loop {N : JI} {h : Nat → Nat → Nat} (e68 : twRep (N 68) h) (hb : ∀ p q, p < 12 → q < 16 → h p q ≤ 12) {q : Nat} (hq : q < 16) : ∀ d k, k + d = 12 → ∀ n, d < n → fX12_ownsOf_4 n (nI q) (nI (fb_ct (fun p => decide (0 < h p q)) k)) (nI k) N = some (nI (owS h q)) := by
  intro d
  induction d with
  | zero =>
    intro k hk n hn
    obtain ⟨n', rfl⟩ := suc_of hn
    have : k = 12 := by omega
    subst this
    rw [fX12_ownsOf_4, if_pos (by decide)]; rfl
  | succ d ih =>
    intro k hk n hn
    obtain ⟨n', rfl⟩ := suc_of hn
    have e1 : nI k + (1 : Int32) = nI (k + 1) := nI_1 k
    have e0 : ∀ x, nI x + (0 : Int32) = nI x := fun x => Int32.add_zero _
    have hle := hb k q (by omega) hq
    rw [fX12_ownsOf_4, if_neg (show ¬ (12 : Int32) ≤ nI k from nI_ge (b := 12) (by omega) (by omega)), at16, jg_in (by omega) (by decide), nI_clamp (by omega), e68 k q (by omega) hq, e1, ← ih (k + 1) (by omega) n' (by omega), fb_ct_succ]
    by_cases c : 0 < h k q
    · rw [if_neg (show ¬ nI (h k q) ≤ 0 from nI_nle c (by omega)), nI_1, if_pos (decide_eq_true c)]
    · have : h k q = 0 := by omega
      rw [this, if_pos (by decide), e0, if_neg (by simp)]; rfl
theorem ow_eq {N : JI} {h : Nat → Nat → Nat} (e68 : twRep (N 68) h) (hb : ∀ p q, p < 12 → q < 16 → h p q ≤ 12) {q : Nat} (hq : q < 16) : fX12_ownsOf (nI q) N = some (nI (owS h q)) := ow_loop e68 hb hq 12 0 (by omega) 100000 (by omega)
theorem so_eq {N0 : JI} {h : Nat → Nat → Nat} {ln p f g fm : Nat} {sm : Int32} {E : Nat → (Nat → Int32) → Int32} (B : RB N0 h ln p f g fm sm E) {i q : Nat} (hi : i < ln) (hq : q < 16) {N : JI} (hN : rSame N0 N) : ∃ N', fX12_isSo (nI i) (nI q) N = some (bI (cnR N0 h p f E i q), N') ∧ rSame N0 N' := by
  obtain ⟨⟨e68, hb⟩, ⟨hp, hf, hg, hln, hfm⟩, ⟨b1, b2, b3, b4, b5, b6⟩, -, -, -, ⟨x, hx⟩, hl⟩ := B
  obtain ⟨l1, l2, l3, l4⟩ := hl i hi
  unfold fX12_isSo
  rw [jg_in (by omega) (by decide), nI_clamp (by omega), hN.1 80 (by omega) (by omega)]
  rcases l3 with l3 | ⟨l3, hE⟩
  · refine ⟨N, ?_, hN⟩
    rw [l3, if_pos (by decide)]
    unfold cnR
    rw [l3]; rfl
  · rw [l3, if_neg (by decide), jg_in hq (by decide), nI_clamp (by omega), hN.1 72 (by omega) (by omega), hx q hq, bI_b01]
    have core : ∀ z : Bool, ∃ N', fX12_isSo_31 (nI i) (nI q) (bI z) (10 : Int32) N = some (bI (!decide (E i (fun k => if k = 9 then bI z else fcR N0 h p f q k) = nI 0)), N') ∧ rSame N0 N' := by
      intro z
      unfold fX12_isSo_31
      have c10 : (10 : Int32).toNatClampNeg = 10 := by decide
      have c11 : (11 : Int32).toNatClampNeg = 11 := by decide
      have c12 : (12 : Int32).toNatClampNeg = 12 := by decide
      have c13 : (13 : Int32).toNatClampNeg = 13 := by decide
      have g10 : ∀ {α : Type} (z : Option α), j_g (j_in (10 : Int32) 20) z = z := fun z => jg_in (k := 10) (by omega) (by decide)
      have g11 : ∀ {α : Type} (z : Option α), j_g (j_in (11 : Int32) 20) z = z := fun z => jg_in (k := 11) (by omega) (by decide)
      have g12 : ∀ {α : Type} (z : Option α), j_g (j_in (12 : Int32) 20) z = z := fun z => jg_in (k := 12) (by omega) (by decide)
      have g13 : ∀ {α : Type} (z : Option α), j_g (j_in (13 : Int32) 20) z = z := fun z => jg_in (k := 13) (by omega) (by decide)
      simp only [c10, c11, c12, c13, g10, g11, g12, g13, ju_row _ _ (show (66 : Nat) ≠ 95 by omega), ju_row _ _ (show (68 : Nat) ≠ 95 by omega), ju_row _ _ (show (71 : Nat) ≠ 95 by omega)]
      rw [hN.2.1 46 (by omega), hN.2.1 47 (by omega), b2, b3, at16, at16, jg_in (by omega) (by decide), nI_clamp (by omega), hN.1 68 (by omega) (by omega), e68 p q hp hq]
      rw [ow_eq (h := h) (by rw [ju_row _ _ (by omega), ju_row _ _ (by omega), hN.1 68 (by omega) (by omega)]; exact e68) hb hq, Option.bind_some, jg_in (by omega) (by decide), nI_clamp (by omega), hN.1 71 (by omega) (by omega)]
      generalize hN2 : j_up (j_up (j_up (j_up N 95 10 (bI z)) 95 11 (nI (h p q))) 95 12 (nI (owS h q))) 95 13 (N0 71 (16 * f + q)) = N2
      have r2 : ∀ a, a ≠ 95 → N2 a = N a := by
        intro a ha
        rw [← hN2, ju_row _ _ ha, ju_row _ _ ha, ju_row _ _ ha, ju_row _ _ ha]
      have s2 : rSame N0 N2 := by
        refine ⟨fun a h1 h2 => by rw [r2 a (by omega), hN.1 a h1 h2], fun k h1 => by rw [r2 66 (by omega), hN.2.1 k h1], fun k h1 => ?_⟩
        rw [← hN2, ju_cell _ _ (by omega), ju_cell _ _ (by omega), ju_cell _ _ (by omega), ju_cell _ _ (by omega), hN.2.2 k h1]
      obtain ⟨N3, w1, w2⟩ := hE.1 N2 (by rw [r2 81 (by omega), hN.1 81 (by omega) (by omega)]) (by rw [r2 82 (by omega), hN.1 82 (by omega) (by omega)]) (fun k _ => by rw [r2 83 (by omega), hN.1 83 (by omega) (by omega)])
      have eE : E i (fun k => N2 95 (k + 1)) = E i (fun k => if k = 9 then bI z else fcR N0 h p f q k) := by
        apply hE.2
        intro k hk
        show N2 95 (k + 1) = if k = 9 then bI z else fcR N0 h p f q k
        unfold fcR
        by_cases k9 : k = 9
        · subst k9
          rw [if_pos rfl, ← hN2, ju_cell _ _ (by omega), ju_cell _ _ (by omega), ju_cell _ _ (by omega), ju_same]
        · rw [if_neg k9, if_neg k9]
          by_cases k10 : k = 10
          · subst k10
            rw [if_pos rfl, ← hN2, ju_cell _ _ (by omega), ju_cell _ _ (by omega), ju_same]
          · rw [if_neg k10]
            by_cases k11 : k = 11
            · subst k11
              rw [if_pos rfl, ← hN2, ju_cell _ _ (by omega), ju_same]
            · rw [if_neg k11]
              by_cases k12 : k = 12
              · subst k12
                rw [if_pos rfl, ← hN2, ju_same]
              · rw [if_neg k12, s2.2.2 (k + 1) (by omega)]
      refine ⟨N3, ?_, ⟨fun a h1 h2 => by rw [w2 a (by omega), s2.1 a h1 h2], fun k h1 => by rw [w2 66 (by omega), s2.2.1 k h1], fun k h1 => by rw [w2 95 (by omega), s2.2.2 k h1]⟩⟩
      rw [w1, Option.bind_some, eE]
      by_cases c : E i (fun k => if k = 9 then bI z else fcR N0 h p f q k) = nI 0
      · rw [if_pos (show _ = (0 : Int32) from c)]; simp [c]; rfl
      · rw [if_neg (show ¬ _ = (0 : Int32) from c)]; simp [c]; rfl
    obtain ⟨N', a1, a2⟩ := core (bt x q)
    refine ⟨N', ?_, a2⟩
    have e1 : (fun k => if k = 9 then bI (bt x q) else fcR N0 h p f q k) = fcR N0 h p f q := by
      funext k
      by_cases k9 : k = 9
      · subst k9
        rw [if_pos rfl]; unfold fcR; rw [if_pos rfl, hx q hq]
      · rw [if_neg k9]
    rw [e1] at a1
    have e2 : cnR N0 h p f E i q = !decide (E i (fcR N0 h p f q) = nI 0) := by
      unfold cnR
      rw [l3]; rfl
    rw [e2, ← a1]
    cases bt x q <;> rfl
theorem fo_loop {N : JI} {i : Nat} (hi : i < 36) (hb : ∀ j, j < i → N 76 j = nI 0 ∨ N 76 j = nI 1) : ∀ d k, k + d = i → ∀ n, d < n → fX12_isForced_15 n (nI i) (nI (fb_ct (lwMb N) k)) (nI k) N = fX12_isForced_43 (nI (fb_ct (lwMb N) i)) N := by
  intro d
  induction d with
  | zero =>
    intro k hk n hn
    obtain ⟨n', rfl⟩ := suc_of hn
    have : k = i := by omega
    subst this
    rw [fX12_isForced_15, if_pos (nI_le (Nat.le_refl _) (by omega))]
  | succ d ih =>
    intro k hk n hn
    obtain ⟨n', rfl⟩ := suc_of hn
    have e1 : nI k + (1 : Int32) = nI (k + 1) := nI_1 k
    have e0 : ∀ x, nI x + (0 : Int32) = nI x := fun x => Int32.add_zero _
    rw [fX12_isForced_15, if_neg (nI_ge (by omega) (by omega)), jg_in (by omega) (by decide), nI_clamp (by omega), e1, ← ih (k + 1) (by omega) n' (by omega), fb_ct_succ]
    rcases hb k (by omega) with c | c
    · have : lwMb N k = false := by unfold lwMb; rw [c]; decide
      rw [c, this, if_pos (by decide), e0]; rfl
    · have : lwMb N k = true := by unfold lwMb; rw [c]; decide
      rw [c, this, if_neg (by decide), nI_1]; rfl
theorem fo_eq {N0 : JI} {h : Nat → Nat → Nat} {ln p f g fm : Nat} {sm : Int32} {E : Nat → (Nat → Int32) → Int32} (B : RB N0 h ln p f g fm sm E) {i : Nat} (hi : i < ln) {N : JI} (hN : rSame N0 N) : fX12_isForced (nI i) N = some (bI (acR N0 sm i)) := by
  obtain ⟨-, ⟨hp, hf, hg, hln, hfm⟩, ⟨b1, b2, b3, b4, b5, b6⟩, -, -, -, -, hl⟩ := B
  have e76 : N 76 = N0 76 := hN.1 76 (by omega) (by omega)
  have emb : lwMb N = lwMb N0 := by funext j; unfold lwMb; rw [e76]
  unfold fX12_isForced
  rw [jg_in (by omega) (by decide), nI_clamp (by omega), e76]
  have hct : fb_ct (lwMb N0) i < 32 := by have := fb_ct_le (lwMb N0) i; omega
  rcases (hl i hi).2.1 with c | c
  · rw [c, if_pos (by decide)]
    have : lwMb N0 i = false := by unfold lwMb; rw [c]; decide
    unfold acR; rw [this]; rfl
  · have hm : lwMb N0 i = true := by unfold lwMb; rw [c]; decide
    have h1 := fo_loop (N := N) (i := i) (by omega) (fun j hj => by rw [e76]; exact (hl j (by omega)).2.1) i 0 (by omega) 100000 (by omega)
    rw [emb] at h1
    rw [c, if_neg (by decide)]
    refine h1.trans ?_
    unfold fX12_isForced_43 acR
    rw [hN.2.1 50 (by omega), b6, hm, li_31, li_1, bt_val _ hct]
    cases bt sm (fb_ct (lwMb N0) i) <;> rfl
