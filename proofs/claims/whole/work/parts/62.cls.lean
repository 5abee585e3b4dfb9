/-! ===== the class's judgment ===== -/
def fcG (M : JI) (h : Nat → Nat → Nat) (p f : Nat) (fb : Nat → Int32) (q k : Nat) : Int32 := if k = 9 then M 72 q else if k = 10 then nI (h p q) else if k = 11 then nI (owS h q) else if k = 12 then M 71 (16 * f + q) else fb k
def cnG (M : JI) (h : Nat → Nat → Nat) (p f : Nat) (fb : Nat → Int32) (E : Nat → (Nat → Int32) → Int32) (i q : Nat) : Bool := decide (M 80 i = nI 0) || !decide (E i (fcG M h p f fb q) = nI 0)
def qyG (M : JI) (h : Nat → Nat → Nat) (p f fm : Nat) (sm : Int32) (fb : Nat → Int32) (E : Nat → (Nat → Int32) → Int32) (q i : Nat) : Bool := kdR M i && acR M sm i && foR M fm i && wtR M h p f i q && cnG M h p f fb E i q
def cSame (M0 M : JI) : Prop := (∀ a, a ≠ 16 → a ≠ 17 → M a = M0 a) ∧ ∀ k, (k < 9 ∨ 12 < k) → M 16 k = M0 16 k
theorem cSame_rfl (M : JI) : cSame M M := ⟨fun _ _ _ => rfl, fun _ _ => rfl⟩
theorem cSame_tr {M0 M M' : JI} (h : cSame M0 M) (h' : cSame M M') : cSame M0 M' := ⟨fun a h1 h2 => (h'.1 a h1 h2).trans (h.1 a h1 h2), fun k h1 => (h'.2 k h1).trans (h.2 k h1)⟩
def cE (X : Nat) (M : JI) (i : Nat) (E : (Nat → Int32) → Int32) : Prop :=
  (∀ (N : JI) (D : JG) (S : JS), N (X + 10) = M (X + 10) → D 15 5 = some X → S[X]? = some (4, 17) → ∃ r, fX3_value (M (X + 7) i) (M (X + 8) i) N D S = some (E (N 16), jr N 17 r)) ∧
  (∀ f g : Nat → Int32, (∀ k, k < 14 → f k = g k) → E f = E g) ∧
  (jm_b01 (M (X + 9) i) = nI 0 → ∀ f g : Nat → Int32, (∀ k, k < 9 ∨ k = 13 → f k = g k) → E f = E g)
def CBa (X t dq : Nat) : Prop := (X = 44 ∨ X = 55) ∧ (t = 7 ∨ t = 21 ∨ t = 34) ∧ (dq = 14 ∨ dq = 26 ∨ dq = 39 ∨ 137 ≤ dq)
/-- what the class's judgment stands on, once a deal is asked about -/
def CB (M : JI) (D : JG) (S : JS) (X t dq : Nat) (h : Nat → Nat → Nat) (ln p f g fm : Nat) (fb : Nat → Int32) (E : Nat → (Nat → Int32) → Int32) : Prop :=
  (D 15 5 = some X ∧ D 15 6 = some t ∧ D 15 7 = some dq ∧ S[X]? = some (4, 17) ∧ S[t]? = some (1, 4) ∧ S[dq]? = some (0, 7)) ∧ CBa X t dq ∧
  (M dq 0 = nI p ∧ M dq 1 = nI f ∧ M dq 2 = nI g ∧ M dq 4 = nI fm) ∧ (p < 12 ∧ f < 16 ∧ g < 16 ∧ fm < 3 ∧ ln ≤ 18 ∧ f ≠ g) ∧
  (vHd (M (t + 1)) (M (t + 2)) (M (t + 3)) (M (t + 4)) h ∧ ∀ p q, p < 12 → q < 16 → h p q ≤ 12) ∧ vBits (M 1 6) (M 72) ∧ vDeg (M 5) (M 6) (M 71) ∧
  (∀ k, (k < 9 ∨ k = 13) → M 16 k = fb k) ∧ (∀ who i, who < 4 → bt (M 18 who) i = (decide (i < 16) && decide (0 < wtS (M 69) (M 70) (M 71) h who p f i))) ∧ M X 11 = nI ln ∧
  ∀ i, i < ln → (M 75 i = nI 0 ∨ M 75 i = nI 1) ∧ (M 76 i = nI 0 ∨ M 76 i = nI 1) ∧ jm_b01 (M (X + 1) i) = bI (kdR M i) ∧ M (X + 3) i = (if lwFf M i then nI (fb_ct (lwFf M) i) else -nI 1) ∧
    (M 75 i = nI 0 → (∃ w, w < 4 ∧ M 77 i = nI w ∧ M (X + 4) i = nI w) ∧ M (X + 5) i = M 78 i) ∧ ((M 80 i = nI 0 ∧ M (X + 7) i = M (X + 8) i) ∨ (M 80 i = nI 1 ∧ M (X + 7) i ≠ M (X + 8) i ∧ cE X M i (E i)))
theorem aa_eq {M0 : JI} {D : JG} {S : JS} {X t dq : Nat} {h : Nat → Nat → Nat} {ln p f g fm : Nat} {fb : Nat → Int32} {E : Nat → (Nat → Int32) → Int32} (B : CB M0 D S X t dq h ln p f g fm fb E) {q : Nat} (hq : q < 16) {M : JI} (hM : cSame M0 M) : ∃ M', fX3_askAbout (nI q) M D S = some M' ∧ cSame M0 M' ∧ ∀ k, k < 14 → M' 16 k = fcG M0 h p f fb q k := by
  obtain ⟨⟨d1, d2, d3, s1, s2, s3⟩, ⟨hX, ht, hdq⟩, ⟨q0, q1, q2, q4⟩, ⟨hp, hf, hg, hfm, hln, hne⟩, ⟨hv, hb⟩, hnd, hdg, hfb, -, -, -⟩ := B
  have c9 : (9 : Int32).toNatClampNeg = 9 := by decide
  have c10 : (10 : Int32).toNatClampNeg = 10 := by decide
  have c11 : (11 : Int32).toNatClampNeg = 11 := by decide
  have c12 : (12 : Int32).toNatClampNeg = 12 := by decide
  have g9 : ∀ {α : Type} (z : Option α), j_g (j_in (9 : Int32) 14) z = z := fun z => jg_in (k := 9) (by omega) (by decide)
  have g10 : ∀ {α : Type} (z : Option α), j_g (j_in (10 : Int32) 14) z = z := fun z => jg_in (k := 10) (by omega) (by decide)
  have g11 : ∀ {α : Type} (z : Option α), j_g (j_in (11 : Int32) 14) z = z := fun z => jg_in (k := 11) (by omega) (by decide)
  have g12 : ∀ {α : Type} (z : Option α), j_g (j_in (12 : Int32) 14) z = z := fun z => jg_in (k := 12) (by omega) (by decide)
  have gq : ∀ {α : Type} (z : Option α), j_g (j_in (nI q) 16) z = z := fun z => jg_in hq (by decide)
  have gt : ∀ {α : Type} (z : Option α), j_g (decide (S[t]? = some (1, 4))) z = z := fun z => jg_d s2
  have gd : ∀ {α : Type} (z : Option α), j_g (decide (S[dq]? = some (0, 7))) z = z := fun z => jg_d s3
  have eq' : (nI q).toNatClampNeg = q := nI_clamp (by omega)
  unfold fX3_askAbout
  simp only [d2, d3, jo_s, gt, gd, c9, c10, c11, c12, g9, g10, g11, g12, gq, eq', ju_row _ _ (show dq ≠ 16 by omega), ju_row _ _ (show t + 1 ≠ 16 by omega), ju_row _ _ (show t + 3 ≠ 16 by omega), ju_row _ _ (show (5 : Nat) ≠ 16 by omega)]
  rw [hM.1 dq (by omega) (by omega), hM.1 1 (by omega) (by omega), hM.1 (t + 1) (by omega) (by omega), hM.1 (t + 3) (by omega) (by omega), hM.1 5 (by omega) (by omega), q0, q1, atp16, atp16, jg_in (by omega) (by decide), jg_in (by omega) (by decide), nI_clamp (by omega), nI_clamp (by omega), hv.1 p q hp hq, hv.2.2.1 q hq, (hdg.1 q f hq hf).1, (hdg.1 q f hq hf).2.1, li_31, li_1, bt_val _ (by omega), ← hnd q hq]
  refine ⟨_, rfl, ⟨fun a h1 h2 => ?_, fun k hk => ?_⟩, fun k hk => ?_⟩
  · rw [ju_row _ _ h1, ju_row _ _ h1, ju_row _ _ h1, ju_row _ _ h1, hM.1 a h1 h2]
  · rw [ju_cell _ _ (by omega), ju_cell _ _ (by omega), ju_cell _ _ (by omega), ju_cell _ _ (by omega), hM.2 k hk]
  · unfold fcG
    by_cases k9 : k = 9
    · subst k9
      rw [if_pos rfl, ju_cell _ _ (by omega), ju_cell _ _ (by omega), ju_cell _ _ (by omega), ju_same]
    · rw [if_neg k9]
      by_cases k10 : k = 10
      · subst k10
        rw [if_pos rfl, ju_cell _ _ (by omega), ju_cell _ _ (by omega), ju_same]
      · rw [if_neg k10]
        by_cases k11 : k = 11
        · subst k11
          rw [if_pos rfl, ju_cell _ _ (by omega), ju_same]; rfl
        · rw [if_neg k11]
          by_cases k12 : k = 12
          · subst k12
            rw [if_pos rfl, ju_same]
          · rw [if_neg k12, ju_cell _ _ (by omega), ju_cell _ _ (by omega), ju_cell _ _ (by omega), ju_cell _ _ (by omega), hM.2 k (by omega), hfb k (by omega)]
/-- the value of a line's condition, run over any memory of the judge -/
theorem vl_eq {M0 : JI} {D : JG} {S : JS} {X t dq : Nat} {h : Nat → Nat → Nat} {ln p f g fm : Nat} {fb : Nat → Int32} {E : Nat → (Nat → Int32) → Int32} (B : CB M0 D S X t dq h ln p f g fm fb E) {i : Nat} (hE : cE X M0 i (E i)) {M : JI} (hM : cSame M0 M) : ∃ M', fX3_value (M (X + 7) i) (M (X + 8) i) M D S = some (E i (M 16), M') ∧ cSame M0 M' ∧ M' 16 = M 16 := by
  obtain ⟨⟨d1, d2, d3, s1, s2, s3⟩, ⟨hX, ht, hdq⟩, -⟩ := B
  rw [hM.1 (X + 7) (by omega) (by omega), hM.1 (X + 8) (by omega) (by omega)]
  obtain ⟨r, hr⟩ := hE.1 M D S (hM.1 (X + 10) (by omega) (by omega)) d1 s1
  refine ⟨_, hr, ⟨fun a h1 h2 => by rw [jr_ne _ _ h2, hM.1 a h1 h2], fun k hk => by rw [jr_ne _ _ (by omega), hM.2 k hk]⟩, jr_ne _ _ (by omega)⟩
theorem ho_pl {M0 : JI} {D : JG} {S : JS} {X t dq : Nat} {h : Nat → Nat → Nat} {ln p f g fm : Nat} {fb : Nat → Int32} {E : Nat → (Nat → Int32) → Int32} (B : CB M0 D S X t dq h ln p f g fm fb E) {i : Nat} (hi : i < ln) (h80 : M0 80 i = nI 1) (hE : cE X M0 i (E i)) {P : Int32} (hP : ∀ j, 16 ≤ j → bt P j = false) : ∀ d k, k + d = 16 → ∀ n, d < n → ∀ M, cSame M0 M → (∀ q, q < k → ¬ (bt P q = true ∧ cnG M0 h p f fb E i q = true)) → ∃ z M', fX3_holdsForOne_80 n (nI i) P (nI k) M D S = some (bI z, M') ∧ cSame M0 M' ∧ (z = true ↔ ∃ q, q < 16 ∧ bt P q = true ∧ cnG M0 h p f fb E i q = true) := by
  have hln : ln ≤ 18 := B.2.2.2.1.2.2.2.2.1
  have d1 := B.1.1
  have s1 := B.1.2.2.2.1
  intro d
  induction d with
  | zero =>
    intro k hk n hn M hM hno
    obtain ⟨n', rfl⟩ := suc_of hn
    have : k = 16 := by omega
    subst this
    refine ⟨false, M, by rw [fX3_holdsForOne_80, if_pos (by decide)]; rfl, hM, ⟨fun h => absurd h (by simp), ?_⟩⟩
    rintro ⟨q, hq, h⟩
    exact absurd h (hno q hq)
  | succ d ih =>
    intro k hk n hn M hM hno
    obtain ⟨n', rfl⟩ := suc_of hn
    have e1 : nI k + (1 : Int32) = nI (k + 1) := nI_1 k
    rw [fX3_holdsForOne_80, if_neg (show ¬ (16 : Int32) ≤ nI k from nI_ge (b := 16) (by omega) (by omega))]
    by_cases h0 : ∀ j, k ≤ j → bt P j = false
    · refine ⟨false, M, ?_, hM, ⟨fun h => absurd h (by simp), ?_⟩⟩
      · rw [if_pos (by rw [li_31, li_0, bt_shr0 P (by omega) (fun j hj => hP j (by omega))]; exact h0)]; rfl
      · rintro ⟨q, hq, h1, h2⟩
        by_cases hqk : q < k
        · exact absurd ⟨h1, h2⟩ (hno q hqk)
        · rw [h0 q (by omega)] at h1
          exact absurd h1 (by simp)
    · rw [if_neg (by rw [li_31, li_0, bt_shr0 P (by omega) (fun j hj => hP j (by omega))]; exact h0)]
      by_cases hb : bt P k = true
      · rw [if_neg (by rw [li_31, li_0, li_1, bt_test P (by omega), hb]; simp)]
        obtain ⟨M1, a1, a2, a3⟩ := aa_eq B (q := k) (by omega) hM
        obtain ⟨M2, v1, v2, v3⟩ := vl_eq B hE a2
        have eE : E i (M1 16) = E i (fcG M0 h p f fb k) := hE.2.1 _ _ a3
        rw [a1, Option.bind_some, d1, jo_s, jg_d s1, jg_in (by omega) (by decide), jo_s, jg_d s1, jg_in (by omega) (by decide), nI_clamp (by omega), v1, Option.bind_some, eE, e1]
        have ecn : cnG M0 h p f fb E i k = !decide (E i (fcG M0 h p f fb k) = nI 0) := by unfold cnG; rw [h80]; rfl
        by_cases c : E i (fcG M0 h p f fb k) = nI 0
        · rw [if_pos (show _ = (0 : Int32) from c)]
          refine ih (k + 1) (by omega) n' (by omega) M2 v2 (fun q hq => ?_)
          by_cases e : q = k
          · subst e
            rintro ⟨-, h2⟩
            rw [ecn, c] at h2
            simp at h2
          · exact hno q (by omega)
        · refine ⟨true, M2, by rw [if_neg (show ¬ _ = (0 : Int32) from c)]; rfl, v2, ⟨fun _ => ⟨k, by omega, hb, by rw [ecn]; simp [c]⟩, fun _ => rfl⟩⟩
      · have hb0 : bt P k = false := by simpa using hb
        rw [if_pos (by rw [li_31, li_0, li_1, bt_test P (by omega), hb0]), e1]
        refine ih (k + 1) (by omega) n' (by omega) M hM (fun q hq => ?_)
        by_cases e : q = k
        · subst e
          rintro ⟨h1, -⟩
          exact hb h1
        · exact hno q (by omega)
theorem ho1_eq {M0 : JI} {D : JG} {S : JS} {X t dq : Nat} {h : Nat → Nat → Nat} {ln p f g fm : Nat} {fb : Nat → Int32} {E : Nat → (Nat → Int32) → Int32} (B : CB M0 D S X t dq h ln p f g fm fb E) {i : Nat} (hi : i < ln) {P : Int32} (hP : ∀ j, 16 ≤ j → bt P j = false) {M : JI} (hM : cSame M0 M) : ∃ z M', fX3_holdsForOne (nI i) P M D S = some (bI z, M') ∧ cSame M0 M' ∧ (z = true ↔ ∃ q, q < 16 ∧ bt P q = true ∧ cnG M0 h p f fb E i q = true) := by
  have B0 := B
  obtain ⟨⟨d1, d2, d3, s1, s2, s3⟩, ⟨hX, ht, hdq⟩, -, ⟨hp, hf, hg, hfm, hln, hne⟩, -, -, -, hfb, -, -, hl⟩ := B
  obtain ⟨-, -, -, -, -, l6⟩ := hl i hi
  unfold fX3_holdsForOne
  by_cases p0 : P = 0
  · refine ⟨false, M, by rw [if_pos p0, if_pos p0]; rfl, hM, ⟨fun h => absurd h (by simp), ?_⟩⟩
    rintro ⟨q, -, h1, -⟩
    rw [p0] at h1
    have : bt 0 q = false := b_0 q
    rw [this] at h1
    exact absurd h1 (by simp)
  · have hex : ∃ q, q < 16 ∧ bt P q = true := by
      apply Classical.byContradiction
      intro hn
      apply p0
      show P = nI 0
      rw [bt_ne0]
      intro j _
      by_cases hj : j < 16
      · cases e : bt P j with
        | true => exact absurd ⟨j, hj, e⟩ hn
        | false => rfl
      · exact hP j (by omega)
    rw [if_neg p0, d1, jo_s, jg_d s1, jg_in (by omega) (by decide), jo_s, jg_d s1, jg_in (by omega) (by decide), nI_clamp (by omega), jo_s, jg_d s1, jg_in (by omega) (by decide), hM.1 (X + 7) (by omega) (by omega), hM.1 (X + 8) (by omega) (by omega), hM.1 (X + 9) (by omega) (by omega)]
    rcases l6 with ⟨h80, e78⟩ | ⟨h80, e78, hE⟩
    · refine ⟨true, M, by rw [if_pos e78, if_neg p0]; rfl, hM, ⟨fun _ => ?_, fun _ => rfl⟩⟩
      obtain ⟨q, hq, hb⟩ := hex
      exact ⟨q, hq, hb, by unfold cnG; rw [h80]; rfl⟩
    · rw [if_neg e78]
      by_cases cp : jm_b01 (M0 (X + 9) i) = 0
      · rw [if_pos cp, jo_s, jg_d s1, jg_in (by omega) (by decide), jo_s, jg_d s1, jg_in (by omega) (by decide)]
        obtain ⟨M2, v1, v2, -⟩ := vl_eq B0 hE hM
        rw [v1, Option.bind_some]
        have eE : ∀ q, E i (M 16) = E i (fcG M0 h p f fb q) := by
          intro q
          apply hE.2.2 cp
          intro k hk
          rw [hM.2 k (by omega), hfb k hk]
          unfold fcG
          rw [if_neg (by omega), if_neg (by omega), if_neg (by omega), if_neg (by omega)]
        have ecn : ∀ q, cnG M0 h p f fb E i q = !decide (E i (M 16) = nI 0) := by
          intro q
          unfold cnG
          rw [h80, eE q]; rfl
        by_cases c : E i (M 16) = nI 0
        · refine ⟨false, M2, by rw [if_pos (show _ = (0 : Int32) from c)]; rfl, v2, ⟨fun h => absurd h (by simp), ?_⟩⟩
          rintro ⟨q, -, -, h2⟩
          rw [ecn q, c] at h2
          simp at h2
        · refine ⟨true, M2, by rw [if_neg (show ¬ _ = (0 : Int32) from c)]; rfl, v2, ⟨fun _ => ?_, fun _ => rfl⟩⟩
          obtain ⟨q, hq, hb⟩ := hex
          exact ⟨q, hq, hb, by rw [ecn q]; simp [c]⟩
      · rw [if_neg cp]
        exact ho_pl B0 hi h80 hE hP 16 0 (by omega) 100000 (by omega) M hM (fun q hq => absurd hq (by omega))
