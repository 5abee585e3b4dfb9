/-! ===== the class's search for a sly row ===== -/
def dS (D D' : JG) : Prop := (∀ a, a ≠ 15 → D' a = D a) ∧ ∀ k, k ≠ 6 → k ≠ 7 → D' 15 k = D 15 k
theorem dS_rfl (D : JG) : dS D D := ⟨fun _ _ => rfl, fun _ _ _ => rfl⟩
theorem dS_tr {D D' D'' : JG} (h : dS D D') (h' : dS D' D'') : dS D D'' := ⟨fun a ha => (h'.1 a ha).trans (h.1 a ha), fun k h1 h2 => (h'.2 k h1 h2).trans (h.2 k h1 h2)⟩
theorem dS_up (D : JG) {k : Nat} {v : Option Nat} (h : k = 6 ∨ k = 7) : dS D (j_up D 15 k v) := ⟨fun a ha => ju_row _ _ ha, fun k' h1 h2 => ju_cell _ _ (by omega)⟩
theorem tle_eq (dq p f g nn fm ec : Nat) (hfm : fm < 3) (I : JI) : fX0_tellEach dq (nI p) (nI f) (nI g) (nI nn) (nI fm) (nI ec) I = some (tlM I dq (nI p) (nI f) (nI g) (nI nn) (nI fm) (prS nn ec fm) (prS nn ec fm)) := by
  unfold fX0_tellEach fX0_tellEach_15 prS
  by_cases c : fm = 1
  · rw [if_pos (by rw [c]; rfl), if_pos c, tl_eq]; rfl
  · have c' : ¬ nI fm = (1 : Int32) := fun e => c ((nI_eq (by omega) (by omega)).mp (show nI fm = nI 1 from e))
    rw [if_neg c', if_neg c, tl_eq]; rfl
theorem bL_one : ∀ s, s < 64 → bL (1 : Int64) s = decide (s = 0) := by decide +kernel
/-- one form asked about: told, asked, opened -/
theorem cls_one {M I : JI} {L : JL} {D : JG} {S : JS} {X ln : Nat} {E : Nat → (Nat → Int32) → Int32} (W : WB M L S X ln E) (hk : kS M I) {t dq : Nat} (ht : t = 7 ∨ t = 21 ∨ t = 34) (hdq : dq = 26 ∨ dq = 39) (d5 : D 15 5 = some X) (d6 : D 15 6 = some t) {h : Nat → Nat → Nat} (h3 : vHd (I (t + 1)) (I (t + 2)) (I (t + 3)) (I (t + 4)) h) (hb : ∀ p q, p < 12 → q < 16 → h p q ≤ 12) {p f g fm : Nat} (hp : p < 12) (hf : f < 16) (hg : g < 16) (hfm : fm < 3) (hne : f ≠ g) (h18 : sdS M h p f (I 18)) (nn ec : Nat) (l1 : Int64) (l3 : Int32) :
    ∃ I1 I2 r I3, fX0_tellEach dq (nI p) (nI f) (nI g) (nI nn) (nI fm) (nI ec) I = some I1 ∧ fX3_ask dq I1 D S = some (I2, j_up D 15 7 (some dq)) ∧ fX3_openSets l1 l3 I2 L (j_up D 15 7 (some dq)) S = some (r, I3) ∧ (∀ a, a ≠ 16 → a ≠ 17 → a ≠ dq → I3 a = I a) ∧ ∀ s, s < 64 → bL r s = (bL l1 s && unS M ln E h l3 (nI s) p f g nn (prS nn ec fm) fm) := by
  have ta := tl_at I dq (nI p) (nI f) (nI g) (nI nn) (nI fm) (prS nn ec fm) (prS nn ec fm)
  have tr : ∀ a, a ≠ dq → tlM I dq (nI p) (nI f) (nI g) (nI nn) (nI fm) (prS nn ec fm) (prS nn ec fm) a = I a := fun a ha => tl_row I _ _ _ _ _ _ _ ha
  have te := tle_eq dq p f g nn fm ec hfm I
  generalize tlM I dq (nI p) (nI f) (nI g) (nI nn) (nI fm) (prS nn ec fm) (prS nn ec fm) = I1 at ta tr te
  have s3 : S[dq]? = some (0, 7) := by
    obtain ⟨-, -, -, -, -, -, -, s5, s6⟩ := W
    rcases hdq with rfl | rfl <;> assumption
  obtain ⟨I2, a1, a2, a3⟩ := cls_ask (I := I1) (D := D) W (fun a ha => by rw [tr a (by omega)]; exact hk a ha) ht (show dq = 14 ∨ dq = 26 ∨ dq = 39 ∨ 137 ≤ dq by omega) d5 d6 s3 (h := h) (by rw [tr (t + 1) (by omega), tr (t + 2) (by omega), tr (t + 3) (by omega), tr (t + 4) (by omega)]; exact h3) hb hp hf hg hfm hne ta.1 ta.2.1 ta.2.2.1 ta.2.2.2.2.1 (by rw [tr 18 (by omega)]; exact h18)
  obtain ⟨r, I3, b1, b2, b3⟩ := a3 l1 l3
  refine ⟨I1, I2, r, I3, te, a1, b1, fun a h1 h2 h3 => by rw [b2 a h1 h2, tr a h3], fun s hs => ?_⟩
  have e := b3 s hs
  rw [ta.2.2.2.1, ta.2.2.2.2.2.1, ta.2.2.2.2.2.2, ← uns_0] at e
  cases c : bL r s with
  | true =>
    obtain ⟨e1, e2⟩ := e.mp c
    rw [e1, e2]; rfl
  | false =>
    cases c1 : bL l1 s with
    | false => rfl
    | true =>
      cases c2 : unS M ln E h l3 (nI s) p f g nn (prS nn ec fm) fm with
      | false => rfl
      | true =>
        rw [e.mpr ⟨c1, c2⟩] at c
        exact absurd c (by simp)
def CC (I : JI) (p o f g ec : Nat) : Prop := I 20 9 = nI p ∧ I 20 10 = ov o ∧ I 20 11 = nI f ∧ I 20 12 = nI g ∧ I 20 13 = nI ec
/-- turned to one of the parcels, at a place -/
def CT (M I : JI) (D : JG) (X : Nat) (h : Nat → Nat → Nat) (p o f g ec s pw : Nat) : Prop := kS M I ∧ CC I p o f g ec ∧ I 20 14 = nI pw ∧ vHd (I 22) (I 23) (I 24) (I 25) (hst h p o f g s) ∧ sdS M (hst h p o f g s) pw f (I 18) ∧ D 15 5 = some X ∧ D 15 6 = some 21
def oFr (I I' : JI) : Prop := (∀ a, a ≠ 16 → a ≠ 17 → a ≠ 26 → a ≠ 20 → I' a = I a) ∧ ∀ k, k ≠ 15 → I' 20 k = I 20 k
theorem oFr_rfl (I : JI) : oFr I I := ⟨fun _ _ _ _ _ => rfl, fun _ _ => rfl⟩
theorem oFr_tr {I I' I'' : JI} (h : oFr I I') (h' : oFr I' I'') : oFr I I'' := ⟨fun a h1 h2 h3 h4 => (h'.1 a h1 h2 h3 h4).trans (h.1 a h1 h2 h3 h4), fun k hk => (h'.2 k hk).trans (h.2 k hk)⟩
theorem CT_o {M I I' : JI} {D D' : JG} {X : Nat} {h : Nat → Nat → Nat} {p o f g ec s pw : Nat} (hc : CT M I D X h p o f g ec s pw) (hf : oFr I I') (h5 : D' 15 5 = D 15 5) (h6 : D' 15 6 = D 15 6) : CT M I' D' X h p o f g ec s pw := by
  obtain ⟨c1, ⟨c2, c3, c4, c5, c6⟩, c7, c8, c9, c10, c11⟩ := hc
  refine ⟨fun a ha => by rw [hf.1 a (by omega) (by omega) (by omega) (by omega)]; exact c1 a ha, ⟨?_, ?_, ?_, ?_, ?_⟩, ?_, ?_, ?_, by rw [h5]; exact c10, by rw [h6]; exact c11⟩
  · rw [hf.2 9 (by omega)]; exact c2
  · rw [hf.2 10 (by omega)]; exact c3
  · rw [hf.2 11 (by omega)]; exact c4
  · rw [hf.2 12 (by omega)]; exact c5
  · rw [hf.2 13 (by omega)]; exact c6
  · rw [hf.2 14 (by omega)]; exact c7
  · rw [hf.1 22 (by omega) (by omega) (by omega) (by omega), hf.1 23 (by omega) (by omega) (by omega) (by omega), hf.1 24 (by omega) (by omega) (by omega) (by omega), hf.1 25 (by omega) (by omega) (by omega) (by omega)]; exact c8
  · rw [hf.1 18 (by omega) (by omega) (by omega) (by omega)]; exact c9
theorem cop_6 {M : JI} {L : JL} {S : JS} {X ln : Nat} {E : Nat → (Nat → Int32) → Int32} (W : WB M L S X ln E) {h : Nat → Nat → Nat} {p o f g a b : Nat} (H : HB h p o f g a b) {ec s w nn : Nat} (hs : s < 169) (hpw : (if w = 0 then p else o) < 12) {l2 : Int64} : ∀ d fm, fm + d = 3 → ∀ n, d < n → ∀ I D l4, CT M I D X h p o f g ec s (if w = 0 then p else o) → ∃ lf I' D', fX10_openSets_6 n (nI nn) l2 l4 (nI fm) I L D S = some (l2 &&& (lf ^^^ (-1 : Int64)), I', D') ∧ oFr I I' ∧ dS D D' ∧ D' 15 6 = D 15 6 ∧ (∀ x, x < 64 → (bL lf x = true ↔ bL l4 x = true ∧ ∀ j, fm ≤ j → j < 3 → UU M ln E h (nI x) p o f g ec w s nn j = false)) ∧ (bL l4 0 = true → (∀ x, x < 64 → x ≠ 0 → bL l4 x = false) → ∀ j0, fm ≤ j0 → j0 < 3 → UU M ln E h (nI 0) p o f g ec w s nn j0 = true → (∀ j, fm ≤ j → j < j0 → UU M ln E h (nI 0) p o f g ec w s nn j = false) → I' 20 15 = nI j0) := by
  have H0 := H
  obtain ⟨⟨hp, hf, hg, hne, ho, hop⟩, hb, hsm, ha, hbb⟩ := H0
  intro d
  induction d with
  | zero =>
    intro fm hd n hn I D l4 hc
    obtain ⟨n', rfl⟩ := suc_of hn
    refine ⟨l4, I, D, ?_, oFr_rfl I, dS_rfl D, rfl, fun x hx => ⟨fun e => ⟨e, fun j h1 h2 => absurd h2 (by omega)⟩, fun e => e.1⟩, fun _ _ j0 h1 h2 => absurd h2 (by omega)⟩
    rw [fX10_openSets_6, if_pos (by rw [show fm = 3 by omega]; decide)]
  | succ d ih =>
    intro fm hd n hn I D l4 hc
    obtain ⟨n', rfl⟩ := suc_of hn
    have c : ¬ (3 : Int32) ≤ nI fm := nI_ge (b := 3) (by omega) (by omega)
    rw [fX10_openSets_6, if_neg c]
    by_cases z : lg_cmp l4 (0 : Int64) = 0
    · rw [if_pos z]
      have z' := (bL_cmp l4).mp z
      refine ⟨l4, I, D, rfl, oFr_rfl I, dS_rfl D, rfl, fun x hx => ?_, fun h0 => ?_⟩
      · rw [z' x hx]; simp
      · rw [z' 0 (by omega)] at h0; exact absurd h0 (by simp)
    · rw [if_neg z]
      have f0 : oFr I (j_up I 20 15 (nI fm)) := ⟨fun a h1 h2 h3 h4 => ju_row _ _ h4, fun k hk => ju_cell _ _ hk⟩
      have hc1 := CT_o hc f0 (D' := D) rfl rfl
      have e15 : (j_up I 20 15 (nI fm)) 20 15 = nI fm := ju_same _ _ _ _
      generalize j_up I 20 15 (nI fm) = I0 at f0 hc1 e15
      obtain ⟨c1, ⟨c2, c3, c4, c5, c6⟩, c7, c8, c9, c10, c11⟩ := id hc1
      obtain ⟨I1, I2, r, I3, a1, a2, a3, a4, a5⟩ := cls_one (L := L) (S := S) W c1 (t := 21) (dq := 26) (by omega) (by omega) c10 c11 (h := hst h p o f g s) c8 (hst_le H hs) hpw hf hg (show fm < 3 by omega) hne c9 nn ec l4 65535
      have f3 : oFr I0 I3 := ⟨fun a h1 h2 h3 h4 => a4 a h1 h2 h3, fun k hk => by rw [a4 20 (by omega) (by omega) (by omega)]⟩
      have hc3 := CT_o hc1 f3 (D' := j_up D 15 7 (some 26)) (ju_cell _ _ (by omega)) (ju_cell _ _ (by omega))
      have e33 : I3 20 15 = nI fm := by rw [a4 20 (by omega) (by omega) (by omega)]; exact e15
      rw [c7, c4, c5, c6, e15, a1, Option.bind_some, a2, Option.bind_some, a3, Option.bind_some, show nI fm + (1 : Int32) = nI (fm + 1) from nI_add _ 1]
      have bl : ∀ x, x < 64 → bL (l4 &&& (r ^^^ (-1 : Int64))) x = (bL l4 x && !UU M ln E h (nI x) p o f g ec w s nn fm) := by
        intro x hx
        rw [bL_and, bL_not _ hx, a5 x hx]
        show (bL l4 x && !(bL l4 x && UU M ln E h (nI x) p o f g ec w s nn fm)) = _
        cases bL l4 x <;> simp
      obtain ⟨lf, I', D', b1, b2, b3, b4, b5, b6⟩ := ih (fm + 1) (by omega) n' (by omega) I3 (j_up D 15 7 (some 26)) (l4 &&& (r ^^^ (-1 : Int64))) hc3
      refine ⟨lf, I', D', b1, oFr_tr f0 (oFr_tr f3 b2), dS_tr (dS_up D (Or.inr rfl)) b3, by rw [b4, ju_cell _ _ (by omega)], fun x hx => ?_, fun h0 hz j0 j1 j2 j3 j4 => ?_⟩
      · rw [b5 x hx, bl x hx, Bool.and_eq_true, Bool.not_eq_true']
        constructor
        · rintro ⟨⟨e1, e2⟩, e3⟩
          refine ⟨e1, fun j h1 h2 => ?_⟩
          by_cases cj : j = fm
          · rw [cj]; exact e2
          · exact e3 j (by omega) h2
        · rintro ⟨e1, e2⟩
          exact ⟨⟨e1, e2 fm (Nat.le_refl _) (by omega)⟩, fun j h1 h2 => e2 j (by omega) h2⟩
      · by_cases cj : j0 = fm
        · -- nothing is left: the loop ends at once
          subst cj
          have z2 : lg_cmp (l4 &&& (r ^^^ (-1 : Int64))) (0 : Int64) = 0 := by
            rw [bL_cmp]
            intro x hx
            rw [bl x hx]
            by_cases x0 : x = 0
            · rw [x0, j3]; simp
            · rw [hz x hx x0]; rfl
          have hn' : 0 < n' := by omega
          obtain ⟨n'', rfl⟩ := suc_of hn'
          rw [fX10_openSets_6, if_pos z2] at b1
          have : I' = I3 := by
            split at b1
            · simp only [Option.some.injEq, Prod.mk.injEq] at b1; exact b1.2.1.symm
            · simp only [Option.some.injEq, Prod.mk.injEq] at b1; exact b1.2.1.symm
          rw [this]; exact e33
        · refine b6 ?_ (fun x hx x0 => ?_) j0 (by omega) j2 j3 (fun j h1 h2 => j4 j (by omega) h2)
          · rw [bl 0 (by omega), h0, j4 fm (Nat.le_refl _) (by omega)]; rfl
          · rw [bl x hx, hz x hx x0]; rfl
/-- sets with which a passing is open by one form at least -/
theorem cop_eq {M : JI} {L : JL} {S : JS} {X ln : Nat} {E : Nat → (Nat → Int32) → Int32} (W : WB M L S X ln E) {h : Nat → Nat → Nat} {p o f g a b : Nat} (H : HB h p o f g a b) {ec s w nn : Nat} (hs : s < 169) (hpw : (if w = 0 then p else o) < 12) (l2 : Int64) {I : JI} {D : JG} (hc : CT M I D X h p o f g ec s (if w = 0 then p else o)) : ∃ r I' D', fX10_openSets (nI nn) l2 I L D S = some (r, I', D') ∧ oFr I I' ∧ dS D D' ∧ D' 15 6 = D 15 6 ∧ (∀ x, x < 64 → bL r x = (bL l2 x && decide (fa_first (UU M ln E h (nI x) p o f g ec w s nn) 3 < 3))) ∧ (l2 = 1 → fa_first (UU M ln E h (nI 0) p o f g ec w s nn) 3 < 3 → I' 20 15 = nI (fa_first (UU M ln E h (nI 0) p o f g ec w s nn) 3)) := by
  obtain ⟨lf, I', D', b1, b2, b3, b4, b5, b6⟩ := cop_6 (ec := ec) (nn := nn) (l2 := l2) W H hs hpw 3 0 (by omega) 100000 (by omega) I D l2 hc
  refine ⟨l2 &&& (lf ^^^ (-1 : Int64)), I', D', b1, b2, b3, b4, fun x hx => ?_, fun e1 e2 => ?_⟩
  · rw [bL_and, bL_not _ hx]
    have e := b5 x hx
    by_cases c : fa_first (UU M ln E h (nI x) p o f g ec w s nn) 3 < 3
    · have : bL lf x = false := by
        cases e1 : bL lf x with
        | false => rfl
        | true =>
          have := (e.mp e1).2 _ (Nat.zero_le _) c
          rw [fa_first_yes _ 3 c] at this
          exact absurd this (by simp)
      rw [this, decide_eq_true c]; rfl
    · rw [decide_eq_false c]
      cases e2 : bL l2 x with
      | false => rfl
      | true =>
        rw [e.mpr ⟨e2, fun j _ hj => fa_first_no _ 3 j (by have := fa_first_le (UU M ln E h (nI x) p o f g ec w s nn) 3; omega)⟩]; rfl
  · subst e1
    exact b6 (by rw [bL_one 0 (by omega)]; rfl) (fun x hx x0 => by rw [bL_one x hx, decide_eq_false x0]) _ (Nat.zero_le _) e2 (fa_first_yes _ 3 e2) (fun j _ hj => fa_first_no _ 3 j hj)
theorem cop_one {r : Int64} {c : Bool} (h : ∀ x, x < 64 → bL r x = (bL (1 : Int64) x && (if x = 0 then c else bL r x))) : lg_cmp r (0 : Int64) = 0 ↔ c = false := by
  rw [bL_cmp]
  constructor
  · intro h1
    have e := h 0 (by omega)
    rw [h1 0 (by omega), bL_one 0 (by omega)] at e
    simpa using e.symm
  · intro h1 x hx
    rw [h x hx, bL_one x hx]
    by_cases x0 : x = 0
    · simp [x0, h1]
    · simp [x0]
