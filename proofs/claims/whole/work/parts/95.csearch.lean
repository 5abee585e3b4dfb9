/-- whether a place ends the row, class side -/
theorem cen_eq {M : JI} {L : JL} {S : JS} {X ln : Nat} {E : Nat → (Nat → Int32) → Int32} (W : WB M L S X ln E) {h : Nat → Nat → Nat} {p o f g a b : Nat} (H : HB h p o f g a b) {ec s s1 : Nat} {B : Bf} (hB : BI a b B) (hs : bm B s = true) (h13 : 13 ≤ s) (hs1 : sOK a b s1) {I : JI} {D : JG} (hc : CP M I D X h p o f g ec s1) (hR : CR I B) : ∃ I' D', cFr I I' ∧ dS D D' ∧ CP M I' D' X h p o f g ec s ∧ ((¬ fa_first (UU M ln E h (nI 0) p o f g ec 0 s (s / 13)) 3 < 3 ∧ fX10_endsBehind (nI s) I L D S = some (nI 0, I', D') ∧ CR I' B) ∨ (fa_first (UU M ln E h (nI 0) p o f g ec 0 s (s / 13)) 3 < 3 ∧ fX10_endsBehind (nI s) I L D S = some (nI 1, I', D') ∧ I' 20 17 = nI (s % 13) ∧ (∀ x, I' 28 x = if x = s % 13 then nI s else I 28 x) ∧ ∀ x, I' 29 x = if x = s % 13 then nI (3 * (s / 13) + fa_first (UU M ln E h (nI 0) p o f g ec 0 s (s / 13)) 3) else I 29 x)) := by
  obtain ⟨q1, q2, q3, q4⟩ := hB.2.2.1 s hs
  obtain ⟨c1, c2, c3, c4⟩ := hc
  obtain ⟨I1, x1, x2, x3⟩ := cpl_eq (s := s) H ⟨q1, q2, q3⟩ hs1 c2 c3
  have k1 : kS M I1 := fun a ha => by rw [x2 a (by omega)]; exact c1 a ha
  have cc1 : CC I1 p o f g ec := CC_fr c2 (fun k k1 k2 => by rw [x2 20 (by omega)])
  have f1 : cFr I I1 := ⟨fun a ha => x2 a (by omega), fun k _ _ _ _ => by rw [x2 20 (by omega)]⟩
  have hR1 : CR I1 B := CR_fr hR (by rw [x2 20 (by omega)]) (x2 27 (by omega)) (x2 28 (by omega)) (x2 29 (by omega))
  obtain ⟨I2, y1, y2, y3, y4⟩ := ctn_eq (w := 0) W H (Or.inl rfl) k1 cc1 x3 c4
  have f2 : cFr I1 I2 := ⟨fun a ha => y2 a (by omega) (by omega), fun k h1 h2 h3 h4 => y3 k h2⟩
  have hR2 : CR I2 B := CR_fr hR1 (y3 8 (by omega)) (y2 27 (by omega) (by omega)) (y2 28 (by omega) (by omega)) (y2 29 (by omega) (by omega))
  obtain ⟨r, I3, D3, a1, a2, a3, a4, a5, a6⟩ := cop_eq (nn := s / 13) (w := 0) W H q1 (by rw [if_pos rfl]; exact H.1.1) 1 y4
  have d5 : D3 15 5 = (j_up D 15 6 (some 21)) 15 5 := a3.2 5 (by omega) (by omega)
  have hc3 := CP_T (CT_o y4 a2 d5 a4)
  have hR3 : CR I3 B := CR_fr hR2 (a2.2 8 (by omega)) (a2.1 27 (by omega) (by omega) (by omega) (by omega)) (a2.1 28 (by omega) (by omega) (by omega) (by omega)) (a2.1 29 (by omega) (by omega) (by omega) (by omega))
  have hF : cFr I I3 := cFr_tr f1 (cFr_tr f2 (cFr_o a2))
  have hD : dS D D3 := dS_tr (dS_up D (Or.inl rfl)) a3
  have hlg := lg_fa (r := r) (U := UU M ln E h (nI 0) p o f g ec 0 s (s / 13)) (q := fun x => decide (fa_first (UU M ln E h (nI x) p o f g ec 0 s (s / 13)) 3 < 3)) a5 rfl
  have hto : bto 0 s (s / 13) = s % 13 := by unfold bto; rw [if_pos rfl]; omega
  have y1' : fX10_turnTo (0 : Int32) I1 D S = some (I2, j_up D 15 6 (some 21)) := y1
  have hl' : fX10_left (nI s) (0 : Int32) = some (nI (s / 13)) := lf0_eq q1
  by_cases fo : fa_first (UU M ln E h (nI 0) p o f g ec 0 s (s / 13)) 3 < 3
  · have h15 := a6 rfl fo
    have hbh : fX10_behind (nI s) (0 : Int32) (nI (s / 13)) = some (nI (s % 13)) := by
      have := bhd_eq (w := 0) (s := s) (n := s / 13) (by omega) (by unfold blim; rw [if_pos rfl]; exact Nat.le_refl _)
      rw [hto] at this
      exact this
    have hR4 : CR (j_up I3 20 17 (nI (s % 13))) B := CR_fr hR3 (ju_cell _ _ (by omega)) (ju_row _ _ (by omega)) (ju_row _ _ (by omega)) (ju_row _ _ (by omega))
    have hk := kst_eq (s := s) (w := 0) (n := s / 13) (fm := fa_first (UU M ln E h (nI 0) p o f g ec 0 s (s / 13)) 3) hR4 (by rw [hto]; omega) (by rw [ju_cell _ _ (by omega)]; exact h15)
    rw [hto] at hk
    have hk' : fX10_keepStep (nI s) (nI (s % 13)) (0 : Int32) (nI (s / 13)) (j_up I3 20 17 (nI (s % 13))) = some (j_up (j_up (j_up I3 20 17 (nI (s % 13))) 28 (s % 13) (nI s)) 29 (s % 13) (nI (39 * 0 + 3 * (s / 13) + fa_first (UU M ln E h (nI 0) p o f g ec 0 s (s / 13)) 3))) := hk
    generalize hI5 : j_up (j_up (j_up I3 20 17 (nI (s % 13))) 28 (s % 13) (nI s)) 29 (s % 13) (nI (39 * 0 + 3 * (s / 13) + fa_first (UU M ln E h (nI 0) p o f g ec 0 s (s / 13)) 3)) = I5 at hk'
    have r5 : ∀ a, a ≠ 20 → a ≠ 28 → a ≠ 29 → I5 a = I3 a := by
      intro a z1 z2 z3
      rw [← hI5, ju_row _ _ z3, ju_row _ _ z2, ju_row _ _ z1]
    have r520 : ∀ k, k ≠ 17 → I5 20 k = I3 20 k := by
      intro k hk
      rw [← hI5, ju_row _ _ (by omega), ju_row _ _ (by omega), ju_cell _ _ hk]
    have e28 : I3 28 = I 28 := by rw [a2.1 28 (by omega) (by omega) (by omega) (by omega), y2 28 (by omega) (by omega), x2 28 (by omega)]
    have e29 : I3 29 = I 29 := by rw [a2.1 29 (by omega) (by omega) (by omega) (by omega), y2 29 (by omega) (by omega), x2 29 (by omega)]
    refine ⟨I5, D3, cFr_tr hF ⟨fun a ha => r5 a (by omega) (by omega) (by omega), fun k h1 h2 h3 h4 => r520 k h4⟩, hD, ?_, Or.inr ⟨fo, ?_, ?_, fun x => ?_, fun x => ?_⟩⟩
    · refine ⟨fun a ha => by rw [r5 a (by omega) (by omega) (by omega)]; exact hc3.1 a ha, CC_fr hc3.2.1 (fun k k1 k2 => r520 k (by omega)), ?_, hc3.2.2.2⟩
      rw [r5 22 (by omega) (by omega) (by omega), r5 23 (by omega) (by omega) (by omega), r5 24 (by omega) (by omega) (by omega), r5 25 (by omega) (by omega) (by omega)]
      exact hc3.2.2.1
    · unfold fX10_endsBehind
      rw [x1, Option.bind_some, y1', Option.bind_some, hl', Option.bind_some, a1, Option.bind_some, if_neg (by rw [hlg]; simpa using fo), hbh, Option.bind_some, ju_same, hk', Option.bind_some]; rfl
    · rw [← hI5, ju_row _ _ (by omega), ju_row _ _ (by omega), ju_same]
    · rw [← hI5, ju_row _ _ (by omega), ju_at, ju_row _ _ (by omega), e28]
    · rw [← hI5, ju_at, ju_row _ _ (by omega), ju_row _ _ (by omega), e29, show 39 * 0 + 3 * (s / 13) + fa_first (UU M ln E h (nI 0) p o f g ec 0 s (s / 13)) 3 = 3 * (s / 13) + fa_first (UU M ln E h (nI 0) p o f g ec 0 s (s / 13)) 3 by omega]
  · refine ⟨I3, D3, hF, hD, hc3, Or.inl ⟨fo, ?_, hR3⟩⟩
    unfold fX10_endsBehind
    rw [x1, Option.bind_some, y1', Option.bind_some, hl', Option.bind_some, a1, Option.bind_some, if_pos (by rw [hlg]; exact fo)]; rfl
abbrev K54 : Type := Int32 → Int32 → JI → JL → JG → JS → Option (Int32 × JI × JG)
def endsAt (U : BU) (B : Bf) (i : Nat) : Prop := fa_first (U 0 (bQ B i) (bQ B i / 13)) 3 < 3
theorem csr_76 {M : JI} {L : JL} {S : JS} {X ln : Nat} {E : Nat → (Nat → Int32) → Int32} (W : WB M L S X ln E) {h : Nat → Nat → Nat} {p o f g a b : Nat} (H : HB h p o f g a b) {ec fr lv : Nat} {k54 : K54} {B : Bf} (hB : BI a b B) (h13 : ∀ x, bm B x = true → 13 ≤ x) : ∀ d i, i + d = bN B → fr ≤ i → ∀ n, d < n → ∀ I D s1, sOK a b s1 → CP M I D X h p o f g ec s1 → CR I B → (∀ j, fr ≤ j → j < i → ¬ endsAt (UU M ln E h (nI 0) p o f g ec) B j) → (∃ i0 I' D', i ≤ i0 ∧ i0 < bN B ∧ fX10_search_76 k54 n (nI fr) (nI lv) (nI (bN B)) (nI i) I L D S = some (nI lv, I', D') ∧ cFr I I' ∧ dS D D' ∧ endsAt (UU M ln E h (nI 0) p o f g ec) B i0 ∧ (∀ j, fr ≤ j → j < i0 → ¬ endsAt (UU M ln E h (nI 0) p o f g ec) B j) ∧ I' 20 17 = nI (bQ B i0 % 13) ∧ (∀ x, x < 169 → I' 28 x = if x = bQ B i0 % 13 then nI (bQ B i0) else if bm B x = true then nI (bS B x) else -nI 1) ∧ (I' 29 (bQ B i0 % 13) = nI (3 * (bQ B i0 / 13) + fa_first (UU M ln E h (nI 0) p o f g ec 0 (bQ B i0) (bQ B i0 / 13)) 3)) ∧ ∀ x, bm B x = true → bD B x ≠ 0 → I' 29 x = nI (bV B x)) ∨ (∃ I' D' s2, fX10_search_76 k54 n (nI fr) (nI lv) (nI (bN B)) (nI i) I L D S = fX10_search_104 k54 (nI fr) (nI lv) (nI (bN B)) I' L D' S ∧ cFr I I' ∧ dS D D' ∧ sOK a b s2 ∧ CP M I' D' X h p o f g ec s2 ∧ CR I' B ∧ ∀ j, fr ≤ j → j < bN B → ¬ endsAt (UU M ln E h (nI 0) p o f g ec) B j) := by
  have hBN : bN B ≤ 169 := by rw [hB.1]; exact fb_ct_le _ _
  intro d
  induction d with
  | zero =>
    intro i hi hfr n hn I D s1 hs1 hc hR hno
    obtain ⟨n', rfl⟩ := suc_of hn
    right
    refine ⟨I, D, s1, ?_, cFr_rfl I, dS_rfl D, hs1, hc, hR, fun j h1 h2 => hno j h1 (by omega)⟩
    rw [fX10_search_76, if_pos (nI_le (by omega) (by omega))]
  | succ d ih =>
    intro i hi hfr n hn I D s1 hs1 hc hR hno
    obtain ⟨n', rfl⟩ := suc_of hn
    have hs := hB.2.1 i (by omega)
    obtain ⟨q1, q2, q3, q4⟩ := hB.2.2.1 _ hs
    obtain ⟨I1, D1, a1, a2, a3, a4⟩ := cen_eq (ec := ec) W H hB hs (h13 _ hs) hs1 hc hR
    rw [fX10_search_76, if_neg (nI_ge (by omega) (by omega)), jg_in (show i < 169 by omega) (by decide), nI_clamp (by omega), hR.2.1 i (by omega)]
    rcases a4 with ⟨b1, b2, b3⟩ | ⟨b1, b2, b3, b4, b5⟩
    · rw [b2, Option.bind_some, if_pos (show nI 0 = (0 : Int32) from rfl), show nI i + (1 : Int32) = nI (i + 1) from nI_add _ 1]
      have hno' : ∀ j, fr ≤ j → j < i + 1 → ¬ endsAt (UU M ln E h (nI 0) p o f g ec) B j := by
        intro j j1 j2
        by_cases cj : j = i
        · rw [cj]; exact b1
        · exact hno j j1 (by omega)
      rcases ih (i + 1) (by omega) (by omega) n' (by omega) I1 D1 (bQ B i) ⟨q1, q2, q3⟩ a3 b3 hno' with ⟨i0, I', D', e1, e2, e3, e4, e5, e6⟩ | ⟨I', D', s2, e3, e4, e5, e6⟩
      · exact Or.inl ⟨i0, I', D', by omega, e2, e3, cFr_tr a1 e4, dS_tr a2 e5, e6⟩
      · exact Or.inr ⟨I', D', s2, e3, cFr_tr a1 e4, dS_tr a2 e5, e6⟩
    · left
      have hmet : ∀ x, bm B x = true → x ≠ bQ B i % 13 := fun x hx e => by
        have := h13 x hx
        omega
      refine ⟨i, I1, D1, Nat.le_refl _, by omega, ?_, a1, a2, b1, hno, b3, fun x hx => ?_, ?_, fun x hx hd => ?_⟩
      · rw [b2, Option.bind_some, if_neg (show ¬ nI 1 = (0 : Int32) by decide)]
      · rw [b4 x, hR.2.2.1 x hx]
      · rw [b5, if_pos rfl]
      · rw [b5 x, if_neg (hmet x hx)]
        exact hR.2.2.2.1 x hx hd
theorem csr_107 {M : JI} {L : JL} {S : JS} {X ln : Nat} {E : Nat → (Nat → Int32) → Int32} (W : WB M L S X ln E) {h : Nat → Nat → Nat} {p o f g a b : Nat} (H : HB h p o f g a b) {ec lv fr : Nat} {k54 : K54} {B : Bf} (hB : BI a b B) (hno : ∀ j, fr ≤ j → j < bN B → ¬ endsAt (UU M ln E h (nI 0) p o f g ec) B j) (hdp : ∀ j, fr ≤ j → j < bN B → bD B (bQ B j) + 1 = lv) : ∀ d i, i + d = bN B → fr ≤ i → ∀ n, d < n → ∀ I D s1 C, sOK a b s1 → CP M I D X h p o f g ec s1 → BI a b C → CR I C → EX B C → (∀ x, bm C x = true → 13 ≤ x) → (∀ k, bN B ≤ k → k < bN C → bD C (bQ C k) = lv) → ∃ I' D' s2 F, fX10_search_107 k54 n (nI lv) (nI (bN B)) (nI i) I L D S = k54 (nI (bN B)) (nI lv + (1 : Int32)) I' L D' S ∧ cFr I I' ∧ dS D D' ∧ sOK a b s2 ∧ CP M I' D' X h p o f g ec s2 ∧ BI a b F ∧ CR I' F ∧ EX B F ∧ (∀ x, bm F x = true → 13 ≤ x) ∧ (∀ k, bN B ≤ k → k < bN F → bD F (bQ F k) = lv) ∧ ∀ N, brun (UU M ln E h (nI 0) p o f g ec) (N + d) i C = brun (UU M ln E h (nI 0) p o f g ec) N (bN B) F := by
  have hBN : bN B ≤ 169 := by rw [hB.1]; exact fb_ct_le _ _
  intro d
  induction d with
  | zero =>
    intro i hi hfr n hn I D s1 C hs1 hc hC hR hEX h13 hk
    obtain ⟨n', rfl⟩ := suc_of hn
    have : i = bN B := by omega
    subst this
    refine ⟨I, D, s1, C, ?_, cFr_rfl I, dS_rfl D, hs1, hc, hC, hR, hEX, h13, hk, fun N => rfl⟩
    rw [fX10_search_107, if_pos (nI_le (by omega) (by omega))]; rfl
  | succ d ih =>
    intro i hi hfr n hn I D s1 C hs1 hc hC hR hEX h13 hk
    obtain ⟨n', rfl⟩ := suc_of hn
    have hle := hEX.2.1
    have hqi : bQ C i = bQ B i := hEX.2.2 i (by omega)
    have hs := hC.2.1 i (by omega)
    obtain ⟨q1, q2, q3, q4⟩ := hC.2.2.1 _ hs
    obtain ⟨I1, D1, a1, a2, a3, a4, a5⟩ := csp_eq (ec := ec) W H hC hs (h13 _ hs) hs1 hc hR
    obtain ⟨p1, p2, p3, p4⟩ := bspr_13 (U := UU M ln E h (nI 0) p o f g ec) hC hs h13
    have hdC : bD C (bQ C i) + 1 = lv := by
      rw [hqi, (hEX.1 _ (hB.2.1 i (by omega))).2.2.2]
      exact hdp i hfr (by omega)
    rw [fX10_search_107, if_neg (nI_ge (by omega) (by omega)), jg_in (show i < 169 by omega) (by decide), nI_clamp (by omega), hR.2.1 i (by omega), a1, Option.bind_some, show nI i + (1 : Int32) = nI (i + 1) from nI_add _ 1]
    obtain ⟨I', D', s2, F, e1, e2, e3, e4, e5, e6, e7, e8, e9, e10, e11⟩ := ih (i + 1) (by omega) (by omega) n' (by omega) I1 D1 (bQ C i) (bspr (UU M ln E h (nI 0) p o f g ec) (bQ C i) C) ⟨q1, q2, q3⟩ a4 p1 a5 (EX_tr hEX p2) p3 (fun k k1 k2 => by
      by_cases ck : k < bN C
      · rw [p2.2.2 k ck, (p2.1 _ (hC.2.1 k ck)).2.2.2]
        exact hk k k1 ck
      · rw [p4 k (by omega) k2]; exact hdC)
    refine ⟨I', D', s2, F, e1, cFr_tr a2 e2, dS_tr a3 e3, e4, e5, e6, e7, e8, e9, e10, fun N => ?_⟩
    rw [show N + (d + 1) = (N + d) + 1 by omega, brun_step (by omega) (h13 _ hs) (by
      have := hno i hfr (by omega)
      unfold endsAt at this
      rw [hqi]; exact this), e11]
/-- what the class has found is what the reference finds -/
def SR (r : Option Nat × Bf) (len : Int32) (r20 r28 r29 : Nat → Int32) : Prop := (r.1 = none ∧ len = -nI 1) ∨ ∃ e, r.1 = some e ∧ len = nI (bD r.2 e) ∧ 1 ≤ bD r.2 e ∧ bD r.2 e ≤ 24 ∧ r20 17 = nI e ∧ ∃ C : Nat → Prop, C e ∧ ∀ x, C x → x < 169 ∧ bm r.2 x = true ∧ (bD r.2 x ≠ 0 → r28 x = nI (bS r.2 x) ∧ r29 x = nI (bV r.2 x) ∧ C (bS r.2 x) ∧ bD r.2 (bS r.2 x) + 1 = bD r.2 x)
theorem csr_54 {M : JI} {L : JL} {S : JS} {X ln : Nat} {E : Nat → (Nat → Int32) → Int32} (W : WB M L S X ln E) {h : Nat → Nat → Nat} {p o f g a b : Nat} (H : HB h p o f g a b) {ec : Nat} : ∀ d lv, lv + d = 25 → 1 ≤ lv → ∀ n, d < n → ∀ I D s1 B fr, sOK a b s1 → CP M I D X h p o f g ec s1 → BI a b B → CR I B → (∀ x, bm B x = true → 13 ≤ x) → fr ≤ bN B → (∀ j, fr ≤ j → j < bN B → bD B (bQ B j) + 1 = lv) → ∀ fu, 170 ≤ fu + fr → ∃ len I' D', fX10_search_54 n (nI fr) (nI lv) I L D S = some (len, I', D') ∧ cFr I I' ∧ dS D D' ∧ SR (brun (UU M ln E h (nI 0) p o f g ec) fu fr B) len (I' 20) (I' 28) (I' 29) := by
  have H0 := H
  obtain ⟨⟨hp, hf, hg, hne, ho, hop⟩, hb, hsm, ha, hbb⟩ := H0
  have a12 : a ≤ 12 := by rw [ha]; exact hb p f hp hf
  have b12 : b ≤ 12 := by
    rw [hbb]; split
    · exact hb o f (by assumption) hf
    · omega
  have hnone : ∀ (B : Bf) (fr fu : Nat), 0 < fu → bN B ≤ fr → brun (UU M ln E h (nI 0) p o f g ec) fu fr B = (none, B) := by
    intro B fr fu h1 h2
    obtain ⟨n', rfl⟩ := suc_of h1
    rw [brun, if_pos h2]
  intro d
  induction d with
  | zero =>
    intro lv hlv h1 n hn I D s1 B fr hs1 hc hB hR h13 hfr hdp fu hfu
    have hBN : bN B ≤ 169 := by rw [hB.1]; exact fb_ct_le _ _
    obtain ⟨n', rfl⟩ := suc_of hn
    have hle : bN B ≤ fr := by
      by_cases c : bN B ≤ fr
      · exact c
      · have hs := hB.2.1 fr (by omega)
        obtain ⟨q1, q2, q3, q4⟩ := hB.2.2.1 _ hs
        have := h13 _ hs
        have := hdp fr (Nat.le_refl _) (by omega)
        omega
    refine ⟨-nI 1, I, D, ?_, cFr_rfl I, dS_rfl D, Or.inl ⟨by rw [hnone B fr fu (by omega) hle], rfl⟩⟩
    have c : (24 : Int32) < nI lv := by rw [show lv = 25 by omega]; decide
    rw [fX10_search_54, if_pos c]; rfl
  | succ d ih =>
    intro lv hlv h1 n hn I D s1 B fr hs1 hc hB hR h13 hfr hdp fu hfu
    have hBN : bN B ≤ 169 := by rw [hB.1]; exact fb_ct_le _ _
    obtain ⟨n', rfl⟩ := suc_of hn
    have c : ¬ (24 : Int32) < nI lv := nI_nlt (b := lv) (a := 24) (by omega) (by omega)
    rw [fX10_search_54, if_neg c, hR.1]
    by_cases hle : bN B ≤ fr
    · rw [if_pos (nI_le hle (by omega))]
      exact ⟨-nI 1, I, D, rfl, cFr_rfl I, dS_rfl D, Or.inl ⟨by rw [hnone B fr fu (by omega) hle], rfl⟩⟩
    · rw [if_neg (nI_ge (by omega) (by omega))]
      rcases csr_76 (ec := ec) (fr := fr) (lv := lv) (k54 := fX10_search_54 n') W H hB h13 (bN B - fr) fr (by omega) (Nat.le_refl _) 100000 (by omega) I D s1 hs1 hc hR (fun j j1 j2 => absurd j2 (by omega)) with ⟨i0, I', D', e1, e2, e3, e4, e5, e6, e7, e8, e9, e10, e11⟩ | ⟨I1, D1, s2, e3, e4, e5, e6, e7, e8, e9⟩
      · refine ⟨nI lv, I', D', e3, e4, e5, Or.inr ?_⟩
        have hs := hB.2.1 i0 e2
        obtain ⟨B', r1, r2, r3, r4, r5, r6, r7⟩ := brun_end (U := UU M ln E h (nI 0) p o f g ec) (i0 - fr) fr i0 (by omega) fu hfu B hB h13 e2 e6 e7
        have hdl := hdp i0 (by omega) e2
        have hd24 := (r3.2.2.1 _ r4).2.2.2
        rw [r1]
        refine ⟨bQ B i0 % 13, rfl, ?_, ?_, ?_, e8, fun x => x = bQ B i0 % 13 ∨ bm B x = true, Or.inl rfl, fun x hx => ?_⟩
        · show nI lv = nI (bD B' (bQ B i0 % 13))
          rw [r7, hdl]
        · show 1 ≤ bD B' (bQ B i0 % 13)
          omega
        · show bD B' (bQ B i0 % 13) ≤ 24
          omega
        · show x < 169 ∧ bm B' x = true ∧ (bD B' x ≠ 0 → _ ∧ _ ∧ (bS B' x = bQ B i0 % 13 ∨ bm B (bS B' x) = true) ∧ bD B' (bS B' x) + 1 = bD B' x)
          by_cases cx : x = bQ B i0 % 13
          · subst cx
            refine ⟨by omega, r4, fun _ => ⟨?_, ?_, ?_, ?_⟩⟩
            · rw [e9 _ (by omega), if_pos rfl]; show nI (bQ B i0) = nI (bS B' (bQ B i0 % 13)); rw [r5]
            · rw [e10]; show _ = nI (bV B' (bQ B i0 % 13)); rw [r6]
            · rw [r5]; exact Or.inr hs
            · rw [r5, r7, (r2.1 _ hs).2.2.2]
          · have hx' : bm B x = true := by
              rcases hx with hx | hx
              · exact absurd hx cx
              · exact hx
            obtain ⟨x1, -⟩ := hB.2.2.1 x hx'
            obtain ⟨y1, y2, y3, y4⟩ := r2.1 x hx'
            refine ⟨x1, y1, fun hd => ?_⟩
            rw [y4] at hd
            have hsrc : bm B (bS B x) = true ∧ bD B (bS B x) + 1 = bD B x := by
              rcases hB.2.2.2.1 x hx' with z | ⟨z1, z2, -⟩
              · exact absurd z hd
              · exact ⟨z1, z2⟩
            refine ⟨?_, ?_, ?_, ?_⟩
            · rw [e9 x x1, if_neg cx, if_pos hx']; show nI (bS B x) = nI (bS B' x); rw [y2]
            · rw [e11 x hx' hd]; show nI (bV B x) = nI (bV B' x); rw [y3]
            · rw [y2]; exact Or.inr hsrc.1
            · rw [y2, y4, (r2.1 _ hsrc.1).2.2.2]; exact hsrc.2
      · obtain ⟨I2, D2, s3, F, g1, g2, g3, g4, g5, g6, g7, g8, g9, g10, g11⟩ := csr_107 (ec := ec) (lv := lv) (fr := fr) (k54 := fX10_search_54 n') W H hB e9 hdp (bN B - fr) fr (by omega) (Nat.le_refl _) 100000 (by omega) I1 D1 s2 B e6 e7 hB e8 (EX_rfl B) h13 (fun k k1 k2 => absurd k2 (by omega))
        have hle2 := g8.2.1
        obtain ⟨len, I', D', k1, k2, k3, k4⟩ := ih (lv + 1) (by omega) (by omega) n' (by omega) I2 D2 s3 F (bN B) g4 g5 g6 g7 g9 hle2 (fun j j1 j2 => by rw [g10 j j1 j2]) (fu - (bN B - fr)) (by omega)
        refine ⟨len, I', D', ?_, cFr_tr e4 (cFr_tr g2 k2), dS_tr e5 (dS_tr g3 k3), ?_⟩
        · rw [e3]
          unfold fX10_search_104
          rw [g1, show nI lv + (1 : Int32) = nI (lv + 1) from nI_add _ 1]
          exact k1
        · have := g11 (fu - (bN B - fr))
          rw [show fu - (bN B - fr) + (bN B - fr) = fu by omega] at this
          rw [this]
          exact k4
