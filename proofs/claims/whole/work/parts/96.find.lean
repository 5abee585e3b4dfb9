theorem inv_gen {n : Nat} {M M' : JI} {L L' : JL} {D D' : JG} {S : JS} (h : Inv n M L D S) (f1 : ∀ a, (a < 14 ∨ (43 < a ∧ a < 84) ∨ (95 < a ∧ a < 114) ∨ 120 < a) → a ≠ 66 → M' a = M a) (f2 : ∀ k, k ≠ 0 → (k < 46 ∨ (51 < k ∧ k < 76) ∨ 78 < k) → M' 66 k = M 66 k) (f30 : M' 30 6 = M 30 6) (e42 : D' 42 = D 42) (e43 : D' 43 = D 43) (e31 : D' 31 = D 31) (e0 : D' 0 = D 0) (e5 : D' 15 5 = D 15 5) (l46 : L' 46 = L 46) (l57 : L' 57 = L 57) (hc : vChg (n + 1) (M 1 9) (M' 20 19) (M' 30 12) (M' 33 14)) (q1 : vC1 (M' 20) (M' 28) (M' 29) (M 1 9) (rg pE M)) (q2 : vC2 (M' 30) (M 1 9) (rg pE M) (rg pH M) (M 66 81)) (q3 : vC3 (M' 33) (M 1 9) (rg pE M) (M 73) (M 67)) : Inv (n + 1) M' L' D' S := by
  obtain ⟨h1, h2, h3, h4, h5, h6, h7, h8, h9, h10, h11, h12, h13, h14, h15, h16, h17, h18, h19⟩ := h
  have g : ∀ k, k ≠ 0 → (k < 46 ∨ (51 < k ∧ k < 76) ∨ 78 < k) → M' 66 k = M 66 k := f2
  have r : ∀ a, (a < 14 ∨ (43 < a ∧ a < 84) ∨ (95 < a ∧ a < 114) ∨ 120 < a) → a ≠ 66 → M' a = M a := f1
  have gE : rg pE M' = rg pE M := rg_cong (fun a k hp => by
    unfold pE at hp
    simp at hp
    by_cases e : a = 66
    · subst e; rw [g k (by omega) (by omega)]
    · rw [r a (by omega) e])
  have gL : rg pL M' = rg pL M := rg_cong (fun a k hp => by
    unfold pL at hp
    simp at hp
    by_cases e : a = 66
    · subst e; rw [g k (by omega) (by omega)]
    · rw [r a (by omega) e])
  have gD : rg pD M' = rg pD M := rg_cong (fun a k hp => by
    unfold pD at hp
    simp at hp
    rw [r a (by omega) (by omega)])
  have gP : rg pP M' = rg pP M := rg_cong (fun a k hp => by
    unfold pP at hp
    simp at hp
    rw [r a (by omega) (by omega)])
  have gM : rg pM M' = rg pM M := rg_cong (fun a k hp => by
    unfold pM at hp
    simp at hp
    rw [r a (by omega) (by omega)])
  have gH : rg pH M' = rg pH M := rg_cong (fun a k hp => by
    unfold pH at hp
    simp at hp
    rw [r a (by omega) (by omega)])
  unfold Inv
  rw [gE, gL, gD, gP, gM, gH, e42, e43, e31, e0, e5, l46, l57, f30, r 0 (by omega) (by omega), r 1 (by omega) (by omega), r 2 (by omega) (by omega), r 3 (by omega) (by omega), r 4 (by omega) (by omega), r 5 (by omega) (by omega), r 6 (by omega) (by omega), r 8 (by omega) (by omega), r 9 (by omega) (by omega), r 10 (by omega) (by omega), r 11 (by omega) (by omega), r 12 (by omega) (by omega), r 13 (by omega) (by omega), r 67 (by omega) (by omega), r 68 (by omega) (by omega), r 69 (by omega) (by omega), r 70 (by omega) (by omega), r 71 (by omega) (by omega), r 72 (by omega) (by omega), r 73 (by omega) (by omega), r 74 (by omega) (by omega), g 8 (by omega) (by omega), g 9 (by omega) (by omega), g 52 (by omega) (by omega), g 81 (by omega) (by omega), g 88 (by omega) (by omega)]
  exact ⟨h1, h2, h3, h4, h5, h6, h7, h8, h9, h10, hc, h12, h13, h14, vMk_n h15, vOb_n h16, q1, q2, q3⟩
/-- the other parcel, and the start -/
theorem cbg_30 {h : Nat → Nat → Nat} (hb : ∀ p q, p < 12 → q < 16 → h p q ≤ 12) {p f : Nat} (hp : p < 12) (hf : f < 16) : ∀ i, i ≤ 12 → ∀ n, i < n → ∀ I o, vHd (I 8) (I 9) (I 10) (I 11) h → I 20 9 = nI p → I 20 11 = nI f → I 20 10 = ov o → OgR (othP h p f) i o → ∃ I', fX10_begin_30 n (nI i + (-1 : Int32)) I = fX10_begin_72 I' ∧ (∀ a, a ≠ 20 → I' a = I a) ∧ (∀ k, k ≠ 10 → I' 20 k = I 20 k) ∧ I' 20 10 = ov (fa_first (othP h p f) 12) := by
  intro i
  induction i with
  | zero =>
    intro hi n hn I o hv e9 e11 e10 hO
    obtain ⟨n', rfl⟩ := suc_of hn
    refine ⟨I, ?_, fun _ _ => rfl, fun _ _ => rfl, by rw [e10, OgR_ff hO]⟩
    rw [fX10_begin_30, if_pos (by decide)]
  | succ i ih =>
    intro hi n hn I o hv e9 e11 e10 hO
    obtain ⟨n', rfl⟩ := suc_of hn
    rw [pk_m1, fX10_begin_30, if_neg (nI_pos (by omega)), e9, e11]
    by_cases c : i = p
    · rw [if_pos (by rw [c])]
      exact ih (by omega) n' (by omega) I o hv e9 e11 e10 (OgR_dn hO (by unfold othP; simp [c]))
    · rw [if_neg (fun e => c ((nI_eq (by omega) (by omega)).mp e)), of_eq (M := I) (t := 7) hv.1 (by omega) hf, Option.bind_some]
      by_cases z : h i f = 0
      · rw [z, if_pos (show nI 0 ≤ (0 : Int32) by decide)]
        exact ih (by omega) n' (by omega) I o hv e9 e11 e10 (OgR_dn hO (by unfold othP; simp [z]))
      · have h12 := hb i f (by omega) hf
        have z' : ¬ nI (h i f) ≤ (0 : Int32) := nI_ge (a := 0) (b := h i f) (by omega) (by omega)
        rw [if_neg z']
        obtain ⟨I', a1, a2, a3, a4⟩ := ih (by omega) n' (by omega) (j_up I 20 10 (nI i)) i (by rw [ju_row _ _ (by omega), ju_row _ _ (by omega), ju_row _ _ (by omega), ju_row _ _ (by omega)]; exact hv) (by rw [ju_cell _ _ (by omega)]; exact e9) (by rw [ju_cell _ _ (by omega)]; exact e11) (by rw [ju_same]; unfold ov; rw [if_pos (by omega)]) (OgR_at (by omega) (by unfold othP; simp [c]; omega))
        exact ⟨I', a1, fun a ha => by rw [a2 a ha, ju_row _ _ ha], fun k hk => by rw [a3 k hk, ju_cell _ _ hk], a4⟩
theorem cbg_118 {h : Nat → Nat → Nat} {p o f g a b ec : Nat} (H : HB h p o f g a b) {I : JI} (hC : CC I p o f g ec) (hv : vHd (I 8) (I 9) (I 10) (I 11) h) {s0 s1 : Int32} (hs : s1 + s0 = nI (13 * a + b)) : ∃ I', fX10_begin_118 s0 s1 I = some I' ∧ (∀ a, a ≠ 20 → (a < 22 ∨ 25 < a) → I' a = I a) ∧ CC I' p o f g ec ∧ I' 20 16 = nI (13 * a + b) ∧ I' 20 19 = -nI 1 ∧ vHd (I' 22) (I' 23) (I' 24) (I' 25) (hst h p o f g (13 * a + b)) := by
  obtain ⟨st1, st2, st3, st4⟩ := hst_start H
  unfold fX10_begin_118
  rw [hs]
  obtain ⟨I1, a1, a2, a3, a4, a5, a6⟩ := cp_eq (j_up I 20 16 (nI (13 * a + b))) (t := 21) (u := 7) (by omega)
  rw [a1, Option.bind_some]
  have r20 : I1 20 = j_up I 20 16 (nI (13 * a + b)) 20 := a2 20 (by omega) (by omega) (by omega) (by omega)
  refine ⟨j_up I1 20 19 (-1 : Int32), rfl, fun c h1 h2 => ?_, ?_, ?_, ?_, ?_⟩
  · rw [ju_row _ _ h1, a2 c (by omega) (by omega) (by omega) (by omega), ju_row _ _ h1]
  · exact CC_fr hC (fun k k1 k2 => by rw [ju_cell _ _ (by omega), r20, ju_cell _ _ (by omega)])
  · rw [ju_cell _ _ (by omega), r20, ju_same]
  · rw [ju_same]; rfl
  · rw [ju_row _ _ (by omega), ju_row _ _ (by omega), ju_row _ _ (by omega), ju_row _ _ (by omega)]
    refine vHd_cong st4 (vHd_rows (r8 := I 8) (r9 := I 9) (r10 := I 10) (r11 := I 11) (fun k hk => ?_) (fun k hk => ?_) (fun k hk => ?_) (fun k hk => ?_) hv)
    · rw [a3 k hk, ju_row _ _ (by omega)]
    · rw [a4 k hk, ju_row _ _ (by omega)]
    · rw [a5 k hk, ju_row _ _ (by omega)]
    · rw [a6 k hk, ju_row _ _ (by omega)]
theorem cbg_eq {h : Nat → Nat → Nat} {p o f g a b : Nat} (H : HB h p o f g a b) (ho : o = fa_first (othP h p f) 12) (ec : Nat) {I : JI} (hv : vHd (I 8) (I 9) (I 10) (I 11) h) : ∃ I', fX10_begin (nI p) (nI f) (nI g) (nI ec) I = some I' ∧ (∀ a, a ≠ 20 → (a < 22 ∨ 25 < a) → I' a = I a) ∧ CC I' p o f g ec ∧ I' 20 16 = nI (13 * a + b) ∧ I' 20 19 = -nI 1 ∧ vHd (I' 22) (I' 23) (I' 24) (I' 25) (hst h p o f g (13 * a + b)) := by
  have H0 := H
  obtain ⟨⟨hp, hf, hg, hne, ho12, hop⟩, hb, hsm, ha, hbb⟩ := H0
  unfold fX10_begin
  generalize hI0 : j_up (j_up (j_up (j_up (j_up I 20 9 (nI p)) 20 11 (nI f)) 20 12 (nI g)) 20 13 (nI ec)) 20 10 (-1 : Int32) = I0
  have r0 : ∀ a, a ≠ 20 → I0 a = I a := fun a ha => by rw [← hI0, ju_row _ _ ha, ju_row _ _ ha, ju_row _ _ ha, ju_row _ _ ha, ju_row _ _ ha]
  have hv0 : vHd (I0 8) (I0 9) (I0 10) (I0 11) h := by rw [r0 8 (by omega), r0 9 (by omega), r0 10 (by omega), r0 11 (by omega)]; exact hv
  have k9 : I0 20 9 = nI p := by rw [← hI0, ju_cell _ _ (by omega), ju_cell _ _ (by omega), ju_cell _ _ (by omega), ju_cell _ _ (by omega), ju_same]
  have k11 : I0 20 11 = nI f := by rw [← hI0, ju_cell _ _ (by omega), ju_cell _ _ (by omega), ju_cell _ _ (by omega), ju_same]
  have k12 : I0 20 12 = nI g := by rw [← hI0, ju_cell _ _ (by omega), ju_cell _ _ (by omega), ju_same]
  have k13 : I0 20 13 = nI ec := by rw [← hI0, ju_cell _ _ (by omega), ju_same]
  have k10 : I0 20 10 = ov 12 := by rw [← hI0, ju_same]; decide
  obtain ⟨I1, a1, a2, a3, a4⟩ := cbg_30 hb hp hf 12 (Nat.le_refl _) 100000 (by omega) I0 12 hv0 k9 k11 k10 ⟨Nat.le_refl _, Nat.le_refl _, fun h => absurd h (by omega), fun x y1 y2 => absurd y2 (by omega)⟩
  rw [← ho] at a4
  have hC : CC I1 p o f g ec := ⟨by rw [a3 9 (by omega)]; exact k9, a4, by rw [a3 11 (by omega)]; exact k11, by rw [a3 12 (by omega)]; exact k12, by rw [a3 13 (by omega)]; exact k13⟩
  have hv1 : vHd (I1 8) (I1 9) (I1 10) (I1 11) h := by rw [a2 8 (by omega), a2 9 (by omega), a2 10 (by omega), a2 11 (by omega)]; exact hv0
  have fin : ∀ s0, s0 = nI b → ∃ I', fX10_begin_118 s0 (nI a * (13 : Int32)) I1 = some I' ∧ (∀ a, a ≠ 20 → (a < 22 ∨ 25 < a) → I' a = I a) ∧ CC I' p o f g ec ∧ I' 20 16 = nI (13 * a + b) ∧ I' 20 19 = -nI 1 ∧ vHd (I' 22) (I' 23) (I' 24) (I' 25) (hst h p o f g (13 * a + b)) := by
    intro s0 hs0
    obtain ⟨I', b1, b2, b3, b4, b5, b6⟩ := cbg_118 (s0 := s0) (s1 := nI a * (13 : Int32)) H hC hv1 (by
      rw [hs0]
      show nI a * nI 13 + nI b = _
      rw [pk_mul, nI_add, Nat.mul_comm])
    exact ⟨I', b1, fun c h1 h2 => by rw [b2 c h1 h2, a2 c h1, r0 c h1], b3, b4, b5, b6⟩
  rw [show (11 : Int32) = nI 12 + (-1 : Int32) by decide, a1]
  unfold fX10_begin_72
  rw [hC.1, hC.2.2.1, of_eq (M := I1) (t := 7) hv1.1 hp hf, Option.bind_some, a4, ← ha]
  by_cases c : o < 12
  · rw [show ov o = nI o by unfold ov; rw [if_pos c], if_neg (show ¬ nI o = (-1 : Int32) by rw [show (-1 : Int32) = -nI 1 from rfl, nm_ne (by omega)]; simp), of_eq (M := I1) (t := 7) hv1.1 c hf, Option.bind_some]
    rw [if_pos c] at hbb
    exact fin _ (by rw [hbb])
  · rw [show ov o = -nI 1 by unfold ov; rw [if_neg c], if_pos (show -nI 1 = (-1 : Int32) from rfl)]
    rw [if_neg c] at hbb
    exact fin _ (by rw [hbb]; rfl)
theorem csr_2 {L : JL} {D : JG} {S : JS} : ∀ d k, k + d = 169 → ∀ n, d < n → ∀ I : JI, (∀ x, x < k → I 28 x = -nI 1) → ∃ I', fX10_search_2 n (nI k) I L D S = fX10_search_22 I' L D S ∧ (∀ a, a ≠ 28 → I' a = I a) ∧ ∀ x, x < 169 → I' 28 x = -nI 1 := by
  intro d
  induction d with
  | zero =>
    intro k hk n hn I hI
    obtain ⟨n', rfl⟩ := suc_of hn
    have : k = 169 := by omega
    subst this
    refine ⟨I, ?_, fun _ _ => rfl, hI⟩
    rw [fX10_search_2, if_pos (by decide)]
  | succ d ih =>
    intro k hk n hn I hI
    obtain ⟨n', rfl⟩ := suc_of hn
    have c : ¬ (169 : Int32) ≤ nI k := nI_ge (b := 169) (by omega) (by omega)
    rw [fX10_search_2, if_neg c, jg_in (show k < 169 by omega) (by decide), nI_clamp (by omega), show nI k + (1 : Int32) = nI (k + 1) from nI_add _ 1]
    obtain ⟨I', a1, a2, a3⟩ := ih (k + 1) (by omega) n' (by omega) (j_up I 28 k (-1 : Int32)) (fun x hx => by
      rw [ju_at]
      show (if x = k then (-1 : Int32) else I 28 x) = -nI 1
      split
      · rfl
      · exact hI x (by omega))
    exact ⟨I', a1, fun a ha => by rw [a2 a ha, ju_row _ _ ha], a3⟩
/-- searched anew -/
theorem cfr_59 {M : JI} {L : JL} {S : JS} {X ln : Nat} {E : Nat → (Nat → Int32) → Int32} (W : WB M L S X ln E) {h : Nat → Nat → Nat} {p o f g a b : Nat} (H : HB h p o f g a b) (ho : o = fa_first (othP h p f) 12) (ha1 : 1 ≤ a) {ec : Nat} {D : JG} (hv : vHd (M 8) (M 9) (M 10) (M 11) h) (d5 : D 15 5 = some X) : ∃ I' D', fX10_findRow_59 (nI p) (nI f) (nI g) (nI ec) M L D S = some (I' 20 18, I', D') ∧ (∀ c, (c < 16 ∨ c = 19 ∨ c = 21 ∨ 29 < c) → I' c = M c) ∧ dS D D' ∧ I' 20 19 = M 1 9 ∧ CC I' p o f g ec ∧ SR (skR M ln E h (nI 0) p o f g ec a b) (I' 20 18) (I' 20) (I' 28) (I' 29) := by
  have H0 := H
  obtain ⟨⟨hp, hf, hg, hne, ho12, hop⟩, hb, hsm, ha, hbb⟩ := H0
  have a12 : a ≤ 12 := by rw [ha]; exact hb p f hp hf
  have b12 : b ≤ 12 := by
    rw [hbb]; split
    · exact hb o f (by assumption) hf
    · omega
  obtain ⟨st1, st2, st3, st4⟩ := hst_start H
  obtain ⟨I1, a1, a2, a3, a4, a5, a6⟩ := cbg_eq H ho ec hv
  obtain ⟨I2, b1, b2, b3⟩ := csr_2 (L := L) (D := D) (S := S) 169 0 (by omega) 100000 (by omega) I1 (fun x hx => absurd hx (by omega))
  generalize hI3 : j_up (j_up (j_up I2 28 (13 * a + b) (nI (13 * a + b))) 27 0 (nI (13 * a + b))) 20 8 (1 : Int32) = I3
  have r3 : ∀ c, c ≠ 20 → c ≠ 27 → c ≠ 28 → I3 c = I1 c := fun c h1 h2 h3 => by rw [← hI3, ju_row _ _ h1, ju_row _ _ h2, ju_row _ _ h3, b2 c h3]
  have r320 : ∀ k, k ≠ 8 → I3 20 k = I1 20 k := fun k hk => by rw [← hI3, ju_cell _ _ hk, ju_row _ _ (by omega), ju_row _ _ (by omega), b2 20 (by omega)]
  have hk1 : kS M I1 := fun c hc => a2 c (by omega) (by omega)
  have hP3 : CP M I3 D X h p o f g ec (13 * a + b) := by
    refine ⟨fun c hc => by rw [r3 c (by omega) (by omega) (by omega)]; exact hk1 c hc, CC_fr a3 (fun k k1 k2 => r320 k (by omega)), ?_, d5⟩
    rw [r3 22 (by omega) (by omega) (by omega), r3 23 (by omega) (by omega) (by omega), r3 24 (by omega) (by omega) (by omega), r3 25 (by omega) (by omega) (by omega)]
    exact a6
  have hR3 : CR I3 (bst (13 * a + b)) := by
    refine ⟨by rw [← hI3, ju_same]; rfl, fun k hk => ?_, fun x hx => ?_, fun x hx hd => absurd rfl hd, fun x hx => ?_⟩
    · have : k = 0 := by
        have : k < 1 := hk
        omega
      subst this
      rw [← hI3, ju_row _ _ (by omega), ju_same]; rfl
    · rw [← hI3, ju_row _ _ (by omega), ju_row _ _ (by omega), ju_at]
      show (if x = 13 * a + b then nI (13 * a + b) else I2 28 x) = if decide (x = 13 * a + b) = true then nI (13 * a + b) else -nI 1
      by_cases c : x = 13 * a + b
      · rw [if_pos c, if_pos (by simpa using c)]
      · rw [if_neg c, if_neg (by simpa using c)]; exact b3 x hx
    · show 13 * a + b < 169
      omega
  obtain ⟨len, I4, D4, c1, c2, c3, c4⟩ := csr_54 (ec := ec) W H 24 1 (by omega) (by omega) 100000 (by omega) I3 D (13 * a + b) (bst (13 * a + b)) 0 st1 hP3 (bst_ok a12 b12) hR3 (fun x hx => by
    have hx' : decide (x = 13 * a + b) = true := hx
    have : x = 13 * a + b := by simpa using hx'
    omega) (Nat.zero_le _) (fun j j1 j2 => rfl) 170 (by omega)
  have hs : fX10_search I1 L D S = some (len, I4, D4) := by
    unfold fX10_search
    rw [show (0 : Int32) = nI 0 from rfl, b1]
    unfold fX10_search_22
    have e16 : I2 20 16 = nI (13 * a + b) := by rw [b2 20 (by omega)]; exact a4
    have g0 : ∀ {α : Type} (z : Option α), j_g (j_in (0 : Int32) 169) z = z := fun z => jg_in (k := 0) (N := 169) (by omega) (by decide)
    rw [e16, jg_in (show 13 * a + b < 169 by omega) (by decide), g0, nI_clamp (by omega), ju_row _ _ (show (20 : Nat) ≠ 28 by omega), e16, show (0 : Int32).toNatClampNeg = 0 by decide, hI3]
    exact c1
  have hF : ∀ c, (c < 16 ∨ c = 19 ∨ c = 21 ∨ 29 < c) → I4 c = M c := fun c hc => by rw [c2.1 c hc, r3 c (by omega) (by omega) (by omega), a2 c (by omega) (by omega)]
  refine ⟨j_up (j_up I4 20 18 len) 20 19 (M 1 9), D4, ?_, fun c hc => by rw [ju_row _ _ (by omega), ju_row _ _ (by omega)]; exact hF c hc, c3, ju_same _ _ _ _, ?_, ?_⟩
  · unfold fX10_findRow_59
    rw [a1, Option.bind_some, hs, Option.bind_some]
    dsimp only
    rw [ju_row _ _ (show (1 : Nat) ≠ 20 by omega), hF 1 (by omega)]
  · exact CC_fr hP3.2.1 (fun k k1 k2 => by rw [ju_cell _ _ (by omega), ju_cell _ _ (by omega), c2.2 k (by omega) (by omega) (by omega) (by omega)])
  · rw [ju_row _ _ (show (28 : Nat) ≠ 20 by omega), ju_row _ _ (show (28 : Nat) ≠ 20 by omega), ju_row _ _ (show (29 : Nat) ≠ 20 by omega), ju_row _ _ (show (29 : Nat) ≠ 20 by omega), ju_cell _ _ (show (18 : Nat) ≠ 19 by omega), ju_same]
    have hsk : brun (UU M ln E h (nI 0) p o f g ec) 170 0 (bst (13 * a + b)) = skR M ln E h (nI 0) p o f g ec a b := rfl
    rw [hsk] at c4
    rcases c4 with c4 | ⟨e, x1, x2, x3, x4, x5, x6⟩
    · exact Or.inl c4
    · exact Or.inr ⟨e, x1, x2, x3, x4, by rw [ju_cell _ _ (by omega), ju_cell _ _ (by omega)]; exact x5, x6⟩
