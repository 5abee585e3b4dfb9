/-! ===== every call of a script ===== -/
theorem end_ok {n : Nat} {M : JI} {L : JL} {D : JG} {S : JS} (h : Inv n M L D S) (hn : n ≤ 1600) : decide (S.length ≤ 601024 ∧ jm_sl S ≤ 7293034) = true := by
  obtain ⟨h1, h2, h3, h4, h5, h6, h7, h8, h9, h10, h11, h12, h13, h14, h15, h16, h17, h18, h19⟩ := h
  obtain ⟨-, g1, g2, -⟩ := h16
  exact decide_eq_true ⟨by omega, by omega⟩
theorem law_loop {e : Nat → Nat} (he : e 104 ≤ 4096) (h8 : 8 ≤ e 104) : ∀ d i, e 104 - i ≤ d → i ≤ e 104 → ∀ f, d < f → ∀ n, 8 * n ≤ 3 * i → ∀ (M : JI) (L : JL) (G D : JG) (S : JS), Inv n M L D S → fL_law_23 e f (nI i) M L G D S = some (nI 1) := by
  have hsub : Int32.ofNat (e 104) - (8 : Int32) = nI (e 104 - 8) := pk_sub (a := e 104) (b := 8) (by omega)
  intro d
  induction d with
  | zero =>
    intro i hd hi f hf n hn M L G D S h
    obtain ⟨f, rfl⟩ := suc_of hf
    rw [fL_law_23, hsub, if_pos (nI_lt (by omega) (by omega)), end_ok h (by omega)]
    rfl
  | succ d ih =>
    intro i hd hi f hf n hn M L G D S h
    obtain ⟨f, rfl⟩ := suc_of hf
    by_cases c : e 104 - 8 < i
    · rw [fL_law_23, hsub, if_pos (nI_lt c (by omega)), end_ok h (by omega)]
      rfl
    · have hk : ∀ (M : JI) (L : JL) (G D : JG) (S : JS), Inv (n + 3) M L D S → fL_law_23 e f (nI (i + 8)) M L G D S = some (nI 1) := fun M L G D S h' => ih (i + 8) (by omega) (by omega) f (by omega) (n + 3) (by omega) M L G D S h'
      have hi8 : i + 8 ≤ e 104 := by omega
      have hn4 : n < 4000 := by omega
      rw [fL_law_23, hsub, if_neg (nI_nlt (show i ≤ e 104 - 8 by omega) (by omega)), jg_in (show i < e 104 by omega) (by omega)]
      generalize nI (e (1000 + (nI i).toNatClampNeg)) &&& (31 : Int32) = x
      by_cases c0 : x = (0 : Int32)
      · rw [if_pos c0]; exact t_parcel he hi8 h hn4 hk
      rw [if_neg c0]
      by_cases c1 : x = (1 : Int32)
      · rw [if_pos c1]; exact t_part he hi8 h hn4 hk
      rw [if_neg c1]
      by_cases c2 : x = (2 : Int32)
      · rw [if_pos c2]; exact t_beside he hi8 h hn4 hk
      rw [if_neg c2]
      by_cases c3 : x = (3 : Int32)
      · rw [if_pos c3]; exact t_water he hi8 h hn4 hk
      rw [if_neg c3]
      by_cases c4 : x = (4 : Int32)
      · rw [if_pos c4]; exact t_kin he hi8 h hn4 hk
      rw [if_neg c4]
      by_cases c5 : x = (5 : Int32)
      · rw [if_pos c5]; exact t_need he hi8 h hn4 hk
      rw [if_neg c5]
      by_cases c6 : x = (6 : Int32)
      · rw [if_pos c6]; exact t_care he hi8 h hn4 hk
      rw [if_neg c6]
      by_cases c7 : x = (7 : Int32)
      · rw [if_pos c7]; exact t_days he hi8 h hn4 hk
      rw [if_neg c7]
      by_cases c8 : x = (8 : Int32)
      · rw [if_pos c8]; exact t_feed he hi8 h hn4 hk
      rw [if_neg c8]
      by_cases c9 : x = (9 : Int32)
      · rw [if_pos c9]; exact t_law he hi8 h hn4 hk
      rw [if_neg c9]
      by_cases c10 : x = (10 : Int32)
      · rw [if_pos c10]; exact t_holds he hi8 h hn4 hk
      rw [if_neg c10]
      by_cases c11 : x = (11 : Int32)
      · rw [if_pos c11]; exact t_stands he hi8 h hn4 hk
      rw [if_neg c11]
      by_cases c12 : x = (12 : Int32)
      · rw [if_pos c12]; exact t_pass he hi8 h hn4 hk
      rw [if_neg c12]
      by_cases c13 : x = (13 : Int32)
      · rw [if_pos c13]; exact t_would he hi8 h hn4 hk
      rw [if_neg c13]
      by_cases c14 : x = (14 : Int32)
      · rw [if_pos c14]; exact t_look he hi8 h hn4 hk
      rw [if_neg c14]
      by_cases c15 : x = (15 : Int32)
      · rw [if_pos c15]; exact t_may he hi8 h hn4 hk
      rw [if_neg c15]
      by_cases c16 : x = (16 : Int32)
      · rw [if_pos c16]; exact t_order he hi8 h hn4 hk
      rw [if_neg c16]
      by_cases c17 : x = (17 : Int32)
      · rw [if_pos c17]; exact t_hears he hi8 h hn4 hk
      rw [if_neg c17]
      by_cases c18 : x = (18 : Int32)
      · rw [if_pos c18]; exact t_till he hi8 h hn4 hk
      rw [if_neg c18]
      by_cases c19 : x = (19 : Int32)
      · rw [if_pos c19]; exact t_waive he hi8 h hn4 hk
      rw [if_neg c19]
      by_cases c20 : x = (20 : Int32)
      · rw [if_pos c20]; exact t_truly he hi8 h hn4 hk
      rw [if_neg c20]
      by_cases c21 : x = (21 : Int32)
      · rw [if_pos c21]; exact t_claim he hi8 h hn4 hk
      rw [if_neg c21]
      by_cases c22 : x = (22 : Int32)
      · rw [if_pos c22]; exact t_parted he hi8 h hn4 hk
      rw [if_neg c22]
      by_cases c23 : x = (23 : Int32)
      · rw [if_pos c23]; exact t_sly he hi8 h hn4 hk
      rw [if_neg c23]
      by_cases c24 : x = (24 : Int32)
      · rw [if_pos c24]; exact t_slyRow he hi8 h hn4 hk
      rw [if_neg c24]
      by_cases c25 : x = (25 : Int32)
      · rw [if_pos c25]; exact t_far he hi8 h hn4 hk
      rw [if_neg c25]
      by_cases c26 : x = (26 : Int32)
      · rw [if_pos c26]; exact t_honest he hi8 h hn4 hk
      rw [if_neg c26]
      by_cases c27 : x = (27 : Int32)
      · rw [if_pos c27]; exact t_mended he hi8 h hn4 hk
      rw [if_neg c27]
      by_cases c28 : x = (28 : Int32)
      · rw [if_pos c28]; exact t_mark he hi8 h hn4 hk
      rw [if_neg c28]
      by_cases c29 : x = (29 : Int32)
      · rw [if_pos c29]; exact t_count he hi8 h hn4 hk
      rw [if_neg c29]
      rw [show nI i + (8 : Int32) = nI (i + 8) from nI_add i 8]
      exact hk M L G D S (inv_n (inv_n (inv_n h)))
theorem law_short {e : Nat → Nat} (h8 : e 104 < 8) {M : JI} {L : JL} {G D : JG} {S : JS} (h : Inv 0 M L D S) (f : Nat) : fL_law_23 e (f + 1) (nI 0) M L G D S = some (nI 1) := by
  have hlt : Int32.ofNat (e 104) - (8 : Int32) < nI 0 := by
    generalize e 104 = N at h8
    have : N = 0 ∨ N = 1 ∨ N = 2 ∨ N = 3 ∨ N = 4 ∨ N = 5 ∨ N = 6 ∨ N = 7 := by omega
    rcases this with rfl | rfl | rfl | rfl | rfl | rfl | rfl | rfl <;> decide
  rw [fL_law_23, if_pos hlt, end_ok h (by omega)]
  rfl
/-- the class answers as the reference does, in every run -/
theorem pure_law : PureLaw := by
  intro e q he hq
  have h := inv_start hq
  by_cases h8 : e 104 < 8
  · exact law_short h8 h 99999
  · exact law_loop he (by omega) (e 104) 0 (by omega) (by omega) 100000 (by omega) 0 (by omega) q.1 q.2.1 q.2.2.1 q.2.2.2.1 q.2.2.2.2 h
