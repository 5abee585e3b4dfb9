/-! ===== the law read becomes the law in force ===== -/
def lwS (N : JI) (i : Nat) : JI := j_up (j_up (j_up (j_up (j_up (j_up (j_up (j_up N 75 i (N 75 (18 + i))) 76 i (jm_b01 (N 76 (18 + i)))) 77 i (N 77 (18 + i))) 78 i (N 78 (18 + i))) 79 i (N 79 (18 + i))) 80 i (jm_b01 (N 80 (18 + i)))) 81 i (N 81 (18 + i) - nI 1000)) 82 i (N 82 (18 + i) - nI 1000)
def cp8 (N N2 : JI) (j : Nat) : Prop := N2 75 j = N 75 (18 + j) ∧ N2 76 j = jm_b01 (N 76 (18 + j)) ∧ N2 77 j = N 77 (18 + j) ∧ N2 78 j = N 78 (18 + j) ∧ N2 79 j = N 79 (18 + j) ∧ N2 80 j = jm_b01 (N 80 (18 + j)) ∧ N2 81 j = N 81 (18 + j) - nI 1000 ∧ N2 82 j = N 82 (18 + j) - nI 1000
theorem lwS_f (N : JI) (i : Nat) : (∀ a, (a < 75 ∨ 82 < a) → lwS N i a = N a) ∧ (∀ a j, j ≠ i → lwS N i a j = N a j) ∧ cp8 N (lwS N i) i := by
  unfold cp8 lwS
  refine ⟨fun a ha => ?_, fun a j hj => ?_, ?_, ?_, ?_, ?_, ?_, ?_, ?_, ?_⟩
  · rw [ju_row _ _ (by omega), ju_row _ _ (by omega), ju_row _ _ (by omega), ju_row _ _ (by omega), ju_row _ _ (by omega), ju_row _ _ (by omega), ju_row _ _ (by omega), ju_row _ _ (by omega)]
  · have e : ∀ (M : JI) (b : Nat) (v : Int32), j_up M b i v a j = M a j := fun M b v => j_up_ne M v (fun h => hj h.2)
    rw [e, e, e, e, e, e, e, e]
  all_goals simp (disch := omega) only [ju_row, ju_same]
theorem l43_step {N : JI} {L : JL} {i l n : Nat} (hi : i < l) (hl : l ≤ 18) (h : N 66 18 = nI l) : fX12_law_43 (n + 1) (nI i) N L = fX12_law_43 n (nI (i + 1)) (lwS N i) L := by
  rw [fX12_law_43, h, if_neg (show ¬ nI l ≤ nI i from nI_ge hi (by omega))]
  unfold lwS
  simp (disch := omega) only [li_18, li_1, li_1000, nI_add, nI_clamp, jg_in, ju_row]
theorem l43 {l : Nat} (hl : l ≤ 18) {L : JL} : ∀ d i, i + d = l → ∀ n, d < n → ∀ N : JI, N 66 18 = nI l → ∃ N2, fX12_law_43 n (nI i) N L = fX12_law_185 N2 L ∧ (∀ a, (a < 75 ∨ 82 < a) → N2 a = N a) ∧ (∀ a j, (j < i ∨ 18 ≤ j) → N2 a j = N a j) ∧ ∀ j, i ≤ j → j < l → cp8 N N2 j := by
  intro d
  induction d with
  | zero =>
    intro i he n hn N h
    obtain ⟨n, rfl⟩ := suc_of hn
    refine ⟨N, ?_, fun _ _ => rfl, fun _ _ _ => rfl, fun j h1 h2 => absurd h1 (by omega)⟩
    rw [fX12_law_43, h, if_pos (nI_le (by omega) (by omega))]
  | succ d ih =>
    intro i he n hn N h
    obtain ⟨n, rfl⟩ := suc_of hn
    obtain ⟨f1, f2, f3⟩ := lwS_f N i
    obtain ⟨N2, a1, a2, a3, a4⟩ := ih (i + 1) (by omega) n (by omega) (lwS N i) (by rw [f1 66 (by omega)]; exact h)
    refine ⟨N2, ?_, fun a ha => by rw [a2 a ha, f1 a ha], fun a j hj => by rw [a3 a j (by omega), f2 a j (by omega)], fun j h1 h2 => ?_⟩
    · rw [l43_step (l := l) (by omega) hl h, a1]
    · by_cases c : j = i
      · subst c
        have e : ∀ a, N2 a j = lwS N j a j := fun a => a3 a j (by omega)
        unfold cp8 at f3 ⊢
        rw [e, e, e, e, e, e, e, e]
        exact f3
      · have := a4 j (by omega) h2
        unfold cp8 at this ⊢
        have e : ∀ a, lwS N i a (18 + j) = N a (18 + j) := fun a => f2 a (18 + j) (by omega)
        rw [e, e, e, e, e, e, e, e] at this
        exact this
theorem l187 {L : JL} : ∀ d k, k + d = 1000 → ∀ n, d < n → ∀ N : JI, ∃ N2, fX12_law_187 n (nI k) N L = some ((0 : Int32), N2, L) ∧ (∀ a, a ≠ 83 → N2 a = N a) ∧ (∀ j, (j < k ∨ 1000 ≤ j) → N2 83 j = N 83 j) ∧ ∀ j, k ≤ j → j < 1000 → N2 83 j = N 83 (1000 + j) := by
  intro d
  induction d with
  | zero =>
    intro k he n hn N
    obtain ⟨n, rfl⟩ := suc_of hn
    refine ⟨N, ?_, fun _ _ => rfl, fun _ _ => rfl, fun j h1 h2 => absurd h1 (by omega)⟩
    rw [fX12_law_187, if_pos (show (1000 : Int32) ≤ nI k from nI_le (a := 1000) (by omega) (by omega))]
  | succ d ih =>
    intro k he n hn N
    obtain ⟨n, rfl⟩ := suc_of hn
    obtain ⟨N2, a1, a2, a3, a4⟩ := ih (k + 1) (by omega) n (by omega) (j_up N 83 k (N 83 (1000 + k)))
    refine ⟨N2, ?_, fun a ha => by rw [a2 a ha, ju_row _ _ ha], fun j hj => by rw [a3 j (by omega), ju_cell _ _ (by omega)], fun j h1 h2 => ?_⟩
    · rw [fX12_law_187, if_neg (show ¬ (1000 : Int32) ≤ nI k from nI_ge (b := 1000) (by omega) (by omega))]
      simp (disch := omega) only [li_1000, li_1, nI_add, nI_clamp, jg_in]
      exact a1
    · by_cases c : j = k
      · subst c
        rw [a3 j (by omega), ju_same]
      · rw [a4 j (by omega) h2, ju_cell _ _ (by omega)]
theorem seg_sh {R R' : Nat → Int32} : ∀ (l : List Nat) (c : Nat), (∀ j, c ≤ j → j < c + l.length → R' j = R (1000 + j)) → seg R (1000 + c) l → seg R' c l := by
  intro l
  induction l with
  | nil => intro c _ _; trivial
  | cons x l ih =>
    intro c h hs
    have hl : (x :: l).length = l.length + 1 := rfl
    exact ⟨by rw [h c (Nat.le_refl _) (by omega)]; exact hs.1, ih (c + 1) (fun j h1 h2 => h j (by omega) (by omega)) hs.2⟩
theorem b01_01 {x : Int32} (h : x = nI 0 ∨ x = nI 1) : jm_b01 x = x := by
  rcases h with rfl | rfl
  · exact b01_0
  · exact b01_1
theorem l_ok {X : Nat} (hX : X = 44 ∨ X = 55) {tx : Nat → Nat} {m l fi ff mb cs q : Nat} {I N N2 : JI} {Lc : JL} (h : LSt X tx m l fi ff mb cs q I Lc N) (hcs : cs ≤ 1000) (hq : q ≤ 1000) (hi : ∀ a, X ≤ a → a ≤ X + 10 → N2 a = I a) (h18 : N2 66 18 = nI l) (h29 : ∃ b, jm_b01 (I X 15) = bI b ∧ N2 66 29 = bI b) (h30 : ∃ b, jm_b01 (I X 16) = bI b ∧ N2 66 30 = bI b) (hc : ∀ j, j < l → cp8 N N2 j) (h83 : ∀ j, j < 1000 → N2 83 j = N 83 (1000 + j)) : lwOK X N2 (Lc (X + 2)) := by
  obtain ⟨g1, g2, g3, g4, g5, g6, g7, g8, g9, g10, g11, g12⟩ := h
  have hmb : ∀ i, i < l → lwMb N2 i = mbq N i := by
    intro i hil
    unfold lwMb mbq
    rw [(hc i hil).2.1, b01_01 (g12 i hil).2.1]
  have hff : ∀ i, i < l → lwFf N2 i = ffq N i := by
    intro i hil
    unfold lwFf ffq
    rw [hmb i hil, (hc i hil).1]
  have ctm : ∀ i, i ≤ l → fb_ct (lwMb N2) i = fb_ct (mbq N) i := fun i hil => fb_ct_cong (fun k hk => hmb k (by omega))
  have ctf : ∀ i, i ≤ l → fb_ct (lwFf N2) i = fb_ct (ffq N) i := fun i hil => fb_ct_cong (fun k hk => hff k (by omega))
  have eX : N2 X = I X := hi X (by omega) (by omega)
  refine ⟨l, by omega, h18, by rw [eX]; exact g5, by rw [ctm l (Nat.le_refl _), g10]; exact g3, by rw [ctm l (Nat.le_refl _), g10]; omega, by rw [eX, ctm l (Nat.le_refl _), g10]; exact g8, by rw [eX, ctm l (Nat.le_refl _), g10, show l - mb = fi by omega]; exact g6, by rw [eX]; exact h29, by rw [eX]; exact h30, fun i hil => ?_⟩
  obtain ⟨x1, x2, x3, x4, x5, x6, x7⟩ := g12 i hil
  obtain ⟨y1, y2, y3, y4, y5, y6, y7, y8⟩ := hc i hil
  unfold lwL
  rw [y1, y2, b01_01 x2, hi (X + 1) (by omega) (by omega), hmb i hil, ctm i (by omega), hi (X + 3) (by omega) (by omega), hff i hil, ctf i (by omega)]
  refine ⟨x1, x2, x3, x4, x5, fun hz => ?_, ?_⟩
  · have := x6 hz
    unfold FW at this
    rw [y3, y4, y5, hi (X + 4) (by omega) (by omega), hi (X + 5) (by omega) (by omega), hi (X + 6) (by omega) (by omega)]
    exact this
  · rcases x7 with ⟨z1, z2⟩ | ⟨z1, b, cf, c0, w1, w2, w3, w4, w5, w6, w7, w8, w9, w10⟩
    · refine Or.inl ⟨by rw [y6, z1]; exact b01_0, ?_⟩
      rw [hi (X + 7) (by omega) (by omega), hi (X + 8) (by omega) (by omega)]; exact z2
    · refine Or.inr ⟨by rw [y6, z1]; exact b01_1, ?_⟩
      refine ev_end (tx := tx) (m := m) (z := 100) (b := b) (cf := cf) (c0 := c0) hX (by omega) w1 ?_ ?_ (by omega) ?_ ?_ ?_ (by omega) ?_ ?_
      · rw [hi (X + 7) (by omega) (by omega)]; exact w2
      · rw [hi (X + 8) (by omega) (by omega)]; exact w3
      · rw [hi (X + 10) (by omega) (by omega)]; exact w5
      · rw [y7, w6, pk_sub (by omega), Nat.add_sub_cancel_left]
      · rw [y8, w7, pk_sub (by omega), Nat.add_sub_cancel_left]
      · exact seg_sh _ _ (fun j h1 h2 => h83 j (by omega)) w9
      · rw [hi (X + 9) (by omega) (by omega)]; exact w10
theorem lwE_fr {X : Nat} {M M' : JI} {i : Nat} (hi : i < 18) (h7 : M' (X + 7) = M (X + 7)) (h8 : M' (X + 8) = M (X + 8)) (h9 : M' (X + 9) = M (X + 9)) (h10 : M' (X + 10) = M (X + 10)) (h75 : ∀ a j, 75 ≤ a → a ≤ 82 → j < 18 → M' a j = M a j) (h83 : ∀ j, j < 1000 → M' 83 j = M 83 j) {E : (Nat → Int32) → Int32} (h : lwE X M i E) : lwE X M' i E := by
  unfold lwE at h ⊢
  rw [h7, h8, h9, h10]
  refine ⟨h.1, fun N e1 e2 e3 => h.2.1 N (by rw [e1, h75 81 i (by omega) (by omega) hi]) (by rw [e2, h75 82 i (by omega) (by omega) hi]) (fun k hk => by rw [e3 k hk, h83 k hk]), h.2.2⟩
/-- the law in force is kept where its cells are -/
theorem lwOK_fr {X : Nat} {M M' : JI} {l : Nat → Int64} (h : lwOK X M l) (hi : ∀ a, X ≤ a → a ≤ X + 10 → M' a = M a) (h18 : M' 66 18 = M 66 18) (h29 : M' 66 29 = M 66 29) (h30 : M' 66 30 = M 66 30) (h75 : ∀ a j, 75 ≤ a → a ≤ 82 → j < 18 → M' a j = M a j) (h83 : ∀ j, j < 1000 → M' 83 j = M 83 j) : lwOK X M' l := by
  obtain ⟨ln, g1, g2, g3, g4, g5, g6, g7, g8, g9, g10⟩ := h
  have hmb : ∀ i, i < 18 → lwMb M' i = lwMb M i := by
    intro i hil
    unfold lwMb
    rw [h75 76 i (by omega) (by omega) hil]
  have hff : ∀ i, i < 18 → lwFf M' i = lwFf M i := by
    intro i hil
    unfold lwFf
    rw [hmb i hil, h75 75 i (by omega) (by omega) hil]
  have ctm : ∀ i, i ≤ 18 → fb_ct (lwMb M') i = fb_ct (lwMb M) i := fun i hil => fb_ct_cong (fun k hk => hmb k (by omega))
  have ctf : ∀ i, i ≤ 18 → fb_ct (lwFf M') i = fb_ct (lwFf M) i := fun i hil => fb_ct_cong (fun k hk => hff k (by omega))
  have eX : M' X = M X := hi X (by omega) (by omega)
  unfold lwOK
  rw [eX, h18, h29, h30]
  refine ⟨ln, g1, g2, g3, by rw [ctm ln g1]; exact g4, by rw [ctm ln g1]; exact g5, by rw [ctm ln g1]; exact g6, by rw [ctm ln g1]; exact g7, g8, g9, fun i hil => ?_⟩
  have h := g10 i hil
  have hi18 : i < 18 := by omega
  unfold lwL at h ⊢
  rw [h75 75 i (by omega) (by omega) hi18, h75 76 i (by omega) (by omega) hi18, h75 77 i (by omega) (by omega) hi18, h75 78 i (by omega) (by omega) hi18, h75 79 i (by omega) (by omega) hi18, h75 80 i (by omega) (by omega) hi18, hi (X + 1) (by omega) (by omega), hi (X + 3) (by omega) (by omega), hi (X + 4) (by omega) (by omega), hi (X + 5) (by omega) (by omega), hi (X + 6) (by omega) (by omega), hmb i hi18, hff i hi18, ctm i (by omega), ctf i (by omega)]
  have e7 := hi (X + 7) (by omega) (by omega)
  have e8 := hi (X + 8) (by omega) (by omega)
  obtain ⟨x1, x2, x3, x4, x5, x6, x7⟩ := h
  refine ⟨x1, x2, x3, x4, x5, x6, ?_⟩
  rcases x7 with ⟨z1, z2⟩ | ⟨z1, z2, E, z3⟩
  · exact Or.inl ⟨z1, by rw [e7, e8]; exact z2⟩
  · exact Or.inr ⟨z1, by rw [e7, e8]; exact z2, E, lwE_fr hi18 e7 e8 (hi (X + 9) (by omega) (by omega)) (hi (X + 10) (by omega) (by omega)) h75 h83 z3⟩
