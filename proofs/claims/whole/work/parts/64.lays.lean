theorem ly3_loop {fm : Nat} (hfm : fm < 3) : ∀ d k, k + d = 3 → ∀ n, d < n → ∀ N : JI, ∃ N', fX12_lays_126 n (nI fm) (nI k) N = some N' ∧ (∀ a, a ≠ 95 → N' a = N a) ∧ (∀ j, j < 3 → k ≤ j → N' 95 (7 + j) = nI (if j = fm then 1 else 0)) ∧ N' 95 14 = N 66 8 ∧ ∀ j, j ≠ 14 → ¬ (7 + k ≤ j ∧ j < 10) → N' 95 j = N 95 j := by
  intro d
  induction d with
  | zero =>
    intro k hk n hn N
    obtain ⟨n', rfl⟩ := suc_of hn
    have : k = 3 := by omega
    subst this
    have c14 : (14 : Int32).toNatClampNeg = 14 := by decide
    have g14 : ∀ {α : Type} (z : Option α), j_g (j_in (14 : Int32) 20) z = z := fun z => jg_in (k := 14) (by omega) (by decide)
    refine ⟨j_up N 95 14 (N 66 8), ?_, fun a ha => ju_row _ _ ha, fun j h1 h2 => by omega, ju_same _ _ _ _, fun j h1 h2 => ju_cell _ _ h1⟩
    rw [fX12_lays_126, if_pos (by decide), fX12_lays_160, g14, c14]
  | succ d ih =>
    intro k hk n hn N
    obtain ⟨n', rfl⟩ := suc_of hn
    have e1 : nI k + (1 : Int32) = nI (k + 1) := nI_1 k
    have e7 : (7 : Int32) + nI k = nI (7 + k) := by show nI 7 + nI k = _; rw [nI_add]
    rw [fX12_lays_126, if_neg (show ¬ (3 : Int32) ≤ nI k from nI_ge (b := 3) (by omega) (by omega)), e7, jg_in (by omega) (by decide), jg_in (by omega) (by decide), nI_clamp (by omega), e1]
    have fin : ∀ v : Int32, v = nI (if k = fm then 1 else 0) → ∃ N', fX12_lays_126 n' (nI fm) (nI (k + 1)) (j_up N 95 (7 + k) v) = some N' ∧ (∀ a, a ≠ 95 → N' a = N a) ∧ (∀ j, j < 3 → k ≤ j → N' 95 (7 + j) = nI (if j = fm then 1 else 0)) ∧ N' 95 14 = N 66 8 ∧ ∀ j, j ≠ 14 → ¬ (7 + k ≤ j ∧ j < 10) → N' 95 j = N 95 j := by
      intro v hv
      obtain ⟨N', m1, m2, m3, m4, m5⟩ := ih (k + 1) (by omega) n' (by omega) (j_up N 95 (7 + k) v)
      refine ⟨N', m1, fun a ha => by rw [m2 a ha, ju_row _ _ ha], fun j h1 h2 => ?_, by rw [m4, ju_row _ _ (by omega)], fun j h1 h2 => by rw [m5 j h1 (by omega), ju_cell _ _ (by omega)]⟩
      by_cases e : j = k
      · subst e
        rw [m5 (7 + j) (by omega) (by omega), ju_same, hv]
      · exact m3 j h1 (by omega)
    by_cases c : k = fm
    · rw [if_pos (by rw [c])]
      exact fin _ (by rw [if_pos c]; rfl)
    · rw [if_neg (fun h => c ((nI_eq (by omega) (by omega)).mp h))]
      exact fin _ (by rw [if_neg c]; rfl)
theorem ly_sum {N : JI} {h : Nat → Nat → Nat} (e68 : twRep (N 68) h) {f : Nat} (hf : f < 16) {x1 x3 x5 nn pr pd : Int32} : ∀ d k, k + d = 12 → ∀ n, d < n → fX12_lays_29 n x1 (nI f) x3 nn x5 pr pd (nI (fb_sm (fun p => h p f) k) - nn) (nI k) N = fX12_lays_59 x1 (nI f) x3 nn x5 pr pd (nI (fb_sm (fun p => h p f) 12) - nn) N := by
  intro d
  induction d with
  | zero =>
    intro k hk n hn
    obtain ⟨n', rfl⟩ := suc_of hn
    have : k = 12 := by omega
    subst this
    rw [fX12_lays_29, if_pos (by decide)]
  | succ d ih =>
    intro k hk n hn
    obtain ⟨n', rfl⟩ := suc_of hn
    have e1 : nI k + (1 : Int32) = nI (k + 1) := nI_1 k
    rw [fX12_lays_29, if_neg (show ¬ (12 : Int32) ≤ nI k from nI_ge (b := 12) (by omega) (by omega)), at16, jg_in (by omega) (by decide), nI_clamp (by omega), e68 k f (by omega) hf, e1]
    have ea : nI (fb_sm (fun p => h p f) k) - nn + nI (h k f) = nI (fb_sm (fun p => h p f) (k + 1)) - nn := by
      rw [fb_sm_succ, ← nI_add, Int32.sub_eq_add_neg, Int32.sub_eq_add_neg, Int32.add_assoc, Int32.add_assoc, Int32.add_comm (-nn)]
    rw [ea]
    exact ih (k + 1) (by omega) n' (by omega)
theorem lays_eq {N : JI} {h : Nat → Nat → Nat} (e68 : twRep (N 68) h) (hb : ∀ p q, p < 12 → q < 16 → h p q ≤ 12) {p f g fm : Nat} (hp : p < 12) (hf : f < 16) (hg : g < 16) (hfm : fm < 3) (nn pr pd : Int32) :
    ∃ N', fX12_lays (nI p) (nI f) (nI g) nn (nI fm) pr pd N = some N' ∧ (∀ a, a ≠ 66 → a ≠ 95 → N' a = N a) ∧ (∀ k, (k < 46 ∨ 49 < k) → N' 66 k = N 66 k) ∧ N' 66 46 = nI p ∧ N' 66 47 = nI f ∧ N' 66 48 = nI g ∧ N' 66 49 = nI fm ∧ ∀ k, (k < 9 ∨ k = 13) → N' 95 (k + 1) = fbS h p f g fm nn pr pd (N 66 8) k := by
  have c1 : (1 : Int32).toNatClampNeg = 1 := by decide
  have c2 : (2 : Int32).toNatClampNeg = 2 := by decide
  have c3 : (3 : Int32).toNatClampNeg = 3 := by decide
  have c4 : (4 : Int32).toNatClampNeg = 4 := by decide
  have c5 : (5 : Int32).toNatClampNeg = 5 := by decide
  have c6 : (6 : Int32).toNatClampNeg = 6 := by decide
  have g1 : ∀ {α : Type} (z : Option α), j_g (j_in (1 : Int32) 20) z = z := fun z => jg_in (k := 1) (by omega) (by decide)
  have g2 : ∀ {α : Type} (z : Option α), j_g (j_in (2 : Int32) 20) z = z := fun z => jg_in (k := 2) (by omega) (by decide)
  have g3 : ∀ {α : Type} (z : Option α), j_g (j_in (3 : Int32) 20) z = z := fun z => jg_in (k := 3) (by omega) (by decide)
  have g4 : ∀ {α : Type} (z : Option α), j_g (j_in (4 : Int32) 20) z = z := fun z => jg_in (k := 4) (by omega) (by decide)
  have g5 : ∀ {α : Type} (z : Option α), j_g (j_in (5 : Int32) 20) z = z := fun z => jg_in (k := 5) (by omega) (by decide)
  have g6 : ∀ {α : Type} (z : Option α), j_g (j_in (6 : Int32) 20) z = z := fun z => jg_in (k := 6) (by omega) (by decide)
  generalize hN1 : j_up (j_up (j_up (j_up N 66 46 (nI p)) 66 47 (nI f)) 66 48 (nI g)) 66 49 (nI fm) = N1
  have r1 : ∀ a, a ≠ 66 → N1 a = N a := by
    intro a ha
    rw [← hN1, ju_row _ _ ha, ju_row _ _ ha, ju_row _ _ ha, ju_row _ _ ha]
  have e68' : twRep (N1 68) h := by rw [r1 68 (by omega)]; exact e68
  have hz : -nn = nI (fb_sm (fun p => h p f) 0) - nn := (Int32.zero_sub nn).symm
  have hsum := ly_sum (N := N1) e68' hf (x1 := nI p) (x3 := nI g) (x5 := nI fm) (nn := nn) (pr := pr) (pd := pd) 12 0 (by omega) 100000 (by omega)
  obtain ⟨N', m1, m2, m3, m4, m5⟩ := ly3_loop hfm 3 0 (by omega) 100000 (by omega) (j_up (j_up (j_up (j_up (j_up (j_up N1 95 1 nn) 95 2 pr) 95 3 pd) 95 4 (nI (h p f) - nn)) 95 5 (nI (fb_sm (fun p => h p f) 12) - nn)) 95 6 (nI (owS h g)))
  have ro : ∀ a, a ≠ 95 → N' a = N1 a := by
    intro a ha
    rw [m2 a ha, ju_row _ _ ha, ju_row _ _ ha, ju_row _ _ ha, ju_row _ _ ha, ju_row _ _ ha, ju_row _ _ ha]
  refine ⟨N', ?_, fun a h1 h2 => by rw [ro a h2, r1 a h1], fun k hk => ?_, ?_, ?_, ?_, ?_, fun k hk => ?_⟩
  · unfold fX12_lays
    rw [hN1, hz]
    refine Eq.trans hsum ?_
    unfold fX12_lays_59
    simp only [c1, c2, c3, c4, c5, c6, g1, g2, g3, g4, g5, g6]
    rw [at16, jg_in (by omega) (by decide), nI_clamp (by omega), ju_row _ _ (show (68 : Nat) ≠ 95 by omega), ju_row _ _ (show (68 : Nat) ≠ 95 by omega), ju_row _ _ (show (68 : Nat) ≠ 95 by omega), e68' p f hp hf]
    rw [ow_eq (h := h) (by rw [ju_row _ _ (by omega), ju_row _ _ (by omega), ju_row _ _ (by omega), ju_row _ _ (by omega), ju_row _ _ (by omega)]; exact e68') hb hg, Option.bind_some]
    exact m1
  · rw [ro 66 (by omega), ← hN1, ju_cell _ _ (by omega), ju_cell _ _ (by omega), ju_cell _ _ (by omega), ju_cell _ _ (by omega)]
  · rw [ro 66 (by omega), ← hN1, ju_cell _ _ (by omega), ju_cell _ _ (by omega), ju_cell _ _ (by omega), ju_same]
  · rw [ro 66 (by omega), ← hN1, ju_cell _ _ (by omega), ju_cell _ _ (by omega), ju_same]
  · rw [ro 66 (by omega), ← hN1, ju_cell _ _ (by omega), ju_same]
  · rw [ro 66 (by omega), ← hN1, ju_same]
  · unfold fbS
    by_cases k13 : k = 13
    · subst k13
      rw [if_neg (by omega), if_neg (by omega), if_neg (by omega), if_neg (by omega), if_neg (by omega), if_neg (by omega), if_neg (by omega), if_pos rfl, m4, ju_row _ _ (by omega), ju_row _ _ (by omega), ju_row _ _ (by omega), ju_row _ _ (by omega), ju_row _ _ (by omega), ju_row _ _ (by omega), ← hN1, ju_cell _ _ (by omega), ju_cell _ _ (by omega), ju_cell _ _ (by omega), ju_cell _ _ (by omega)]
    · by_cases k6 : k < 6
      · rw [m5 (k + 1) (by omega) (by omega)]
        have hk6 : k = 0 ∨ k = 1 ∨ k = 2 ∨ k = 3 ∨ k = 4 ∨ k = 5 := by omega
        rcases hk6 with rfl | rfl | rfl | rfl | rfl | rfl
        · rw [if_pos rfl, ju_cell _ _ (by omega), ju_cell _ _ (by omega), ju_cell _ _ (by omega), ju_cell _ _ (by omega), ju_cell _ _ (by omega), ju_same]
        · rw [if_neg (by omega), if_pos rfl, ju_cell _ _ (by omega), ju_cell _ _ (by omega), ju_cell _ _ (by omega), ju_cell _ _ (by omega), ju_same]
        · rw [if_neg (by omega), if_neg (by omega), if_pos rfl, ju_cell _ _ (by omega), ju_cell _ _ (by omega), ju_cell _ _ (by omega), ju_same]
        · rw [if_neg (by omega), if_neg (by omega), if_neg (by omega), if_pos rfl, ju_cell _ _ (by omega), ju_cell _ _ (by omega), ju_same]
        · rw [if_neg (by omega), if_neg (by omega), if_neg (by omega), if_neg (by omega), if_pos rfl, ju_cell _ _ (by omega), ju_same]
        · rw [if_neg (by omega), if_neg (by omega), if_neg (by omega), if_neg (by omega), if_neg (by omega), if_pos rfl, ju_same]
      · rw [if_neg (by omega), if_neg (by omega), if_neg (by omega), if_neg (by omega), if_neg (by omega), if_neg (by omega)]
        have := m3 (k - 6) (by omega) (by omega)
        rw [show 7 + (k - 6) = k + 1 by omega] at this
        rw [this]
        by_cases c : k - 6 = fm
        · rw [if_pos c, if_pos (by omega)]
        · rw [if_neg c, if_neg (by omega), if_neg k13]
