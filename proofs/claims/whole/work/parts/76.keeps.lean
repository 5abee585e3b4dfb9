/-! ===== marks: the reference's keeping ===== -/
theorem at_c {c : Nat} (m k : Nat) : nI c * nI m + nI k = nI (c * m + k) := by rw [pk_mul, nI_add]
theorem kp22 {N0 : JI} {m : Nat} (hm : m < 4) : ∀ d k, k + d = 12 → ∀ n, d < n → ∀ N : JI, (∀ a, a ≠ 128 → N a = N0 a) → (∀ i, (i < 12 * m ∨ 12 * m + 12 ≤ i) → N 128 i = N0 128 i) → (∀ j, j < k → N 128 (12 * m + j) = jm_b01 (N0 67 j)) → ∃ N', fX12_keeps_22 n (nI m) (nI k) N = fX12_keeps_51 (nI m) N' ∧ (∀ a, a ≠ 128 → N' a = N0 a) ∧ (∀ i, (i < 12 * m ∨ 12 * m + 12 ≤ i) → N' 128 i = N0 128 i) ∧ ∀ j, j < 12 → N' 128 (12 * m + j) = jm_b01 (N0 67 j) := by
  intro d
  induction d with
  | zero =>
    intro k hk n hn N h1 h2 h3
    obtain ⟨n', rfl⟩ := suc_of hn
    have : k = 12 := by omega
    subst this
    exact ⟨N, by rw [fX12_keeps_22, if_pos (by decide)], h1, h2, h3⟩
  | succ d ih =>
    intro k hk n hn N h1 h2 h3
    obtain ⟨n', rfl⟩ := suc_of hn
    have e1 : nI k + (1 : Int32) = nI (k + 1) := nI_1 k
    have ea : (12 : Int32) * nI m + nI k = nI (12 * m + k) := at_c m k
    rw [fX12_keeps_22, if_neg (show ¬ (12 : Int32) ≤ nI k from nI_ge (b := 12) (by omega) (by omega)), jg_in (by omega) (by decide), ea, jg_in (by omega) (by decide), nI_clamp (by omega), nI_clamp (by omega), e1]
    refine ih (k + 1) (by omega) n' (by omega) _ (fun a ha => by rw [ju_row _ _ ha, h1 a ha]) (fun i hi => by rw [ju_cell _ _ (by omega), h2 i hi]) (fun j hj => ?_)
    by_cases e : j = k
    · subst e; rw [ju_same, h1 67 (by omega)]
    · rw [ju_cell _ _ (by omega), h3 j (by omega)]
theorem kp53 {N0 : JI} {m : Nat} (hm : m < 4) : ∀ d k, k + d = 192 → ∀ n, d < n → ∀ N : JI, (∀ a, a ≠ 129 → N a = N0 a) → (∀ i, (i < 192 * m ∨ 192 * m + 192 ≤ i) → N 129 i = N0 129 i) → (∀ j, j < k → N 129 (192 * m + j) = N0 68 j) → ∃ N', fX12_keeps_53 n (nI m) (nI k) N = fX12_keeps_84 (nI m) N' ∧ (∀ a, a ≠ 129 → N' a = N0 a) ∧ (∀ i, (i < 192 * m ∨ 192 * m + 192 ≤ i) → N' 129 i = N0 129 i) ∧ ∀ j, j < 192 → N' 129 (192 * m + j) = N0 68 j := by
  intro d
  induction d with
  | zero =>
    intro k hk n hn N h1 h2 h3
    obtain ⟨n', rfl⟩ := suc_of hn
    have : k = 192 := by omega
    subst this
    exact ⟨N, by rw [fX12_keeps_53, if_pos (by decide)], h1, h2, h3⟩
  | succ d ih =>
    intro k hk n hn N h1 h2 h3
    obtain ⟨n', rfl⟩ := suc_of hn
    have e1 : nI k + (1 : Int32) = nI (k + 1) := nI_1 k
    have ea : (192 : Int32) * nI m + nI k = nI (192 * m + k) := at_c m k
    rw [fX12_keeps_53, if_neg (show ¬ (192 : Int32) ≤ nI k from nI_ge (b := 192) (by omega) (by omega)), jg_in (by omega) (by decide), ea, jg_in (by omega) (by decide), nI_clamp (by omega), nI_clamp (by omega), e1]
    refine ih (k + 1) (by omega) n' (by omega) _ (fun a ha => by rw [ju_row _ _ ha, h1 a ha]) (fun i hi => by rw [ju_cell _ _ (by omega), h2 i hi]) (fun j hj => ?_)
    by_cases e : j = k
    · subst e; rw [ju_same, h1 68 (by omega)]
    · rw [ju_cell _ _ (by omega), h3 j (by omega)]
theorem kp106 {N0 : JI} {m : Nat} (hm : m < 4) : ∀ d k, k + d = 640 → ∀ n, d < n → ∀ N : JI, (∀ a, a ≠ 132 → a ≠ 133 → N a = N0 a) → (∀ a i, (i < 640 * m ∨ 640 * m + 640 ≤ i) → N a i = N0 a i) → (∀ j, j < k → N 132 (640 * m + j) = N0 112 j ∧ N 133 (640 * m + j) = jm_b01 (N0 113 j)) → ∃ N', fX12_keeps_106 n (nI m) (nI k) N = fX12_keeps_155 (nI m) N' ∧ (∀ a, a ≠ 132 → a ≠ 133 → N' a = N0 a) ∧ (∀ a i, (i < 640 * m ∨ 640 * m + 640 ≤ i) → N' a i = N0 a i) ∧ ∀ j, j < 640 → N' 132 (640 * m + j) = N0 112 j ∧ N' 133 (640 * m + j) = jm_b01 (N0 113 j) := by
  intro d
  induction d with
  | zero =>
    intro k hk n hn N h1 h2 h3
    obtain ⟨n', rfl⟩ := suc_of hn
    have : k = 640 := by omega
    subst this
    exact ⟨N, by rw [fX12_keeps_106, if_pos (by decide)], h1, h2, h3⟩
  | succ d ih =>
    intro k hk n hn N h1 h2 h3
    obtain ⟨n', rfl⟩ := suc_of hn
    have e1 : nI k + (1 : Int32) = nI (k + 1) := nI_1 k
    have ea : (640 : Int32) * nI m + nI k = nI (640 * m + k) := at_c m k
    have ek : (nI k).toNatClampNeg = k := nI_clamp (by omega)
    have ei : (nI (640 * m + k)).toNatClampNeg = 640 * m + k := nI_clamp (by omega)
    have g1 : ∀ {α : Type} (z : Option α), j_g (j_in (nI k) 640) z = z := fun z => jg_in (by omega) (by decide)
    have g2 : ∀ {α : Type} (z : Option α), j_g (j_in (nI (640 * m + k)) 2560) z = z := fun z => jg_in (by omega) (by decide)
    rw [fX12_keeps_106, if_neg (show ¬ (640 : Int32) ≤ nI k from nI_ge (b := 640) (by omega) (by omega)), ea, g1, g2, g1, g2, ek, ei, e1, ju_row _ _ (show (113 : Nat) ≠ 132 by omega)]
    refine ih (k + 1) (by omega) n' (by omega) _ (fun a a1 a2 => by rw [ju_row _ _ a2, ju_row _ _ a1, h1 a a1 a2]) (fun a i hi => by rw [j_up_ne _ _ (fun x => by omega), j_up_ne _ _ (fun x => by omega), h2 a i hi]) (fun j hj => ?_)
    by_cases e : j = k
    · subst e
      rw [ju_row _ _ (show (132 : Nat) ≠ 133 by omega), ju_same, ju_same, h1 112 (by omega) (by omega), h1 113 (by omega) (by omega)]
      exact ⟨rfl, rfl⟩
    · rw [j_up_ne _ _ (fun x => by omega), j_up_ne _ _ (fun x => by omega), j_up_ne _ _ (fun x => by omega), j_up_ne _ _ (fun x => by omega)]
      exact h3 j (by omega)
theorem kp157 {N0 : JI} {m : Nat} (hm : m < 4) : ∀ d k, k + d = 40 → ∀ n, d < n → ∀ N : JI, (∀ a, a ≠ 134 → a ≠ 135 → N a = N0 a) → (∀ a i, (i < 40 * m ∨ 40 * m + 40 ≤ i) → N a i = N0 a i) → (∀ j, j < k → N 134 (40 * m + j) = N0 106 j ∧ N 135 (40 * m + j) = N0 102 j) → ∃ N', fX12_keeps_157 n (nI m) (nI k) N = some N' ∧ (∀ a, a ≠ 134 → a ≠ 135 → N' a = N0 a) ∧ (∀ a i, (i < 40 * m ∨ 40 * m + 40 ≤ i) → N' a i = N0 a i) ∧ ∀ j, j < 40 → N' 134 (40 * m + j) = N0 106 j ∧ N' 135 (40 * m + j) = N0 102 j := by
  intro d
  induction d with
  | zero =>
    intro k hk n hn N h1 h2 h3
    obtain ⟨n', rfl⟩ := suc_of hn
    have : k = 40 := by omega
    subst this
    exact ⟨N, by rw [fX12_keeps_157, if_pos (by decide)], h1, h2, h3⟩
  | succ d ih =>
    intro k hk n hn N h1 h2 h3
    obtain ⟨n', rfl⟩ := suc_of hn
    have e1 : nI k + (1 : Int32) = nI (k + 1) := nI_1 k
    have ea : (40 : Int32) * nI m + nI k = nI (40 * m + k) := at_c m k
    have ek : (nI k).toNatClampNeg = k := nI_clamp (by omega)
    have ei : (nI (40 * m + k)).toNatClampNeg = 40 * m + k := nI_clamp (by omega)
    have g1 : ∀ {α : Type} (z : Option α), j_g (j_in (nI k) 40) z = z := fun z => jg_in (by omega) (by decide)
    have g2 : ∀ {α : Type} (z : Option α), j_g (j_in (nI (40 * m + k)) 160) z = z := fun z => jg_in (by omega) (by decide)
    rw [fX12_keeps_157, if_neg (show ¬ (40 : Int32) ≤ nI k from nI_ge (b := 40) (by omega) (by omega)), ea, g1, g2, g1, g2, ek, ei, e1, ju_row _ _ (show (102 : Nat) ≠ 134 by omega)]
    refine ih (k + 1) (by omega) n' (by omega) _ (fun a a1 a2 => by rw [ju_row _ _ a2, ju_row _ _ a1, h1 a a1 a2]) (fun a i hi => by rw [j_up_ne _ _ (fun x => by omega), j_up_ne _ _ (fun x => by omega), h2 a i hi]) (fun j hj => ?_)
    by_cases e : j = k
    · subst e
      rw [ju_row _ _ (show (134 : Nat) ≠ 135 by omega), ju_same, ju_same, h1 106 (by omega) (by omega), h1 102 (by omega) (by omega)]
      exact ⟨rfl, rfl⟩
    · rw [j_up_ne _ _ (fun x => by omega), j_up_ne _ _ (fun x => by omega), j_up_ne _ _ (fun x => by omega), j_up_ne _ _ (fun x => by omega)]
      exact h3 j (by omega)
theorem keeps_eq (N : JI) {m : Nat} (hm : m < 4) : ∃ N', fX12_keeps (nI m) N = some N' ∧ (∀ a, (a < 127 ∨ 135 < a) → a ≠ 66 → N' a = N a) ∧ (∀ k, k ≠ 88 → N' 66 k = N 66 k) ∧ N' 66 88 = N 66 88 + nI 1 ∧ N' 127 m = N 66 88 + nI 1 ∧ (∀ i, i ≠ m → N' 127 i = N 127 i) ∧ (∀ j, j < 12 → N' 128 (12 * m + j) = jm_b01 (N 67 j)) ∧ (∀ i, (i < 12 * m ∨ 12 * m + 12 ≤ i) → N' 128 i = N 128 i) ∧ (∀ j, j < 192 → N' 129 (192 * m + j) = N 68 j) ∧ (∀ i, (i < 192 * m ∨ 192 * m + 192 ≤ i) → N' 129 i = N 129 i) ∧ N' 130 m = N 66 8 ∧ N' 131 m = N 66 52 ∧ (∀ i, i ≠ m → N' 130 i = N 130 i ∧ N' 131 i = N 131 i) ∧ (∀ j, j < 640 → N' 132 (640 * m + j) = N 112 j ∧ N' 133 (640 * m + j) = jm_b01 (N 113 j)) ∧ (∀ i, (i < 640 * m ∨ 640 * m + 640 ≤ i) → N' 132 i = N 132 i ∧ N' 133 i = N 133 i) ∧ (∀ j, j < 40 → N' 134 (40 * m + j) = N 106 j ∧ N' 135 (40 * m + j) = N 102 j) ∧ ∀ i, (i < 40 * m ∨ 40 * m + 40 ≤ i) → N' 134 i = N 134 i ∧ N' 135 i = N 135 i := by
  have em : (nI m).toNatClampNeg = m := nI_clamp (by omega)
  have gm : ∀ {α : Type} (z : Option α), j_g (j_in (nI m) 4) z = z := fun z => jg_in hm (by decide)
  generalize hA : j_up (j_up N 66 88 (N 66 88 + (1 : Int32))) 127 m (N 66 88 + (1 : Int32)) = A
  obtain ⟨B, b1, b2, b3, b4⟩ := kp22 (N0 := A) hm 12 0 (by omega) 100000 (by omega) A (fun _ _ => rfl) (fun _ _ => rfl) (fun j hj => absurd hj (by omega))
  obtain ⟨C, c1, c2, c3, c4⟩ := kp53 (N0 := B) hm 192 0 (by omega) 100000 (by omega) B (fun _ _ => rfl) (fun _ _ => rfl) (fun j hj => absurd hj (by omega))
  generalize hF : j_up (j_up C 130 m (C 66 8)) 131 m (C 66 52) = F
  obtain ⟨H, h1, h2, h3, h4⟩ := kp106 (N0 := F) hm 640 0 (by omega) 100000 (by omega) F (fun _ _ _ => rfl) (fun _ _ _ => rfl) (fun j hj => absurd hj (by omega))
  obtain ⟨K, k1, k2, k3, k4⟩ := kp157 (N0 := H) hm 40 0 (by omega) 100000 (by omega) H (fun _ _ _ => rfl) (fun _ _ _ => rfl) (fun j hj => absurd hj (by omega))
  have rA : ∀ a, a ≠ 66 → a ≠ 127 → A a = N a := fun a a1 a2 => by rw [← hA, ju_row _ _ a2, ju_row _ _ a1]
  have rF : ∀ a, a ≠ 130 → a ≠ 131 → F a = C a := fun a a1 a2 => by rw [← hF, ju_row _ _ a2, ju_row _ _ a1]
  have all : ∀ a, (a < 128 ∨ 135 < a) → K a = A a := fun a ha => by rw [k2 a (by omega) (by omega), h2 a (by omega) (by omega), rF a (by omega) (by omega), c2 a (by omega), b2 a (by omega)]
  have a66 : ∀ k, k ≠ 88 → A 66 k = N 66 k := fun k hk => by rw [← hA, ju_row _ _ (by omega), ju_cell _ _ hk]
  refine ⟨K, ?_, fun a a1 a2 => by rw [all a (by omega), rA a a2 (by omega)], fun k hk => by rw [all 66 (by omega), a66 k hk], ?_, ?_, fun i hi => ?_, fun j hj => ?_, fun i hi => ?_, fun j hj => ?_, fun i hi => ?_, ?_, ?_, fun i hi => ⟨?_, ?_⟩, fun j hj => ?_, fun i hi => ⟨?_, ?_⟩, fun j hj => ?_, fun i hi => ⟨?_, ?_⟩⟩
  · unfold fX12_keeps
    rw [gm, em, ju_same, hA]
    refine Eq.trans b1 ?_
    unfold fX12_keeps_51
    refine Eq.trans c1 ?_
    unfold fX12_keeps_84
    rw [gm, gm, em, ju_row _ _ (show (66 : Nat) ≠ 130 by omega), hF]
    refine Eq.trans h1 ?_
    unfold fX12_keeps_155
    exact k1
  · rw [all 66 (by omega), ← hA, ju_row _ _ (by omega), ju_same]; rfl
  · rw [all 127 (by omega), ← hA, ju_same]; rfl
  · rw [all 127 (by omega), ← hA, ju_cell _ _ hi, ju_row _ _ (by omega)]
  · rw [k2 128 (by omega) (by omega), h2 128 (by omega) (by omega), rF 128 (by omega) (by omega), c2 128 (by omega), b4 j hj, rA 67 (by omega) (by omega)]
  · rw [k2 128 (by omega) (by omega), h2 128 (by omega) (by omega), rF 128 (by omega) (by omega), c2 128 (by omega), b3 i hi, rA 128 (by omega) (by omega)]
  · rw [k2 129 (by omega) (by omega), h2 129 (by omega) (by omega), rF 129 (by omega) (by omega), c4 j hj, b2 68 (by omega), rA 68 (by omega) (by omega)]
  · rw [k2 129 (by omega) (by omega), h2 129 (by omega) (by omega), rF 129 (by omega) (by omega), c3 i hi, b2 129 (by omega), rA 129 (by omega) (by omega)]
  · rw [k2 130 (by omega) (by omega), h2 130 (by omega) (by omega), ← hF, ju_row _ _ (by omega), ju_same, c2 66 (by omega), b2 66 (by omega), a66 8 (by omega)]
  · rw [k2 131 (by omega) (by omega), h2 131 (by omega) (by omega), ← hF, ju_same, c2 66 (by omega), b2 66 (by omega), a66 52 (by omega)]
  · rw [k2 130 (by omega) (by omega), h2 130 (by omega) (by omega), ← hF, ju_row _ _ (by omega), ju_cell _ _ hi, c2 130 (by omega), b2 130 (by omega), rA 130 (by omega) (by omega)]
  · rw [k2 131 (by omega) (by omega), h2 131 (by omega) (by omega), ← hF, ju_cell _ _ hi, ju_row _ _ (by omega), c2 131 (by omega), b2 131 (by omega), rA 131 (by omega) (by omega)]
  · rw [k2 132 (by omega) (by omega), k2 133 (by omega) (by omega), (h4 j hj).1, (h4 j hj).2, rF 112 (by omega) (by omega), rF 113 (by omega) (by omega), c2 112 (by omega), c2 113 (by omega), b2 112 (by omega), b2 113 (by omega), rA 112 (by omega) (by omega), rA 113 (by omega) (by omega)]
    exact ⟨rfl, rfl⟩
  · rw [k2 132 (by omega) (by omega), h3 132 i hi, rF 132 (by omega) (by omega), c2 132 (by omega), b2 132 (by omega), rA 132 (by omega) (by omega)]
  · rw [k2 133 (by omega) (by omega), h3 133 i hi, rF 133 (by omega) (by omega), c2 133 (by omega), b2 133 (by omega), rA 133 (by omega) (by omega)]
  · rw [(k4 j hj).1, (k4 j hj).2, h2 106 (by omega) (by omega), h2 102 (by omega) (by omega), rF 106 (by omega) (by omega), rF 102 (by omega) (by omega), c2 106 (by omega), c2 102 (by omega), b2 106 (by omega), b2 102 (by omega), rA 106 (by omega) (by omega), rA 102 (by omega) (by omega)]
    exact ⟨rfl, rfl⟩
  · rw [k3 134 i hi, h2 134 (by omega) (by omega), rF 134 (by omega) (by omega), c2 134 (by omega), b2 134 (by omega), rA 134 (by omega) (by omega)]
  · rw [k3 135 i hi, h2 135 (by omega) (by omega), rF 135 (by omega) (by omega), c2 135 (by omega), b2 135 (by omega), rA 135 (by omega) (by omega)]
