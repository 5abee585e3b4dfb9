/-! ===== marks: the reference goes back ===== -/
theorem tbk2 {N0 : JI} {m : Nat} (hm : m < 4) : ∀ d k, k + d = 192 → ∀ n, d < n → ∀ N : JI, (∀ a, a ≠ 68 → N a = N0 a) → (∀ j, (192 ≤ j ∨ k ≤ j) → N 68 j = N0 68 j) → (∀ j, j < k → N 68 j = if jm_b01 (N0 128 (12 * m + j / 16)) = 0 then N0 68 j else N0 129 (192 * m + j)) → ∃ N', fX12_takesBack_2 n (nI m) (nI k) N = fX12_takesBack_50 (nI m) N' ∧ (∀ a, a ≠ 68 → N' a = N0 a) ∧ ∀ j, j < 192 → N' 68 j = if jm_b01 (N0 128 (12 * m + j / 16)) = 0 then N0 68 j else N0 129 (192 * m + j) := by
  intro d
  induction d with
  | zero =>
    intro k hk n hn N h1 h2 h3
    obtain ⟨n', rfl⟩ := suc_of hn
    have : k = 192 := by omega
    subst this
    exact ⟨N, by rw [fX12_takesBack_2, if_pos (by decide)], h1, h3⟩
  | succ d ih =>
    intro k hk n hn N h1 h2 h3
    obtain ⟨n', rfl⟩ := suc_of hn
    have e1 : nI k + (1 : Int32) = nI (k + 1) := nI_1 k
    have e16 : nI k / (16 : Int32) = nI (k / 16) := pk_div (d := 16) (by omega) (by omega) (by omega)
    have ea : (12 : Int32) * nI m + nI (k / 16) = nI (12 * m + k / 16) := at_c m (k / 16)
    have eb : (192 : Int32) * nI m + nI k = nI (192 * m + k) := at_c m k
    have ek : (nI k).toNatClampNeg = k := nI_clamp (by omega)
    have ei : (nI (192 * m + k)).toNatClampNeg = 192 * m + k := nI_clamp (by omega)
    have ej : (nI (12 * m + k / 16)).toNatClampNeg = 12 * m + k / 16 := nI_clamp (by omega)
    have g1 : ∀ {α : Type} (z : Option α), j_g (j_in (nI (12 * m + k / 16)) 48) z = z := fun z => jg_in (by omega) (by decide)
    have g2 : ∀ {α : Type} (z : Option α), j_g (j_in (nI (192 * m + k)) 768) z = z := fun z => jg_in (by omega) (by decide)
    have g3 : ∀ {α : Type} (z : Option α), j_g (j_in (nI k) 192) z = z := fun z => jg_in (by omega) (by decide)
    rw [fX12_takesBack_2, if_neg (show ¬ (192 : Int32) ≤ nI k from nI_ge (b := 192) (by omega) (by omega)), e16, ea, eb, g1, g2, g3, ek, ei, ej, e1, h1 128 (by omega), h1 129 (by omega)]
    by_cases c : jm_b01 (N0 128 (12 * m + k / 16)) = 0
    · rw [if_pos c]
      refine ih (k + 1) (by omega) n' (by omega) N h1 (fun j hj => h2 j (by omega)) (fun j hj => ?_)
      by_cases e : j = k
      · subst e; rw [if_pos c]; exact h2 j (by omega)
      · exact h3 j (by omega)
    · rw [if_neg c]
      refine ih (k + 1) (by omega) n' (by omega) _ (fun a ha => by rw [ju_row _ _ ha, h1 a ha]) (fun j hj => by rw [ju_cell _ _ (by omega)]; exact h2 j (by omega)) (fun j hj => ?_)
      by_cases e : j = k
      · subst e; rw [ju_same, if_neg c]
      · rw [ju_cell _ _ e]; exact h3 j (by omega)
theorem tb72 {N0 : JI} {m : Nat} (hm : m < 4) : ∀ d k, k + d = 640 → ∀ n, d < n → ∀ N : JI, (∀ a, a ≠ 112 → a ≠ 113 → N a = N0 a) → (∀ j, j < k → N 112 j = N0 132 (640 * m + j) ∧ N 113 j = jm_b01 (N0 133 (640 * m + j))) → ∃ N', fX12_takesBack_72 n (nI m) (nI k) N = fX12_takesBack_121 (nI m) N' ∧ (∀ a, a ≠ 112 → a ≠ 113 → N' a = N0 a) ∧ ∀ j, j < 640 → N' 112 j = N0 132 (640 * m + j) ∧ N' 113 j = jm_b01 (N0 133 (640 * m + j)) := by
  intro d
  induction d with
  | zero =>
    intro k hk n hn N h1 h3
    obtain ⟨n', rfl⟩ := suc_of hn
    have : k = 640 := by omega
    subst this
    exact ⟨N, by rw [fX12_takesBack_72, if_pos (by decide)], h1, h3⟩
  | succ d ih =>
    intro k hk n hn N h1 h3
    obtain ⟨n', rfl⟩ := suc_of hn
    have e1 : nI k + (1 : Int32) = nI (k + 1) := nI_1 k
    have ea : (640 : Int32) * nI m + nI k = nI (640 * m + k) := at_c m k
    have ek : (nI k).toNatClampNeg = k := nI_clamp (by omega)
    have ei : (nI (640 * m + k)).toNatClampNeg = 640 * m + k := nI_clamp (by omega)
    have g1 : ∀ {α : Type} (z : Option α), j_g (j_in (nI k) 640) z = z := fun z => jg_in (by omega) (by decide)
    have g2 : ∀ {α : Type} (z : Option α), j_g (j_in (nI (640 * m + k)) 2560) z = z := fun z => jg_in (by omega) (by decide)
    rw [fX12_takesBack_72, if_neg (show ¬ (640 : Int32) ≤ nI k from nI_ge (b := 640) (by omega) (by omega)), ea, g2, g1, g2, g1, ek, ei, e1, ju_row _ _ (show (133 : Nat) ≠ 112 by omega), h1 132 (by omega) (by omega), h1 133 (by omega) (by omega)]
    refine ih (k + 1) (by omega) n' (by omega) _ (fun a a1 a2 => by rw [ju_row _ _ a2, ju_row _ _ a1, h1 a a1 a2]) (fun j hj => ?_)
    by_cases e : j = k
    · subst e
      rw [ju_row _ _ (show (112 : Nat) ≠ 113 by omega), ju_same, ju_same]
      exact ⟨rfl, rfl⟩
    · rw [j_up_ne _ _ (fun x => by omega), j_up_ne _ _ (fun x => by omega), j_up_ne _ _ (fun x => by omega), j_up_ne _ _ (fun x => by omega)]
      exact h3 j (by omega)
theorem tb123 {N0 : JI} {m : Nat} (hm : m < 4) : ∀ d k, k + d = 40 → ∀ n, d < n → ∀ N : JI, (∀ a, a ≠ 106 → a ≠ 102 → N a = N0 a) → (∀ j, j < k → N 106 j = N0 134 (40 * m + j) ∧ N 102 j = N0 135 (40 * m + j)) → ∃ N', fX12_takesBack_123 n (nI m) (nI k) N = fX12_takesBack_169 (nI m) N' ∧ (∀ a, a ≠ 106 → a ≠ 102 → N' a = N0 a) ∧ ∀ j, j < 40 → N' 106 j = N0 134 (40 * m + j) ∧ N' 102 j = N0 135 (40 * m + j) := by
  intro d
  induction d with
  | zero =>
    intro k hk n hn N h1 h3
    obtain ⟨n', rfl⟩ := suc_of hn
    have : k = 40 := by omega
    subst this
    exact ⟨N, by rw [fX12_takesBack_123, if_pos (by decide)], h1, h3⟩
  | succ d ih =>
    intro k hk n hn N h1 h3
    obtain ⟨n', rfl⟩ := suc_of hn
    have e1 : nI k + (1 : Int32) = nI (k + 1) := nI_1 k
    have ea : (40 : Int32) * nI m + nI k = nI (40 * m + k) := at_c m k
    have ek : (nI k).toNatClampNeg = k := nI_clamp (by omega)
    have ei : (nI (40 * m + k)).toNatClampNeg = 40 * m + k := nI_clamp (by omega)
    have g1 : ∀ {α : Type} (z : Option α), j_g (j_in (nI k) 40) z = z := fun z => jg_in (by omega) (by decide)
    have g2 : ∀ {α : Type} (z : Option α), j_g (j_in (nI (40 * m + k)) 160) z = z := fun z => jg_in (by omega) (by decide)
    rw [fX12_takesBack_123, if_neg (show ¬ (40 : Int32) ≤ nI k from nI_ge (b := 40) (by omega) (by omega)), ea, g2, g1, g2, g1, ek, ei, e1, ju_row _ _ (show (135 : Nat) ≠ 106 by omega), h1 134 (by omega) (by omega), h1 135 (by omega) (by omega)]
    refine ih (k + 1) (by omega) n' (by omega) _ (fun a a1 a2 => by rw [ju_row _ _ a2, ju_row _ _ a1, h1 a a1 a2]) (fun j hj => ?_)
    by_cases e : j = k
    · subst e
      rw [ju_row _ _ (show (106 : Nat) ≠ 102 by omega), ju_same, ju_same]
      exact ⟨rfl, rfl⟩
    · rw [j_up_ne _ _ (fun x => by omega), j_up_ne _ _ (fun x => by omega), j_up_ne _ _ (fun x => by omega), j_up_ne _ _ (fun x => by omega)]
      exact h3 j (by omega)
theorem tb171 {N0 : JI} {m : Nat} (hm : m < 4) (ld : Nat → Nat) (hld : ∀ j, j < 4 → N0 127 j = nI (ld j) ∧ ld j < 2 ^ 31) : ∀ d k, k + d = 4 → ∀ n, d < n → ∀ N : JI, (∀ a, a ≠ 127 → N a = N0 a) → (∀ j, (4 ≤ j ∨ k ≤ j) → N 127 j = N0 127 j) → (∀ j, j < k → N 127 j = nI (if ld j ≤ ld m then ld j else 0)) → ∃ N', fX12_takesBack_171 n (nI m) (nI k) N = some N' ∧ (∀ a, a ≠ 127 → N' a = N0 a) ∧ ∀ j, j < 4 → N' 127 j = nI (if ld j ≤ ld m then ld j else 0) := by
  have em : (nI m).toNatClampNeg = m := nI_clamp (by omega)
  intro d
  induction d with
  | zero =>
    intro k hk n hn N h1 h2 h3
    obtain ⟨n', rfl⟩ := suc_of hn
    have : k = 4 := by omega
    subst this
    exact ⟨N, by rw [fX12_takesBack_171, if_pos (by decide)], h1, h3⟩
  | succ d ih =>
    intro k hk n hn N h1 h2 h3
    obtain ⟨n', rfl⟩ := suc_of hn
    have e1 : nI k + (1 : Int32) = nI (k + 1) := nI_1 k
    have ek : (nI k).toNatClampNeg = k := nI_clamp (by omega)
    have g1 : ∀ {α : Type} (z : Option α), j_g (j_in (nI k) 4) z = z := fun z => jg_in (by omega) (by decide)
    have g2 : ∀ {α : Type} (z : Option α), j_g (j_in (nI m) 4) z = z := fun z => jg_in hm (by decide)
    have eK : N 127 k = nI (ld k) := by rw [h2 k (by omega)]; exact (hld k (by omega)).1
    have eM : N 127 m = nI (ld m) := by
      by_cases c : m < k
      · rw [h3 m c, if_pos (Nat.le_refl _)]
      · rw [h2 m (by omega)]; exact (hld m hm).1
    have b1 := (hld k (by omega)).2
    have b2 := (hld m hm).2
    rw [fX12_takesBack_171, if_neg (show ¬ (4 : Int32) ≤ nI k from nI_ge (b := 4) (by omega) (by omega)), g1, g2, g1, ek, em, eK, eM, e1]
    by_cases c : ld k ≤ ld m
    · rw [if_pos (nI_le c b2)]
      refine ih (k + 1) (by omega) n' (by omega) N h1 (fun j hj => h2 j (by omega)) (fun j hj => ?_)
      by_cases e : j = k
      · subst e; rw [if_pos c]; exact eK
      · exact h3 j (by omega)
    · rw [if_neg (nI_ge (by omega) b1)]
      refine ih (k + 1) (by omega) n' (by omega) _ (fun a ha => by rw [ju_row _ _ ha, h1 a ha]) (fun j hj => by rw [ju_cell _ _ (by omega)]; exact h2 j (by omega)) (fun j hj => ?_)
      by_cases e : j = k
      · subst e; rw [ju_same, if_neg c]; rfl
      · rw [ju_cell _ _ e]; exact h3 j (by omega)
theorem back_eq (N : JI) {m : Nat} (hm : m < 4) (ld : Nat → Nat) (hld : ∀ j, j < 4 → N 127 j = nI (ld j) ∧ ld j < 2 ^ 31) : ∃ N', fX12_takesBack (nI m) N = some N' ∧ (∀ a, a ≠ 68 → a ≠ 66 → a ≠ 112 → a ≠ 113 → a ≠ 106 → a ≠ 102 → a ≠ 127 → N' a = N a) ∧ (∀ k, k ≠ 8 → k ≠ 52 → N' 66 k = N 66 k) ∧ N' 66 8 = N 130 m ∧ N' 66 52 = N 131 m ∧ (∀ j, j < 192 → N' 68 j = if jm_b01 (N 128 (12 * m + j / 16)) = 0 then N 68 j else N 129 (192 * m + j)) ∧ (∀ j, j < 640 → N' 112 j = N 132 (640 * m + j) ∧ N' 113 j = jm_b01 (N 133 (640 * m + j))) ∧ (∀ j, j < 40 → N' 106 j = N 134 (40 * m + j) ∧ N' 102 j = N 135 (40 * m + j)) ∧ ∀ j, j < 4 → N' 127 j = nI (if ld j ≤ ld m then ld j else 0) := by
  have em : (nI m).toNatClampNeg = m := nI_clamp (by omega)
  have gm : ∀ {α : Type} (z : Option α), j_g (j_in (nI m) 4) z = z := fun z => jg_in hm (by decide)
  obtain ⟨A, a1, a2, a3⟩ := tbk2 (N0 := N) hm 192 0 (by omega) 100000 (by omega) N (fun _ _ => rfl) (fun _ _ => rfl) (fun j hj => absurd hj (by omega))
  generalize hB : j_up (j_up A 66 8 (N 130 m)) 66 52 (N 131 m) = B
  have rB : ∀ a, a ≠ 66 → B a = A a := fun a ha => by rw [← hB, ju_row _ _ ha, ju_row _ _ ha]
  obtain ⟨C, c1, c2, c3⟩ := tb72 (N0 := B) hm 640 0 (by omega) 100000 (by omega) B (fun _ _ _ => rfl) (fun j hj => absurd hj (by omega))
  obtain ⟨F, f1, f2, f3⟩ := tb123 (N0 := C) hm 40 0 (by omega) 100000 (by omega) C (fun _ _ _ => rfl) (fun j hj => absurd hj (by omega))
  have e127 : F 127 = N 127 := by rw [f2 127 (by omega) (by omega), c2 127 (by omega) (by omega), rB 127 (by omega), a2 127 (by omega)]
  obtain ⟨H, h1, h2, h3⟩ := tb171 (N0 := F) hm ld (by rw [e127]; exact hld) 4 0 (by omega) 100000 (by omega) F (fun _ _ => rfl) (fun _ _ => rfl) (fun j hj => absurd hj (by omega))
  have r66 : H 66 = B 66 := by rw [h2 66 (by omega), f2 66 (by omega) (by omega), c2 66 (by omega) (by omega)]
  refine ⟨H, ?_, fun a x1 x2 x3 x4 x5 x6 x7 => ?_, fun k k1 k2 => ?_, ?_, ?_, fun j hj => ?_, fun j hj => ?_, fun j hj => ?_, h3⟩
  · unfold fX12_takesBack
    refine Eq.trans a1 ?_
    unfold fX12_takesBack_50
    rw [gm, gm, em, ju_row _ _ (show (131 : Nat) ≠ 66 by omega), a2 130 (by omega), a2 131 (by omega), hB]
    refine Eq.trans c1 ?_
    unfold fX12_takesBack_121
    refine Eq.trans f1 ?_
    unfold fX12_takesBack_169
    exact h1
  · rw [h2 a x7, f2 a x5 x6, c2 a x3 x4, rB a x2, a2 a x1]
  · rw [r66, ← hB, ju_cell _ _ k2, ju_cell _ _ k1, a2 66 (by omega)]
  · rw [r66, ← hB, ju_cell _ _ (by omega), ju_same]
  · rw [r66, ← hB, ju_same]
  · rw [h2 68 (by omega), f2 68 (by omega) (by omega), c2 68 (by omega) (by omega), rB 68 (by omega), a3 j hj]
  · rw [h2 112 (by omega), h2 113 (by omega), f2 112 (by omega) (by omega), f2 113 (by omega) (by omega), (c3 j hj).1, (c3 j hj).2, rB 132 (by omega), rB 133 (by omega), a2 132 (by omega), a2 133 (by omega)]
    exact ⟨rfl, rfl⟩
  · rw [h2 106 (by omega), h2 102 (by omega), (f3 j hj).1, (f3 j hj).2, c2 134 (by omega) (by omega), c2 135 (by omega) (by omega), rB 134 (by omega), rB 135 (by omega), a2 134 (by omega), a2 135 (by omega)]
    exact ⟨rfl, rfl⟩
/-! ===== marks: the class goes back ===== -/
theorem cpp_loop {b p : Nat} {hm : Nat → Nat → Nat} (h137 : 137 ≤ b) (hp : p < 12) (hmb : ∀ p q, p < 12 → q < 16 → hm p q ≤ 12) : ∀ d k, k + d = 16 → ∀ n, d < n → ∀ (M : JI) (H : Nat → Nat → Nat), vHd (M 8) (M 9) (M 10) (M 11) H → (∀ p q, p < 12 → q < 16 → H p q ≤ 12) → (∀ p q, p < 12 → q < 16 → M (b + 2) (16 * p + q) = nI (hm p q)) → ∃ M', fX1_copyParcel_2 7 (b + 1) n (nI p) (nI k) M = some M' ∧ (∀ a, (a < 8 ∨ 11 < a) → M' a = M a) ∧ vHd (M' 8) (M' 9) (M' 10) (M' 11) (fun p' q' => if p' = p ∧ k ≤ q' then hm p' q' else H p' q') := by
  intro d
  induction d with
  | zero =>
    intro k hk n hn M H hv hH hmr
    obtain ⟨n', rfl⟩ := suc_of hn
    have : k = 16 := by omega
    subst this
    refine ⟨M, by rw [fX1_copyParcel_2, if_pos (by decide)], fun _ _ => rfl, vHd_cong (fun p' q' _ hq' => ?_) hv⟩
    rw [if_neg (by omega)]
  | succ d ih =>
    intro k hk n hn M H hv hH hmr
    obtain ⟨n', rfl⟩ := suc_of hn
    have e1 : nI k + (1 : Int32) = nI (k + 1) := nI_1 k
    have o1 : fX1_of (b + 1) (nI p) (nI k) M = some (nI (hm p k)) := of_eq (M := M) (t := b + 1) (h := hm) hmr hp (by omega)
    have o2 : fX1_of 7 (nI p) (nI k) M = some (nI (H p k)) := of_eq (M := M) (t := 7) hv.1 hp (by omega)
    have b1 := hH p k hp (by omega)
    have b2 := hmb p k hp (by omega)
    obtain ⟨r1, r2, r3, r4, a1, a2⟩ := hdr_add (M := M) (t := 7) (h := H) hv hp (show k < 16 by omega) (d := nI (hm p k) - nI (H p k)) (v := hm p k) (by
      rw [Int32.sub_eq_add_neg, Int32.add_comm (nI (hm p k)), ← Int32.add_assoc, Int32.add_right_neg, Int32.zero_add]) (by omega) (by omega)
    have r4' : ∀ a, (a < 8 ∨ 11 < a) → (jr4 M 7 r1 r2 r3 r4) a = M a := by
      intro a ha
      unfold jr4
      rw [jr_ne _ _ (by omega), jr_ne _ _ (by omega), jr_ne _ _ (by omega), jr_ne _ _ (by omega)]
    have e8 : (jr4 M 7 r1 r2 r3 r4) 8 = r1 ∧ (jr4 M 7 r1 r2 r3 r4) 9 = r2 ∧ (jr4 M 7 r1 r2 r3 r4) 10 = r3 ∧ (jr4 M 7 r1 r2 r3 r4) 11 = r4 := by
      unfold jr4
      refine ⟨?_, ?_, ?_, ?_⟩
      · rw [jr_ne _ _ (by omega), jr_ne _ _ (by omega), jr_ne _ _ (by omega)]; exact jr_at _ _ _
      · rw [jr_ne _ _ (by omega), jr_ne _ _ (by omega)]; exact jr_at _ _ _
      · rw [jr_ne _ _ (by omega)]; exact jr_at _ _ _
      · exact jr_at _ _ _
    obtain ⟨M', m1, m2, m3⟩ := ih (k + 1) (by omega) n' (by omega) (jr4 M 7 r1 r2 r3 r4) (up2 H p k (hm p k)) (by rw [e8.1, e8.2.1, e8.2.2.1, e8.2.2.2]; exact a2) (fun p' q' hp' hq' => by
      unfold up2
      split
      · exact b2
      · exact hH p' q' hp' hq') (by rw [r4' (b + 2) (by omega)]; exact hmr)
    refine ⟨M', ?_, fun a ha => by rw [m2 a ha, r4' a ha], vHd_cong (fun p' q' _ _ => ?_) m3⟩
    · rw [fX1_copyParcel_2, if_neg (show ¬ (16 : Int32) ≤ nI k from nI_ge (b := 16) (by omega) (by omega)), o1, Option.bind_some, o2, Option.bind_some, a1, Option.bind_some, e1]
      exact m1
    · unfold up2
      by_cases c : p' = p ∧ k ≤ q'
      · rw [if_pos c]
        by_cases c2 : p' = p ∧ k + 1 ≤ q'
        · rw [if_pos c2]
        · rw [if_neg c2, if_pos (by omega), c.1, show q' = k by omega]
      · rw [if_neg c, if_neg (by omega), if_neg (by omega)]
theorem rs11_loop {n0 b u : Nat} {hm : Nat → Nat → Nat} {D : JG} {S : JS} (h137 : 137 ≤ b) (hmb : ∀ p q, p < 12 → q < 16 → hm p q ≤ 12) {tb : Int32} : ∀ d k, k + d = 12 → ∀ n, d < n → ∀ (M : JI) (H : Nat → Nat → Nat), M b 3 = tb → vHd (M 8) (M 9) (M 10) (M 11) H → (∀ p q, p < 12 → q < 16 → H p q ≤ 12) → (∀ p q, p < 12 → q < 16 → M (b + 2) (16 * p + q) = nI (hm p q)) → ∃ M', fX5_restore_11 b 7 n (nI k) M D S = fX5_restore_46 b 7 M' D S ∧ (∀ a, (a < 8 ∨ 11 < a) → M' a = M a) ∧ vHd (M' 8) (M' 9) (M' 10) (M' 11) (fun p' q' => if k ≤ p' ∧ bt tb p' = true then hm p' q' else H p' q') := by
  intro d
  induction d with
  | zero =>
    intro k hk n hn M H h3 hv hH hmr
    obtain ⟨n', rfl⟩ := suc_of hn
    have : k = 12 := by omega
    subst this
    refine ⟨M, by rw [fX5_restore_11, if_pos (by decide)], fun _ _ => rfl, vHd_cong (fun p' q' hp' _ => ?_) hv⟩
    rw [if_neg (by omega)]
  | succ d ih =>
    intro k hk n hn M H h3 hv hH hmr
    obtain ⟨n', rfl⟩ := suc_of hn
    have e1 : nI k + (1 : Int32) = nI (k + 1) := nI_1 k
    rw [fX5_restore_11, if_neg (show ¬ (12 : Int32) ≤ nI k from nI_ge (b := 12) (by omega) (by omega)), h3, li_31, li_1, bt_val _ (by omega), ← li_1, e1]
    by_cases c : bt tb k = true
    · rw [c, if_neg (by decide)]
      obtain ⟨M1, m1, m2, m3⟩ := cpp_loop (b := b) (p := k) (hm := hm) h137 (by omega) hmb 16 0 (by omega) 100000 (by omega) M H hv hH hmr
      have m1' : fX1_copyParcel 7 (b + 1) (nI k) M = some M1 := m1
      rw [m1', Option.bind_some]
      obtain ⟨M2, q1, q2, q3⟩ := ih (k + 1) (by omega) n' (by omega) M1 _ (by rw [m2 b (by omega)]; exact h3) m3 (fun p' q' hp' hq' => by
        show (if p' = k ∧ 0 ≤ q' then hm p' q' else H p' q') ≤ 12
        split
        · exact hmb p' q' hp' hq'
        · exact hH p' q' hp' hq') (by rw [m2 (b + 2) (by omega)]; exact hmr)
      refine ⟨M2, q1, fun a ha => by rw [q2 a ha, m2 a ha], vHd_cong (fun p' q' _ _ => ?_) q3⟩
      by_cases c1 : k ≤ p' ∧ bt tb p' = true
      · rw [if_pos c1]
        by_cases c2 : k + 1 ≤ p' ∧ bt tb p' = true
        · rw [if_pos c2]
        · have : p' = k := by
            apply Classical.byContradiction
            intro hne
            exact c2 ⟨by omega, c1.2⟩
          rw [if_neg c2, if_pos ⟨this, by omega⟩]
      · rw [if_neg c1, if_neg (fun h => c1 ⟨by omega, h.2⟩), if_neg (fun h => c1 ⟨by omega, by rw [h.1]; exact c⟩)]
    · have c0 : bt tb k = false := by simpa using c
      rw [c0, if_pos (by decide)]
      obtain ⟨M2, q1, q2, q3⟩ := ih (k + 1) (by omega) n' (by omega) M H h3 hv hH hmr
      refine ⟨M2, q1, q2, vHd_cong (fun p' q' _ _ => ?_) q3⟩
      by_cases c1 : k ≤ p' ∧ bt tb p' = true
      · have : p' ≠ k := fun e => by rw [e, c0] at c1; exact absurd c1.2 (by simp)
        rw [if_pos c1, if_pos ⟨by omega, c1.2⟩]
      · rw [if_neg c1, if_neg (fun h => c1 ⟨by omega, h.2⟩)]
