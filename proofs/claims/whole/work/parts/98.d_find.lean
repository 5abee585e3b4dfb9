/-- those sets with which there is a row -/
theorem mss_eq {M : JI} {L0 : JL} {S : JS} {X ln : Nat} {E : Nat → (Nat → Int32) → Int32} (W : WB M L0 S X ln E) {h : Nat → Nat → Nat} {p o f g a b : Nat} (H : HB h p o f g a b) (ho : o = fa_first (othP h p f) 12) (ha1 : 1 ≤ a) {ec : Nat} {I : JI} {D : JG} (hk : kS M I) (hv : vHd (I 8) (I 9) (I 10) (I 11) h) (d5 : D 15 5 = some X) (e7 : I 30 7 = nI p) (e8 : I 30 8 = nI f) (e9 : I 30 9 = nI g) (e10 : I 30 10 = nI ec) (sets : Int64) : ∃ sly I' L' D', fX6_slySets sets I L0 D S = some (sly, I', L', D') ∧ (∀ c, (c < 16 ∨ c = 19 ∨ c = 21 ∨ 29 < c) → I' c = I c) ∧ I' 20 19 = -nI 1 ∧ dS D D' ∧ MP L0 L' ∧ ∀ x, x < 64 → bL sets x = true → (bL sly x = true ↔ ∃ e, e < 13 ∧ RC (UU M ln E h (nI x) p o f g ec) (13 * a + b) e) := by
  obtain ⟨st1, st2, st3, st4⟩ := hst_start H
  obtain ⟨I1, a1, a2, a3, a4, a5, a6⟩ := cbg_eq H ho ec hv
  have hst := st1.1
  obtain ⟨L1, b1, b2, b3⟩ := mss_25 (S := S) (l1 := sets) (I := I1) (D := D) 169 0 (by omega) 100000 (by omega) L0 (fun x hx => absurd hx (by omega))
  have hk1 : kS M I1 := fun c hc => by rw [a2 c (by omega) (by omega)]; exact hk c hc
  have hP1 : CP M I1 D X h p o f g ec (13 * a + b) := ⟨hk1, a3, a6, d5⟩
  have hL2 : MP L0 (j_up L1 32 (13 * a + b) sets) := fun c hc => by rw [ju_row _ _ hc]; exact b2 c hc
  have hrow : ∀ y x, x < 64 → y < 169 → bL ((j_up L1 32 (13 * a + b) sets) 32 y) x = true → y = 13 * a + b ∧ bL sets x = true := by
    intro y x hx hy hb
    rw [ju_at] at hb
    have hb' : bL (if y = 13 * a + b then sets else L1 32 y) x = true := hb
    by_cases c : y = 13 * a + b
    · rw [if_pos c] at hb'; exact ⟨c, hb'⟩
    · rw [if_neg c, b3 y hy, bL_zero] at hb'; exact absurd hb' (by simp)
  have hM0 : MI (fun x => UU M ln E h (nI x) p o f g ec) a b (13 * a + b) sets 0 ((j_up L1 32 (13 * a + b) sets) 32) (13 * a + b) := by
    refine ⟨fun x y hx hy hb => ?_, fun x hx hb => ?_, fun x hx hs hl => ⟨?_, fun y hy hy2 hb => ?_⟩⟩
    · obtain ⟨e1, e2⟩ := hrow y x hx hy hb
      rw [e1]
      exact ⟨st1, Nat.le_refl _, by omega, RC_st _ _, e2⟩
    · rw [bL_zero] at hb; exact absurd hb (by simp)
    · rw [ju_same]; exact hs
    · obtain ⟨e1, -⟩ := hrow y x hx hy2 hb
      omega
  obtain ⟨d, hd⟩ : ∃ d, 13 * a + b = 12 + d := ⟨13 * a + b - 12, by omega⟩
  rw [hd] at hM0
  obtain ⟨sly, I', L', D', q1, q2, q3, q4, q5⟩ := mss_69 W H (st0 := 12 + d) (sets := sets) d 100000 (by omega) (by omega) I1 (j_up L1 32 (12 + d) sets) D 0 (13 * a + b) st1 hP1 (by rw [← hd]; exact hL2) hM0
  refine ⟨sly, I', L', D', ?_, fun c hc => by rw [q2.1 c hc, a2 c (by omega) (by omega)], by rw [q2.2 19 (by omega) (by omega) (by omega) (by omega)]; exact a5, q3, q4, fun x hx hs => ?_⟩
  · unfold fX6_slySets
    rw [e7, e8, e9, e10, a1, Option.bind_some]
    refine Eq.trans b1 ?_
    unfold fX6_slySets_45
    rw [a4, jg_in hst (by decide), nI_clamp (by omega), hd]
    exact q1
  · have := MI_end q5 (by omega) (by omega) hx hs
    rw [hd]
    exact this
/-- how many bits -/
def pc (v : Nat) : Nat := fb_ct (bt (nI v)) 12
theorem bt_hi12 : all2 (fun v => fb_ct (fun j => bt (nI v) (12 + j)) 20 == 0) 12 0 = true := by decide +kernel
theorem bt_hi {v : Nat} (hv : v < 4096) : ∀ i, 12 ≤ i → bt (nI v) i = false := by
  intro i hi
  by_cases c : i < 32
  · have h := all2_ok _ 12 0 bt_hi12 v (by omega) (by omega)
    have h' : fb_ct (fun j => bt (nI v) (12 + j)) 20 = 0 := by simpa using h
    have := fb_ct_zero.mp h' (i - 12) (by omega)
    rw [show 12 + (i - 12) = i by omega] at this
    exact this
  · exact b_big (by omega)
theorem bc_n {v : Nat} (hv : v < 4096) : fJ6_bitCount_0f7a4 (nI v) = some (nI (pc v)) := bc_eq (bt_hi hv)
theorem pc_le (v : Nat) : pc v ≤ 12 := fb_ct_le _ _
theorem bits_loop {x : Int32} : ∀ d k, k + d = 12 → ∀ n, d < n → fX12_bits_4 n x (nI (fb_ct (bt x) k)) (nI k) = some (nI (fb_ct (bt x) 12)) := by
  intro d
  induction d with
  | zero =>
    intro k hk n hn
    obtain ⟨n', rfl⟩ := suc_of hn
    have : k = 12 := by omega
    subst this
    rw [fX12_bits_4, if_pos (by decide)]
  | succ d ih =>
    intro k hk n hn
    obtain ⟨n', rfl⟩ := suc_of hn
    have c : ¬ (12 : Int32) ≤ nI k := nI_ge (b := 12) (by omega) (by omega)
    rw [fX12_bits_4, if_neg c, show (x >>> (nI k &&& 31)) &&& (1 : Int32) = bI (bt x k) from bt_val x (by omega), show nI k + (1 : Int32) = nI (k + 1) from nI_add _ 1]
    have e : nI (fb_ct (bt x) k) + bI (bt x k) = nI (fb_ct (bt x) (k + 1)) := by
      rw [fb_ct_succ]
      cases bt x k
      · exact nI_add _ 0
      · exact nI_add _ 1
    rw [e]
    exact ih (k + 1) (by omega) n' (by omega)
theorem bits_eq (x : Int32) : fX12_bits x = some (nI (fb_ct (bt x) 12)) := bits_loop 12 0 (by omega) 100000 (by omega)
theorem bits_n (v : Nat) : fX12_bits (nI v) = some (nI (pc v)) := bits_eq _
theorem lsb_k (l : Int64) {k : Nat} (hk : k < 64) : (lg_cmp ((l.toUInt64 >>> ((nI k).toInt64.toUInt64 &&& Int64.toUInt64 63)).toInt64 &&& (1 : Int64)) (0 : Int64) = 0) = (bL l k = false) := by
  obtain ⟨n, hn, rfl⟩ := wb_of l
  apply propext
  rw [lg_cmp_eq, wb_bit hn hk]
  have e : bL (lN n) k = n.testBit k := by
    unfold bL
    rw [wb_tb, BitVec.getLsbD_ofNat]
    simp [hk]
  rw [e, Nat.testBit_eq_decide_div_mod_eq]
  have h2 : n / 2 ^ k % 2 = 0 ∨ n / 2 ^ k % 2 = 1 := by omega
  rcases h2 with h | h
  · rw [h]; exact ⟨fun _ => by simp, fun _ => rfl⟩
  · rw [h]; exact ⟨fun e => absurd e (by decide), fun e => absurd e (by simp)⟩
/-- the fewest, of as many the least -/
def LB (Q : Nat → Bool) (k : Nat) (v : Int32) : Prop := (v = -nI 1 ∧ ∀ x, x < k → Q x = false) ∨ ∃ m, m < k ∧ v = nI m ∧ Q m = true ∧ ∀ x, x < k → Q x = true → pc m < pc x ∨ (pc m = pc x ∧ m ≤ x)
theorem lst_4 {l0 : Int64} : ∀ d k, k + d = 64 → ∀ n, d < n → ∀ v, LB (bL l0) k v → ∃ v', fX6_leastOf_4 n l0 v (nI k) = some v' ∧ LB (bL l0) 64 v' := by
  intro d
  induction d with
  | zero =>
    intro k hk n hn v hv
    obtain ⟨n', rfl⟩ := suc_of hn
    have : k = 64 := by omega
    subst this
    refine ⟨v, ?_, hv⟩
    rw [fX6_leastOf_4, if_pos (by decide)]
  | succ d ih =>
    intro k hk n hn v hv
    obtain ⟨n', rfl⟩ := suc_of hn
    have c : ¬ (64 : Int32) ≤ nI k := nI_ge (b := 64) (by omega) (by omega)
    have en : nI k + (1 : Int32) = nI (k + 1) := nI_add _ 1
    have ek := lsb_k l0 (k := k) (by omega)
    rw [fX6_leastOf_4, if_neg c]
    unfold fX6_leastOf_25
    cases e : bL l0 k with
    | false =>
      rw [e] at ek
      rw [if_pos (by rw [ek]), if_pos rfl, en]
      refine ih (k + 1) (by omega) n' (by omega) v ?_
      rcases hv with ⟨h1, h2⟩ | ⟨m, m1, m2, m3, m4⟩
      · refine Or.inl ⟨h1, fun x hx => ?_⟩
        by_cases cx : x = k
        · rw [cx]; exact e
        · exact h2 x (by omega)
      · refine Or.inr ⟨m, by omega, m2, m3, fun x hx hq => ?_⟩
        by_cases cx : x = k
        · rw [cx, e] at hq; exact absurd hq (by simp)
        · exact m4 x (by omega) hq
    | true =>
      rw [e] at ek
      rw [if_neg (by rw [ek]; simp), if_neg (by decide)]
      rcases hv with ⟨h1, h2⟩ | ⟨m, m1, m2, m3, m4⟩
      · rw [if_pos (show v = (-1 : Int32) from h1), en]
        refine ih (k + 1) (by omega) n' (by omega) (nI k) (Or.inr ⟨k, by omega, rfl, e, fun x hx hq => ?_⟩)
        by_cases cx : x = k
        · rw [cx]; exact Or.inr ⟨rfl, Nat.le_refl _⟩
        · rw [h2 x (by omega)] at hq; exact absurd hq (by simp)
      · have hpm := pc_le m
        have hpk := pc_le k
        rw [m2, if_neg (show ¬ nI m = (-1 : Int32) by rw [show (-1 : Int32) = -nI 1 from rfl, nm_ne (by omega)]; simp), bc_n (show k < 4096 by omega), Option.bind_some, bc_n (show m < 4096 by omega), Option.bind_some, en]
        by_cases cp : pc m ≤ pc k
        · rw [if_pos (nI_le cp (by omega))]
          refine ih (k + 1) (by omega) n' (by omega) (nI m) (Or.inr ⟨m, by omega, rfl, m3, fun x hx hq => ?_⟩)
          by_cases cx : x = k
          · subst cx
            by_cases ce : pc m = pc x
            · exact Or.inr ⟨ce, by omega⟩
            · exact Or.inl (by omega)
          · exact m4 x (by omega) hq
        · rw [if_neg (nI_ge (by omega) (by omega))]
          refine ih (k + 1) (by omega) n' (by omega) (nI k) (Or.inr ⟨k, by omega, rfl, e, fun x hx hq => ?_⟩)
          by_cases cx : x = k
          · subst cx; exact Or.inr ⟨rfl, Nat.le_refl _⟩
          · rcases m4 x (by omega) hq with h | ⟨h, -⟩
            · exact Or.inl (by omega)
            · exact Or.inl (by omega)
theorem lst_eq (l0 : Int64) : ∃ v, fX6_leastOf l0 = some v ∧ LB (bL l0) 64 v := lst_4 64 0 (by omega) 100000 (by omega) (-1) (Or.inl ⟨rfl, fun x hx => absurd hx (by omega)⟩)
