theorem md_tb (v k i : Nat) : (v % 2 ^ k).testBit i = (decide (i < k) && v.testBit i) := Nat.testBit_mod_two_pow v k i
theorem md_succ (v k : Nat) : v % 2 ^ (k + 1) = if v.testBit k = true then (v % 2 ^ k) ^^^ 2 ^ k else v % 2 ^ k := by
  apply Nat.eq_of_testBit_eq
  intro i
  by_cases c : v.testBit k = true
  · rw [if_pos c, md_tb, fb_bit_flip, md_tb]
    by_cases e : i = k
    · subst e; rw [c]; simp
    · have : decide (i < k + 1) = decide (i < k) := by
        by_cases h : i < k
        · rw [decide_eq_true h, decide_eq_true (by omega)]
        · rw [decide_eq_false h, decide_eq_false (by omega)]
      rw [this]; simp [e]
  · rw [if_neg c, md_tb, md_tb]
    have c' : v.testBit k = false := by simpa using c
    by_cases e : i = k
    · subst e; rw [c']; simp
    · have : decide (i < k + 1) = decide (i < k) := by
        by_cases h : i < k
        · rw [decide_eq_true h, decide_eq_true (by omega)]
        · rw [decide_eq_false h, decide_eq_false (by omega)]
      rw [this]
def hiB (v k : Nat) : Nat := v ^^^ (v % 2 ^ k)
theorem hi_tb (v k i : Nat) : (hiB v k).testBit i = (v.testBit i && !decide (i < k)) := by
  unfold hiB
  rw [Nat.testBit_xor, md_tb]
  cases v.testBit i <;> cases decide (i < k) <;> rfl
theorem hi_succ (v k : Nat) : hiB v (k + 1) = if v.testBit k = true then hiB v k ^^^ 2 ^ k else hiB v k := by
  apply Nat.eq_of_testBit_eq
  intro i
  by_cases c : v.testBit k = true
  · rw [if_pos c, hi_tb, fb_bit_flip, hi_tb]
    by_cases e : i = k
    · subst e; rw [c]; simp
    · have : decide (i < k + 1) = decide (i < k) := by
        by_cases h : i < k
        · rw [decide_eq_true h, decide_eq_true (by omega)]
        · rw [decide_eq_false h, decide_eq_false (by omega)]
      rw [this]; simp [e]
  · rw [if_neg c, hi_tb, hi_tb]
    have c' : v.testBit k = false := by simpa using c
    by_cases e : i = k
    · subst e; rw [c']; simp
    · have : decide (i < k + 1) = decide (i < k) := by
        by_cases h : i < k
        · rw [decide_eq_true h, decide_eq_true (by omega)]
        · rw [decide_eq_false h, decide_eq_false (by omega)]
      rw [this]
abbrev K94 : Type := Int32 → Int32 → Int32 → Int32 → Int32 → Int32 → JI → Option (Int32 × JI)
theorem tb_1 (v : Nat) {k : Nat} (hk : k < 12) : ((nI v >>> (nI k &&& 31)) &&& (1 : Int32) = (1 : Int32)) = (v.testBit k = true) := by
  rw [show ((nI v >>> (nI k &&& 31)) &&& (1 : Int32) = (1 : Int32)) = (bt (nI v) k = true) from bt_test1 (nI v) (by omega), bt_nJ _ (by omega)]
theorem tb_z (v : Nat) {k : Nat} (hk : k < 12) : ((nI v >>> (nI k &&& 31)) &&& (1 : Int32) = (0 : Int32)) = (v.testBit k = false) := by
  rw [show ((nI v >>> (nI k &&& 31)) &&& (1 : Int32) = (0 : Int32)) = (bt (nI v) k = false) from bt_test (nI v) (by omega), bt_nJ _ (by omega)]
theorem FR_68 {M N N' : JI} {h : Nat → Nat → Nat} (hN : FR M h N) (e : ∀ a, a ≠ 68 → N' a = N a) : FR M h N' := by
  obtain ⟨⟨n1, n2, n3⟩, r2, r3⟩ := hN
  exact ⟨⟨fun a k ha => by rw [e a (by omega), n1 a k ha], by rw [e 66 (by omega)]; exact n2, by rw [e 66 (by omega)]; exact n3⟩, by rw [e 66 (by omega)]; exact r2, fun p hp => by rw [e 120 (by omega)]; exact r3 p hp⟩
theorem gf_147 {M : JI} {h : Nat → Nat → Nat} {g v : Nat} (H : FB h g) (hF : ∀ i, v.testBit i = true → FS h g i = true) (hv12 : v < 4096) {k94 : K94} {l2 l3 l4 l5 : Int32} : ∀ d k, k + d = 12 → ∀ n, d < n → ∀ N, FR M h N → twRep (N 68) (hv h g (v % 2 ^ k)) → ∃ N', fX12_goesFar_147 k94 n (nI g) l2 l3 l4 l5 (nI v) (nI k) N = fX12_goesFar_187 k94 (nI g) l2 l3 l4 l5 (nI v) N' ∧ (∀ a, a ≠ 68 → N' a = N a) ∧ (∀ k, 192 ≤ k → N' 68 k = N 68 k) ∧ twRep (N' 68) (hv h g v) := by
  intro d
  induction d with
  | zero =>
    intro k hk n hn N hN h68
    obtain ⟨n', rfl⟩ := suc_of hn
    have : k = 12 := by omega
    subst this
    refine ⟨N, ?_, fun _ _ => rfl, fun _ _ => rfl, ?_⟩
    · rw [fX12_goesFar_147, if_pos (by decide)]
    · rw [Nat.mod_eq_of_lt (by omega)] at h68; exact h68
  | succ d ih =>
    intro k hk n hn N hN h68
    obtain ⟨n', rfl⟩ := suc_of hn
    have c : ¬ (12 : Int32) ≤ nI k := nI_ge (b := 12) (by omega) (by omega)
    have en : nI k + (1 : Int32) = nI (k + 1) := nI_add _ 1
    rw [fX12_goesFar_147, if_neg c, en]
    have hms := md_succ v k
    by_cases cb : v.testBit k = true
    · rw [if_pos (by rw [tb_1 v (by omega)]; exact cb), jg_in (show k < 12 by omega) (by decide), nI_clamp (by omega), hN.2.2 k (by omega)]
      obtain ⟨s1, s2, s3⟩ := sv_yes (hF k cb)
      have hb0 : (v % 2 ^ k).testBit k = false := by rw [md_tb]; simp
      obtain ⟨a1, a2⟩ := hv_sl H (show k < 12 by omega) (hF k cb) hb0
      obtain ⟨N1, b1, b2, b3, b4⟩ := rf_moves h68 (p := k) (f := slF h k) (g := g) (n := 12) (by omega) s2 H.1 s3 (by rw [a1]; omega)
      have b1' : fX12_moves (nI k) (nI (slF h k)) (nI g) (12 : Int32) N = some N1 := b1
      rw [s1, b1', Option.bind_some]
      rw [if_pos cb] at hms
      obtain ⟨N', c1, c2, c3, c4⟩ := ih (k + 1) (by omega) n' (by omega) N1 (FR_68 hN b2) (by rw [hms]; exact twRep_cong b3 (hv_get H (by omega) (hF k cb) hb0))
      exact ⟨N', c1, fun a ha => by rw [c2 a ha, b2 a ha], fun j hj => by rw [c3 j hj, b4 j hj], c4⟩
    · rw [if_neg (by rw [tb_1 v (by omega)]; exact cb)]
      rw [if_neg cb] at hms
      exact ih (k + 1) (by omega) n' (by omega) N hN (by rw [hms]; exact h68)
theorem gf_282 {M : JI} {h : Nat → Nat → Nat} {g v : Nat} (H : FB h g) (hF : ∀ i, v.testBit i = true → FS h g i = true) (hv12 : v < 4096) {k94 : K94} {l2 l3 l4 l5 : Int32} : ∀ d k, k + d = 12 → ∀ n, d < n → ∀ N, FR M h N → twRep (N 68) (hv h g (hiB v k)) → ∃ N', fX12_goesFar_282 k94 n (nI g) l2 l3 l4 l5 (nI v) (nI k) N = k94 (nI g) l2 l3 l4 l5 (nI v + (1 : Int32)) N' ∧ (∀ a, a ≠ 68 → N' a = N a) ∧ (∀ k, 192 ≤ k → N' 68 k = N 68 k) ∧ twRep (N' 68) h := by
  intro d
  induction d with
  | zero =>
    intro k hk n hn N hN h68
    obtain ⟨n', rfl⟩ := suc_of hn
    have : k = 12 := by omega
    subst this
    refine ⟨N, ?_, fun _ _ => rfl, fun _ _ => rfl, ?_⟩
    · rw [fX12_goesFar_282, if_pos (by decide)]; rfl
    · have : hiB v 12 = 0 := by unfold hiB; rw [Nat.mod_eq_of_lt (by omega), Nat.xor_self]
      rw [this, hv_0] at h68; exact h68
  | succ d ih =>
    intro k hk n hn N hN h68
    obtain ⟨n', rfl⟩ := suc_of hn
    have c : ¬ (12 : Int32) ≤ nI k := nI_ge (b := 12) (by omega) (by omega)
    have en : nI k + (1 : Int32) = nI (k + 1) := nI_add _ 1
    rw [fX12_goesFar_282, if_neg c, en]
    have hms := hi_succ v k
    by_cases cb : v.testBit k = true
    · rw [if_pos (by rw [tb_1 v (by omega)]; exact cb), jg_in (show k < 12 by omega) (by decide), nI_clamp (by omega), hN.2.2 k (by omega)]
      obtain ⟨s1, s2, s3⟩ := sv_yes (hF k cb)
      have hb1 : (hiB v k).testBit k = true := by rw [hi_tb, cb]; simp
      obtain ⟨a1, a2, a3⟩ := hv_back H (show k < 12 by omega) (hF k cb) hb1
      obtain ⟨N1, b1, b2, b3, b4⟩ := rf_moves h68 (p := k) (f := g) (g := slF h k) (n := 12) (by omega) H.1 s2 (fun e => s3 e.symm) (by rw [a1]; omega)
      have b1' : fX12_moves (nI k) (nI g) (nI (slF h k)) (12 : Int32) N = some N1 := b1
      rw [s1, b1', Option.bind_some]
      rw [if_pos cb] at hms
      obtain ⟨N', c1, c2, c3, c4⟩ := ih (k + 1) (by omega) n' (by omega) N1 (FR_68 hN b2) (by rw [hms]; exact twRep_cong b3 a3)
      exact ⟨N', c1, fun a ha => by rw [c2 a ha, b2 a ha], fun j hj => by rw [c3 j hj, b4 j hj], c4⟩
    · rw [if_neg (by rw [tb_1 v (by omega)]; exact cb)]
      rw [if_neg cb] at hms
      exact ih (k + 1) (by omega) n' (by omega) N hN (by rw [hms]; exact h68)
def gSm (N N' : JI) : Prop := (∀ a, (a < 86 ∨ 95 < a) → a ≠ 66 → a ≠ 119 → N' a = N a) ∧ ∀ k, (k < 46 ∨ 51 < k ∨ k = 50) → N' 66 k = N 66 k
theorem gSm_rfl (N : JI) : gSm N N := ⟨fun _ _ _ _ => rfl, fun _ _ => rfl⟩
theorem gSm_tr {A B C : JI} (h : gSm A B) (h' : gSm B C) : gSm A C := ⟨fun a h1 h2 h3 => (h'.1 a h1 h2 h3).trans (h.1 a h1 h2 h3), fun k hk => (h'.2 k hk).trans (h.2 k hk)⟩
theorem gSm_u {N N' : JI} (h : uSm N N') : gSm N N' := ⟨fun a h1 h2 _ => h.1 a h1 h2, h.2⟩
theorem FR_g {M N N' : JI} {h : Nat → Nat → Nat} (hN : FR M h N) (hu : gSm N N') : FR M h N' := by
  obtain ⟨⟨n1, n2, n3⟩, r2, r3⟩ := hN
  exact ⟨⟨fun a k ha => by rw [hu.1 a (by omega) (by omega) (by omega)]; exact n1 a k ha, by rw [hu.2 18 (by omega)]; exact n2, by rw [hu.2 8 (by omega)]; exact n3⟩, by rw [hu.2 50 (by omega)]; exact r2, fun p hp => by rw [hu.1 120 (by omega) (by omega) (by omega)]; exact r3 p hp⟩
theorem gf_190 {M : JI} {L : JL} {S : JS} {X ln : Nat} {E : Nat → (Nat → Int32) → Int32} (W : WB M L S X ln E) {h : Nat → Nat → Nat} {g s ec : Nat} (H : FB h g) (hs : s < 4096) {who Wc : Int32} (hw : ∀ q, q < 16 → bt who q = bt Wc q) {k94 : K94} {l2 l5 : Int32} : ∀ d k, k + d = 12 → ∀ n, d < n → ∀ N (T : Nat → Bool), FR M h N → twRep (N 68) (hv h g s) → (∀ t, t < 4096 → N 119 t = bI (T t)) → ∃ (N' : JI) (T' : Nat → Bool), fX12_goesFar_190 k94 n (nI g) l2 (nI ec) who l5 (nI s) (nI k) N = fX12_goesFar_279 k94 (nI g) l2 (nI ec) who l5 (nI s) N' ∧ gSm N N' ∧ (∀ t, t < 4096 → N' 119 t = bI (T' t)) ∧ ∀ t, t < 4096 → (T' t = true ↔ T t = true ∨ ∃ p, k ≤ p ∧ p < 12 ∧ s.testBit p = false ∧ FS h g p = true ∧ GT M ln E h g ec Wc s p = true ∧ t = s ^^^ 2 ^ p) := by
  intro d
  induction d with
  | zero =>
    intro k hk n hn N T hN h68 hT
    obtain ⟨n', rfl⟩ := suc_of hn
    have : k = 12 := by omega
    subst this
    refine ⟨N, T, ?_, gSm_rfl N, hT, fun t ht => ⟨Or.inl, fun e => ?_⟩⟩
    · rw [fX12_goesFar_190, if_pos (by decide)]
    · rcases e with e | ⟨p, p1, p2, -⟩
      · exact e
      · omega
  | succ d ih =>
    intro k hk n hn N T hN h68 hT
    obtain ⟨n', rfl⟩ := suc_of hn
    have c : ¬ (12 : Int32) ≤ nI k := nI_ge (b := 12) (by omega) (by omega)
    have en : nI k + (1 : Int32) = nI (k + 1) := nI_add _ 1
    have g12 : ∀ {α : Type} (z : Option α), j_g (j_in (nI k) 12) z = z := fun z => jg_in (by omega) (by decide)
    have skip : ∀ (hno : ¬ (s.testBit k = false ∧ FS h g k = true ∧ GT M ln E h g ec Wc s k = true)) (N1 : JI), gSm N N1 → (∀ t, t < 4096 → N1 119 t = bI (T t)) → ∃ (N' : JI) (T' : Nat → Bool), fX12_goesFar_190 k94 n' (nI g) l2 (nI ec) who l5 (nI s) (nI (k + 1)) N1 = fX12_goesFar_279 k94 (nI g) l2 (nI ec) who l5 (nI s) N' ∧ gSm N N' ∧ (∀ t, t < 4096 → N' 119 t = bI (T' t)) ∧ ∀ t, t < 4096 → (T' t = true ↔ T t = true ∨ ∃ p, k ≤ p ∧ p < 12 ∧ s.testBit p = false ∧ FS h g p = true ∧ GT M ln E h g ec Wc s p = true ∧ t = s ^^^ 2 ^ p) := by
      intro hno N1 hg hT1
      obtain ⟨N', T', a1, a2, a3, a4⟩ := ih (k + 1) (by omega) n' (by omega) N1 T (FR_g hN hg) (by rw [hg.1 68 (by omega) (by omega) (by omega)]; exact h68) hT1
      refine ⟨N', T', a1, gSm_tr hg a2, a3, fun t ht => ?_⟩
      rw [a4 t ht]
      constructor
      · rintro (e | ⟨p, p1, p2⟩)
        · exact Or.inl e
        · exact Or.inr ⟨p, by omega, p2⟩
      · rintro (e | ⟨p, p1, p2, p3, p4, p5, p6⟩)
        · exact Or.inl e
        · by_cases cp : p = k
          · rw [cp] at p3 p4 p5; exact absurd ⟨p3, p4, p5⟩ hno
          · exact Or.inr ⟨p, by omega, p2, p3, p4, p5, p6⟩
    rw [fX12_goesFar_190, if_neg c, en]
    by_cases cb : s.testBit k = true
    · rw [if_pos (by rw [tb_1 s (by omega)]; exact cb)]
      exact skip (fun e => by rw [cb] at e; exact absurd e.1 (by simp)) N (gSm_rfl N) hT
    · have cb' : s.testBit k = false := by simpa using cb
      rw [if_neg (by rw [tb_1 s (by omega)]; exact cb), g12, g12, nI_clamp (by omega), hN.2.2 k (by omega)]
      by_cases c1 : slF h k < 16
      · have e1 : slV h k = nI (slF h k) := if_pos c1
        rw [e1, if_neg (nI_pos (by omega))]
        by_cases c2 : slF h k = g
        · rw [if_pos (by rw [c2])]
          exact skip (fun e => by
            have := e.2.1
            unfold FS at this
            rw [decide_eq_true c2] at this
            simp at this) N (gSm_rfl N) hT
        · have hFk : FS h g k = true := by unfold FS; rw [decide_eq_true c1, decide_eq_false c2]; rfl
          have hlt := xor_lt (p := k) hs (by omega)
          rw [if_neg (fun e => c2 ((nI_eq (by omega) (by have := H.1; omega)).mp e)), or_n (by omega), or_x cb', jg_in hlt (by decide), nI_clamp (by omega), hT _ hlt, bI_b01]
          cases eT : T (s ^^^ 2 ^ k) with
          | true =>
            rw [if_neg (show ¬ bI true = 0 by decide)]
            obtain ⟨N', T', a1, a2, a3, a4⟩ := ih (k + 1) (by omega) n' (by omega) N T hN h68 hT
            refine ⟨N', T', a1, a2, a3, fun t ht => ?_⟩
            rw [a4 t ht]
            constructor
            · rintro (e | ⟨p, p1, p2⟩)
              · exact Or.inl e
              · exact Or.inr ⟨p, by omega, p2⟩
            · rintro (e | ⟨p, p1, p2, p3, p4, p5, p6⟩)
              · exact Or.inl e
              · by_cases cp : p = k
                · rw [p6, cp]; exact Or.inl eT
                · exact Or.inr ⟨p, by omega, p2, p3, p4, p5, p6⟩
          | false =>
            rw [if_pos (show bI false = 0 by decide)]
            obtain ⟨N1, b1, b2⟩ := got_3 (ec := ec) (v := s) W H (show k < 12 by omega) hFk hw 3 0 (by omega) 100000 (by omega) N hN h68 (fun j hj => absurd hj (by omega))
            have b1' : fX12_isGot (nI k) (nI g) (nI ec) who N = some (bI (GT M ln E h g ec Wc s k), N1) := b1
            have hT1 : ∀ t, t < 4096 → N1 119 t = bI (T t) := fun t ht => by rw [b2.1 119 (by omega) (by omega)]; exact hT t ht
            rw [b1', Option.bind_some]
            cases eG : GT M ln E h g ec Wc s k with
            | false =>
              rw [if_pos (show bI false = 0 by decide)]
              exact skip (fun e => by rw [eG] at e; exact absurd e.2.2 (by simp)) N1 (gSm_u b2) hT1
            | true =>
              rw [if_neg (show ¬ bI true = 0 by decide), jg_in hlt (by decide)]
              have hg2 : gSm N1 (j_up N1 119 (s ^^^ 2 ^ k) (1 : Int32)) := ⟨fun a h1 h2 h3 => ju_row _ _ h3, fun j hj => by rw [ju_row _ _ (by omega)]⟩
              obtain ⟨N', T', a1, a2, a3, a4⟩ := ih (k + 1) (by omega) n' (by omega) (j_up N1 119 (s ^^^ 2 ^ k) (1 : Int32)) (fun t => if t = s ^^^ 2 ^ k then true else T t) (FR_g hN (gSm_tr (gSm_u b2) hg2)) (by rw [ju_row _ _ (by omega), b2.1 68 (by omega) (by omega)]; exact h68) (fun t ht => by
                rw [ju_at]
                show (if t = s ^^^ 2 ^ k then (1 : Int32) else N1 119 t) = bI (if t = s ^^^ 2 ^ k then true else T t)
                by_cases ct : t = s ^^^ 2 ^ k
                · rw [if_pos ct, if_pos ct]; rfl
                · rw [if_neg ct, if_neg ct]; exact hT1 t ht)
              refine ⟨N', T', a1, gSm_tr (gSm_u b2) (gSm_tr hg2 a2), a3, fun t ht => ?_⟩
              rw [a4 t ht]
              constructor
              · rintro (e | ⟨p, p1, p2⟩)
                · by_cases ct : t = s ^^^ 2 ^ k
                  · exact Or.inr ⟨k, Nat.le_refl _, by omega, cb', hFk, eG, ct⟩
                  · rw [if_neg ct] at e; exact Or.inl e
                · exact Or.inr ⟨p, by omega, p2⟩
              · rintro (e | ⟨p, p1, p2, p3, p4, p5, p6⟩)
                · left
                  split
                  · rfl
                  · exact e
                · by_cases cp : p = k
                  · left
                    rw [if_pos (by rw [p6, cp])]
                  · exact Or.inr ⟨p, by omega, p2, p3, p4, p5, p6⟩
      · have e1 : slV h k = -nI 1 := if_neg c1
        rw [e1, if_pos (by decide)]
        exact skip (fun e => by
          have := e.2.1
          unfold FS at this
          rw [decide_eq_false c1] at this
          simp at this) N (gSm_rfl N) hT
