/-- the table as it stands when all sets below s are done -/
def TS (G : Nat → Nat → Bool) (F : Nat → Bool) (yrs s t : Nat) : Prop := t = 0 ∨ ∃ p, p < 12 ∧ t ^^^ 2 ^ p < s ∧ CAp G F yrs (CA G F yrs) t p = true
def BS (G : Nat → Nat → Bool) (F : Nat → Bool) (yrs s bs : Nat) : Prop := bs < 4096 ∧ bs ≤ s ∧ CA G F yrs bs = true ∧ ∀ t, t < s → t < 4096 → CA G F yrs t = true → pc t < pc bs ∨ (pc t = pc bs ∧ bs ≤ t)
theorem TS_self {G : Nat → Nat → Bool} {F : Nat → Bool} {yrs s : Nat} (hs : s < 4096) : TS G F yrs s s ↔ CA G F yrs s = true := by
  by_cases c : s = 0
  · subst c
    exact ⟨fun _ => CA_0, fun _ => Or.inl rfl⟩
  · rw [CA_eq hs c]
    constructor
    · rintro (e | ⟨p, p1, -, p3⟩)
      · exact absurd e c
      · exact ⟨p, p1, p3⟩
    · rintro ⟨p, p1, p3⟩
      refine Or.inr ⟨p, p1, ?_, p3⟩
      have hb : s.testBit p = true := by
        unfold CAp at p3
        simp only [Bool.and_eq_true] at p3
        exact p3.1
      have := xor_v (p := p) hs p1
      rw [if_pos hb] at this
      have : 0 < 2 ^ p := Nat.two_pow_pos p
      omega
theorem TS_no {G : Nat → Nat → Bool} {F : Nat → Bool} {yrs s t : Nat} (h : ¬ (CA G F yrs s = true ∧ pc s ≠ yrs)) : TS G F yrs (s + 1) t ↔ TS G F yrs s t := by
  constructor
  · rintro (e | ⟨p, p1, p2, p3⟩)
    · exact Or.inl e
    · refine Or.inr ⟨p, p1, ?_, p3⟩
      by_cases c : t ^^^ 2 ^ p = s
      · unfold CAp at p3
        simp only [Bool.and_eq_true, Bool.not_eq_true', decide_eq_false_iff_not] at p3
        rw [c] at p3
        exact absurd ⟨p3.2.2.1, p3.2.2.2.1⟩ h
      · omega
  · rintro (e | ⟨p, p1, p2, p3⟩)
    · exact Or.inl e
    · exact Or.inr ⟨p, p1, by omega, p3⟩
theorem TS_yes {G : Nat → Nat → Bool} {F : Nat → Bool} {yrs s t : Nat} (h : CA G F yrs s = true ∧ pc s ≠ yrs) : TS G F yrs (s + 1) t ↔ (TS G F yrs s t ∨ ∃ p, 0 ≤ p ∧ p < 12 ∧ s.testBit p = false ∧ F p = true ∧ G s p = true ∧ t = s ^^^ 2 ^ p) := by
  constructor
  · rintro (e | ⟨p, p1, p2, p3⟩)
    · exact Or.inl (Or.inl e)
    · by_cases c : t ^^^ 2 ^ p = s
      · unfold CAp at p3
        simp only [Bool.and_eq_true, Bool.not_eq_true', decide_eq_false_iff_not] at p3
        rw [c] at p3
        have ht : t = s ^^^ 2 ^ p := by rw [← c, xor_xor]
        refine Or.inr ⟨p, Nat.zero_le _, p1, ?_, p3.2.1, p3.2.2.2.2, ht⟩
        have := p3.1
        rw [ht, fb_bit_flip] at this
        simpa using this
      · exact Or.inl (Or.inr ⟨p, p1, by omega, p3⟩)
  · rintro ((e | ⟨p, p1, p2, p3⟩) | ⟨p, -, p1, p2, p3, p4, p5⟩)
    · exact Or.inl e
    · exact Or.inr ⟨p, p1, by omega, p3⟩
    · have hx : t ^^^ 2 ^ p = s := by rw [p5, xor_xor]
      refine Or.inr ⟨p, p1, by omega, ?_⟩
      unfold CAp
      rw [hx, p3, h.1, decide_eq_false h.2, p4, p5, fb_bit_flip, p2]
      simp
theorem BS_no {G : Nat → Nat → Bool} {F : Nat → Bool} {yrs s bs : Nat} (h : BS G F yrs s bs) (hn : CA G F yrs s = true → pc s ≤ pc bs) : BS G F yrs (s + 1) bs := by
  obtain ⟨h1, h2, h3, h4⟩ := h
  refine ⟨h1, by omega, h3, fun t t1 t2 t3 => ?_⟩
  by_cases c : t = s
  · subst c
    have := hn t3
    by_cases e : pc t = pc bs
    · exact Or.inr ⟨e, h2⟩
    · exact Or.inl (by omega)
  · exact h4 t (by omega) t2 t3
theorem BS_yes {G : Nat → Nat → Bool} {F : Nat → Bool} {yrs s bs : Nat} (h : BS G F yrs s bs) (hs : s < 4096) (hc : CA G F yrs s = true) (hn : ¬ pc s ≤ pc bs) : BS G F yrs (s + 1) s := by
  obtain ⟨h1, h2, h3, h4⟩ := h
  refine ⟨hs, by omega, hc, fun t t1 t2 t3 => ?_⟩
  by_cases c : t = s
  · subst c; exact Or.inr ⟨rfl, Nat.le_refl _⟩
  · rcases h4 t (by omega) t2 t3 with e | ⟨e, -⟩
    · exact Or.inl (by omega)
    · exact Or.inl (by omega)
theorem BS_uni {G : Nat → Nat → Bool} {F : Nat → Bool} {yrs b b' : Nat} (h : BS G F yrs 4096 b) (h' : BS G F yrs 4096 b') : b = b' := by
  have q1 := h.2.2.2 b' h'.1 h'.1 h'.2.2.1
  have q2 := h'.2.2.2 b h.1 h.1 h.2.2.1
  omega
def hSm (N N' : JI) : Prop := (∀ a, (a < 86 ∨ 95 < a) → a ≠ 66 → a ≠ 119 → a ≠ 68 → N' a = N a) ∧ (∀ k, (k < 46 ∨ 51 < k ∨ k = 50) → N' 66 k = N 66 k) ∧ ∀ k, 192 ≤ k → N' 68 k = N 68 k
theorem hSm_rfl (N : JI) : hSm N N := ⟨fun _ _ _ _ _ => rfl, fun _ _ => rfl, fun _ _ => rfl⟩
theorem hSm_tr {A B C : JI} (h : hSm A B) (h' : hSm B C) : hSm A C := ⟨fun a h1 h2 h3 h4 => (h'.1 a h1 h2 h3 h4).trans (h.1 a h1 h2 h3 h4), fun k hk => (h'.2.1 k hk).trans (h.2.1 k hk), fun k hk => (h'.2.2 k hk).trans (h.2.2 k hk)⟩
theorem hSm_g {N N' : JI} (h : gSm N N') : hSm N N' := ⟨fun a h1 h2 h3 h4 => h.1 a h1 h2 h3, h.2, fun k _ => by rw [h.1 68 (by omega) (by omega) (by omega)]⟩
theorem hSm_68 {N N' : JI} (h : ∀ a, a ≠ 68 → N' a = N a) (h2 : ∀ k, 192 ≤ k → N' 68 k = N 68 k) : hSm N N' := ⟨fun a _ _ _ h4 => h a h4, fun k _ => by rw [h 66 (by omega)], h2⟩
theorem gf_94 {M : JI} {L : JL} {S : JS} {X ln : Nat} {E : Nat → (Nat → Int32) → Int32} (W : WB M L S X ln E) {h : Nat → Nat → Nat} {g ec yrs : Nat} (H : FB h g) (hy : yrs ≤ 9) {who Wc : Int32} (hw : ∀ q, q < 16 → bt who q = bt Wc q) : ∀ d s, s + d = 4096 → ∀ n, d < n → ∀ N (T : Nat → Bool) bs, FR M h N → twRep (N 68) h → (∀ t, t < 4096 → N 119 t = bI (T t)) → (∀ t, t < 4096 → (T t = true ↔ TS (GT M ln E h g ec Wc) (FS h g) yrs s t)) → BS (GT M ln E h g ec Wc) (FS h g) yrs s bs → ∃ bs' N', fX12_goesFar_94 n (nI g) (nI yrs) (nI ec) who (nI bs) (nI s) N = some (nI bs', N') ∧ BS (GT M ln E h g ec Wc) (FS h g) yrs 4096 bs' ∧ hSm N N' ∧ twRep (N' 68) h := by
  intro d
  induction d with
  | zero =>
    intro s hs n hn N T bs hN h68 hT hTS hBS
    obtain ⟨n', rfl⟩ := suc_of hn
    have : s = 4096 := by omega
    subst this
    refine ⟨bs, N, ?_, hBS, hSm_rfl N, h68⟩
    rw [fX12_goesFar_94, if_pos (by decide)]
  | succ d ih =>
    intro s hs n hn N T bs hN h68 hT hTS hBS
    obtain ⟨n', rfl⟩ := suc_of hn
    have hs4 : s < 4096 := by omega
    have c : ¬ (4096 : Int32) ≤ nI s := nI_ge (b := 4096) hs4 (by omega)
    have en : nI s + (1 : Int32) = nI (s + 1) := nI_add _ 1
    have hbs := hBS.1
    have hps := pc_le s
    have hpb := pc_le bs
    rw [fX12_goesFar_94, if_neg c, jg_in hs4 (by decide), nI_clamp (by omega), hT s hs4, bI_b01]
    cases eT : T s with
    | false =>
      rw [if_pos (show bI false = 0 by decide)]
      unfold fX12_goesFar_322
      rw [en]
      have hnc : ¬ CA (GT M ln E h g ec Wc) (FS h g) yrs s = true := fun e => by
        rw [(hTS s hs4).mpr ((TS_self hs4).mpr e)] at eT
        exact absurd eT (by simp)
      exact ih (s + 1) (by omega) n' (by omega) N T bs hN h68 hT (fun t ht => by rw [hTS t ht, TS_no (fun e => hnc e.1)]) (BS_no hBS (fun e => absurd e hnc))
    | true =>
      have hc : CA (GT M ln E h g ec Wc) (FS h g) yrs s = true := (TS_self hs4).mp ((hTS s hs4).mp eT)
      obtain ⟨-, hF⟩ := CA_pc 4096 s hs4 hs4 hc
      have proc : ∀ bb, BS (GT M ln E h g ec Wc) (FS h g) yrs (s + 1) bb → ∃ bs' N', (if nI (pc s) = nI yrs then fX12_goesFar_322 (fX12_goesFar_94 n') (nI g) (nI yrs) (nI ec) who (nI bb) (nI s) N else fX12_goesFar_147 (fX12_goesFar_94 n') 100000 (nI g) (nI yrs) (nI ec) who (nI bb) (nI s) (0 : Int32) N) = some (nI bs', N') ∧ BS (GT M ln E h g ec Wc) (FS h g) yrs 4096 bs' ∧ hSm N N' ∧ twRep (N' 68) h := by
        intro bb hbb
        by_cases cy : pc s = yrs
        · rw [if_pos (by rw [cy])]
          unfold fX12_goesFar_322
          rw [en]
          exact ih (s + 1) (by omega) n' (by omega) N T bb hN h68 hT (fun t ht => by rw [hTS t ht, TS_no (fun e => e.2 cy)]) hbb
        · rw [if_neg (fun e => cy ((nI_eq (by omega) (by omega)).mp e))]
          obtain ⟨N1, a1, a2, a3, a4⟩ := gf_147 (M := M) (k94 := fX12_goesFar_94 n') (l2 := nI yrs) (l3 := nI ec) (l4 := who) (l5 := nI bb) H hF hs4 12 0 (by omega) 100000 (by omega) N hN (by rw [show s % 2 ^ 0 = 0 by omega, hv_0]; exact h68)
          have a1' : fX12_goesFar_147 (fX12_goesFar_94 n') 100000 (nI g) (nI yrs) (nI ec) who (nI bb) (nI s) (0 : Int32) N = fX12_goesFar_187 (fX12_goesFar_94 n') (nI g) (nI yrs) (nI ec) who (nI bb) (nI s) N1 := a1
          rw [a1']
          obtain ⟨N2, T2, b1, b2, b3, b4⟩ := gf_190 (ec := ec) (k94 := fX12_goesFar_94 n') (l2 := nI yrs) (l5 := nI bb) W H hs4 hw 12 0 (by omega) 100000 (by omega) N1 T (FR_68 hN a2) a4 (fun t ht => by rw [a2 119 (by omega)]; exact hT t ht)
          have b1' : fX12_goesFar_187 (fX12_goesFar_94 n') (nI g) (nI yrs) (nI ec) who (nI bb) (nI s) N1 = fX12_goesFar_279 (fX12_goesFar_94 n') (nI g) (nI yrs) (nI ec) who (nI bb) (nI s) N2 := b1
          rw [b1']
          have hN2 : FR M h N2 := FR_g (FR_68 hN a2) b2
          obtain ⟨N3, c1, c2, c3, c4⟩ := gf_282 (M := M) (k94 := fX12_goesFar_94 n') (l2 := nI yrs) (l3 := nI ec) (l4 := who) (l5 := nI bb) H hF hs4 12 0 (by omega) 100000 (by omega) N2 hN2 (by
            have : hiB s 0 = s := by unfold hiB; rw [show s % 2 ^ 0 = 0 by omega, Nat.xor_zero]
            rw [this, b2.1 68 (by omega) (by omega) (by omega)]; exact a4)
          have c1' : fX12_goesFar_279 (fX12_goesFar_94 n') (nI g) (nI yrs) (nI ec) who (nI bb) (nI s) N2 = fX12_goesFar_94 n' (nI g) (nI yrs) (nI ec) who (nI bb) (nI s + (1 : Int32)) N3 := c1
          rw [c1', en]
          obtain ⟨bs', N', e1, e2, e3, e4⟩ := ih (s + 1) (by omega) n' (by omega) N3 T2 bb (FR_68 hN2 c2) c4 (fun t ht => by rw [c2 119 (by omega)]; exact b3 t ht) (fun t ht => by rw [b4 t ht, hTS t ht, TS_yes ⟨hc, cy⟩]) hbb
          exact ⟨bs', N', e1, e2, hSm_tr (hSm_68 a2 a3) (hSm_tr (hSm_g b2) (hSm_tr (hSm_68 c2 c3) e3)), e4⟩
      rw [if_neg (show ¬ bI true = 0 by decide), bits_n, Option.bind_some, bits_n, Option.bind_some]
      by_cases cp : pc s ≤ pc bs
      · rw [if_pos (nI_le cp (by omega)), Option.bind_some]
        exact proc bs (BS_no hBS (fun _ => cp))
      · rw [if_neg (nI_ge (by omega) (by omega)), Option.bind_some]
        exact proc s (BS_yes hBS hs4 hc cp)
theorem gf_57 {l1 l2 l3 l4 : Int32} : ∀ d k, k + d = 4096 → ∀ n, d < n → ∀ N : JI, (∀ t, t < k → N 119 t = bI (decide (t = 0))) → ∃ N', fX12_goesFar_57 n l1 l2 l3 l4 (nI k) N = fX12_goesFar_88 l1 l2 l3 l4 N' ∧ (∀ a, a ≠ 119 → N' a = N a) ∧ ∀ t, t < 4096 → N' 119 t = bI (decide (t = 0)) := by
  intro d
  induction d with
  | zero =>
    intro k hk n hn N hN
    obtain ⟨n', rfl⟩ := suc_of hn
    have : k = 4096 := by omega
    subst this
    refine ⟨N, ?_, fun _ _ => rfl, hN⟩
    rw [fX12_goesFar_57, if_pos (by decide)]
  | succ d ih =>
    intro k hk n hn N hN
    obtain ⟨n', rfl⟩ := suc_of hn
    have c : ¬ (4096 : Int32) ≤ nI k := nI_ge (b := 4096) (by omega) (by omega)
    have en : nI k + (1 : Int32) = nI (k + 1) := nI_add _ 1
    have go : ∀ v : Int32, v = bI (decide (k = 0)) → ∃ N', fX12_goesFar_57 n' l1 l2 l3 l4 (nI (k + 1)) (j_up N 119 k v) = fX12_goesFar_88 l1 l2 l3 l4 N' ∧ (∀ a, a ≠ 119 → N' a = N a) ∧ ∀ t, t < 4096 → N' 119 t = bI (decide (t = 0)) := by
      intro v hv
      obtain ⟨N', a1, a2, a3⟩ := ih (k + 1) (by omega) n' (by omega) (j_up N 119 k v) (fun t ht => by
        rw [ju_at]
        show (if t = k then v else N 119 t) = _
        by_cases ct : t = k
        · rw [if_pos ct, hv, ct]
        · rw [if_neg ct]; exact hN t (by omega))
      exact ⟨N', a1, fun a ha => by rw [a2 a ha, ju_row _ _ ha], a3⟩
    rw [fX12_goesFar_57, if_neg c, en]
    by_cases ck : k = 0
    · rw [if_pos (by rw [ck]; rfl), jg_in (show k < 4096 by omega) (by decide), nI_clamp (by omega)]
      exact go _ (by rw [decide_eq_true ck]; rfl)
    · rw [if_neg (nI_ne0 (by omega) (by omega)), jg_in (show k < 4096 by omega) (by decide), nI_clamp (by omega)]
      exact go _ (by rw [decide_eq_false ck]; rfl)
theorem hol_2 {h : Nat → Nat → Nat} {N : JI} (e68 : twRep (N 68) h) (hb : ∀ p q, p < 12 → q < 16 → h p q ≤ 12) {p : Nat} (hp : p < 12) : ∀ d k, k + d = 16 → ∀ n, d < n → (∀ j, j < k → decide (h p j = 12) = false) → fX12_holderOf_2 n (nI p) (nI k) N = some (slV h p) := by
  intro d
  induction d with
  | zero =>
    intro k hk n hn hno
    obtain ⟨n', rfl⟩ := suc_of hn
    have : k = 16 := by omega
    subst this
    have : slF h p = 16 := ff_none hno
    rw [fX12_holderOf_2, if_pos (by decide)]
    unfold slV
    rw [this, if_neg (by omega)]; rfl
  | succ d ih =>
    intro k hk n hn hno
    obtain ⟨n', rfl⟩ := suc_of hn
    have c : ¬ (16 : Int32) ≤ nI k := nI_ge (b := 16) (by omega) (by omega)
    have hle := hb p k hp (by omega)
    rw [fX12_holderOf_2, if_neg c, at16, jg_in (by omega) (by decide), nI_clamp (by omega), e68 p k hp (by omega), show nI k + (1 : Int32) = nI (k + 1) from nI_add _ 1]
    by_cases e : h p k = 12
    · rw [if_pos (by rw [e]; rfl)]
      have : slF h p = k := ff_is hno (by rw [decide_eq_true e]) (by omega)
      unfold slV
      rw [this, if_pos (by omega)]
    · have e' : ¬ nI (h p k) = (12 : Int32) := fun x => e ((nI_eq (b := 12) (by omega) (by omega)).mp x)
      rw [if_neg e']
      exact ih (k + 1) (by omega) n' (by omega) (ext_false hno (decide_eq_false e))
theorem gf_14 {h : Nat → Nat → Nat} (hb : ∀ p q, p < 12 → q < 16 → h p q ≤ 12) {t : Int32} {r67 : Nat → Int32} (h1 : vTold t r67) (hz : ∀ p, p < 12 → bt t p = false → slF h p = 16) {l1 l2 l3 l4 : Int32} : ∀ d k, k + d = 12 → ∀ n, d < n → ∀ N : JI, N 67 = r67 → twRep (N 68) h → (∀ p, p < k → N 120 p = slV h p) → ∃ N', fX12_goesFar_14 n l1 l2 l3 l4 (nI k) N = fX12_goesFar_54 l1 l2 l3 l4 N' ∧ (∀ a, a ≠ 120 → N' a = N a) ∧ ∀ p, p < 12 → N' 120 p = slV h p := by
  intro d
  induction d with
  | zero =>
    intro k hk n hn N h67 h68 hN
    obtain ⟨n', rfl⟩ := suc_of hn
    have : k = 12 := by omega
    subst this
    refine ⟨N, ?_, fun _ _ => rfl, hN⟩
    rw [fX12_goesFar_14, if_pos (by decide)]
  | succ d ih =>
    intro k hk n hn N h67 h68 hN
    obtain ⟨n', rfl⟩ := suc_of hn
    have c : ¬ (12 : Int32) ≤ nI k := nI_ge (b := 12) (by omega) (by omega)
    have en : nI k + (1 : Int32) = nI (k + 1) := nI_add _ 1
    have g12 : ∀ {α : Type} (z : Option α), j_g (j_in (nI k) 12) z = z := fun z => jg_in (by omega) (by decide)
    have go : ∀ v : Int32, v = slV h k → ∃ N', fX12_goesFar_14 n' l1 l2 l3 l4 (nI (k + 1)) (j_up N 120 k v) = fX12_goesFar_54 l1 l2 l3 l4 N' ∧ (∀ a, a ≠ 120 → N' a = N a) ∧ ∀ p, p < 12 → N' 120 p = slV h p := by
      intro v hv
      obtain ⟨N', a1, a2, a3⟩ := ih (k + 1) (by omega) n' (by omega) (j_up N 120 k v) (by rw [ju_row _ _ (by omega)]; exact h67) (by rw [ju_row _ _ (by omega)]; exact h68) (fun p hp => by
        rw [ju_at]
        show (if p = k then v else N 120 p) = _
        by_cases ct : p = k
        · rw [if_pos ct, hv, ct]
        · rw [if_neg ct]; exact hN p (by omega))
      exact ⟨N', a1, fun a ha => by rw [a2 a ha, ju_row _ _ ha], a3⟩
    rw [fX12_goesFar_14, if_neg c, g12, nI_clamp (by omega), h67, h1.1 k (by omega), bI_b01, en]
    cases e : bt t k with
    | false =>
      rw [if_pos (show bI false = 0 by decide), g12]
      refine go _ ?_
      unfold slV
      rw [hz k (by omega) e, if_neg (by omega)]; rfl
    | true =>
      rw [if_neg (show ¬ bI true = 0 by decide)]
      have : fX12_holderOf (nI k) N = some (slV h k) := hol_2 h68 hb (by omega) 16 0 (by omega) 100000 (by omega) (fun j hj => absurd hj (by omega))
      rw [this, Option.bind_some, g12]
      exact go _ rfl
theorem who_4 {N : JI} {Wc : Int32} (hb : ∀ q, q < 16 → N 73 q = bI (bt Wc q)) : ∀ d k, k + d = 16 → ∀ n, d < n → ∀ x, (∀ i, bt x i = (decide (i < k) && bt Wc i)) → ∃ y, fX12_whoCares_4 n x (nI k) N = some y ∧ ∀ q, q < 16 → bt y q = bt Wc q := by
  intro d
  induction d with
  | zero =>
    intro k hk n hn x hx
    obtain ⟨n', rfl⟩ := suc_of hn
    have : k = 16 := by omega
    subst this
    refine ⟨x, ?_, fun q hq => by rw [hx q, decide_eq_true hq]; rfl⟩
    rw [fX12_whoCares_4, if_pos (by decide)]
  | succ d ih =>
    intro k hk n hn x hx
    obtain ⟨n', rfl⟩ := suc_of hn
    have c : ¬ (16 : Int32) ≤ nI k := nI_ge (b := 16) (by omega) (by omega)
    rw [fX12_whoCares_4, if_neg c, jg_in (show k < 16 by omega) (by decide), nI_clamp (by omega), hb k (by omega), bI_b01, show nI k + (1 : Int32) = nI (k + 1) from nI_add _ 1]
    cases e : bt Wc k with
    | false =>
      rw [if_pos (show bI false = 0 by decide)]
      refine ih (k + 1) (by omega) n' (by omega) _ (fun i => ?_)
      rw [b_or, hx i, show bt (0 : Int32) i = false from bt_zero i]
      by_cases ci : i = k
      · subst ci; rw [e]; simp
      · have : decide (i < k + 1) = decide (i < k) := by
          by_cases h : i < k
          · rw [decide_eq_true h, decide_eq_true (by omega)]
          · rw [decide_eq_false h, decide_eq_false (by omega)]
        rw [this]; simp
    | true =>
      rw [if_neg (show ¬ bI true = 0 by decide)]
      refine ih (k + 1) (by omega) n' (by omega) _ (fun i => ?_)
      rw [show bt (x ||| ((1 : Int32) <<< (nI k &&& 31))) i = (bt x i || decide (i = k)) from bt_set x (by omega) i, hx i]
      by_cases ci : i = k
      · subst ci; rw [e]; simp
      · have : decide (i < k + 1) = decide (i < k) := by
          by_cases h : i < k
          · rw [decide_eq_true h, decide_eq_true (by omega)]
          · rw [decide_eq_false h, decide_eq_false (by omega)]
        rw [this]; simp [ci]
/-- the reference's answer -/
theorem gf_eq {M : JI} {L : JL} {S : JS} {X ln : Nat} {E : Nat → (Nat → Int32) → Int32} (W : WB M L S X ln E) {h : Nat → Nat → Nat} {g ec yrs : Nat} (H : FB h g) (hy : yrs ≤ 9) {Wc : Int32} {t : Int32} (h1 : vTold t (M 67)) (hz : ∀ p, p < 12 → bt t p = false → slF h p = 16) {N : JI} (hN : nS M N) (e67 : N 67 = M 67) (hb : ∀ q, q < 16 → N 73 q = bI (bt Wc q)) (e68 : twRep (N 68) h) : ∃ bs N', fX12_goesFar (nI g) (nI yrs) (nI ec) N = some (nI bs, N') ∧ BS (GT M ln E h g ec Wc) (FS h g) yrs 4096 bs ∧ xSm N N' ∧ ∀ p, p < 12 → N' 120 p = slV h p := by
  obtain ⟨who, w1, w2⟩ := who_4 (N := N) hb 16 0 (by omega) 100000 (by omega) (nI 0) (fun i => by rw [bt_zero]; simp)
  have w1' : fX12_whoCares N = some who := w1
  obtain ⟨N1, a1, a2, a3⟩ := gf_14 (l1 := nI g) (l2 := nI yrs) (l3 := nI ec) (l4 := who) H.2.1 h1 hz 12 0 (by omega) 100000 (by omega) (j_up N 66 50 (0 : Int32)) (by rw [ju_row _ _ (by omega)]; exact e67) (by rw [ju_row _ _ (by omega)]; exact e68) (fun p hp => absurd hp (by omega))
  obtain ⟨N2, b1, b2, b3⟩ := gf_57 (l1 := nI g) (l2 := nI yrs) (l3 := nI ec) (l4 := who) 4096 0 (by omega) 100000 (by omega) N1 (fun t ht => absurd ht (by omega))
  have r2 : ∀ a, a ≠ 66 → a ≠ 119 → a ≠ 120 → N2 a = N a := fun a z1 z2 z3 => by rw [b2 a z2, a2 a z3, ju_row _ _ z1]
  have r66 : ∀ k, k ≠ 50 → N2 66 k = N 66 k := fun k hk => by rw [b2 66 (by omega), a2 66 (by omega), ju_cell _ _ hk]
  have hFR : FR M h N2 := ⟨⟨fun a k ha => by rw [r2 a (by omega) (by omega) (by omega)]; exact hN.1 a k ha, by rw [r66 18 (by omega)]; exact hN.2.1, by rw [r66 8 (by omega)]; exact hN.2.2⟩, by rw [b2 66 (by omega), a2 66 (by omega), ju_same]; rfl, fun p hp => by rw [b2 120 (by omega)]; exact a3 p hp⟩
  have hb0 : BS (GT M ln E h g ec Wc) (FS h g) yrs 0 0 := ⟨by omega, Nat.le_refl _, CA_0, fun t ht => absurd ht (by omega)⟩
  obtain ⟨bs, N3, c1, c2, c3, c4⟩ := gf_94 (ec := ec) W H hy w2 4096 0 (by omega) 100000 (by omega) N2 (fun t => decide (t = 0)) 0 hFR (by rw [r2 68 (by omega) (by omega) (by omega)]; exact e68) b3 (fun t ht => by
    rw [decide_eq_true_eq]
    constructor
    · exact Or.inl
    · rintro (e | ⟨p, p1, p2, -⟩)
      · exact e
      · omega) hb0
  refine ⟨bs, N3, ?_, c2, ⟨fun a z1 z2 => ?_, fun k hk => ?_⟩, fun p hp => by rw [c3.1 120 (by omega) (by omega) (by omega) (by omega)]; exact hFR.2.2 p hp⟩
  · unfold fX12_goesFar
    rw [w1', Option.bind_some, show (0 : Int32) = nI 0 from rfl]
    refine Eq.trans a1 ?_
    unfold fX12_goesFar_54
    refine Eq.trans b1 ?_
    unfold fX12_goesFar_88
    exact c1
  · by_cases c68 : a = 68
    · rw [c68]
      refine row_eq e68 c4 (fun k hk => ?_)
      rw [c3.2.2 k hk, r2 68 (by omega) (by omega) (by omega)]
    · rw [c3.1 a (by omega) z2 (by omega) c68, r2 a z2 (by omega) (by omega)]
  · rw [c3.2.1 k (by omega), r66 k (by omega)]
