theorem twRep_cong {r : Nat → Int32} {h h' : Nat → Nat → Nat} (e : twRep r h) (he : ∀ p q, p < 12 → q < 16 → h' p q = h p q) : twRep r h' := fun p q hp hq => by rw [e p q hp hq, he p q hp hq]
def lih (h : Nat → Nat → Nat) (p f g n : Nat) : Nat → Nat → Nat := fun p' q' => if p' = p ∧ q' = g then h p f + h p g - n else if p' = p ∧ q' = f then n else h p' q'
theorem lies_eq {N : JI} {h : Nat → Nat → Nat} (e : twRep (N 68) h) {p f g n : Nat} (hp : p < 12) (hf : f < 16) (hg : g < 16) (hne : f ≠ g) (hn : n ≤ h p f + h p g) : ∃ N', fX12_lies (nI p) (nI f) (nI g) (nI n) N = some N' ∧ (∀ a, a ≠ 68 → N' a = N a) ∧ (∀ k, 192 ≤ k → N' 68 k = N 68 k) ∧ twRep (N' 68) (lih h p f g n) := by
  refine ⟨j_up (j_up N 68 (16 * p + f) (nI n)) 68 (16 * p + g) (nI (h p f + h p g - n)), ?_, fun a ha => by rw [ju_row _ _ ha, ju_row _ _ ha], fun k hk => by rw [ju_cell _ _ (by omega), ju_cell _ _ (by omega)], fun p' q' hp' hq' => ?_⟩
  · unfold fX12_lies
    rw [at16, at16, jg_in (by omega) (by decide), jg_in (by omega) (by decide), jg_in (by omega) (by decide), jg_in (by omega) (by decide), nI_clamp (by omega), nI_clamp (by omega), e p f hp hf, e p g hp hg, nI_add, pk_sub hn]
  · rw [ju_at]
    show (if 16 * p' + q' = 16 * p + g then nI (h p f + h p g - n) else j_up N 68 (16 * p + f) (nI n) 68 (16 * p' + q')) = _
    rw [ju_at]
    show (if 16 * p' + q' = 16 * p + g then nI (h p f + h p g - n) else if 16 * p' + q' = 16 * p + f then nI n else N 68 (16 * p' + q')) = _
    unfold lih
    by_cases c1 : p' = p ∧ q' = g
    · rw [if_pos (by omega), if_pos c1]
    · rw [if_neg (by omega), if_neg c1]
      by_cases c2 : p' = p ∧ q' = f
      · rw [if_pos (by omega), if_pos c2]
      · rw [if_neg (by omega), if_neg c2, e p' q' hp' hq']
/-- a place that may be -/
def sOK (a b s : Nat) : Prop := s < 169 ∧ s / 13 ≤ a ∧ s % 13 ≤ b
theorem hst_pf {h : Nat → Nat → Nat} {p o f g a b s : Nat} (H : HB h p o f g a b) (hs : sOK a b s) : hst h p o f g s p f = s / 13 ∧ hst h p o f g s p g = h p f + h p g - s / 13 ∧ s / 13 ≤ h p f := by
  obtain ⟨⟨hp, hf, hg, hne, ho, hop⟩, hb, hsm, ha, hbb⟩ := H
  unfold hst
  refine ⟨?_, ?_, by have := hs.2.1; omega⟩
  · rw [if_pos rfl, if_pos rfl]
  · rw [if_pos rfl, if_neg (by omega), if_pos rfl]
theorem hst_of {h : Nat → Nat → Nat} {p o f g a b s : Nat} (H : HB h p o f g a b) (hs : sOK a b s) (ho12 : o < 12) : hst h p o f g s o f = s % 13 ∧ hst h p o f g s o g = h o f + h o g - s % 13 ∧ s % 13 ≤ h o f := by
  obtain ⟨⟨hp, hf, hg, hne, ho, hop⟩, hb, hsm, ha, hbb⟩ := H
  rw [if_pos ho12] at hbb
  unfold hst
  refine ⟨?_, ?_, by have := hs.2.2; omega⟩
  · rw [if_neg hop, if_pos rfl, if_pos rfl]
  · rw [if_neg hop, if_pos rfl, if_neg (by omega), if_pos rfl]
theorem hst_go1 {h : Nat → Nat → Nat} {p o f g a b s s1 : Nat} (H : HB h p o f g a b) (hs : sOK a b s) (hs1 : sOK a b s1) (ho : ¬ o < 12) : ∀ p' q', p' < 12 → q' < 16 → hst h p o f g s p' q' = lih (hst h p o f g s1) p f g (s / 13) p' q' := by
  intro p' q' hp' hq'
  obtain ⟨e1, e2, e3⟩ := hst_pf H hs1
  obtain ⟨-, -, e4⟩ := hst_pf H hs
  obtain ⟨⟨hp, hf, hg, hne, -, hop⟩, -⟩ := H
  unfold lih
  rw [e1, e2]
  unfold hst
  by_cases c1 : p' = p
  · rw [if_pos c1]
    by_cases c2 : q' = g
    · rw [if_neg (by omega), if_pos c2, if_pos ⟨c1, c2⟩]; omega
    · rw [if_neg (show ¬ (p' = p ∧ q' = g) by omega)]
      by_cases c3 : q' = f
      · rw [if_pos c3, if_pos ⟨c1, c3⟩]
      · rw [if_neg c3, if_neg c2, if_neg (show ¬ (p' = p ∧ q' = f) by omega), if_pos c1, if_neg c3, if_neg c2]
  · rw [if_neg c1, if_neg (show ¬ p' = o by omega), if_neg (by omega), if_neg (by omega), if_neg c1, if_neg (by omega)]
theorem hst_go2 {h : Nat → Nat → Nat} {p o f g a b s s1 : Nat} (H : HB h p o f g a b) (hs : sOK a b s) (hs1 : sOK a b s1) (ho : o < 12) : ∀ p' q', p' < 12 → q' < 16 → hst h p o f g s p' q' = lih (lih (hst h p o f g s1) p f g (s / 13)) o f g (s % 13) p' q' := by
  intro p' q' hp' hq'
  obtain ⟨e1, e2, e3⟩ := hst_pf H hs1
  obtain ⟨-, -, e4⟩ := hst_pf H hs
  obtain ⟨e5, e6, e7⟩ := hst_of H hs1 ho
  obtain ⟨-, -, e8⟩ := hst_of H hs ho
  obtain ⟨⟨hp, hf, hg, hne, -, hop⟩, -⟩ := H
  have x1 : lih (hst h p o f g s1) p f g (s / 13) o f = s1 % 13 := by
    unfold lih; rw [if_neg (by omega), if_neg (by omega), e5]
  have x2 : lih (hst h p o f g s1) p f g (s / 13) o g = h o f + h o g - s1 % 13 := by
    unfold lih; rw [if_neg (by omega), if_neg (by omega), e6]
  unfold lih at x1 x2 ⊢
  rw [x1, x2, e1, e2]
  unfold hst
  by_cases c1 : p' = p
  · rw [if_pos c1, if_neg (show ¬ (p' = o ∧ q' = g) by omega), if_neg (show ¬ (p' = o ∧ q' = f) by omega)]
    by_cases c2 : q' = g
    · rw [if_neg (by omega), if_pos c2, if_pos ⟨c1, c2⟩]; omega
    · rw [if_neg (show ¬ (p' = p ∧ q' = g) by omega)]
      by_cases c3 : q' = f
      · rw [if_pos c3, if_pos ⟨c1, c3⟩]
      · rw [if_neg c3, if_neg c2, if_neg (show ¬ (p' = p ∧ q' = f) by omega), if_pos c1, if_neg c3, if_neg c2]
  · rw [if_neg c1, if_neg (show ¬ (p' = p ∧ q' = g) by omega), if_neg (show ¬ (p' = p ∧ q' = f) by omega), if_neg c1]
    by_cases c4 : p' = o
    · rw [if_pos c4]
      by_cases c2 : q' = g
      · rw [if_neg (by omega), if_pos c2, if_pos ⟨c4, c2⟩]; omega
      · rw [if_neg (show ¬ (p' = o ∧ q' = g) by omega)]
        by_cases c3 : q' = f
        · rw [if_pos c3, if_pos ⟨c4, c3⟩]
        · rw [if_neg c3, if_neg c2, if_neg (show ¬ (p' = o ∧ q' = f) by omega), if_pos c4, if_neg c3, if_neg c2]
    · rw [if_neg c4, if_neg (by omega), if_neg (by omega), if_neg c4]
theorem hst_start {h : Nat → Nat → Nat} {p o f g a b : Nat} (H : HB h p o f g a b) : sOK a b (13 * a + b) ∧ (13 * a + b) / 13 = a ∧ (13 * a + b) % 13 = b ∧ ∀ p' q', p' < 12 → q' < 16 → hst h p o f g (13 * a + b) p' q' = h p' q' := by
  obtain ⟨⟨hp, hf, hg, hne, ho, hop⟩, hb, hsm, ha, hbb⟩ := H
  have a12 : a ≤ 12 := by rw [ha]; exact hb p f hp hf
  have b12 : b ≤ 12 := by
    rw [hbb]; split
    · exact hb o f (by assumption) hf
    · omega
  have e1 : (13 * a + b) / 13 = a := by omega
  have e2 : (13 * a + b) % 13 = b := by omega
  refine ⟨⟨by omega, by omega, by omega⟩, e1, e2, fun p' q' hp' hq' => ?_⟩
  unfold hst
  rw [e1, e2]
  by_cases c1 : p' = p
  · rw [if_pos c1]
    by_cases c3 : q' = f
    · rw [if_pos c3, ha, c1, c3]
    · rw [if_neg c3]
      by_cases c2 : q' = g
      · rw [if_pos c2, ha, c1, c2]; omega
      · rw [if_neg c2]
  · rw [if_neg c1]
    by_cases c4 : p' = o
    · rw [if_pos c4]
      rw [if_pos (by omega)] at hbb
      by_cases c3 : q' = f
      · rw [if_pos c3, hbb, c4, c3]
      · rw [if_neg c3]
        by_cases c2 : q' = g
        · rw [if_pos c2, hbb, c4, c2]; omega
        · rw [if_neg c2]
    · rw [if_neg c4]
def zSm (N N' : JI) : Prop := (∀ a, (a < 86 ∨ 95 < a) → a ≠ 66 → a ≠ 68 → (a < 114 ∨ 118 < a) → N' a = N a) ∧ (∀ k, (k < 46 ∨ k = 50 ∨ (51 < k ∧ k < 76) ∨ 78 < k) → N' 66 k = N 66 k) ∧ ∀ k, 192 ≤ k → N' 68 k = N 68 k
theorem zSm_rfl (N : JI) : zSm N N := ⟨fun _ _ _ _ _ => rfl, fun _ _ => rfl, fun _ _ => rfl⟩
theorem zSm_tr {N0 N N' : JI} (h : zSm N0 N) (h' : zSm N N') : zSm N0 N' := ⟨fun a h1 h2 h3 h4 => (h'.1 a h1 h2 h3 h4).trans (h.1 a h1 h2 h3 h4), fun k h1 => (h'.2.1 k h1).trans (h.2.1 k h1), fun k h1 => (h'.2.2 k h1).trans (h.2.2 k h1)⟩
theorem zSm_w {N N' : JI} (h : wSm N N') : zSm N N' := ⟨fun a h1 h2 h3 h4 => h.1 a h1 h2 h4, fun k hk => h.2 k (by omega), fun k _ => by rw [h.1 68 (by omega) (by omega) (by omega)]⟩
/-- the search's place: what is so of the reference's memory but for the queue -/
def RP (M : JI) (sm : Int32) (o : Nat) (hs : Nat → Nat → Nat) (N : JI) : Prop := nS M N ∧ N 66 50 = sm ∧ twRep (N 68) hs ∧ N 66 77 = ov o
def eoV : Option Nat → Int32
  | none => -nI 1
  | some e => nI e
theorem RP_68 {M : JI} {sm : Int32} {o : Nat} {hs hs' : Nat → Nat → Nat} {N N' : JI} (h : RP M sm o hs N) (e : ∀ a, a ≠ 68 → N' a = N a) (e68 : twRep (N' 68) hs') : RP M sm o hs' N' := by
  obtain ⟨⟨n1, n2, n3⟩, r2, r3, r4⟩ := h
  exact ⟨⟨fun a k ha => by rw [e a (by omega), n1 a k ha], by rw [e 66 (by omega)]; exact n2, by rw [e 66 (by omega)]; exact n3⟩, by rw [e 66 (by omega)]; exact r2, e68, by rw [e 66 (by omega)]; exact r4⟩
theorem ov_neg {o : Nat} (ho : o ≤ 12) : (ov o < 0) = ¬ o < 12 := by
  unfold ov
  apply propext
  split
  · rename_i h
    exact ⟨fun e => absurd e (nI_pos (by omega)), fun e => absurd h e⟩
  · rename_i h
    exact ⟨fun _ => h, fun _ => by decide⟩
/-- both parcels are laid to a place -/
theorem put_eq {M : JI} {h : Nat → Nat → Nat} {p o f g a b : Nat} (H : HB h p o f g a b) {sm : Int32} {s s1 : Nat} (hs : sOK a b s) (hs1 : sOK a b s1) {N : JI} (hN : RP M sm o (hst h p o f g s1) N) : ∃ N1, fX12_lies (nI p) (nI f) (nI g) (nI (s / 13)) N = some N1 ∧ N1 66 77 = ov o ∧ ((¬ o < 12 ∧ RP M sm o (hst h p o f g s) N1 ∧ (∀ a, a ≠ 68 → N1 a = N a) ∧ ∀ k, 192 ≤ k → N1 68 k = N 68 k) ∨ (o < 12 ∧ ∃ N2, fX12_lies (nI o) (nI f) (nI g) (nI (s % 13)) N1 = some N2 ∧ RP M sm o (hst h p o f g s) N2 ∧ (∀ a, a ≠ 68 → N2 a = N a) ∧ ∀ k, 192 ≤ k → N2 68 k = N 68 k)) := by
  obtain ⟨e1, e2, e3⟩ := hst_pf H hs1
  obtain ⟨-, -, e4⟩ := hst_pf H hs
  have H0 := H
  obtain ⟨⟨hp, hf, hg, hne, ho, hop⟩, -⟩ := H0
  obtain ⟨N1, a1, a2, a3, a4⟩ := lies_eq hN.2.2.1 hp hf hg hne (n := s / 13) (by rw [e1, e2]; omega)
  refine ⟨N1, a1, by rw [a2 66 (by omega)]; exact hN.2.2.2, ?_⟩
  by_cases c : o < 12
  · obtain ⟨e5, e6, e7⟩ := hst_of H hs1 c
    obtain ⟨-, -, e8⟩ := hst_of H hs c
    obtain ⟨N2, b1, b2, b3, b4⟩ := lies_eq a4 c hf hg hne (n := s % 13) (by unfold lih; rw [if_neg (by omega), if_neg (by omega), if_neg (by omega), if_neg (by omega), e5, e6]; omega)
    refine Or.inr ⟨c, N2, b1, RP_68 hN (fun a ha => by rw [b2 a ha, a2 a ha]) (twRep_cong b4 (hst_go2 H hs hs1 c)), fun a ha => by rw [b2 a ha, a2 a ha], fun k hk => by rw [b3 k hk, a3 k hk]⟩
  · exact Or.inl ⟨c, RP_68 hN a2 (twRep_cong a4 (hst_go1 H hs hs1 c)), a2, a3⟩
theorem RR_68 {N N' : JI} {B : Bf} (h : RR N B) (e : ∀ a, 114 ≤ a → a ≤ 118 → N' a = N a) : RR N' B := by
  unfold RR at h ⊢
  rw [e 114 (by omega) (by omega), e 115 (by omega) (by omega), e 116 (by omega) (by omega), e 117 (by omega) (by omega), e 118 (by omega) (by omega)]
  exact h
theorem sk_230 {M : JI} {L : JL} {S : JS} {X ln : Nat} {E : Nat → (Nat → Int32) → Int32} (W : WB M L S X ln E) {h : Nat → Nat → Nat} {p o f g a b : Nat} (H : HB h p o f g a b) {sm : Int32} {ec s k : Nat} {B : Bf} (hB : BI a b B) (hs : bm B s = true) {N : JI} (hN : RP M sm o (hst h p o f g s) N) (hR : RR N B) {k157 : Int32 → Int32 → Int32 → Int32 → Int32 → Int32 → Int32 → Int32 → JI → Option (Int32 × JI)} {l5 l6 : Int32} : ∃ N', fX12_seeks_230 k157 (nI p) (nI f) (nI g) (nI ec) l5 l6 (nI (bN B)) (nI k) (nI s) N = k157 (nI p) (nI f) (nI g) (nI ec) l5 l6 (nI (bN (bpop (UU M ln E h sm p o f g ec) s B))) (nI (k + 1)) N' ∧ wSm N N' ∧ RP M sm o (hst h p o f g s) N' ∧ RR N' (bpop (UU M ln E h sm p o f g ec) s B) := by
  have H0 := H
  obtain ⟨⟨hp, hf, hg, hne, ho, hop⟩, hb, hsm, ha, hbb⟩ := H0
  obtain ⟨s1, s2, s3, s4⟩ := hB.2.2.1 s hs
  have hN0 : RS M sm o (hst h p o f g s) (bN B) B (j_up N 66 78 (nI 0)) := by
    obtain ⟨⟨n1, n2, n3⟩, r2, r3, r4⟩ := hN
    refine ⟨RR_68 hR (fun a a1 a2 => ju_row _ _ (by omega)), by rw [ju_same, Nat.sub_self], Nat.le_refl _, ⟨fun a k ha => by rw [ju_row _ _ (by omega)]; exact n1 a k ha, by rw [ju_cell _ _ (by omega)]; exact n2, by rw [ju_cell _ _ (by omega)]; exact n3⟩, by rw [ju_cell _ _ (by omega)]; exact r2, by rw [ju_row _ _ (by omega)]; exact r3, by rw [ju_cell _ _ (by omega)]; exact r4⟩
  have w0 : wSm N (j_up N 66 78 (nI 0)) := ⟨fun a h1 h2 h3 => ju_row _ _ h2, fun k hk => ju_cell _ _ (by omega)⟩
  obtain ⟨N1, x1, x2, x3⟩ := stp_eq (ec := ec) (w := 0) W H (Or.inl rfl) hB hs hN0
  have e0 : blim 0 s = s / 13 := by unfold blim; rw [if_pos rfl]
  have e1 : blim 1 s = s % 13 := by unfold blim; rw [if_neg (by decide)]
  rw [if_pos rfl] at x1
  rw [e0] at x3
  obtain ⟨i1, i2, -⟩ := btryN_ok (U := UU M ln E h sm p o f g ec) (a := a) (b := b) (s := s) (w := 0) (by omega) (s / 13) hB hs (by rw [e0]; exact Nat.le_refl _)
  have hsC := (i2.1 s hs).1
  have hle1 := i2.2.1
  have hkk : nI k + (1 : Int32) = nI (k + 1) := nI_add _ 1
  have cneg : ∀ N : JI, N 66 77 = ov o → (N 66 77 < 0) = ¬ o < 12 := fun N e => by rw [e, ov_neg ho]
  by_cases c : o < 12
  · obtain ⟨N2, y1, y2, y3⟩ := stp_eq (ec := ec) (w := 1) W H (Or.inr ⟨rfl, c⟩) i1 hsC x3
    rw [if_neg (by decide)] at y1
    rw [e1] at y3
    have eb : btryN (UU M ln E h sm p o f g ec) s 1 (s % 13) (btryN (UU M ln E h sm p o f g ec) s 0 (s / 13) B) = bpop (UU M ln E h sm p o f g ec) s B := rfl
    rw [eb] at y3
    refine ⟨N2, ?_, wSm_tr w0 (wSm_tr x2 y2), ⟨y3.2.2.2.1, y3.2.2.2.2.1, y3.2.2.2.2.2.1, y3.2.2.2.2.2.2⟩, y3.1⟩
    unfold fX12_seeks_230
    rw [show (0 : Int32) = nI 0 from rfl] at *
    rw [x1, Option.bind_some, if_neg (by rw [cneg N1 x3.2.2.2.2.2.2]; simpa using c), x3.2.2.2.2.2.2]
    have : ov o = nI o := by unfold ov; rw [if_pos c]
    rw [this, y1, Option.bind_some, y3.2.1, nI_add, hkk, show bN B + (bN (bpop (UU M ln E h sm p o f g ec) s B) - bN B) = bN (bpop (UU M ln E h sm p o f g ec) s B) by have := y3.2.2.1; omega]
  · have hb0 : s % 13 = 0 := by rw [if_neg c] at hbb; omega
    have eb : btryN (UU M ln E h sm p o f g ec) s 0 (s / 13) B = bpop (UU M ln E h sm p o f g ec) s B := by unfold bpop; rw [hb0]; rfl
    rw [eb] at x3
    refine ⟨N1, ?_, wSm_tr w0 x2, ⟨x3.2.2.2.1, x3.2.2.2.2.1, x3.2.2.2.2.2.1, x3.2.2.2.2.2.2⟩, x3.1⟩
    unfold fX12_seeks_230
    rw [show (0 : Int32) = nI 0 from rfl] at *
    rw [x1, Option.bind_some, if_pos (by rw [cneg N1 x3.2.2.2.2.2.2]; exact c), x3.2.1, nI_add, hkk, show bN B + (bN (bpop (UU M ln E h sm p o f g ec) s B) - bN B) = bN (bpop (UU M ln E h sm p o f g ec) s B) by have := x3.2.2.1; omega]
