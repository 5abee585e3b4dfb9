theorem sk_157 {M : JI} {L : JL} {S : JS} {X ln : Nat} {E : Nat → (Nat → Int32) → Int32} (W : WB M L S X ln E) {h : Nat → Nat → Nat} {p o f g a b : Nat} (H : HB h p o f g a b) {sm : Int32} {ec : Nat} : ∀ d k, 170 ≤ d + k → ∀ n, d < n → ∀ N B s1, BI a b B → sOK a b s1 → RP M sm o (hst h p o f g s1) N → RR N B → N 66 76 = -nI 1 → k ≤ bN B → ∃ N' s2, fX12_seeks_157 n (nI p) (nI f) (nI g) (nI ec) (nI a) (nI b) (nI (bN B)) (nI k) N = fX12_seeks_286 (nI p) (nI f) (nI g) (nI a) (nI b) N' ∧ zSm N N' ∧ sOK a b s2 ∧ RP M sm o (hst h p o f g s2) N' ∧ RR N' (brun (UU M ln E h sm p o f g ec) d k B).2 ∧ BI a b (brun (UU M ln E h sm p o f g ec) d k B).2 ∧ N' 66 76 = eoV (brun (UU M ln E h sm p o f g ec) d k B).1 ∧ ∀ e, (brun (UU M ln E h sm p o f g ec) d k B).1 = some e → e < 13 ∧ bm (brun (UU M ln E h sm p o f g ec) d k B).2 e = true := by
  intro d
  induction d with
  | zero =>
    intro k hk n hn N B s1 hB _ _ _ _ hkB
    have hN : bN B ≤ 169 := by rw [hB.1]; exact fb_ct_le _ _
    omega
  | succ d ih =>
    intro k hk n hn N B s1 hB hs1 hN hR h76 hkB
    have hBN : bN B ≤ 169 := by rw [hB.1]; exact fb_ct_le _ _
    obtain ⟨n', rfl⟩ := suc_of hn
    rw [fX12_seeks_157, brun]
    by_cases c : bN B ≤ k
    · rw [if_pos (nI_le c (by omega)), if_pos c]
      refine ⟨N, s1, rfl, zSm_rfl N, hs1, hN, hR, hB, h76, fun e he => absurd he (by simp)⟩
    · rw [if_neg (nI_ge (by omega) (by omega)), if_neg c, h76, if_neg (show ¬ (0 : Int32) ≤ -nI 1 by decide), jg_in (show k < 169 by omega) (by decide), nI_clamp (by omega), hR.1 k (by omega)]
      have hs := hB.2.1 k (by omega)
      obtain ⟨q1, q2, q3, q4⟩ := hB.2.2.1 _ hs
      by_cases q : bQ B k < 13
      · have cq : ¬ (13 : Int32) ≤ nI (bQ B k) := nI_ge (b := 13) q (by omega)
        rw [if_neg cq, if_pos q]
        have hd : 0 < n' := by omega
        obtain ⟨n'', rfl⟩ := suc_of hd
        have hR' : RR (j_up N 66 76 (nI (bQ B k))) B := RR_68 hR (fun a a1 a2 => ju_row _ _ (by omega))
        have hP' : RP M sm o (hst h p o f g s1) (j_up N 66 76 (nI (bQ B k))) := by
          obtain ⟨⟨n1, n2, n3⟩, r2, r3, r4⟩ := hN
          exact ⟨⟨fun a k ha => by rw [ju_row _ _ (by omega)]; exact n1 a k ha, by rw [ju_cell _ _ (by omega)]; exact n2, by rw [ju_cell _ _ (by omega)]; exact n3⟩, by rw [ju_cell _ _ (by omega)]; exact r2, by rw [ju_row _ _ (by omega)]; exact r3, by rw [ju_cell _ _ (by omega)]; exact r4⟩
        refine ⟨j_up N 66 76 (nI (bQ B k)), s1, ?_, ⟨fun a h1 h2 h3 h4 => ju_row _ _ h2, fun k hk => ju_cell _ _ (by omega), fun k _ => by rw [ju_row _ _ (by omega)]⟩, hs1, hP', hR', hB, ju_same _ _ _ _, fun e he => ?_⟩
        · rw [fX12_seeks_157, ju_same, if_pos (show (0 : Int32) ≤ nI (bQ B k) from nI_le (a := 0) (Nat.zero_le _) (by omega))]
          split <;> rfl
        · have he' : some (bQ B k) = some e := he
          have : bQ B k = e := by simpa using he'
          rw [← this]
          exact ⟨q, hs⟩
      · have cq : (13 : Int32) ≤ nI (bQ B k) := nI_le (a := 13) (by omega) (by omega)
        rw [if_pos cq, if_neg q]
        have hsok : sOK a b (bQ B k) := ⟨q1, q2, q3⟩
        have ed : nI (bQ B k) / (13 : Int32) = nI (bQ B k / 13) := pk_div (d := 13) (by omega) (by omega) (by omega)
        have er : nI (bQ B k) - nI (bQ B k) / (13 : Int32) * (13 : Int32) = nI (bQ B k % 13) := pk_rem (d := 13) (by omega) (by omega) (by omega)
        obtain ⟨p1, p2, -⟩ := btwo_ok (U := UU M ln E h sm p o f g ec) hB hs (Nat.le_refl (bQ B k / 13))
        have hp0 : btryN (UU M ln E h sm p o f g ec) (bQ B k) 1 (bQ B k % 13) (btryN (UU M ln E h sm p o f g ec) (bQ B k) 0 (bQ B k / 13) B) = bpop (UU M ln E h sm p o f g ec) (bQ B k) B := rfl
        rw [hp0] at p1 p2
        have hle := p2.2.1
        obtain ⟨N1, a1, a2, a3⟩ := put_eq H hsok hs1 hN
        have hoo : o ≤ 12 := H.1.2.2.2.2.1
        have fin : ∀ N2, RP M sm o (hst h p o f g (bQ B k)) N2 → (∀ a, a ≠ 68 → N2 a = N a) → (∀ k, 192 ≤ k → N2 68 k = N 68 k) → ∃ N' s2, fX12_seeks_230 (fX12_seeks_157 n') (nI p) (nI f) (nI g) (nI ec) (nI a) (nI b) (nI (bN B)) (nI k) (nI (bQ B k)) N2 = fX12_seeks_286 (nI p) (nI f) (nI g) (nI a) (nI b) N' ∧ zSm N N' ∧ sOK a b s2 ∧ RP M sm o (hst h p o f g s2) N' ∧ RR N' (brun (UU M ln E h sm p o f g ec) d (k + 1) (bpop (UU M ln E h sm p o f g ec) (bQ B k) B)).2 ∧ BI a b (brun (UU M ln E h sm p o f g ec) d (k + 1) (bpop (UU M ln E h sm p o f g ec) (bQ B k) B)).2 ∧ N' 66 76 = eoV (brun (UU M ln E h sm p o f g ec) d (k + 1) (bpop (UU M ln E h sm p o f g ec) (bQ B k) B)).1 ∧ ∀ e, (brun (UU M ln E h sm p o f g ec) d (k + 1) (bpop (UU M ln E h sm p o f g ec) (bQ B k) B)).1 = some e → e < 13 ∧ bm (brun (UU M ln E h sm p o f g ec) d (k + 1) (bpop (UU M ln E h sm p o f g ec) (bQ B k) B)).2 e = true := by
          intro N2 g1 g2 g3
          have hz : zSm N N2 := ⟨fun a h1 h2 h3 h4 => g2 a h3, fun k hk => by rw [g2 66 (by omega)], g3⟩
          obtain ⟨N3, x1, x2, x3, x4⟩ := sk_230 (ec := ec) (k := k) (k157 := fX12_seeks_157 n') (l5 := nI a) (l6 := nI b) W H hB hs g1 (RR_68 hR (fun a a1 a2 => g2 a (by omega)))
          obtain ⟨N', s2, y1, y2, y3, y4, y5, y6, y7, y8⟩ := ih (k + 1) (by omega) n' (by omega) N3 _ (bQ B k) p1 hsok x3 x4 (by rw [x2.2 76 (by omega), g2 66 (by omega)]; exact h76) (by omega)
          exact ⟨N', s2, x1.trans y1, zSm_tr hz (zSm_tr (zSm_w x2) y2), y3, y4, y5, y6, y7, y8⟩
        rw [ed, a1, Option.bind_some, a2]
        rcases a3 with ⟨c3, b1, b2, b3⟩ | ⟨c3, N2, b0, b1, b2, b3⟩
        · rw [if_pos (by rw [ov_neg hoo]; exact c3)]
          exact fin N1 b1 b2 b3
        · rw [if_neg (by rw [ov_neg hoo]; simpa using c3), ← ed, er, show ov o = nI o by unfold ov; rw [if_pos c3], b0, Option.bind_some]
          exact fin N2 b1 b2 b3
def bst (s0 : Nat) : Bf := (1, fun _ => s0, fun k => decide (k = s0), fun _ => s0, fun _ => 0, fun _ => 0)
theorem ct_point {s0 n : Nat} (h : s0 < n) : fb_ct (fun k => decide (k = s0)) n = 1 := by
  have e : (fun k => decide (k = s0)) = fun k => if k = s0 then true else (fun _ => false) k := by
    funext k
    by_cases c : k = s0
    · simp [c]
    · simp [c]
  have h1 := fb_ct_upd (fun _ => false) true (i := s0) (n := n) h
  rw [← e] at h1
  have h0 : fb_ct (fun _ => false) n = 0 := fb_ct_zero.mpr (fun _ _ => rfl)
  rw [h0] at h1
  simpa using h1
theorem bst_ok {a b : Nat} (ha : a ≤ 12) (hb : b ≤ 12) : BI a b (bst (13 * a + b)) := by
  refine ⟨(ct_point (by omega)).symm, fun k hk => ?_, fun s hs => ?_, fun s hs => Or.inl rfl, fun x hx => ⟨0, Nat.one_pos, ?_⟩⟩
  · show decide (13 * a + b = 13 * a + b) = true
    simp
  · have hs' : decide (s = 13 * a + b) = true := hs
    have : s = 13 * a + b := by simpa using hs'
    show s < 169 ∧ s / 13 ≤ a ∧ s % 13 ≤ b ∧ s / 13 + s % 13 + 0 ≤ a + b
    refine ⟨?_, ?_, ?_, ?_⟩ <;> omega
  · have hx' : decide (x = 13 * a + b) = true := hx
    show 13 * a + b = x
    have : x = 13 * a + b := by simpa using hx'
    exact this.symm
/-- the least of the others of which he holds some -/
def OgR (P : Nat → Bool) (i o : Nat) : Prop := i ≤ o ∧ o ≤ 12 ∧ (o < 12 → P o = true) ∧ ∀ x, i ≤ x → x < o → P x = false
theorem OgR_ff {P : Nat → Bool} {o : Nat} (h : OgR P 0 o) : fa_first P 12 = o := by
  obtain ⟨h1, h2, h3, h4⟩ := h
  by_cases c : o < 12
  · exact ff_is (fun i hi => h4 i (Nat.zero_le _) hi) (h3 c) c
  · have : o = 12 := by omega
    subst this
    exact ff_none (fun i hi => h4 i (Nat.zero_le _) hi)
theorem OgR_dn {P : Nat → Bool} {i o : Nat} (h : OgR P (i + 1) o) (hi : P i = false) : OgR P i o := by
  obtain ⟨h1, h2, h3, h4⟩ := h
  refine ⟨by omega, h2, h3, fun x x1 x2 => ?_⟩
  by_cases c : x = i
  · rw [c]; exact hi
  · exact h4 x (by omega) x2
theorem OgR_at {P : Nat → Bool} {i : Nat} (h : i < 12) (hi : P i = true) : OgR P i i := ⟨Nat.le_refl _, by omega, fun _ => hi, fun x x1 x2 => absurd x2 (by omega)⟩
def othP (h : Nat → Nat → Nat) (p f x : Nat) : Bool := !decide (x = p) && decide (0 < h x f)
theorem sk_9 {h : Nat → Nat → Nat} (hb : ∀ p q, p < 12 → q < 16 → h p q ≤ 12) {p f g ec : Nat} (hp : p < 12) (hf : f < 16) : ∀ i, i ≤ 12 → ∀ n, i < n → ∀ N o, twRep (N 68) h → N 66 77 = ov o → OgR (othP h p f) i o → ∃ N', fX12_seeks_9 n (nI p) (nI f) (nI g) (nI ec) (nI i + (-1 : Int32)) N = fX12_seeks_47 (nI p) (nI f) (nI g) (nI ec) N' ∧ (∀ a, a ≠ 66 → N' a = N a) ∧ (∀ k, k ≠ 77 → N' 66 k = N 66 k) ∧ N' 66 77 = ov (fa_first (othP h p f) 12) := by
  intro i
  induction i with
  | zero =>
    intro hi n hn N o hN h77 hO
    obtain ⟨n', rfl⟩ := suc_of hn
    refine ⟨N, ?_, fun _ _ => rfl, fun _ _ => rfl, by rw [h77, OgR_ff hO]⟩
    rw [fX12_seeks_9, if_pos (by decide)]
  | succ i ih =>
    intro hi n hn N o hN h77 hO
    obtain ⟨n', rfl⟩ := suc_of hn
    rw [pk_m1, fX12_seeks_9, if_neg (nI_pos (by omega))]
    by_cases c : i = p
    · rw [if_pos (by rw [c])]
      exact ih (by omega) n' (by omega) N o hN h77 (OgR_dn hO (by unfold othP; simp [c]))
    · rw [if_neg (fun e => c ((nI_eq (by omega) (by omega)).mp e)), at16, jg_in (by omega) (by decide), nI_clamp (by omega), hN i f (by omega) hf]
      by_cases z : h i f = 0
      · rw [z, if_pos (show nI 0 ≤ (0 : Int32) by decide)]
        exact ih (by omega) n' (by omega) N o hN h77 (OgR_dn hO (by unfold othP; simp [z]))
      · have h12 := hb i f (by omega) hf
        have z' : ¬ nI (h i f) ≤ (0 : Int32) := nI_ge (a := 0) (b := h i f) (by omega) (by omega)
        rw [if_neg z']
        obtain ⟨N', a1, a2, a3, a4⟩ := ih (by omega) n' (by omega) (j_up N 66 77 (nI i)) i (by rw [ju_row _ _ (by omega)]; exact hN) (by rw [ju_same]; unfold ov; rw [if_pos (by omega)]) (OgR_at (by omega) (by unfold othP; simp [c]; omega))
        exact ⟨N', a1, fun a ha => by rw [a2 a ha, ju_row _ _ ha], fun k hk => by rw [a3 k hk, ju_cell _ _ hk], a4⟩
theorem sk_90 {l1 l2 l3 l4 l5 l6 : Int32} : ∀ d k, k + d = 169 → ∀ n, d < n → ∀ N : JI, (∀ x, x < k → N 118 x = nI 0) → ∃ N', fX12_seeks_90 n l1 l2 l3 l4 l5 l6 (nI k) N = fX12_seeks_112 l1 l2 l3 l4 l5 l6 N' ∧ (∀ a, a ≠ 118 → N' a = N a) ∧ ∀ x, x < 169 → N' 118 x = nI 0 := by
  intro d
  induction d with
  | zero =>
    intro k hk n hn N hN
    obtain ⟨n', rfl⟩ := suc_of hn
    have : k = 169 := by omega
    subst this
    refine ⟨N, ?_, fun _ _ => rfl, hN⟩
    rw [fX12_seeks_90, if_pos (by decide)]
  | succ d ih =>
    intro k hk n hn N hN
    obtain ⟨n', rfl⟩ := suc_of hn
    have c : ¬ (169 : Int32) ≤ nI k := nI_ge (b := 169) (by omega) (by omega)
    rw [fX12_seeks_90, if_neg c, jg_in (show k < 169 by omega) (by decide), nI_clamp (by omega), show nI k + (1 : Int32) = nI (k + 1) from nI_add _ 1]
    obtain ⟨N', a1, a2, a3⟩ := ih (k + 1) (by omega) n' (by omega) (j_up N 118 k (0 : Int32)) (fun x hx => by
      rw [ju_at]
      show (if x = k then (0 : Int32) else N 118 x) = nI 0
      split
      · rfl
      · exact hN x (by omega))
    exact ⟨N', a1, fun a ha => by rw [a2 a ha, ju_row _ _ ha], a3⟩
/-- what the reference's search finds -/
def skR (M : JI) (ln : Nat) (E : Nat → (Nat → Int32) → Int32) (h : Nat → Nat → Nat) (sm : Int32) (p o f g ec a b : Nat) : Option Nat × Bf := brun (UU M ln E h sm p o f g ec) 170 0 (bst (13 * a + b))
def skV (r : Option Nat × Bf) : Int32 := match r.1 with
  | none => -nI 1
  | some e => nI (bD r.2 e)
theorem row_eq {r r' : Nat → Int32} {h : Nat → Nat → Nat} (e : twRep r h) (e' : twRep r' h) (hk : ∀ k, 192 ≤ k → r' k = r k) : r' = r := by
  funext k
  by_cases c : k < 192
  · have h1 := e (k / 16) (k % 16) (by omega) (by omega)
    have h2 := e' (k / 16) (k % 16) (by omega) (by omega)
    rw [show 16 * (k / 16) + k % 16 = k by omega] at h1 h2
    rw [h1, h2]
  · exact hk k (by omega)
theorem sk_eq {M : JI} {L : JL} {S : JS} {X ln : Nat} {E : Nat → (Nat → Int32) → Int32} (W : WB M L S X ln E) {h : Nat → Nat → Nat} {p o f g a b : Nat} (H : HB h p o f g a b) (ho : o = fa_first (othP h p f) 12) {sm : Int32} {ec : Nat} {N : JI} (hN : nS M N) (h50 : N 66 50 = sm) (e68 : twRep (N 68) h) : ∃ N', fX12_seeks (nI p) (nI f) (nI g) (nI ec) N = some (skV (skR M ln E h sm p o f g ec a b), N') ∧ zSm N N' ∧ N' 68 = N 68 ∧ N' 66 77 = ov o ∧ N' 66 76 = eoV (skR M ln E h sm p o f g ec a b).1 ∧ RR N' (skR M ln E h sm p o f g ec a b).2 ∧ BI a b (skR M ln E h sm p o f g ec a b).2 ∧ ∀ e, (skR M ln E h sm p o f g ec a b).1 = some e → e < 13 ∧ bm (skR M ln E h sm p o f g ec a b).2 e = true := by
  have H0 := H
  obtain ⟨⟨hp, hf, hg, hne, ho12, hop⟩, hb, hsm, ha, hbb⟩ := H0
  have a12 : a ≤ 12 := by rw [ha]; exact hb p f hp hf
  have b12 : b ≤ 12 := by
    rw [hbb]; split
    · exact hb o f (by assumption) hf
    · omega
  obtain ⟨st1, st2, st3, st4⟩ := hst_start H
  obtain ⟨N1, x1, x2, x3, x4⟩ := sk_9 (g := g) (ec := ec) hb hp hf 12 (Nat.le_refl _) 100000 (by omega) (j_up N 66 77 (-1 : Int32)) 12 (by rw [ju_row _ _ (by omega)]; exact e68) (by rw [ju_same]; decide) ⟨Nat.le_refl _, Nat.le_refl _, fun h => absurd h (by omega), fun x y1 y2 => absurd y2 (by omega)⟩
  rw [← ho] at x4
  have e68' : twRep (N1 68) h := by rw [x2 68 (by omega), ju_row _ _ (by omega)]; exact e68
  obtain ⟨N2, y1, y2, y3⟩ := sk_90 (l1 := nI p) (l2 := nI f) (l3 := nI g) (l4 := nI ec) (l5 := nI a) (l6 := nI b) 169 0 (by omega) 100000 (by omega) N1 (fun x hx => absurd hx (by omega))
  generalize hN3 : j_up (j_up (j_up (j_up N2 114 0 (nI (13 * a + b))) 118 (13 * a + b) (1 : Int32)) 117 (13 * a + b) (0 : Int32)) 66 76 (-1 : Int32) = N3
  have r3 : ∀ c, c ≠ 66 → (c < 114 ∨ 118 < c) → N3 c = N c := by
    intro c c1 c2
    rw [← hN3, ju_row _ _ (by omega), ju_row _ _ (by omega), ju_row _ _ (by omega), ju_row _ _ (by omega), y2 c (by omega), x2 c c1, ju_row _ _ c1]
  have r366 : ∀ k, k ≠ 76 → k ≠ 77 → N3 66 k = N 66 k := by
    intro k k1 k2
    rw [← hN3, ju_cell _ _ k1, ju_row _ _ (by omega), ju_row _ _ (by omega), ju_row _ _ (by omega), y2 66 (by omega), x3 k k2, ju_cell _ _ k2]
  have r377 : N3 66 77 = ov o := by
    rw [← hN3, ju_cell _ _ (by omega), ju_row _ _ (by omega), ju_row _ _ (by omega), ju_row _ _ (by omega), y2 66 (by omega)]; exact x4
  have r376 : N3 66 76 = -nI 1 := by rw [← hN3, ju_same]; rfl
  have hP3 : RP M sm o (hst h p o f g (13 * a + b)) N3 := ⟨⟨fun c k hc => by rw [r3 c (by omega) (by omega)]; exact hN.1 c k hc, by rw [r366 18 (by omega) (by omega)]; exact hN.2.1, by rw [r366 8 (by omega) (by omega)]; exact hN.2.2⟩, by rw [r366 50 (by omega) (by omega)]; exact h50, by rw [r3 68 (by omega) (by omega)]; exact twRep_cong e68 st4, r377⟩
  have hR3 : RR N3 (bst (13 * a + b)) := by
    refine ⟨fun k hk => ?_, fun x hx => ?_, fun x hx => ?_⟩
    · have : k = 0 := by
        have : k < 1 := hk
        omega
      subst this
      rw [← hN3, ju_row _ _ (by omega), ju_row _ _ (by omega), ju_row _ _ (by omega), ju_same]; rfl
    · rw [← hN3, ju_row _ _ (by omega), ju_row _ _ (by omega), ju_at]
      show (if x = 13 * a + b then (1 : Int32) else j_up N2 114 0 (nI (13 * a + b)) 118 x) = bI (decide (x = 13 * a + b))
      rw [ju_row _ _ (by omega)]
      by_cases c : x = 13 * a + b
      · rw [if_pos c]; simp [c]; rfl
      · rw [if_neg c, y3 x hx]; simp [c]; rfl
    · have hx' : decide (x = 13 * a + b) = true := hx
      have e : x = 13 * a + b := by simpa using hx'
      refine ⟨?_, fun hd => absurd rfl hd⟩
      rw [e, ← hN3, ju_row _ _ (by omega), ju_same]; rfl
  obtain ⟨N4, s2, z1, z2, z3, z4, z5, z6, z7, z8⟩ := sk_157 (ec := ec) W H 170 0 (by omega) 100000 (by omega) N3 (bst (13 * a + b)) (13 * a + b) (bst_ok a12 b12) st1 hP3 hR3 r376 (Nat.zero_le _)
  have hsk : brun (UU M ln E h sm p o f g ec) 170 0 (bst (13 * a + b)) = skR M ln E h sm p o f g ec a b := rfl
  rw [hsk] at z5 z6 z7 z8
  -- back to the start
  obtain ⟨N5, b1, b2, b3⟩ := put_eq H st1 z3 z4
  rw [st2] at b1
  have fin : ∀ N6, RP M sm o (hst h p o f g (13 * a + b)) N6 → (∀ c, c ≠ 68 → N6 c = N4 c) → (∀ k, 192 ≤ k → N6 68 k = N4 68 k) → fX12_seeks_314 N6 = some (skV (skR M ln E h sm p o f g ec a b), N6) ∧ zSm N N6 ∧ N6 68 = N 68 ∧ N6 66 77 = ov o ∧ N6 66 76 = eoV (skR M ln E h sm p o f g ec a b).1 ∧ RR N6 (skR M ln E h sm p o f g ec a b).2 := by
    intro N6 g1 g2 g3
    have g76 : N6 66 76 = eoV (skR M ln E h sm p o f g ec a b).1 := by rw [g2 66 (by omega)]; exact z7
    have gR : RR N6 (skR M ln E h sm p o f g ec a b).2 := RR_68 z5 (fun a a1 a2 => g2 a (by omega))
    have gz : zSm N N6 := by
      refine ⟨fun c h1 h2 h3 h4 => ?_, fun k hk => ?_, fun k hk => ?_⟩
      · rw [g2 c h3, z2.1 c h1 h2 h3 h4, r3 c h2 h4]
      · rw [g2 66 (by omega), z2.2.1 k hk, r366 k (by omega) (by omega)]
      · rw [g3 k hk, z2.2.2 k hk, r3 68 (by omega) (by omega)]
    refine ⟨?_, gz, ?_, g1.2.2.2, g76, gR⟩
    · unfold fX12_seeks_314 skV
      rw [g76]
      cases e : (skR M ln E h sm p o f g ec a b).1 with
      | none =>
        show (if 0 ≤ -nI 1 then _ else some ((-1 : Int32), N6)) = some (-nI 1, N6)
        rw [if_neg (by decide)]; rfl
      | some e1 =>
        obtain ⟨w1, w2⟩ := z8 e1 e
        show (if 0 ≤ nI e1 then j_g (j_in (nI e1) 169) (some (N6 117 (nI e1).toNatClampNeg, N6)) else _) = some (nI (bD (skR M ln E h sm p o f g ec a b).2 e1), N6)
        rw [if_pos (show (0 : Int32) ≤ nI e1 from nI_le (a := 0) (Nat.zero_le _) (by omega)), jg_in (by omega) (by decide), nI_clamp (by omega), (gR.2.2 e1 w2).1]
    · refine row_eq e68 (twRep_cong g1.2.2.1 (fun p' q' u1 u2 => (st4 p' q' u1 u2).symm)) (fun k hk => ?_)
      rw [g3 k hk, z2.2.2 k hk, r3 68 (by omega) (by omega)]
  have hstart : fX12_seeks (nI p) (nI f) (nI g) (nI ec) N = fX12_seeks_286 (nI p) (nI f) (nI g) (nI a) (nI b) N4 := by
    unfold fX12_seeks
    rw [show (11 : Int32) = nI 12 + (-1 : Int32) by decide, x1]
    unfold fX12_seeks_47
    rw [at16, jg_in (by omega) (by decide), nI_clamp (by omega), e68' p f hp hf, x4, ← ha]
    have h112 : fX12_seeks_90 100000 (nI p) (nI f) (nI g) (nI ec) (nI a) (nI b) (0 : Int32) N1 = fX12_seeks_286 (nI p) (nI f) (nI g) (nI a) (nI b) N4 := by
      refine Eq.trans y1 ?_
      unfold fX12_seeks_112
      have hat : (13 : Int32) * nI a + nI b = nI (13 * a + b) := by
        show nI 13 * nI a + nI b = _
        rw [pk_mul, nI_add]
      have g0 : ∀ {α : Type} (z : Option α), j_g (j_in (0 : Int32) 169) z = z := fun z => jg_in (k := 0) (N := 169) (by omega) (by decide)
      rw [hat, g0, jg_in (show 13 * a + b < 169 by omega) (by decide), jg_in (show 13 * a + b < 169 by omega) (by decide), nI_clamp (show 13 * a + b < 2 ^ 31 by omega), show (0 : Int32).toNatClampNeg = 0 by decide, hN3]
      exact z1
    by_cases c : o < 12
    · have eo : ov o = nI o := by unfold ov; rw [if_pos c]
      rw [eo, if_pos (show (0 : Int32) ≤ nI o from nI_le (a := 0) (Nat.zero_le _) (by omega)), at16, jg_in (by omega) (by decide), nI_clamp (by omega), e68' o f c hf]
      rw [if_pos c] at hbb
      rw [← hbb]
      exact h112
    · have eo : ov o = -nI 1 := by unfold ov; rw [if_neg c]
      rw [if_neg c] at hbb
      rw [eo, if_neg (show ¬ (0 : Int32) ≤ -nI 1 by decide)]
      have e0 : (0 : Int32) = nI b := by rw [hbb]; rfl
      rw [show fX12_seeks_90 100000 (nI p) (nI f) (nI g) (nI ec) (nI a) (0 : Int32) (0 : Int32) N1 = fX12_seeks_90 100000 (nI p) (nI f) (nI g) (nI ec) (nI a) (nI b) (0 : Int32) N1 by rw [← e0]]
      exact h112
  rw [hstart]
  unfold fX12_seeks_286
  rw [b1, Option.bind_some, b2]
  rcases b3 with ⟨c3, q1, q2, q3⟩ | ⟨c3, N6, q0, q1, q2, q3⟩
  · rw [if_pos (by rw [ov_neg ho12]; exact c3)]
    obtain ⟨g1, g2, g3, g4, g5, g6⟩ := fin N5 q1 q2 q3
    exact ⟨N5, g1, g2, g3, g4, g5, g6, z6, z8⟩
  · rw [st3] at q0
    rw [if_neg (by rw [ov_neg ho12]; simpa using c3), show ov o = nI o by unfold ov; rw [if_pos c3], q0, Option.bind_some]
    obtain ⟨g1, g2, g3, g4, g5, g6⟩ := fin N6 q1 q2 q3
    rw [show ov o = nI o by unfold ov; rw [if_pos c3]] at g4
    exact ⟨N6, g1, g2, g3, g4, g5, g6, z6, z8⟩
