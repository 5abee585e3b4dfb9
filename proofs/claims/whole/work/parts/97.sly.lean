theorem pos_nI {x : Int32} (h : ¬ x < 0) : ∃ i, i < 2 ^ 31 ∧ x = nI i := by
  rw [fa_lt] at h
  have h1 := fb_rng x
  have h0 : (0 : Int32).toInt = 0 := by decide
  rw [h0] at h
  refine ⟨x.toInt.toNat, by omega, ?_⟩
  rw [fa_eq, nI_toInt (by omega)]
  omega
/-- both rows, step by step from the end -/
theorem ch_eq {a b : Nat} {B : Bf} {I N : JI} {p o w i : Nat} {C : Nat → Prop} (hC : ∀ x, C x → x < 169 ∧ bm B x = true ∧ (bD B x ≠ 0 → I 28 x = nI (bS B x) ∧ I 29 x = nI (bV B x) ∧ C (bS B x) ∧ bD B (bS B x) + 1 = bD B x)) (hB : BI a b B) (hR : RR N B) (e9 : I 20 9 = nI p) (e10 : I 20 10 = ov o) (e77 : N 66 77 = ov o) (hw : w ≤ 2) : ∀ m x t, C x → m < bD B x → t + m ≤ 23 → i + m < 2 ^ 30 → ∀ n n', m < n → m < n' → ∃ v, fX10_stepTells_8 n (nI (t + m)) (nI w) (nI x) (nI t) I = some v ∧ fX12_slyRow_71 n' (nI p) (nI i) (nI w) (nI x) (nI (i + m)) N = some (v, N) := by
  intro m
  induction m with
  | zero =>
    intro x t hx hd ht hi n n' hn hn'
    obtain ⟨k, rfl⟩ := suc_of hn
    obtain ⟨k', rfl⟩ := suc_of hn'
    obtain ⟨x1, x2, x3⟩ := hC x hx
    obtain ⟨-, y2, -, -⟩ := x3 (by omega)
    obtain ⟨-, z2⟩ := (hR.2.2 x x2).2 (by omega)
    rcases hB.2.2.2.1 x x2 with e | ⟨-, -, w', n', fm', w1, n1, n2, f1, ev⟩
    · omega
    rw [ev] at y2 z2
    have er : rmv (39 * w' + 3 * n' + fm') = 36 * w' + (3 * n' - 3) + fm' := by
      unfold rmv
      have hw2 : w' = 0 ∨ w' = 1 := by omega
      rcases hw2 with rfl | rfl <;> omega
    rw [er] at z2
    have d3 : nI (39 * w' + 3 * n' + fm') / (3 : Int32) = nI (13 * w' + n') := by
      rw [show nI (39 * w' + 3 * n' + fm') / (3 : Int32) = nI ((39 * w' + 3 * n' + fm') / 3) from pk_div (d := 3) (by omega) (by omega) (by omega), show (39 * w' + 3 * n' + fm') / 3 = 13 * w' + n' by omega]
    have r13 : nI (13 * w' + n') - nI (13 * w' + n') / (13 : Int32) * (13 : Int32) = nI n' := by
      rw [show nI (13 * w' + n') - nI (13 * w' + n') / (13 : Int32) * (13 : Int32) = nI ((13 * w' + n') % 13) from pk_rem (d := 13) (by omega) (by omega) (by omega), show (13 * w' + n') % 13 = n' by omega]
    have r3 : nI (39 * w' + 3 * n' + fm') - nI (39 * w' + 3 * n' + fm') / (3 : Int32) * (3 : Int32) = nI fm' := by
      rw [show nI (39 * w' + 3 * n' + fm') - nI (39 * w' + 3 * n' + fm') / (3 : Int32) * (3 : Int32) = nI ((39 * w' + 3 * n' + fm') % 3) from pk_rem (d := 3) (by omega) (by omega) (by omega), show (39 * w' + 3 * n' + fm') % 3 = fm' by omega]
    have q36 : nI (36 * w' + (3 * n' - 3) + fm') - nI (36 * w' + (3 * n' - 3) + fm') / (36 : Int32) * (36 : Int32) = nI ((3 * n' - 3) + fm') := by
      rw [show nI (36 * w' + (3 * n' - 3) + fm') - nI (36 * w' + (3 * n' - 3) + fm') / (36 : Int32) * (36 : Int32) = nI ((36 * w' + (3 * n' - 3) + fm') % 36) from pk_rem (d := 36) (by omega) (by omega) (by omega)]
      congr 1
      have hw2 : w' = 0 ∨ w' = 1 := by omega
      rcases hw2 with rfl | rfl <;> omega
    have q3 : nI ((3 * n' - 3) + fm') / (3 : Int32) + (1 : Int32) = nI n' := by
      rw [show nI ((3 * n' - 3) + fm') / (3 : Int32) = nI (((3 * n' - 3) + fm') / 3) from pk_div (d := 3) (by omega) (by omega) (by omega), show nI (((3 * n' - 3) + fm') / 3) + (1 : Int32) = nI (((3 * n' - 3) + fm') / 3 + 1) from nI_add _ 1, show ((3 * n' - 3) + fm') / 3 + 1 = n' by omega]
    have p3 : nI (36 * w' + (3 * n' - 3) + fm') - nI (36 * w' + (3 * n' - 3) + fm') / (3 : Int32) * (3 : Int32) = nI fm' := by
      rw [show nI (36 * w' + (3 * n' - 3) + fm') - nI (36 * w' + (3 * n' - 3) + fm') / (3 : Int32) * (3 : Int32) = nI ((36 * w' + (3 * n' - 3) + fm') % 3) from pk_rem (d := 3) (by omega) (by omega) (by omega), show (36 * w' + (3 * n' - 3) + fm') % 3 = fm' by omega]
    rw [fX10_stepTells_8, if_pos (nI_le (by omega) (by omega)), fX12_slyRow_71, if_pos (nI_le (by omega) (by omega))]
    unfold fX10_stepTells_34 fX12_slyRow_93
    rw [jg_in x1 (by decide), jg_in x1 (by decide), nI_clamp (by omega), y2, z2, r3, d3, r13, q36, q3, p3, e9, e10, e77]
    have hw3 : w = 0 ∨ w = 1 ∨ w = 2 := by omega
    rcases hw3 with rfl | rfl | rfl
    · rw [if_pos (show nI 0 = (0 : Int32) from rfl), if_pos (show nI 0 = (0 : Int32) from rfl)]
      have hw2 : w' = 0 ∨ w' = 1 := by omega
      rcases hw2 with rfl | rfl
      · have c1 : ¬ (13 : Int32) ≤ nI (13 * 0 + n') := nI_ge (b := 13) (by omega) (by omega)
        have c2 : ¬ (36 : Int32) ≤ nI (36 * 0 + (3 * n' - 3) + fm') := nI_ge (b := 36) (by omega) (by omega)
        rw [if_neg c1, if_neg c2]
        exact ⟨nI p, rfl, rfl⟩
      · have c1 : (13 : Int32) ≤ nI (13 * 1 + n') := nI_le (a := 13) (by omega) (by omega)
        have c2 : (36 : Int32) ≤ nI (36 * 1 + (3 * n' - 3) + fm') := nI_le (a := 36) (by omega) (by omega)
        rw [if_pos c1, if_pos c2]
        exact ⟨ov o, rfl, rfl⟩
    · rw [if_neg (show ¬ nI 1 = (0 : Int32) by decide), if_neg (show ¬ nI 1 = (0 : Int32) by decide), if_pos (show nI 1 = (1 : Int32) from rfl), if_pos (show nI 1 = (1 : Int32) from rfl)]
      exact ⟨nI n', rfl, rfl⟩
    · rw [if_neg (show ¬ nI 2 = (0 : Int32) by decide), if_neg (show ¬ nI 2 = (0 : Int32) by decide), if_neg (show ¬ nI 2 = (1 : Int32) by decide), if_neg (show ¬ nI 2 = (1 : Int32) by decide)]
      exact ⟨nI fm', rfl, rfl⟩
  | succ m ih =>
    intro x t hx hd ht hi n n' hn hn'
    obtain ⟨k, rfl⟩ := suc_of hn
    obtain ⟨k', rfl⟩ := suc_of hn'
    obtain ⟨x1, x2, x3⟩ := hC x hx
    obtain ⟨y1, -, y3, y4⟩ := x3 (by omega)
    obtain ⟨z1, -⟩ := (hR.2.2 x x2).2 (by omega)
    have c24 : ¬ (24 : Int32) ≤ nI t := nI_ge (b := 24) (by omega) (by omega)
    rw [fX10_stepTells_8, if_neg (nI_ge (by omega) (by omega)), if_neg c24, fX12_slyRow_71, if_neg (nI_ge (by omega) (by omega)), jg_in x1 (by decide), jg_in x1 (by decide), nI_clamp (by omega), y1, z1, show nI t + (1 : Int32) = nI (t + 1) from nI_add _ 1, show t + (m + 1) = t + 1 + m by omega, show i + (m + 1) = (i + m) + 1 by omega, pk_m1]
    exact ih (bS B x) (t + 1) y3 (by omega) (by omega) (by omega) k k' (by omega) (by omega)
theorem pE_of {N M : JI} (h : rg pE N = rg pE M) : ∀ a k, pE a k = true → N a k = M a k := by
  intro a k hp
  have := congrFun (congrFun h a) k
  rwa [rg_in hp, rg_in hp] at this
theorem nS_of {N M : JI} (h : rg pE N = rg pE M) : nS M N ∧ N 68 = M 68 := by
  have e := pE_of h
  refine ⟨⟨fun a k ha => e a k (by unfold pE; simp; omega), e 66 18 (by decide), e 66 8 (by decide)⟩, funext fun k => e 68 k (by unfold pE; simp)⟩
theorem xSm_z {N N' : JI} (h : zSm N N') (e : N' 68 = N 68) : xSm N N' := by
  refine ⟨fun a h1 h2 => ?_, fun k hk => h.2.1 k (by omega)⟩
  by_cases c : a = 68
  · rw [c]; exact e
  · exact h.1 a (by omega) h2 c (by omega)
theorem sly_ok {M : JI} {L : JL} {S : JS} {X ln : Nat} {E : Nat → (Nat → Int32) → Int32} (W : WB M L S X ln E) {h : Nat → Nat → Nat} {p o f g a b : Nat} (H : HB h p o f g a b) (ho : o = fa_first (othP h p f) 12) {ec : Nat} (e68 : twRep (M 68) h) {I : JI} (hC : CC I p o f g ec) (hS : SR (skR M ln E h (nI 0) p o f g ec a b) (I 20 18) (I 20) (I 28) (I 29)) : cSly (I 20) (I 28) (I 29) (rg pE M) := by
  intro N hN h50
  obtain ⟨n1, n2⟩ := nS_of hN
  obtain ⟨N', a1, a2, a3, a4, a5, a6, a7, a8⟩ := sk_eq (ec := ec) W H ho n1 h50 (by rw [n2]; exact e68)
  generalize hr : skR M ln E h (nI 0) p o f g ec a b = r at a1 a5 a6 a7 a8 hS
  rw [hC.1, hC.2.2.1, hC.2.2.2.1, hC.2.2.2.2]
  rcases hS with ⟨s1, s2⟩ | ⟨e, s1, s2, s3, s4, s5, C, s6, s7⟩
  · refine ⟨N', ?_, xSm_z a2 a3, fun i w hw hi hi2 => ?_⟩
    · rw [a1, s2]
      unfold skV
      rw [s1]
    · rw [s2, nm_nlt hi2] at hi
      exact absurd hi (by simp)
  · refine ⟨N', ?_, xSm_z a2 a3, fun i w hw hi hi2 => ?_⟩
    · rw [a1, s2]
      unfold skV
      rw [s1]
    · rw [s2] at hi ⊢
      have hid : i < bD r.2 e := by
        by_cases c : i < bD r.2 e
        · exact c
        · exact absurd hi (nI_nlt (by omega) (by omega))
      have e1 : nI (bD r.2 e) - (1 : Int32) = nI (bD r.2 e - 1) := pk_sub (b := 1) (by omega)
      have e2 : nI (bD r.2 e - 1) - nI i = nI (0 + (bD r.2 e - 1 - i)) := by rw [pk_sub (by omega), Nat.zero_add]
      have e3 : nI (bD r.2 e - 1) = nI (i + (bD r.2 e - 1 - i)) := by congr 1; omega
      have a5' : N' 66 76 = nI e := by rw [a5, s1]; rfl
      have hI : ∀ J : JI, J 20 = I 20 → J 28 = I 28 → J 29 = I 29 → ∃ v, fX10_stepTells_8 100000 (nI (0 + (bD r.2 e - 1 - i))) (nI w) (nI e) (nI 0) J = some v ∧ fX12_slyRow_71 100000 (nI p) (nI i) (nI w) (nI e) (nI (i + (bD r.2 e - 1 - i))) N' = some (v, N') := by
        intro J j1 j2 j3
        exact ch_eq (C := C) (I := J) (o := o) (fun x hx => by rw [j2, j3]; exact s7 x hx) a7 a6 (by rw [j1]; exact hC.1) (by rw [j1]; exact hC.2.1) a4 hw (bD r.2 e - 1 - i) e 0 s6 (by omega) (by omega) (by omega) 100000 100000 (by omega) (by omega)
      obtain ⟨v, v1, v2⟩ := hI I rfl rfl rfl
      refine ⟨v, fun J j1 j2 j3 => ?_, ?_⟩
      · obtain ⟨v', w1, w2⟩ := hI J j1 j2 j3
        rw [w2] at v2
        have : v' = v := by
          simp only [Option.some.injEq, Prod.mk.injEq] at v2; exact v2.1
        rw [e1, e2]
        unfold fX10_stepTells
        rw [j1, s5, ← this]
        exact w1
      · rw [a5', e1, e3]
        exact v2
theorem hb_inv {t : Int32} {r68 : Nat → Int32} (h2 : vTw t r68) {p f g : Nat} (hp : p < 12) (hf : f < 16) (hg : g < 16) (hne : f ≠ g) : HB (hN r68) p (fa_first (othP (hN r68) p f) 12) f g (hN r68 p f) (if fa_first (othP (hN r68) p f) 12 < 12 then hN r68 (fa_first (othP (hN r68) p f) 12) f else 0) := by
  refine ⟨⟨hp, hf, hg, hne, fa_first_le _ _, fun e => ?_⟩, fun p q a b => (h2.1 p q a b).2, fun p hp => by rw [h2.2 p hp]; split <;> omega, rfl, rfl⟩
  have := fa_first_yes (othP (hN r68) p f) 12 (by omega)
  rw [e] at this
  unfold othP at this
  simp at this
theorem fr_cases (l1 l2 l3 l4 : Int32) (I : JI) (L : JL) (D : JG) (S : JS) : ((I 20 9 = l1 ∧ I 20 11 = l2 ∧ I 20 12 = l3 ∧ I 20 13 = l4 ∧ I 20 19 = I 1 9) ∧ fX10_findRow l1 l2 l3 l4 I L D S = some (I 20 18, I, D)) ∨ fX10_findRow l1 l2 l3 l4 I L D S = fX10_findRow_59 l1 l2 l3 l4 I L D S := by
  unfold fX10_findRow fX10_findRow_38
  by_cases c1 : I 20 9 = l1
  · rw [if_pos c1]
    by_cases c2 : I 20 11 = l2
    · rw [if_pos c2]
      by_cases c3 : I 20 12 = l3
      · rw [if_pos c3]
        by_cases c4 : I 20 13 = l4
        · rw [if_pos c4, if_neg (by decide)]
          by_cases c5 : I 20 19 = I 1 9
          · rw [if_pos c5]; exact Or.inl ⟨⟨c1, c2, c3, c4, c5⟩, rfl⟩
          · rw [if_neg c5]; exact Or.inr rfl
        · rw [if_neg c4, if_pos rfl]; exact Or.inr rfl
      · rw [if_neg c3, if_pos rfl]; exact Or.inr rfl
    · rw [if_neg c2, if_pos rfl]; exact Or.inr rfl
  · rw [if_neg c1, if_pos rfl]; exact Or.inr rfl
theorem fnd_eq {n : Nat} {M : JI} {L : JL} {D : JG} {S : JS} (h : Inv n M L D S) {p f g ec : Nat} (hp : p < 12) (hf : f < 16) (hg : g < 16) (hne : f ≠ g) (hpos : 1 ≤ hN (M 68) p f) : ∃ I' D', fX10_findRow (nI p) (nI f) (nI g) (nI ec) M L D S = some (I' 20 18, I', D') ∧ (∀ c, (c < 16 ∨ c = 19 ∨ c = 21 ∨ 29 < c) → I' c = M c) ∧ dS D D' ∧ I' 20 19 = M 1 9 ∧ (I' 20 9 = nI p ∧ I' 20 11 = nI f ∧ I' 20 12 = nI g ∧ I' 20 13 = nI ec) ∧ cSly (I' 20) (I' 28) (I' 29) (rg pE M) := by
  obtain ⟨X, ln, E, x1, x2, W⟩ := wb_inv h
  obtain ⟨h1, h2, h3, h4, h5, h6, h7, h8, h9, h10, h11, h12, h13, h14, h15, h16, h17, h18, h19⟩ := h
  rcases fr_cases (nI p) (nI f) (nI g) (nI ec) M L D S with ⟨⟨c1, c2, c3, c4, c5⟩, e⟩ | e
  · exact ⟨M, D, e, fun _ _ => rfl, dS_rfl D, c5, ⟨c1, c2, c3, c4⟩, h17 c5⟩
  · have H := hb_inv h2 hp hf hg hne
    obtain ⟨I', D', a1, a2, a3, a4, a5, a6⟩ := cfr_59 (ec := ec) W H rfl hpos h3 x2
    exact ⟨I', D', e.trans a1, a2, a3, a4, ⟨a5.1, a5.2.2.1, a5.2.2.2.1, a5.2.2.2.2⟩, sly_ok W H rfl (tw_rep h2) a5 a6⟩
theorem cgr_cases {n : Nat} {M : JI} {L : JL} {D : JG} {S : JS} (h : Inv n M L D S) (x1 x2 x3 x4 : Int32) : (fX11_canGoRound x1 x2 x3 x4 M = some (nI 0) ∧ ∀ N : JI, N 67 = M 67 → N 68 = M 68 → fX12_isSly x1 x2 x3 x4 N = some (nI 0)) ∨ ∃ p f g ec, p < 12 ∧ f < 16 ∧ g < 16 ∧ f ≠ g ∧ ec ≤ 800 ∧ 1 ≤ hN (M 68) p f ∧ x1 = nI p ∧ x2 = nI f ∧ x3 = nI g ∧ x4 = nI ec ∧ fX11_canGoRound x1 x2 x3 x4 M = some (nI 1) ∧ ∀ N : JI, N 67 = M 67 → N 68 = M 68 → fX12_isSly x1 x2 x3 x4 N = some (nI 1) := by
  obtain ⟨h1, h2, h3, h4, h5, h6, h7, h8, h9, h10, h11, h12, h13, h14, h15, h16, h17, h18, h19⟩ := h
  have hc : ∀ N : JI, N 67 = M 67 → fX12_isParcel x1 N = fX12_isParcel x1 M := fun N e => isp_cong e
  rcases tl_cases h1 rfl rfl x1 with ⟨y1, y2, -⟩ | ⟨p, hp, rfl, hb, y1, y2⟩
  · left
    refine ⟨by unfold fX11_canGoRound; rw [y1]; rfl, fun N e1 e2 => ?_⟩
    unfold fX12_isSly
    rw [hc N e1, y2]; rfl
  · rcases two_cases x2 x3 with ⟨z1, z2⟩ | ⟨f, g, hf, hg, hne, rfl, rfl, z1, z2, z3, z4⟩
    · left
      refine ⟨by unfold fX11_canGoRound; rw [y1, Option.bind_some, if_neg (by decide), z1]; rfl, fun N e1 e2 => ?_⟩
      unfold fX12_isSly
      rw [hc N e1, y2, Option.bind_some, if_neg (by decide)]
      rcases z2 with z2 | ⟨z2, z3⟩ | ⟨z2, z3, z4⟩
      · rw [z2]; rfl
      · rw [z2, Option.bind_some, if_neg (by decide), z3]; rfl
      · rw [z2, Option.bind_some, if_neg (by decide), z3, Option.bind_some, if_neg (by decide), if_pos z4]; rfl
    · have hle := (h2.1 p f hp hf).2
      have hz : ∀ N : JI, N 67 = M 67 → N 68 = M 68 → fX12_isSly (nI p) (nI f) (nI g) x4 N = if nI (hN (M 68) p f) ≤ 0 then some (0 : Int32) else (fX12_within x4 (nI 0) (nI 800)).bind (fun q4 => if q4 = 0 then some (0 : Int32) else some (1 : Int32)) := by
        intro N e1 e2
        unfold fX12_isSly
        rw [hc N e1, y2, Option.bind_some, if_neg (by decide), z2, Option.bind_some, if_neg (by decide), z3, Option.bind_some, if_neg (by decide), if_neg (fun e => hne ((nI_eq (by omega) (by omega)).mp e)), at16, jg_in (by omega) (by decide), nI_clamp (by omega), e2, (h2.1 p f hp hf).1]
        rfl
      have hy : fX11_canGoRound (nI p) (nI f) (nI g) x4 M = (fX11_isEach x4).bind (fun q3 => if q3 = 0 then some (0 : Int32) else if nI (hN (M 68) p f) ≤ 0 then some (0 : Int32) else some (1 : Int32)) := by
        unfold fX11_canGoRound
        rw [y1, Option.bind_some, if_neg (by decide), z1, Option.bind_some, if_neg (by decide), of_eq (M := M) (t := 7) h3.1 hp hf]; rfl
      by_cases z : hN (M 68) p f = 0
      · left
        have z0 : nI (hN (M 68) p f) ≤ (0 : Int32) := by rw [z]; decide
        refine ⟨?_, fun N e1 e2 => by rw [hz N e1 e2, if_pos z0]; rfl⟩
        rw [hy]
        unfold fX11_isEach
        split
        · rfl
        · split
          · rfl
          · rw [Option.bind_some, if_neg (by decide)]
            first | rw [if_pos z0]; rfl | rfl
      · have z0 : ¬ nI (hN (M 68) p f) ≤ (0 : Int32) := nI_ge (a := 0) (b := hN (M 68) p f) (by omega) (by omega)
        rcases wi_cases x4 0 800 (by omega) (by omega) with ⟨w1, w2⟩ | ⟨ec, e1, e2, rfl, w1⟩
        · left
          refine ⟨?_, fun N e1 e2 => by rw [hz N e1 e2, if_neg z0, w1]; rfl⟩
          rw [hy]
          unfold fX11_isEach
          rcases w2 with w2 | ⟨w2, w3⟩
          · have w2' : x4 < (0 : Int32) := w2
            rw [if_pos w2']; rfl
          · have w2' : ¬ x4 < (0 : Int32) := w2
            have w3' : (800 : Int32) < x4 := w3
            rw [if_neg w2', if_pos w3']; rfl
        · right
          refine ⟨p, f, g, ec, hp, hf, hg, hne, e2, by omega, rfl, rfl, rfl, rfl, ?_, fun N e1 e2 => by rw [hz N e1 e2, if_neg z0, w1]; rfl⟩
          rw [hy]
          unfold fX11_isEach
          have w2' : ¬ nI ec < (0 : Int32) := nI_pos (by omega)
          have w3' : ¬ (800 : Int32) < nI ec := nI_nlt (a := 800) (by omega) (by omega)
          rw [if_neg w2', if_neg w3', Option.bind_some, if_neg (by decide), if_neg z0]; rfl
/-- after a row was searched for by both -/
theorem inv_sly {n : Nat} {M : JI} {L : JL} {D : JG} {S : JS} (h : Inv n M L D S) {I : JI} {D' : JG} (f1 : ∀ c, (c < 16 ∨ c = 19 ∨ c = 21 ∨ 29 < c) → I c = M c) (hD : dS D D') (hF : I 20 19 = M 1 9) (hS : cSly (I 20) (I 28) (I 29) (rg pE M)) {N' : JI} (hx : xSm (j_up (j_up I 66 0 (0 : Int32)) 66 50 (0 : Int32)) N') : Inv (n + 1) N' L D' S := by
  have r : ∀ c, (c < 86 ∨ (95 < c ∧ c < 114) ∨ 120 < c) → c ≠ 66 → N' c = I c := fun c h1 h2 => by rw [hx.1 c h1 h2, ju_row _ _ h2, ju_row _ _ h2]
  have hh := h
  obtain ⟨h1, h2, h3, h4, h5, h6, h7, h8, h9, h10, h11, h12, h13, h14, h15, h16, h17, h18, h19⟩ := hh
  refine inv_gen h (fun c h1 h2 => by rw [r c (by omega) h2, f1 c (by omega)]) (fun k k0 hk => ?_) (by rw [r 30 (by omega) (by omega), f1 30 (by omega)]) (hD.1 42 (by omega)) (hD.1 43 (by omega)) (hD.1 31 (by omega)) (hD.1 0 (by omega)) (hD.2 5 (by omega) (by omega)) rfl rfl ?_ ?_ ?_ ?_
  · rw [hx.2 k hk, ju_cell _ _ (by omega), ju_cell _ _ k0, f1 66 (by omega)]
  · rw [r 20 (by omega) (by omega), r 30 (by omega) (by omega), r 33 (by omega) (by omega), hF, f1 30 (by omega), f1 33 (by omega)]
    obtain ⟨c, c1, c2, c3, c4, c5⟩ := vChg_n h11
    exact ⟨c, c1, c2, Or.inr ⟨c, Nat.le_refl _, c2⟩, c4, c5⟩
  · intro _
    rw [r 20 (by omega) (by omega), r 28 (by omega) (by omega), r 29 (by omega) (by omega)]
    exact hS
  · rw [r 30 (by omega) (by omega), f1 30 (by omega)]; exact h18
  · rw [r 33 (by omega) (by omega), f1 33 (by omega)]; exact h19
theorem op_sly {n : Nat} {M : JI} {L : JL} {D : JG} {S : JS} (h : Inv n M L D S) (x1 x2 x3 x4 : Int32) : ∃ r M1 D1 M2, fX11_sly x1 x2 x3 x4 M L D S = some (r, M1, D1) ∧ fX12_sly x1 x2 x3 x4 M1 = some (r, M2) ∧ Inv (n + 1) M2 L D1 S := by
  rcases cgr_cases h x1 x2 x3 x4 with ⟨a1, a2⟩ | ⟨p, f, g, ec, hp, hf, hg, hne, hec, hpos, rfl, rfl, rfl, rfl, a1, a2⟩
  · refine ⟨-nI 1, M, D, j_up M 66 0 (nI 0), ?_, ?_, inv_thr h _⟩
    · unfold fX11_sly
      rw [a1]; rfl
    · unfold fX12_sly
      rw [a2 _ (ju_row _ _ (by omega)) (ju_row _ _ (by omega))]; rfl
  · obtain ⟨I', D', b1, b2, b3, b4, ⟨k1, k2, k3, k4⟩, b6⟩ := fnd_eq (ec := ec) h hp hf hg hne hpos
    have hrg : rg pE (j_up (j_up I' 66 0 (0 : Int32)) 66 50 (0 : Int32)) = rg pE M := by
      rw [rE_up (by omega), rE_up (by omega)]
      exact rg_cong (fun a k hp => by unfold pE at hp; simp at hp; rw [b2 a (by omega)])
    obtain ⟨N', c1, c2, -⟩ := b6 _ hrg (ju_same _ _ _ _)
    rw [k1, k2, k3, k4] at c1
    refine ⟨I' 20 18, I', D', N', ?_, ?_, inv_sly h b2 b3 b4 b6 c2⟩
    · unfold fX11_sly
      rw [a1, Option.bind_some, if_neg (by decide), b1]; rfl
    · unfold fX12_sly
      rw [a2 _ (by rw [ju_row _ _ (by omega), b2 67 (by omega)]) (by rw [ju_row _ _ (by omega), b2 68 (by omega)]), Option.bind_some, if_neg (by decide), c1]; rfl
theorem op_slyRow {n : Nat} {M : JI} {L : JL} {D : JG} {S : JS} (h : Inv n M L D S) (x1 x2 x3 x4 x5 x6 : Int32) : ∃ r M1 D1 M2, fX11_slyRow x1 x2 x3 x4 x5 x6 M L D S = some (r, M1, D1) ∧ fX12_slyRow x1 x2 x3 x4 x5 x6 M1 = some (r, M2) ∧ Inv (n + 1) M2 L D1 S := by
  have no : fX11_slyRow x1 x2 x3 x4 x5 x6 M L D S = some (-nI 1, M, D) → fX12_slyRow x1 x2 x3 x4 x5 x6 M = some (-nI 1, j_up M 66 0 (nI 0)) → ∃ r M1 D1 M2, fX11_slyRow x1 x2 x3 x4 x5 x6 M L D S = some (r, M1, D1) ∧ fX12_slyRow x1 x2 x3 x4 x5 x6 M1 = some (r, M2) ∧ Inv (n + 1) M2 L D1 S := fun a b => ⟨_, _, _, _, a, b, inv_thr h _⟩
  rcases cgr_cases h x1 x2 x3 x4 with ⟨a1, a2⟩ | ⟨p, f, g, ec, hp, hf, hg, hne, hec, hpos, rfl, rfl, rfl, rfl, a1, a2⟩
  · refine no ?_ ?_
    · unfold fX11_slyRow
      rw [a1]; rfl
    · unfold fX12_slyRow
      rw [a2 _ (ju_row _ _ (by omega)) (ju_row _ _ (by omega))]; rfl
  · have a2' := a2 (j_up M 66 0 (0 : Int32)) (ju_row _ _ (by omega)) (ju_row _ _ (by omega))
    rcases wi_cases x6 0 2 (by omega) (by omega) with ⟨w1, w2⟩ | ⟨w, e1, e2, rfl, w1⟩
    · have w1' : fX12_within x6 (0 : Int32) (2 : Int32) = some (nI 0) := w1
      refine no ?_ ?_
      · unfold fX11_slyRow
        rw [a1, Option.bind_some, if_neg (by decide)]
        rcases w2 with w2 | ⟨w2, w3⟩
        · have w2' : x6 < (0 : Int32) := w2
          rw [if_pos w2']; rfl
        · have w2' : ¬ x6 < (0 : Int32) := w2
          have w3' : ¬ x6 ≤ (2 : Int32) := by
            intro hle
            have w3'' : (2 : Int32) < x6 := w3
            rw [fa_le] at hle
            rw [fa_lt] at w3''
            omega
          rw [if_neg w2', if_neg w3']; rfl
      · unfold fX12_slyRow
        rw [a2', Option.bind_some, if_neg (by decide), w1']; rfl
    · have w1' : fX12_within (nI w) (0 : Int32) (2 : Int32) = some (nI 1) := w1
      obtain ⟨I', D', b1, b2, b3, b4, ⟨k1, k2, k3, k4⟩, b6⟩ := fnd_eq (ec := ec) h hp hf hg hne hpos
      have hrg : rg pE (j_up (j_up I' 66 0 (0 : Int32)) 66 50 (0 : Int32)) = rg pE M := by
        rw [rE_up (by omega), rE_up (by omega)]
        exact rg_cong (fun a k hp => by unfold pE at hp; simp at hp; rw [b2 a (by omega)])
      obtain ⟨N', c1, c2, c3⟩ := b6 _ hrg (ju_same _ _ _ _)
      rw [k1, k2, k3, k4] at c1
      rw [k1] at c3
      have hcls : ∀ K, (if x5 < 0 then (some ((-1 : Int32), I', D')) else (if x5 < I' 20 18 then ((fX10_stepTells ((I' 20 18 - (1 : Int32)) - x5) (nI w) I').bind (fun q3 => some (q3, I', D'))) else (some ((-1 : Int32), I', D')))) = K → fX11_slyRow (nI p) (nI f) (nI g) (nI ec) x5 (nI w) M L D S = K := by
        intro K hK
        unfold fX11_slyRow
        have z1 : ¬ nI w < (0 : Int32) := nI_pos (by omega)
        have z2 : nI w ≤ (2 : Int32) := nI_le (b := 2) e2 (by omega)
        rw [a1, Option.bind_some, if_neg (by decide), if_neg z1, if_pos z2, b1]
        exact hK
      have href : ∀ K, (if x5 < 0 then (some ((-1 : Int32), N')) else (if x5 < I' 20 18 then (fX12_slyRow_71 100000 (nI p) x5 (nI w) (N' 66 76) (I' 20 18 - (1 : Int32)) N') else (some ((-1 : Int32), N')))) = K → fX12_slyRow (nI p) (nI f) (nI g) (nI ec) x5 (nI w) I' = K := by
        intro K hK
        unfold fX12_slyRow
        rw [a2 _ (by rw [ju_row _ _ (by omega), b2 67 (by omega)]) (by rw [ju_row _ _ (by omega), b2 68 (by omega)]), Option.bind_some, if_neg (by decide), w1', Option.bind_some, if_neg (by decide), c1]
        exact hK
      have hinv := inv_sly h b2 b3 b4 b6 c2
      by_cases z1 : x5 < 0
      · exact ⟨-nI 1, I', D', N', hcls _ (by rw [if_pos z1]; rfl), href _ (by rw [if_pos z1]; rfl), hinv⟩
      · by_cases z2 : x5 < I' 20 18
        · obtain ⟨i, hi, rfl⟩ := pos_nI z1
          obtain ⟨v, v1, v2⟩ := c3 i w e2 z2 hi
          exact ⟨v, I', D', N', hcls _ (by rw [if_neg z1, if_pos z2, v1 I' rfl rfl rfl]; rfl), href _ (by rw [if_neg z1, if_pos z2, v2]), hinv⟩
        · exact ⟨-nI 1, I', D', N', hcls _ (by rw [if_neg z1, if_neg z2]; rfl), href _ (by rw [if_neg z1, if_neg z2]; rfl), hinv⟩
