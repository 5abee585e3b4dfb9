theorem rl_join {d x xa t k : Nat} {ra rb : List Nat} {Va Vb : FV} {st : JI → JI} (hx : x ≤ 3) (hxa : x ≤ xa) (hA : RPl d xa ra Va) (hB : RPl d (x + 1) rb Vb) (hst : ∀ (N : JI) (i c hi n : Nat), i < 36 → N 82 i = nI hi → hi ≤ 2000 → c < hi → N 83 c = nI k → fX12_worth_14 (n + 1) (nI i) (nI d) (nI c) N = fX12_worth_14 n (nI i) (nI d) (nI (c + 1)) (st N)) (hF : ∀ N, dF N (st N) d) (h94 : ∀ N, st N 94 d = N 94 d) (hpre : ∀ N, WPre (x + 1) (st N) d) (hk : ∀ N, (1 ≤ x → st N 86 d = N 86 d ∧ st N 87 d = N 87 d) ∧ (2 ≤ x → st N 88 d = N 88 d ∧ st N 89 d = N 89 d) ∧ (3 ≤ x → st N 90 d = N 90 d ∧ st N 91 d = N 91 d))
    (hv : ∀ N N' N2 va vb, WC xa N N' d va → wFr (x + 1) (st N') N2 d → WC (x + 1) (st N') N2 d vb → WC x N N2 d (bop t va vb)) : RPl d x (ra ++ (k :: rb)) (fun f => bop t (Va f) (Vb f)) := by
  intro i c hi N h36 e82 hh hs hc hn hp
  rw [List.length_append, List.length_cons] at hc
  rw [seg_app] at hs
  obtain ⟨s1, s2, s3⟩ := hs
  obtain ⟨N', a1, a2, a3⟩ := hA i c hi N h36 e82 hh s1 (by omega) hn ⟨fun g => hp.1 (by omega), fun g => hp.2.1 (by omega), fun g => hp.2.2.1 (by omega), fun g => hp.2.2.2 (by omega)⟩
  have a2' := wFr_weak a2 hxa
  obtain ⟨f1, f2, f3, f4, f5, f6, f7⟩ := a2'
  obtain ⟨g1, g2⟩ := hF N'
  obtain ⟨k1, k2, k3⟩ := hk N'
  have e1 : ∀ a, (a < 86 ∨ 94 < a) → st N' a = N a := fun a ha => by rw [g1 a ha, f1 a ha]
  obtain ⟨N2, b1, b2, b3⟩ := hB i (c + ra.length + 1) hi (st N') h36 (by rw [e1 82 (by omega)]; exact e82) hh (by rw [e1 83 (by omega)]; exact s3) (by omega) (by rw [h94, f3]; exact hn) (hpre N')
  have h95 : f95 (st N') = f95 N := by unfold f95; rw [e1 95 (by omega)]
  rw [h95] at b3
  refine ⟨N2, fun n => ?_, ?_, hv N N' N2 _ _ a3 b2 b3⟩
  · rw [List.length_append, List.length_cons, show n + (ra.length + (rb.length + 1)) = ((n + rb.length) + 1) + ra.length by omega, a1, hst N' i (c + ra.length) hi (n + rb.length) h36 (by rw [f1 82 (by omega)]; exact e82) hh (by omega) (by rw [f1 83 (by omega)]; exact s2), b1, show c + ra.length + 1 + rb.length = c + (ra.length + (rb.length + 1)) by omega]
  · obtain ⟨q1, q2, q3, q4, q5, q6, q7⟩ := b2
    refine ⟨fun a ha => by rw [q1 a ha, e1 a ha], fun a j h1 h2 h3 => by rw [q2 a j h1 h2 h3, g2 a j h1 h2 (by omega), f2 a j h1 h2 h3], by rw [q3, h94, f3], fun g => ?_, fun g => ?_, fun g => ?_, fun g => absurd g (by omega)⟩
    · rw [(q4 (by omega)).1, (q4 (by omega)).2, (k1 g).1, (k1 g).2]; exact f4 g
    · rw [(q5 (by omega)).1, (q5 (by omega)).2, (k2 g).1, (k2 g).2]; exact f5 g
    · rw [(q6 (by omega)).1, (q6 (by omega)).2, (k3 g).1, (k3 g).2]; exact f6 g
theorem lev_0 {t : Nat} (h : lev t = 0) : t = 28 ∨ t = 29 := by
  unfold lev at h
  by_cases c1 : t = 28 ∨ t = 29
  · exact c1
  · rw [if_neg c1] at h
    repeat' split at h
    all_goals omega
theorem lev_1 {t : Nat} (h : lev t = 1) : t = 60 ∨ t = 61 := by
  unfold lev at h
  repeat' split at h
  all_goals omega
theorem lev_2 {t : Nat} (h : lev t = 2) : t = 43 ∨ t = 45 := by
  unfold lev at h
  repeat' split at h
  all_goals omega
theorem lev_3 {t : Nat} (h : lev t = 3) : t = 42 := by
  unfold lev at h
  repeat' split at h
  all_goals omega
theorem te_r (N : JI) (d : Nat) : teS N d 86 d = cKep N d ∧ teS N d 87 d = N 87 d ∧ teS N d 88 d = N 88 d ∧ teS N d 89 d = 0 ∧ teS N d 90 d = 0 ∧ teS N d 91 d = 20 ∧ teS N d 92 d = N 92 d ∧ teS N d 93 d = 0 ∧ teS N d 94 d = N 94 d := by
  unfold teS suS
  refine ⟨?_, ?_, ?_, ?_, ?_, ?_, ?_, ?_, ?_⟩ <;> simp [j_up]
theorem su_r (N : JI) (d : Nat) : suS N d 86 d = N 86 d ∧ suS N d 87 d = N 87 d ∧ suS N d 88 d = N 88 d ∧ suS N d 89 d = N 89 d ∧ suS N d 90 d = cSum N d ∧ suS N d 91 d = N 91 d ∧ suS N d 92 d = N 92 d ∧ suS N d 93 d = 0 ∧ suS N d 94 d = N 94 d := by
  unfold suS
  refine ⟨?_, ?_, ?_, ?_, ?_, ?_, ?_, ?_, ?_⟩ <;> simp [j_up]
theorem rl_s0 {d t : Nat} {ra rb : List Nat} {Va Vb : FV} (hd : d ≤ 5) (ht : lev t = 0) (hA : RPl d 0 ra Va) (hB : RPl d 1 rb Vb) : RPl d 0 (ra ++ (rop t :: rb)) (fun f => bop t (Va f) (Vb f)) := by
  have hk : rop t = 26 ∨ rop t = 27 := by rcases lev_0 ht with rfl | rfl; exact Or.inl rfl; exact Or.inr rfl
  refine rl_join (st := fun N => j_up (teS N d) 87 d (nI (rop t))) (by omega) (Nat.le_refl _) hA hB (fun N i c hi n h36 e82 hh hc e => ?_) (fun N => dF_up (dF_te (dF_rfl N d)) (by omega) _) (fun N => by rw [ju_row _ _ (by omega)]; exact (te_r N d).2.2.2.2.2.2.2.2) (fun N => ⟨fun _ => by rw [ju_row _ _ (by omega)]; exact (te_r N d).2.2.2.2.2.2.2.1, fun _ => ⟨by rw [ju_row _ _ (by omega)]; exact (te_r N d).2.2.2.2.1, by rw [ju_row _ _ (by omega)]; exact (te_r N d).2.2.2.2.2.1⟩, fun _ => by rw [ju_row _ _ (by omega)]; exact (te_r N d).2.2.2.1, fun g => absurd g (by omega)⟩) (fun N => ⟨fun g => absurd g (by omega), fun g => absurd g (by omega), fun g => absurd g (by omega)⟩) (fun N N' N2 va vb h1 h2 h3 => ?_)
  · rw [w14 h36 e82 hc hh e]
    have hs : fX12_worth_194 (fX12_worth_14 n) (nI i) (nI d) (nI c) (nI (rop t)) N = fX12_worth_14 n (nI i) (nI d) (nI (c + 1)) (j_up (teS N d) 87 d (nI (rop t))) := by
      unfold fX12_worth_194
      rw [te_eq (by omega), Option.bind_some, jg_in (show d < 7 by omega) (by decide), nI_clamp (by omega), show nI c + (1 : Int32) = nI (c + 1) from nI_add _ 1]
    rcases hk with hk | hk
    · rw [hk] at hs ⊢
      exact hs
    · rw [hk] at hs ⊢
      exact hs
  · have h1' : cKep N' d = va := h1
    have h3' : cTst N2 d = vb := h3
    obtain ⟨-, -, -, q4, -⟩ := h2
    have e86 : N2 86 d = va := by rw [(q4 (by omega)).1, ju_row _ _ (by omega), (te_r N' d).1, h1']
    have e87 : N2 87 d = nI (rop t) := by rw [(q4 (by omega)).2, ju_same]
    show cKep N2 d = _
    unfold cKep bop
    rw [e86, e87, h3']
    rcases lev_0 ht with rfl | rfl
    · rfl
    · rfl
theorem rl_s1 {d t : Nat} {ra rb : List Nat} {Va Vb : FV} (hd : d ≤ 5) (ht : lev t = 1) (hA : RPl d 2 ra Va) (hB : RPl d 2 rb Vb) : RPl d 1 (ra ++ (rop t :: rb)) (fun f => bop t (Va f) (Vb f)) := by
  have hk : rop t = 24 ∨ rop t = 25 := by rcases lev_1 ht with rfl | rfl; exact Or.inl rfl; exact Or.inr rfl
  refine rl_join (st := fun N => j_up (j_up (j_up (j_up (suS N d) 88 d (suS N d 90 d)) 89 d (nI (rop t))) 90 d 0) 91 d 20) (by omega) (by omega) hA hB (fun N i c hi n h36 e82 hh hc e => ?_) (fun N => dF_up (dF_up (dF_up (dF_up (dF_su (dF_rfl N d)) (by omega) _) (by omega) _) (by omega) _) (by omega) _) (fun N => by rw [ju_row _ _ (by omega), ju_row _ _ (by omega), ju_row _ _ (by omega), ju_row _ _ (by omega)]; exact (su_r N d).2.2.2.2.2.2.2.2) (fun N => ⟨fun _ => by rw [ju_row _ _ (by omega), ju_row _ _ (by omega), ju_row _ _ (by omega), ju_row _ _ (by omega)]; exact (su_r N d).2.2.2.2.2.2.2.1, fun _ => ⟨by rw [ju_row _ _ (by omega), ju_same], by rw [ju_same]⟩, fun g => absurd g (by omega), fun g => absurd g (by omega)⟩) (fun N => ⟨fun _ => ⟨by rw [ju_row _ _ (by omega), ju_row _ _ (by omega), ju_row _ _ (by omega), ju_row _ _ (by omega)]; exact (su_r N d).1, by rw [ju_row _ _ (by omega), ju_row _ _ (by omega), ju_row _ _ (by omega), ju_row _ _ (by omega)]; exact (su_r N d).2.1⟩, fun g => absurd g (by omega), fun g => absurd g (by omega)⟩) (fun N N' N2 va vb h1 h2 h3 => ?_)
  · rw [w14 h36 e82 hc hh e]
    have hs : fX12_worth_137 (fX12_worth_14 n) (nI i) (nI d) (nI c) (nI (rop t)) N = fX12_worth_14 n (nI i) (nI d) (nI (c + 1)) (j_up (j_up (j_up (j_up (suS N d) 88 d (suS N d 90 d)) 89 d (nI (rop t))) 90 d 0) 91 d 20) := by
      unfold fX12_worth_137
      rw [su_eq (by omega), Option.bind_some, jg_in (show d < 7 by omega) (by decide), jg_in (show d < 7 by omega) (by decide), jg_in (show d < 7 by omega) (by decide), jg_in (show d < 7 by omega) (by decide), jg_in (show d < 7 by omega) (by decide), nI_clamp (by omega), show nI c + (1 : Int32) = nI (c + 1) from nI_add _ 1]
    rcases hk with hk | hk
    · rw [hk] at hs ⊢
      exact hs
    · rw [hk] at hs ⊢
      exact hs
  · have h1' : cSum N' d = va := h1
    have h3' : cSum N2 d = vb := h3
    obtain ⟨-, -, -, -, q5, -⟩ := h2
    have e88 : N2 88 d = va := by rw [(q5 (by omega)).1, ju_row _ _ (by omega), ju_row _ _ (by omega), ju_row _ _ (by omega), ju_same, (su_r N' d).2.2.2.2.1, h1']
    have e89 : N2 89 d = nI (rop t) := by rw [(q5 (by omega)).2, ju_row _ _ (by omega), ju_row _ _ (by omega), ju_same]
    show cTst N2 d = _
    unfold cTst bop
    rw [e88, e89, h3']
    rcases lev_1 ht with rfl | rfl
    · rfl
    · rfl
theorem rl_s2 {d t : Nat} {ra rb : List Nat} {Va Vb : FV} (hd : d ≤ 5) (ht : lev t = 2) (hA : RPl d 2 ra Va) (hB : RPl d 3 rb Vb) : RPl d 2 (ra ++ (rop t :: rb)) (fun f => bop t (Va f) (Vb f)) := by
  have hk : rop t = 20 ∨ rop t = 21 := by rcases lev_2 ht with rfl | rfl; exact Or.inl rfl; exact Or.inr rfl
  refine rl_join (st := fun N => j_up (suS N d) 91 d (nI (rop t))) (by omega) (Nat.le_refl _) hA hB (fun N i c hi n h36 e82 hh hc e => ?_) (fun N => dF_up (dF_su (dF_rfl N d)) (by omega) _) (fun N => by rw [ju_row _ _ (by omega)]; exact (su_r N d).2.2.2.2.2.2.2.2) (fun N => ⟨fun _ => by rw [ju_row _ _ (by omega)]; exact (su_r N d).2.2.2.2.2.2.2.1, fun g => absurd g (by omega), fun g => absurd g (by omega), fun g => absurd g (by omega)⟩) (fun N => ⟨fun _ => ⟨by rw [ju_row _ _ (by omega)]; exact (su_r N d).1, by rw [ju_row _ _ (by omega)]; exact (su_r N d).2.1⟩, fun _ => ⟨by rw [ju_row _ _ (by omega)]; exact (su_r N d).2.2.1, by rw [ju_row _ _ (by omega)]; exact (su_r N d).2.2.2.1⟩, fun g => absurd g (by omega)⟩) (fun N N' N2 va vb h1 h2 h3 => ?_)
  · rw [w14 h36 e82 hc hh e]
    have hs : fX12_worth_89 (fX12_worth_14 n) (nI i) (nI d) (nI c) (nI (rop t)) N = fX12_worth_14 n (nI i) (nI d) (nI (c + 1)) (j_up (suS N d) 91 d (nI (rop t))) := by
      unfold fX12_worth_89
      rw [su_eq (by omega), Option.bind_some, jg_in (show d < 7 by omega) (by decide), nI_clamp (by omega), show nI c + (1 : Int32) = nI (c + 1) from nI_add _ 1]
    rcases hk with hk | hk
    · rw [hk] at hs ⊢
      exact hs
    · rw [hk] at hs ⊢
      exact hs
  · have h1' : cSum N' d = va := h1
    have h3' : N2 92 d = vb := h3
    obtain ⟨-, -, -, -, -, q6, -⟩ := h2
    have e90 : N2 90 d = va := by rw [(q6 (by omega)).1, ju_row _ _ (by omega), (su_r N' d).2.2.2.2.1, h1']
    have e91 : N2 91 d = nI (rop t) := by rw [(q6 (by omega)).2, ju_same]
    show cSum N2 d = _
    unfold cSum bop
    rw [e90, e91, h3']
    rcases lev_2 ht with rfl | rfl
    · rfl
    · rfl
theorem rl_s3 {d t : Nat} {ra rb : List Nat} {Va Vb : FV} (hd : d ≤ 5) (ht : lev t = 3) (hA : RPl d 3 ra Va) (hB : RPl d 4 rb Vb) : RPl d 3 (ra ++ (rop t :: rb)) (fun f => bop t (Va f) (Vb f)) := by
  have hk : t = 42 := lev_3 ht
  subst hk
  refine rl_join (st := fun N => j_up N 93 d (nI 22)) (by omega) (Nat.le_refl _) hA hB (fun N i c hi n h36 e82 hh hc e => ?_) (fun N => dF_up (dF_rfl N d) (by omega) _) (fun N => by rw [ju_row _ _ (by omega)]) (fun N => ⟨fun g => absurd g (by omega), fun g => absurd g (by omega), fun g => absurd g (by omega), fun g => absurd g (by omega)⟩) (fun N => ⟨fun _ => ⟨by rw [ju_row _ _ (by omega)], by rw [ju_row _ _ (by omega)]⟩, fun _ => ⟨by rw [ju_row _ _ (by omega)], by rw [ju_row _ _ (by omega)]⟩, fun _ => ⟨by rw [ju_row _ _ (by omega)], by rw [ju_row _ _ (by omega)]⟩⟩) (fun N N' N2 va vb h1 h2 h3 => ?_)
  · rw [w14 h36 e82 hc hh e]
    have hs : (j_g (j_in (nI d) 7) ((fX12_worth_14 n) (nI i) (nI d) ((nI c) + (1 : Int32)) (j_up N 93 (nI d).toNatClampNeg (nI 22)))) = fX12_worth_14 n (nI i) (nI d) (nI (c + 1)) (j_up N 93 d (nI 22)) := by
      rw [jg_in (show d < 7 by omega) (by decide), nI_clamp (by omega), show nI c + (1 : Int32) = nI (c + 1) from nI_add _ 1]
    exact hs
  · have h1' : N' 92 d = va := h1
    have h3' : N2 92 d = if (j_up N' 93 d (nI 22)) 93 d = 0 then vb else (j_up N' 93 d (nI 22)) 92 d * vb := h3
    show N2 92 d = _
    rw [h3', ju_same, if_neg (by decide), ju_row _ _ (by omega), h1']
    rfl
theorem rp_par {d : Nat} {rc : List Nat} {V : FV} (hd : d < 5) (h : RPl (d + 1) 0 rc V) : RPp d (28 :: (rc ++ [29])) V := by
  intro i c hi N h36 e82 hh hs hc
  rw [List.length_cons, List.length_append, List.length_singleton] at hc
  obtain ⟨s1, s2⟩ := hs
  rw [seg_app] at s2
  obtain ⟨s2, s3, -⟩ := s2
  have hF := op_dF N (d + 1) 0
  have e94 := op_94 N (d + 1) 0
  obtain ⟨N2, a1, a2, a3⟩ := h i (c + 1) hi (opS (j_up N 94 (d + 1) 0) (d + 1)) h36 (by rw [hF.1 82 (by omega)]; exact e82) hh (by rw [hF.1 83 (by omega)]; exact s2) (by omega) (Or.inr (by rw [e94]; decide)) (by
    unfold opS
    refine ⟨fun _ => ?_, fun _ => ⟨?_, ?_⟩, fun _ => ?_, fun _ => ?_⟩ <;> simp [j_up])
  have h95 : f95 (opS (j_up N 94 (d + 1) 0) (d + 1)) = f95 N := by unfold f95; rw [hF.1 95 (by omega)]
  rw [h95] at a3
  have a3' : cKep N2 (d + 1) = V (f95 N) := a3
  obtain ⟨f1, f2, -⟩ := a2
  have hT : dF N2 (teS N2 (d + 1)) (d + 1) := dF_te (dF_rfl N2 (d + 1))
  have r1 : ∀ a, (a < 86 ∨ 94 < a) → N2 a = N a := fun a ha => by rw [f1 a ha, hF.1 a ha]
  have r2 : ∀ a j, 86 ≤ a → a ≤ 94 → j ≤ d → teS N2 (d + 1) a j = N a j := fun a j h1 h2 h3 => by rw [hT.2 a j h1 h2 (by omega), f2 a j h1 h2 (by omega), hF.2 a j h1 h2 (by omega)]
  obtain ⟨u1, u2⟩ := unwN_cong (g := N 94) (g' := teS N2 (d + 1) 94) d (fun j hj => r2 94 j (by omega) (by omega) hj)
  have hle := unwN_le (N 94) d
  refine ⟨j_up (teS N2 (d + 1)) 92 (unwN (N 94) d) (if N 93 (unwN (N 94) d) = 0 then ngN (N 94) d (V (f95 N)) else N 92 (unwN (N 94) d) * ngN (N 94) d (V (f95 N))), fun n => ?_, fun a ha => ?_, fun a j h1 h2 h3 h4 => ?_, ?_⟩
  · rw [List.length_cons, List.length_append, List.length_singleton, show n + (rc.length + 1 + 1) = ((n + 1) + rc.length) + 1 by omega, w_open (by omega) h36 e82 hh (by omega) s1 (Or.inl ⟨rfl, rfl⟩), a1, w14 h36 (by rw [r1 82 (by omega)]; exact e82) (show c + 1 + rc.length < hi by omega) hh (show N2 83 (c + 1 + rc.length) = nI 29 by rw [r1 83 (by omega)]; exact s3)]
    show fX12_worth_243 (fX12_worth_14 n) (nI i) (nI (d + 1)) (nI (c + 1 + rc.length)) (nI 29) (0 : Int32) N2 = _
    unfold fX12_worth_243
    rw [if_pos (show nI 29 = (29 : Int32) from rfl), te_eq (by omega), Option.bind_some, jg_in (show d + 1 < 7 by omega) (by decide), nI_clamp (by omega), show nI (d + 1) + (-1 : Int32) = nI d from pk_m1 d, w268 d (by omega) 100000 (by omega), u1, u2, (te_r N2 (d + 1)).1, a3', r2 93 _ (by omega) (by omega) hle, r2 92 _ (by omega) (by omega) hle, show c + 1 + rc.length + 1 = c + (rc.length + 1 + 1) by omega]
  · rw [ju_row _ _ (by omega), hT.1 a ha, r1 a ha]
  · by_cases ca : a = 92
    · rw [ca, ju_cell _ _ (fun e => h4 ⟨ca, e⟩), r2 92 j (by omega) (by omega) h3]
    · rw [ju_row _ _ ca, r2 a j h1 h2 h3]
  · rw [ju_same]
