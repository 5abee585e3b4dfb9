def f95 (N : JI) : Nat → Int32 := fun k => N 95 (k + 1)
/-- a piece, worth V, is delivered -/
def RPp (d : Nat) (rc : List Nat) (V : FV) : Prop := ∀ (i c hi : Nat) (N : JI), i < 36 → N 82 i = nI hi → hi ≤ 2000 → seg (N 83) c rc → c + rc.length ≤ hi → ∃ N', (∀ n, fX12_worth_14 (n + rc.length) (nI i) (nI d) (nI c) N = fX12_worth_14 n (nI i) (nI (unwN (N 94) d)) (nI (c + rc.length)) N') ∧ (∀ a, (a < 86 ∨ 94 < a) → N' a = N a) ∧ (∀ a j, 86 ≤ a → a ≤ 94 → j ≤ d → ¬ (a = 92 ∧ j = unwN (N 94) d) → N' a j = N a j) ∧ N' 92 (unwN (N 94) d) = (if N 93 (unwN (N 94) d) = 0 then ngN (N 94) d (V (f95 N)) else N 92 (unwN (N 94) d) * ngN (N 94) d (V (f95 N)))
theorem rp_one {d k : Nat} (hd : d ≤ 5) {V : FV} (h : ∀ (N : JI) (i c hi n : Nat), i < 36 → N 82 i = nI hi → hi ≤ 2000 → c < hi → N 83 c = nI k → fX12_worth_14 (n + 1) (nI i) (nI d) (nI c) N = fX12_worth_268 (fX12_worth_14 n) 100000 (nI i) (nI d) (nI c) (V (f95 N)) N) : RPp d [k] V := by
  intro i c hi N h36 e82 hh hs hc
  rw [List.length_singleton] at hc
  refine ⟨j_up N 92 (unwN (N 94) d) (if N 93 (unwN (N 94) d) = 0 then ngN (N 94) d (V (f95 N)) else N 92 (unwN (N 94) d) * ngN (N 94) d (V (f95 N))), fun n => ?_, fun a ha => ?_, fun a j h1 h2 h3 h4 => ?_, ?_⟩
  · rw [List.length_singleton, h N i c hi n h36 e82 hh (by omega) hs.1, w268 d (by omega) 100000 (by omega)]
  · rw [ju_row _ _ (by omega)]
  · by_cases ca : a = 92
    · rw [ca, ju_cell _ _ (fun e => h4 ⟨ca, e⟩)]
    · rw [ju_row _ _ ca]
  · rw [ju_same]
theorem rp_num {d v : Nat} (hd : d ≤ 5) (hv : v ≤ 9999) : RPp d [100 + v] (fun _ => nI v) := by
  refine rp_one hd (fun N i c hi n h36 e82 hh hc e => ?_)
  have ne : ∀ x : Nat, x < 100 → ¬ nI (100 + v) = nI x := fun x hx e => absurd ((nI_eq (by omega) (by omega)).mp e) (by omega)
  have e2 : nI (100 + v) - (100 : Int32) = nI v := by
    have : nI (100 + v) = nI v + (100 : Int32) := by rw [Nat.add_comm]; exact (nI_add v 100).symm
    rw [this, Int32.add_sub_cancel]
  rw [w14 h36 e82 hc hh e, if_neg (show ¬ nI (100 + v) = (28 : Int32) from ne 28 (by omega)), if_neg (show ¬ nI (100 + v) = (30 : Int32) from ne 30 (by omega)), if_neg (show ¬ nI (100 + v) = (20 : Int32) from ne 20 (by omega)), if_neg (show ¬ nI (100 + v) = (21 : Int32) from ne 21 (by omega)), if_neg (show ¬ nI (100 + v) = (22 : Int32) from ne 22 (by omega)), if_neg (show ¬ nI (100 + v) = (24 : Int32) from ne 24 (by omega)), if_neg (show ¬ nI (100 + v) = (25 : Int32) from ne 25 (by omega)), if_neg (show ¬ nI (100 + v) = (26 : Int32) from ne 26 (by omega)), if_neg (show ¬ nI (100 + v) = (27 : Int32) from ne 27 (by omega)), if_neg (show ¬ nI (100 + v) < (100 : Int32) from nI_nlt (b := 100) (by omega) (by omega)), e2]
  unfold fX12_worth_243
  rw [if_neg (show ¬ nI (100 + v) = (29 : Int32) from ne 29 (by omega))]
theorem rp_fact {d t : Nat} (hd : d ≤ 5) (ht : t < 14) : RPp d [t + 1] (fun f => f t) := by
  refine rp_one hd (fun N i c hi n h36 e82 hh hc e => ?_)
  have ne : ∀ x : Nat, 20 ≤ x → x < 100 → ¬ nI (t + 1) = nI x := fun x hx hx' e => absurd ((nI_eq (by omega) (by omega)).mp e) (by omega)
  rw [w14 h36 e82 hc hh e, if_neg (show ¬ nI (t + 1) = (28 : Int32) from ne 28 (by omega) (by omega)), if_neg (show ¬ nI (t + 1) = (30 : Int32) from ne 30 (by omega) (by omega)), if_neg (show ¬ nI (t + 1) = (20 : Int32) from ne 20 (by omega) (by omega)), if_neg (show ¬ nI (t + 1) = (21 : Int32) from ne 21 (by omega) (by omega)), if_neg (show ¬ nI (t + 1) = (22 : Int32) from ne 22 (by omega) (by omega)), if_neg (show ¬ nI (t + 1) = (24 : Int32) from ne 24 (by omega) (by omega)), if_neg (show ¬ nI (t + 1) = (25 : Int32) from ne 25 (by omega) (by omega)), if_neg (show ¬ nI (t + 1) = (26 : Int32) from ne 26 (by omega) (by omega)), if_neg (show ¬ nI (t + 1) = (27 : Int32) from ne 27 (by omega) (by omega)), if_pos (show nI (t + 1) < (100 : Int32) from nI_lt (b := 100) (by omega) (by omega)), if_neg (show ¬ (20 : Int32) ≤ nI (t + 1) from nI_ge (b := 20) (by omega) (by omega)), jg_in (show t + 1 < 20 by omega) (by decide), nI_clamp (by omega)]
  unfold fX12_worth_243
  rw [if_neg (show ¬ nI (t + 1) = (29 : Int32) from ne 29 (by omega) (by omega))]
  rfl
/-- a thing is opened -/
theorem w_open {N : JI} {i c hi d k n : Nat} {o : Int32} (hd : d ≤ 5) (h36 : i < 36) (e82 : N 82 i = nI hi) (hh : hi ≤ 2000) (hc : c < hi) (e83 : N 83 c = nI k) (hk : (k = 28 ∧ o = 0) ∨ (k = 30 ∧ o = 1)) : fX12_worth_14 (n + 1) (nI i) (nI d) (nI c) N = fX12_worth_14 n (nI i) (nI (d + 1)) (nI (c + 1)) (opS (j_up N 94 (d + 1) o) (d + 1)) := by
  rw [w14 h36 e82 hc hh e83]
  rcases hk with ⟨rfl, rfl⟩ | ⟨rfl, rfl⟩
  · rw [if_pos (show nI 28 = (28 : Int32) from rfl)]
    unfold fX12_worth_46
    rw [if_neg (by decide), show nI d + (1 : Int32) = nI (d + 1) from nI_add _ 1, jg_in (show d + 1 < 7 by omega) (by decide), nI_clamp (by omega), op_eq (by omega), Option.bind_some, show nI c + (1 : Int32) = nI (c + 1) from nI_add _ 1]
  · rw [if_neg (by decide), if_pos (show nI 30 = (30 : Int32) from rfl)]
    unfold fX12_worth_46
    rw [if_pos (show nI 30 = (30 : Int32) from rfl), show nI d + (1 : Int32) = nI (d + 1) from nI_add _ 1, jg_in (show d + 1 < 7 by omega) (by decide), nI_clamp (by omega), op_eq (by omega), Option.bind_some, show nI c + (1 : Int32) = nI (c + 1) from nI_add _ 1]
theorem op_94 (N : JI) (d : Nat) (o : Int32) : opS (j_up N 94 d o) d 94 d = o := by
  unfold opS
  rw [ju_row _ _ (by omega), ju_row _ _ (by omega), ju_row _ _ (by omega), ju_row _ _ (by omega), ju_row _ _ (by omega), ju_same]
theorem op_dF (N : JI) (d : Nat) (o : Int32) : dF N (opS (j_up N 94 d o) d) d := dF_op (dF_up (dF_rfl N d) (by omega) o)
theorem rp_not {d : Nat} {rc : List Nat} {V : FV} (hd : d < 5) (h : RPp (d + 1) rc V) : RPp d (30 :: rc) (fun f => neg1 (V f)) := by
  intro i c hi N h36 e82 hh hs hc
  rw [List.length_cons] at hc
  have hF := op_dF N (d + 1) 1
  obtain ⟨N', a1, a2, a3, a4⟩ := h i (c + 1) hi (opS (j_up N 94 (d + 1) 1) (d + 1)) h36 (by rw [hF.1 82 (by omega)]; exact e82) hh (by rw [hF.1 83 (by omega)]; exact hs.2) (by omega)
  have e94 := op_94 N (d + 1) 1
  obtain ⟨u1, u2⟩ := unwN_cong (g := N 94) (g' := opS (j_up N 94 (d + 1) 1) (d + 1) 94) d (fun j hj => hF.2 94 j (by omega) (by omega) (by omega))
  have hu : unwN (opS (j_up N 94 (d + 1) 1) (d + 1) 94) (d + 1) = unwN (N 94) d := by rw [unwN, if_pos e94, u1]
  have hn : ∀ v, ngN (opS (j_up N 94 (d + 1) 1) (d + 1) 94) (d + 1) v = ngN (N 94) d (neg1 v) := fun v => by rw [ngN, if_pos e94, u2]
  have hle := unwN_le (N 94) d
  have h95 : f95 (opS (j_up N 94 (d + 1) 1) (d + 1)) = f95 N := by unfold f95; rw [hF.1 95 (by omega)]
  rw [hu] at a1 a3 a4
  refine ⟨N', fun n => ?_, fun a ha => by rw [a2 a ha, hF.1 a ha], fun a j h1 h2 h3 h4 => by rw [a3 a j h1 h2 (by omega) h4, hF.2 a j h1 h2 (by omega)], ?_⟩
  · rw [List.length_cons, ← Nat.add_assoc, w_open (by omega) h36 e82 hh (by omega) hs.1 (Or.inr ⟨rfl, rfl⟩), a1, show c + 1 + rc.length = c + (rc.length + 1) by omega]
  · rw [a4, hn, h95, hF.2 93 _ (by omega) (by omega) (by omega), hF.2 92 _ (by omega) (by omega) (by omega)]
/-- a level at a depth -/
def WPre (x : Nat) (N : JI) (d : Nat) : Prop := (x ≤ 3 → N 93 d = 0) ∧ (x ≤ 2 → N 90 d = 0 ∧ N 91 d = 20) ∧ (x ≤ 1 → N 89 d = 0) ∧ (x ≤ 0 → N 87 d = 0)
def WC (x : Nat) (N N' : JI) (d : Nat) (v : Int32) : Prop := match x with
  | 0 => cKep N' d = v
  | 1 => cTst N' d = v
  | 2 => cSum N' d = v
  | 3 => N' 92 d = v
  | _ => N' 92 d = if N 93 d = 0 then v else N 92 d * v
def wFr (x : Nat) (N N' : JI) (d : Nat) : Prop := (∀ a, (a < 86 ∨ 94 < a) → N' a = N a) ∧ (∀ a j, 86 ≤ a → a ≤ 94 → j < d → N' a j = N a j) ∧ N' 94 d = N 94 d ∧ (1 ≤ x → N' 86 d = N 86 d ∧ N' 87 d = N 87 d) ∧ (2 ≤ x → N' 88 d = N 88 d ∧ N' 89 d = N 89 d) ∧ (3 ≤ x → N' 90 d = N 90 d ∧ N' 91 d = N 91 d) ∧ (4 ≤ x → N' 93 d = N 93 d)
def RPl (d x : Nat) (rc : List Nat) (V : FV) : Prop := ∀ (i c hi : Nat) (N : JI), i < 36 → N 82 i = nI hi → hi ≤ 2000 → seg (N 83) c rc → c + rc.length ≤ hi → (d = 0 ∨ N 94 d ≠ 1) → WPre x N d → ∃ N', (∀ n, fX12_worth_14 (n + rc.length) (nI i) (nI d) (nI c) N = fX12_worth_14 n (nI i) (nI d) (nI (c + rc.length)) N') ∧ wFr x N N' d ∧ WC x N N' d (V (f95 N))
theorem rl_4 {d : Nat} {rc : List Nat} {V : FV} (h : RPp d rc V) : RPl d 4 rc V := by
  intro i c hi N h36 e82 hh hs hc hn _
  obtain ⟨N', a1, a2, a3, a4⟩ := h i c hi N h36 e82 hh hs hc
  obtain ⟨u1, u2⟩ := unwN_end hn
  rw [u1] at a1 a3 a4
  rw [u2] at a4
  exact ⟨N', a1, ⟨a2, fun a j h1 h2 h3 => a3 a j h1 h2 (by omega) (by omega), a3 94 d (by omega) (by omega) (by omega) (by omega), fun _ => ⟨a3 86 d (by omega) (by omega) (by omega) (by omega), a3 87 d (by omega) (by omega) (by omega) (by omega)⟩, fun _ => ⟨a3 88 d (by omega) (by omega) (by omega) (by omega), a3 89 d (by omega) (by omega) (by omega) (by omega)⟩, fun _ => ⟨a3 90 d (by omega) (by omega) (by omega) (by omega), a3 91 d (by omega) (by omega) (by omega) (by omega)⟩, fun _ => a3 93 d (by omega) (by omega) (by omega) (by omega)⟩, a4⟩
theorem wFr_weak {x x' : Nat} {N N' : JI} {d : Nat} (h : wFr x N N' d) (hx : x' ≤ x) : wFr x' N N' d := ⟨h.1, h.2.1, h.2.2.1, fun g => h.2.2.2.1 (by omega), fun g => h.2.2.2.2.1 (by omega), fun g => h.2.2.2.2.2.1 (by omega), fun g => h.2.2.2.2.2.2 (by omega)⟩
theorem WC_weak {x : Nat} {N N' : JI} {d : Nat} {v : Int32} (hx : x < 4) (hp : WPre x N d) (hf : wFr (x + 1) N N' d) (h : WC (x + 1) N N' d v) : WC x N N' d v := by
  obtain ⟨p1, p2, p3, p4⟩ := hp
  obtain ⟨-, -, -, f1, f2, f3, f4⟩ := hf
  rcases (by omega : x = 0 ∨ x = 1 ∨ x = 2 ∨ x = 3) with rfl | rfl | rfl | rfl
  · have h' : cTst N' d = v := h
    show cKep N' d = v
    unfold cKep
    rw [(f1 (by omega)).2, p4 (by omega), if_neg (by decide), if_neg (by decide), h']
  · have h' : cSum N' d = v := h
    show cTst N' d = v
    unfold cTst
    rw [(f2 (by omega)).2, p3 (by omega), if_neg (by decide), if_neg (by decide), h']
  · have h' : N' 92 d = v := h
    show cSum N' d = v
    unfold cSum
    rw [(f3 (by omega)).2, (f3 (by omega)).1, (p2 (by omega)).1, (p2 (by omega)).2, if_neg (by decide), h', Int32.zero_add]
  · have h' : N' 92 d = if N 93 d = 0 then v else N 92 d * v := h
    show N' 92 d = v
    rw [h', if_pos (p1 (by omega))]
theorem rl_weak {d x : Nat} {rc : List Nat} {V : FV} (hx : x < 4) (h : RPl d (x + 1) rc V) : RPl d x rc V := by
  intro i c hi N h36 e82 hh hs hc hn hp
  obtain ⟨N', a1, a2, a3⟩ := h i c hi N h36 e82 hh hs hc hn ⟨fun g => hp.1 (by omega), fun g => hp.2.1 (by omega), fun g => hp.2.2.1 (by omega), fun g => hp.2.2.2 (by omega)⟩
  exact ⟨N', a1, wFr_weak a2 (by omega), WC_weak hx hp a2 a3⟩
