/-! ===== what a condition is worth to the reference ===== -/
def cSum (N : JI) (d : Nat) : Int32 := if N 91 d = 21 then N 90 d - N 92 d else N 90 d + N 92 d
def cTst (N : JI) (d : Nat) : Int32 := if N 89 d = 24 then (if cSum N d ≤ N 88 d then 0 else 1) else if N 89 d = 25 then (if N 88 d = cSum N d then 1 else 0) else cSum N d
def cKep (N : JI) (d : Nat) : Int32 := if N 87 d = 26 then (if N 86 d = 0 then 0 else if cTst N d = 0 then 0 else 1) else if N 87 d = 27 then (if N 86 d = 0 then (if cTst N d = 0 then 0 else 1) else 1) else cTst N d
def suS (N : JI) (d : Nat) : JI := j_up (j_up N 90 d (cSum N d)) 93 d 0
def teS (N : JI) (d : Nat) : JI := j_up (j_up (j_up (j_up (suS N d) 86 d (cKep N d)) 89 d 0) 90 d 0) 91 d 20
def opS (N : JI) (d : Nat) : JI := j_up (j_up (j_up (j_up (j_up N 87 d 0) 89 d 0) 90 d 0) 91 d 20) 93 d 0
theorem su_eq {N : JI} {d : Nat} (hd : d < 7) : fX12_sums (nI d) N = some (suS N d) := by
  unfold fX12_sums suS cSum
  rw [nI_clamp (by omega)]
  by_cases c : N 91 d = 21
  · rw [if_pos c, if_pos c, jg_in hd (by decide), jg_in hd (by decide), jg_in hd (by decide), jg_in hd (by decide), jg_in hd (by decide)]
  · rw [if_neg c, if_neg c, jg_in hd (by decide), jg_in hd (by decide), jg_in hd (by decide), jg_in hd (by decide), jg_in hd (by decide)]
theorem op_eq {N : JI} {d : Nat} (hd : d < 7) : fX12_opens (nI d) N = some (opS N d) := by
  unfold fX12_opens opS
  rw [nI_clamp (by omega), jg_in hd (by decide), jg_in hd (by decide), jg_in hd (by decide), jg_in hd (by decide), jg_in hd (by decide)]
theorem te_eq {N : JI} {d : Nat} (hd : d < 7) : fX12_tests (nI d) N = some (teS N d) := by
  have e136 : ∀ v, fX12_tests_136 (nI d) v (suS N d) = some (j_up (j_up (j_up (j_up (suS N d) 86 d v) 89 d 0) 90 d 0) 91 d 20) := by
    intro v
    unfold fX12_tests_136
    rw [nI_clamp (by omega), jg_in hd (by decide), jg_in hd (by decide), jg_in hd (by decide), jg_in hd (by decide)]
  have r86 : suS N d 86 d = N 86 d := by unfold suS; rw [ju_row _ _ (by omega), ju_row _ _ (by omega)]
  have r87 : suS N d 87 d = N 87 d := by unfold suS; rw [ju_row _ _ (by omega), ju_row _ _ (by omega)]
  have r88 : suS N d 88 d = N 88 d := by unfold suS; rw [ju_row _ _ (by omega), ju_row _ _ (by omega)]
  have r89 : suS N d 89 d = N 89 d := by unfold suS; rw [ju_row _ _ (by omega), ju_row _ _ (by omega)]
  have r90 : suS N d 90 d = cSum N d := by unfold suS; rw [ju_row _ _ (by omega), ju_same]
  have e106 : ∀ v, N 87 d ≠ 26 → fX12_tests_106 (nI d) v (suS N d) = some (j_up (j_up (j_up (j_up (suS N d) 86 d (if N 87 d = 27 then (if N 86 d = 0 then (if v = 0 then 0 else 1) else 1) else v)) 89 d 0) 90 d 0) 91 d 20) := by
    intro v _
    unfold fX12_tests_106
    rw [nI_clamp (by omega), jg_in hd (by decide), jg_in hd (by decide), e136, e136, e136, r87, r86]
    by_cases c : N 87 d = 27
    · rw [if_pos c, if_pos c]
      by_cases c2 : N 86 d = 0
      · rw [if_pos c2, if_pos c2]
        by_cases c3 : v = 0
        · rw [if_pos c3, if_pos c3]
        · rw [if_neg c3, if_neg c3]
      · rw [if_neg c2, if_neg c2]
    · rw [if_neg c, if_neg c]
  have e106b : ∀ v, N 87 d = 26 → fX12_tests_106 (nI d) v (suS N d) = some (j_up (j_up (j_up (j_up (suS N d) 86 d v) 89 d 0) 90 d 0) 91 d 20) := by
    intro v c
    unfold fX12_tests_106
    rw [nI_clamp (by omega), jg_in hd (by decide), r87, c, if_neg (by decide), e136]
  have e76 : ∀ v, fX12_tests_76 (nI d) v (suS N d) = some (j_up (j_up (j_up (j_up (suS N d) 86 d (if N 87 d = 26 then (if N 86 d = 0 then 0 else if v = 0 then 0 else 1) else if N 87 d = 27 then (if N 86 d = 0 then (if v = 0 then 0 else 1) else 1) else v)) 89 d 0) 90 d 0) 91 d 20) := by
    intro v
    unfold fX12_tests_76
    rw [nI_clamp (by omega), jg_in hd (by decide), jg_in hd (by decide), r87, r86]
    by_cases c : N 87 d = 26
    · rw [if_pos c, if_pos c, e106b _ c, e106b _ c]
      by_cases c2 : N 86 d = 0
      · rw [if_pos c2, if_pos c2]
      · rw [if_neg c2, if_neg c2]
        by_cases c3 : v = 0
        · rw [if_pos c3, if_pos c3]
        · rw [if_neg c3, if_neg c3]
    · rw [if_neg c, if_neg c, e106 _ c]
  have e44 : ∀ v, N 89 d ≠ 24 → fX12_tests_44 (nI d) v (suS N d) = fX12_tests_76 (nI d) (if N 89 d = 25 then (if N 88 d = cSum N d then 1 else 0) else v) (suS N d) := by
    intro v _
    unfold fX12_tests_44
    rw [nI_clamp (by omega), jg_in hd (by decide), jg_in hd (by decide), jg_in hd (by decide), r89, r88, r90]
    by_cases c : N 89 d = 25
    · rw [if_pos c, if_pos c]
      by_cases c2 : N 88 d = cSum N d
      · rw [if_pos c2, if_pos c2]
      · rw [if_neg c2, if_neg c2]
    · rw [if_neg c, if_neg c]
  have e44b : ∀ v, N 89 d = 24 → fX12_tests_44 (nI d) v (suS N d) = fX12_tests_76 (nI d) v (suS N d) := by
    intro v c
    unfold fX12_tests_44
    rw [nI_clamp (by omega), jg_in hd (by decide), r89, c, if_neg (by decide)]
  have eT : fX12_tests (nI d) N = fX12_tests_76 (nI d) (cTst N d) (suS N d) := by
    unfold fX12_tests cTst
    rw [su_eq hd, Option.bind_some, nI_clamp (by omega), jg_in hd (by decide), jg_in hd (by decide), jg_in hd (by decide), jg_in hd (by decide), r89, r90, r88]
    by_cases c : N 89 d = 24
    · rw [if_pos c, if_pos c, e44b _ c, e44b _ c]
      by_cases c2 : cSum N d ≤ N 88 d
      · rw [if_pos c2, if_pos c2]
      · rw [if_neg c2, if_neg c2]
    · rw [if_neg c, if_neg c, e44 _ c]
  rw [eT, e76]
  rfl
/-- only one depth has changed -/
def dF (N N' : JI) (d : Nat) : Prop := (∀ a, (a < 86 ∨ 94 < a) → N' a = N a) ∧ ∀ a j, 86 ≤ a → a ≤ 94 → j ≠ d → N' a j = N a j
theorem dF_rfl (N : JI) (d : Nat) : dF N N d := ⟨fun _ _ => rfl, fun _ _ _ _ _ => rfl⟩
theorem dF_up {N N' : JI} {d a : Nat} (h : dF N N' d) (ha : 86 ≤ a ∧ a ≤ 94) (v : Int32) : dF N (j_up N' a d v) d := ⟨fun a' h' => by rw [ju_row _ _ (by omega)]; exact h.1 a' h', fun a' j h1 h2 h3 => by
  by_cases c : a' = a
  · rw [c, ju_cell _ _ h3]; exact h.2 a j ha.1 ha.2 h3
  · rw [ju_row _ _ c]; exact h.2 a' j h1 h2 h3⟩
theorem dF_su {N N' : JI} {d : Nat} (h : dF N N' d) : dF N (suS N' d) d := dF_up (dF_up h (by omega) _) (by omega) _
theorem dF_te {N N' : JI} {d : Nat} (h : dF N N' d) : dF N (teS N' d) d := dF_up (dF_up (dF_up (dF_up (dF_su h) (by omega) _) (by omega) _) (by omega) _) (by omega) _
theorem dF_op {N N' : JI} {d : Nat} (h : dF N N' d) : dF N (opS N' d) d := dF_up (dF_up (dF_up (dF_up (dF_up h (by omega) _) (by omega) _) (by omega) _) (by omega) _) (by omega) _
theorem w14 {N : JI} {i c hi k n : Nat} {l2 : Int32} (h36 : i < 36) (e82 : N 82 i = nI hi) (hc : c < hi) (hh : hi ≤ 2000) (e83 : N 83 c = nI k) : fX12_worth_14 (n + 1) (nI i) l2 (nI c) N = (if (nI k) = (28 : Int32) then (fX12_worth_46 (fX12_worth_14 n) (nI i) l2 (nI c) (nI k) N) else (if (nI k) = (30 : Int32) then (fX12_worth_46 (fX12_worth_14 n) (nI i) l2 (nI c) (nI k) N) else (if (nI k) = (20 : Int32) then (fX12_worth_89 (fX12_worth_14 n) (nI i) l2 (nI c) (nI k) N) else (if (nI k) = (21 : Int32) then (fX12_worth_89 (fX12_worth_14 n) (nI i) l2 (nI c) (nI k) N) else (if (nI k) = (22 : Int32) then (j_g (j_in l2 7) ((fX12_worth_14 n) (nI i) l2 ((nI c) + (1 : Int32)) (j_up N 93 l2.toNatClampNeg (nI k)))) else (if (nI k) = (24 : Int32) then (fX12_worth_137 (fX12_worth_14 n) (nI i) l2 (nI c) (nI k) N) else (if (nI k) = (25 : Int32) then (fX12_worth_137 (fX12_worth_14 n) (nI i) l2 (nI c) (nI k) N) else (if (nI k) = (26 : Int32) then (fX12_worth_194 (fX12_worth_14 n) (nI i) l2 (nI c) (nI k) N) else (if (nI k) = (27 : Int32) then (fX12_worth_194 (fX12_worth_14 n) (nI i) l2 (nI c) (nI k) N) else (if (nI k) < (100 : Int32) then (if (20 : Int32) ≤ (nI k) then (fX12_worth_243 (fX12_worth_14 n) (nI i) l2 (nI c) (nI k) (0 : Int32) N) else (j_g (j_in (nI k) 20) (fX12_worth_243 (fX12_worth_14 n) (nI i) l2 (nI c) (nI k) (N 95 (nI k).toNatClampNeg) N))) else (fX12_worth_243 (fX12_worth_14 n) (nI i) l2 (nI c) (nI k) ((nI k) - (100 : Int32)) N))))))))))) := by
  rw [fX12_worth_14, jg_in h36 (by decide), nI_clamp (show i < 2 ^ 31 by omega), e82, if_neg (nI_ge (a := c) (b := hi) hc (by omega)), jg_in (show c < 2000 by omega) (by decide), nI_clamp (show c < 2 ^ 31 by omega), e83]
def unwN (g : Nat → Int32) : Nat → Nat
  | 0 => 0
  | d + 1 => if g (d + 1) = 1 then unwN g d else d + 1
def ngN (g : Nat → Int32) : Nat → Int32 → Int32
  | 0, v => v
  | d + 1, v => if g (d + 1) = 1 then ngN g d (neg1 v) else v
theorem unwN_le (g : Nat → Int32) : ∀ d, unwN g d ≤ d := by
  intro d
  induction d with
  | zero => exact Nat.le_refl _
  | succ d ih =>
    rw [unwN]
    split
    · omega
    · omega
theorem unwN_cong {g g' : Nat → Int32} : ∀ d, (∀ j, j ≤ d → g' j = g j) → unwN g' d = unwN g d ∧ ∀ v, ngN g' d v = ngN g d v := by
  intro d
  induction d with
  | zero => intro _; exact ⟨rfl, fun _ => rfl⟩
  | succ d ih =>
    intro h
    obtain ⟨h1, h2⟩ := ih (fun j hj => h j (by omega))
    refine ⟨by rw [unwN, unwN, h (d + 1) (Nat.le_refl _), h1], fun v => ?_⟩
    rw [ngN, ngN, h (d + 1) (Nat.le_refl _), h2]
theorem unwN_end {g : Nat → Int32} {d : Nat} (h : d = 0 ∨ g d ≠ 1) : unwN g d = d ∧ ∀ v, ngN g d v = v := by
  cases d with
  | zero => exact ⟨rfl, fun _ => rfl⟩
  | succ d =>
    have h' : ¬ g (d + 1) = 1 := by rcases h with h | h; exact absurd h (by omega); exact h
    exact ⟨by rw [unwN, if_neg h'], fun v => by rw [ngN, if_neg h']⟩
theorem w268 {k : Int32 → Int32 → Int32 → JI → Option (Int32 × JI)} {i c : Nat} {N : JI} : ∀ d, d ≤ 6 → ∀ n, d < n → ∀ v, fX12_worth_268 k n (nI i) (nI d) (nI c) v N = k (nI i) (nI (unwN (N 94) d)) (nI (c + 1)) (j_up N 92 (unwN (N 94) d) (if N 93 (unwN (N 94) d) = 0 then ngN (N 94) d v else N 92 (unwN (N 94) d) * ngN (N 94) d v)) := by
  have w300 : ∀ d, d ≤ 6 → ∀ v, fX12_worth_300 k (nI i) (nI d) (nI c) v N = k (nI i) (nI d) (nI (c + 1)) (j_up N 92 d (if N 93 d = 0 then v else N 92 d * v)) := by
    intro d hd v
    unfold fX12_worth_300
    rw [jg_in (show d < 7 by omega) (by decide), jg_in (show d < 7 by omega) (by decide), jg_in (show d < 7 by omega) (by decide), nI_clamp (by omega), show nI c + (1 : Int32) = nI (c + 1) from nI_add _ 1]
    by_cases c0 : N 93 d = 0
    · rw [if_pos c0, if_pos c0]
    · rw [if_neg c0, if_neg c0, jg_in (show d < 7 by omega) (by decide)]
  intro d
  induction d with
  | zero =>
    intro _ n hn v
    obtain ⟨n', rfl⟩ := suc_of hn
    rw [fX12_worth_268, if_pos (show nI 0 ≤ (0 : Int32) by decide), w300 0 (by omega)]; rfl
  | succ d ih =>
    intro hd n hn v
    obtain ⟨n', rfl⟩ := suc_of hn
    rw [fX12_worth_268, if_neg (show ¬ nI (d + 1) ≤ (0 : Int32) from nI_nle (by omega) (by omega)), jg_in (show d + 1 < 7 by omega) (by decide), nI_clamp (by omega), unwN, ngN]
    by_cases c1 : N 94 (d + 1) = 1
    · rw [if_pos c1, if_pos c1, if_pos c1, show nI (d + 1) + (-1 : Int32) = nI d from pk_m1 d, ih (by omega) n' (by omega), ih (by omega) n' (by omega)]
      unfold neg1
      by_cases c0 : v = 0
      · rw [if_pos c0, if_pos c0]
      · rw [if_neg c0, if_neg c0]
    · rw [if_neg c1, if_neg c1, if_neg c1, w300 (d + 1) hd]
