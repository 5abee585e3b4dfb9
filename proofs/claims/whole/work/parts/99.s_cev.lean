/-! ===== what a condition is worth to the class ===== -/
def bop (t : Nat) (a b : Int32) : Int32 := if t = 28 then (if a = 0 then 0 else if b = 0 then 0 else 1) else if t = 42 then a * b else if t = 43 then a + b else if t = 45 then a - b else if t = 60 then (if b ≤ a then 0 else 1) else if t = 61 then (if a = b then 1 else 0) else (if a = 0 then (if b = 0 then 0 else 1) else 1)
def neg1 (a : Int32) : Int32 := if a = 0 then 1 else 0
abbrev FV : Type := (Nat → Int32) → Int32
def CPv (cc : List Nat) (V : FV) (u : Nat) : Prop := ∀ (X : Nat) (N : JI) (D : JG) (S : JS) (top c hi : Nat), (X = 44 ∨ X = 55) → D 15 5 = some X → S[X]? = some (4, 17) → seg (N (X + 10)) c cc → c + cc.length ≤ hi → hi ≤ 1000 → top + u ≤ 64 → ∃ r : Nat → Int32, (∀ n, fX3_value_5 (n + cc.length) (nI hi) (nI top) (nI c) N D S = fX3_value_5 n (nI hi) (nI (top + 1)) (nI (c + cc.length)) (jr N 17 r) D S) ∧ r top = V (N 16) ∧ ∀ j, j < top → r j = N 17 j
theorem jo_some {α : Type} {o : Option Nat} {a : Nat} (h : o = some a) (y : Option α) (f : Nat → Option α) : j_opt o y f = f a := by rw [h]; rfl
theorem v5_head {X : Nat} {N : JI} {D : JG} {S : JS} {c hi k n : Nat} {l3 : Int32} (hD : D 15 5 = some X) (hS : S[X]? = some (4, 17)) (hc : c < hi) (hh : hi ≤ 1000) (e : N (X + 10) c = nI k) : fX3_value_5 (n + 1) (nI hi) l3 (nI c) N D S = if (20000 : Int32) ≤ nI k then (fX3_value_73 (fX3_value_5 n) (nI hi) l3 (nI c) (nI k) N D S) else (if (64 : Int32) ≤ l3 then (fX3_value_73 (fX3_value_5 n) (nI hi) l3 (nI c) (nI k) N D S) else (if (10000 : Int32) ≤ nI k then (j_g (j_in (nI k - (10000 : Int32)) 14) (j_g (j_in l3 64) ((fX3_value_5 n) (nI hi) (l3 + (1 : Int32)) (nI c + (1 : Int32)) (j_up N 17 l3.toNatClampNeg (N 16 (nI k - (10000 : Int32)).toNatClampNeg)) D S))) else (j_g (j_in l3 64) ((fX3_value_5 n) (nI hi) (l3 + (1 : Int32)) (nI c + (1 : Int32)) (j_up N 17 l3.toNatClampNeg (nI k)) D S)))) := by
  rw [fX3_value_5, if_neg (nI_ge (a := c) (b := hi) hc (by omega)), jo_some hD, hS, show decide (some (4, 17) = some ((4, 17) : Nat × Nat)) = true by decide, show ∀ x, j_g true x = x from fun x => rfl, jg_in (show c < 1000 by omega) (by decide), nI_clamp (by omega), e]
theorem cp_num {v u : Nat} (hv : v ≤ 9999) (hu : 1 ≤ u) : CPv [v] (fun _ => nI v) u := by
  intro X N D S top c hi hX hD hS hs hc hh ht
  rw [List.length_singleton] at hc
  refine ⟨fun j => if j = top then nI v else N 17 j, fun n => ?_, if_pos rfl, fun j hj => if_neg (by omega)⟩
  rw [List.length_singleton, v5_head hD hS (by omega) hh hs.1, if_neg (show ¬ (20000 : Int32) ≤ nI (v) from nI_ge (b := 20000) (by omega) (by omega)), if_neg (show ¬ (64 : Int32) ≤ nI (top) from nI_ge (b := 64) (by omega) (by omega)), if_neg (show ¬ (10000 : Int32) ≤ nI (v) from nI_ge (b := 10000) (by omega) (by omega)), jg_in (show top < 64 by omega) (by decide), nI_clamp (by omega), show nI top + (1 : Int32) = nI (top + 1) from nI_add _ 1, show nI c + (1 : Int32) = nI (c + 1) from nI_add _ 1, jr_up1]
theorem cp_fact {t u : Nat} (ht : t < 14) (hu : 1 ≤ u) : CPv [10000 + t] (fun f => f t) u := by
  intro X N D S top c hi hX hD hS hs hc hh htp
  rw [List.length_singleton] at hc
  refine ⟨fun j => if j = top then N 16 t else N 17 j, fun n => ?_, if_pos rfl, fun j hj => if_neg (by omega)⟩
  have e : nI (10000 + t) - (10000 : Int32) = nI t := by
    have : nI (10000 + t) = nI t + (10000 : Int32) := by rw [Nat.add_comm]; exact (nI_add t 10000).symm
    rw [this, Int32.add_sub_cancel]
  rw [List.length_singleton, v5_head hD hS (by omega) hh hs.1, if_neg (show ¬ (20000 : Int32) ≤ nI (10000 + t) from nI_ge (b := 20000) (by omega) (by omega)), if_neg (show ¬ (64 : Int32) ≤ nI (top) from nI_ge (b := 64) (by omega) (by omega)), if_pos (show (10000 : Int32) ≤ nI (10000 + t) from nI_le (a := 10000) (by omega) (by omega)), e, jg_in (show t < 14 by omega) (by decide), jg_in (show top < 64 by omega) (by decide), nI_clamp (by omega), nI_clamp (by omega), show nI top + (1 : Int32) = nI (top + 1) from nI_add _ 1, show nI c + (1 : Int32) = nI (c + 1) from nI_add _ 1, jr_up1]
theorem jr_jr (M : JI) (a : Nat) (f g : Nat → Int32) : jr (jr M a f) a g = jr M a g := by
  funext a'
  unfold jr
  split <;> rfl
theorem cp_not {cc : List Nat} {V : FV} {u : Nat} (h : CPv cc V u) (hu : 1 ≤ u) : CPv (cc ++ [20030]) (fun f => neg1 (V f)) u := by
  intro X N D S top c hi hX hD hS hs hc hh htp
  rw [List.length_append, List.length_singleton] at hc
  rw [seg_app] at hs
  obtain ⟨r, h1, h2, h3⟩ := h X N D S top c hi hX hD hS hs.1 (by omega) hh htp
  have e : (jr N 17 r) (X + 10) (c + cc.length) = nI 20030 := by rw [jr_ne _ _ (by omega)]; exact hs.2.1
  have es : nI (top + 1) - (1 : Int32) = nI top := nI_pred top
  refine ⟨fun j => if j = top then neg1 (V (N 16)) else r j, fun n => ?_, if_pos rfl, fun j hj => by rw [← h3 j hj]; exact if_neg (by omega)⟩
  rw [List.length_append, List.length_singleton, show n + (cc.length + 1) = (n + 1) + cc.length by omega, h1, v5_head hD hS (by omega) hh e, if_pos (by decide)]
  unfold fX3_value_73
  rw [if_pos (by decide), if_neg (show ¬ nI (top + 1) < (1 : Int32) from nI_nlt (a := top + 1) (b := 1) (by omega) (by omega)), es, jg_in (show top < 64 by omega) (by decide), jg_in (show top < 64 by omega) (by decide), nI_clamp (by omega), jr_at, h2, show nI (c + cc.length) + (1 : Int32) = nI (c + (cc.length + 1)) from nI_add _ 1, jr_up1, jr_up1, jr_at, jr_jr, jr_jr]
  unfold neg1
  by_cases c0 : V (N 16) = 0
  · rw [if_pos c0, if_pos c0]
  · rw [if_neg c0, if_neg c0, jg_in (show top < 64 by omega) (by decide)]
theorem cp_mono {cc : List Nat} {V : FV} {u u' : Nat} (h : CPv cc V u) (hu : u ≤ u') : CPv cc V u' := fun X N D S top c hi hX hD hS hs hc hh htp => h X N D S top c hi hX hD hS hs hc hh (by omega)
theorem cp_op {X : Nat} {N : JI} {D : JG} {S : JS} {c hi t top n : Nat} {a b : Int32} (hX : X = 44 ∨ X = 55) (hD : D 15 5 = some X) (hS : S[X]? = some (4, 17)) (hc : c < hi) (hh : hi ≤ 1000) (e : N (X + 10) c = nI (20000 + t)) (ht : lev t < 4) (htp : top + 2 ≤ 64) (ea : N 17 top = a) (eb : N 17 (top + 1) = b) : fX3_value_5 (n + 1) (nI hi) (nI (top + 2)) (nI c) N D S = fX3_value_5 n (nI hi) (nI (top + 1)) (nI (c + 1)) (jr N 17 (fun j => if j = top then bop t a b else N 17 j)) D S := by
  have hcase : t = 28 ∨ t = 29 ∨ t = 60 ∨ t = 61 ∨ t = 43 ∨ t = 45 ∨ t = 42 := by
    unfold lev at ht
    by_cases c1 : t = 28 ∨ t = 29
    · omega
    · rw [if_neg c1] at ht
      by_cases c2 : t = 60 ∨ t = 61
      · omega
      · rw [if_neg c2] at ht
        by_cases c3 : t = 43 ∨ t = 45
        · omega
        · rw [if_neg c3] at ht
          by_cases c4 : t = 42
          · omega
          · rw [if_neg c4] at ht; omega
  have es : nI (top + 2) + (-1 : Int32) = nI (top + 1) := pk_m1 (top + 1)
  have es2 : nI (top + 1) - (1 : Int32) = nI top := nI_pred top
  have k1 : ¬ nI (top + 2) < (2 : Int32) := nI_nlt (a := top + 2) (b := 2) (by omega) (by omega)
  have k2 : (20000 : Int32) ≤ nI (20000 + t) := nI_le (a := 20000) (by omega) (by omega)
  have k3 : ¬ nI (20000 + t) = (20030 : Int32) := fun e => absurd ((nI_eq (b := 20030) (by omega) (by omega)).mp e) (by omega)
  have k4 : nI (20000 + t) - (20000 : Int32) = nI t := by
    have : nI (20000 + t) = nI t + (20000 : Int32) := by rw [Nat.add_comm]; exact (nI_add t 20000).symm
    rw [this, Int32.add_sub_cancel]
  have go : ∀ s0, (j_g (j_in (nI top) 64) ((fX3_value_5 n) (nI hi) (nI (top + 1)) (nI c + (1 : Int32)) (j_up N 17 (nI top).toNatClampNeg s0) D S)) = fX3_value_5 n (nI hi) (nI (top + 1)) (nI (c + 1)) (jr N 17 (fun j => if j = top then s0 else N 17 j)) D S := by
    intro s0
    rw [jg_in (show top < 64 by omega) (by decide), nI_clamp (by omega), show nI c + (1 : Int32) = nI (c + 1) from nI_add _ 1, jr_up1]
  rw [v5_head hD hS hc hh e, if_pos k2]
  unfold fX3_value_73
  rw [if_neg k3]
  unfold fX3_value_113
  rw [if_neg k1, es, es2, k4, jg_in (show top < 64 by omega) (by decide), jg_in (show top + 1 < 64 by omega) (by decide), nI_clamp (by omega), nI_clamp (by omega), ea, eb]
  unfold fX3_value_283 fX3_value_246 fX3_value_263 fX3_value_303
  rw [es2]
  rw [nI_clamp (by omega)] at go
  rw [nI_clamp (by omega)]
  simp only [go]
  unfold bop
  rcases hcase with rfl | rfl | rfl | rfl | rfl | rfl | rfl
  · rw [if_pos (show nI 28 = (28 : Int32) from rfl)]
    by_cases ca : a = 0
    · simp only [ca, if_true]
    · by_cases cb : b = 0
      · simp only [ca, cb, if_true, if_false]
      · simp only [ca, cb, if_true, if_false]
  · rw [if_neg (by decide), if_neg (by decide), if_neg (by decide), if_neg (by decide), if_neg (by decide), if_neg (by decide)]
    by_cases ca : a = 0
    · by_cases cb : b = 0
      · simp only [ca, cb, if_true]; rfl
      · simp only [ca, cb, if_true, if_false]; rfl
    · simp only [ca, if_false]; rfl
  · rw [if_neg (by decide), if_neg (by decide), if_neg (by decide), if_neg (by decide), if_pos (show nI 60 = (60 : Int32) from rfl)]
    by_cases ca : b ≤ a
    · simp only [ca, if_true]; rfl
    · simp only [ca, if_false]; rfl
  · rw [if_neg (by decide), if_neg (by decide), if_neg (by decide), if_neg (by decide), if_neg (by decide), if_pos (show nI 61 = (61 : Int32) from rfl)]
    by_cases ca : a = b
    · simp only [ca, if_true]; rfl
    · simp only [ca, if_false]; rfl
  · rw [if_neg (by decide), if_neg (by decide), if_pos (show nI 43 = (43 : Int32) from rfl)]; rfl
  · rw [if_neg (by decide), if_neg (by decide), if_neg (by decide), if_pos (show nI 45 = (45 : Int32) from rfl)]; rfl
  · rw [if_neg (by decide), if_pos (show nI 42 = (42 : Int32) from rfl)]; rfl
theorem cp_bin {ca cb : List Nat} {V W : FV} {u t : Nat} (ha : CPv ca V (u + 1)) (hb : CPv cb W u) (ht : lev t < 4) (hu : 1 ≤ u) : CPv (ca ++ (cb ++ [20000 + t])) (fun f => bop t (V f) (W f)) (u + 1) := by
  intro X N D S top c hi hX hD hS hs hc hh htp
  rw [List.length_append, List.length_append, List.length_singleton] at hc
  rw [seg_app, seg_app] at hs
  obtain ⟨hs1, hs2, hs3, -⟩ := hs
  obtain ⟨r, a1, a2, a3⟩ := ha X N D S top c hi hX hD hS hs1 (by omega) hh (by omega)
  obtain ⟨r', b1, b2, b3⟩ := hb X (jr N 17 r) D S (top + 1) (c + ca.length) hi hX hD hS (by rw [jr_ne _ _ (by omega)]; exact hs2) (by omega) hh (by omega)
  rw [jr_ne _ _ (by omega)] at b2
  have htop : r' top = V (N 16) := by rw [b3 top (by omega), jr_at]; exact a2
  refine ⟨fun j => if j = top then bop t (V (N 16)) (W (N 16)) else r' j, fun n => ?_, if_pos rfl, fun j hj => ?_⟩
  · rw [List.length_append, List.length_append, List.length_singleton, show n + (ca.length + (cb.length + 1)) = ((n + 1) + cb.length) + ca.length by omega, a1, b1, jr_jr]
    rw [cp_op (c := c + ca.length + cb.length) (t := t) (a := V (N 16)) (b := W (N 16)) hX hD hS (by omega) hh (by rw [jr_ne _ _ (by omega)]; exact hs3) ht (by omega) (by rw [jr_at]; exact htop) (by rw [jr_at]; exact b2), jr_jr, jr_at, show c + ca.length + cb.length + 1 = c + (ca.length + (cb.length + 1)) by omega]
  · show (if j = top then _ else r' j) = N 17 j
    rw [if_neg (by omega), b3 j (by omega), jr_at, a3 j hj]
