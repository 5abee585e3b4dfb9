/-! ===== the reference reads a condition ===== -/
def rF (N N' : JI) (L L' : JL) : Prop := (∀ a, a ≠ 66 → a ≠ 83 → a ≠ 84 → a ≠ 85 → N' a = N a) ∧ (∀ k, (k < 12 ∨ (17 < k ∧ k ≠ 28)) → N' 66 k = N 66 k) ∧ (∀ a, a ≠ 66 → L' a = L a) ∧ ∀ j, j < 1000 → N' 83 j = N 83 j
theorem rF_rfl (N : JI) (L : JL) : rF N N L L := ⟨fun _ _ _ _ _ => rfl, fun _ _ => rfl, fun _ _ => rfl, fun _ _ => rfl⟩
theorem rF_tr {N N' N'' : JI} {L L' L'' : JL} (h : rF N N' L L') (h' : rF N' N'' L' L'') : rF N N'' L L'' := ⟨fun a h1 h2 h3 h4 => (h'.1 a h1 h2 h3 h4).trans (h.1 a h1 h2 h3 h4), fun k hk => (h'.2.1 k hk).trans (h.2.1 k hk), fun a ha => (h'.2.2.1 a ha).trans (h.2.2.1 a ha), fun j hj => (h'.2.2.2 j hj).trans (h.2.2.2 j hj)⟩
theorem rF_n {N N' : JI} {L L' : JL} (h : rN N N' L L') : rF N N' L L' := ⟨fun a h1 _ _ _ => h.1 a h1, fun k hk => h.2.1 k (by omega), h.2.2, fun j _ => by rw [h.1 83 (by omega)]⟩
theorem LR_fr {N N' : JI} {L L' : JL} {tx : Nat → Nat} {m b : Nat} (h : LR N L tx m b) (h74 : N' 74 = N 74) (h66 : ∀ k, 11 ≤ k → k ≤ 16 → N' 66 k = N 66 k) (hL : L' = L) : LR N' L' tx m b := by
  obtain ⟨a1, a2, a3, a4⟩ := h
  subst hL
  refine ⟨by rw [h74]; exact a1, a2, by rw [h66 11 (by omega) (by omega)]; exact a3, ?_⟩
  unfold RT at a4 ⊢
  rw [h66 12 (by omega) (by omega), h66 13 (by omega) (by omega), h66 14 (by omega) (by omega), h66 16 (by omega) (by omega)]
  exact a4
def unw (op : Nat → Nat) : Nat → Nat
  | 0 => 0
  | d + 1 => if op (d + 1) = 1 then unw op d else d + 1
theorem unw_le (op : Nat → Nat) : ∀ d, unw op d ≤ d := by
  intro d
  induction d with
  | zero => exact Nat.le_refl _
  | succ d ih =>
    rw [unw]
    split
    · omega
    · omega
def opn (N : JI) (op : Nat → Nat) (d : Nat) : Prop := ∀ j, 1 ≤ j → j ≤ d → N 84 j = nI (op j) ∧ (op j = 1 ∨ op j = 2)
theorem pu_eq {N : JI} {q : Nat} (hq : q < 1000) (e : N 66 28 = nI (1000 + q)) (v : Int32) : fX12_puts v N = some (j_up (j_up N 83 (1000 + q) v) 66 28 (nI (1000 + q + 1))) := by
  unfold fX12_puts
  rw [e, jg_in (show 1000 + q < 2000 by omega) (by decide), nI_clamp (by omega), ju_row _ _ (show (66 : Nat) ≠ 83 by omega), e, show nI (1000 + q) + (1 : Int32) = nI (1000 + q + 1) from nI_add _ 1]
theorem un_152 {tx : Nat → Nat} {m b : Nat} {op : Nat → Nat} {k11 : Int32 → Int32 → JI → JL → Option (Int32 × JI × JL)} {l2 : Int32} {N : JI} {L : JL} : ∀ d, d ≤ 6 → opn N op d → ∀ n, d < n → fX12_reads_152 k11 n (nI d) l2 N L = fX12_reads_172 k11 (nI (unw op d)) l2 N L := by
  intro d
  induction d with
  | zero =>
    intro _ _ n hn
    obtain ⟨n', rfl⟩ := suc_of hn
    rw [fX12_reads_152, if_pos (by decide)]; rfl
  | succ d ih =>
    intro hd ho n hn
    obtain ⟨n', rfl⟩ := suc_of hn
    have c : ¬ nI (d + 1) ≤ (0 : Int32) := nI_ge (a := 0) (b := d + 1) (by omega) (by omega)
    obtain ⟨o1, o2⟩ := ho (d + 1) (by omega) (Nat.le_refl _)
    rw [fX12_reads_152, if_neg c, jg_in (show d + 1 < 7 by omega) (by decide), nI_clamp (by omega), o1, unw]
    rcases o2 with o2 | o2
    · rw [o2, if_pos (show nI 1 = (1 : Int32) from rfl), if_pos rfl, pk_m1]
      exact ih (by omega) (fun j h1 h2 => ho j h1 (by omega)) n' (by omega)
    · rw [o2, if_neg (show ¬ nI 2 = (1 : Int32) by decide), if_neg (by decide)]
theorem un_379 {op : Nat → Nat} {k11 : Int32 → Int32 → JI → JL → Option (Int32 × JI × JL)} {l2 : Int32} {N : JI} {L : JL} : ∀ d, d ≤ 6 → opn N op d → ∀ n, d < n → fX12_reads_379 k11 n (nI d) l2 N L = fX12_reads_424 k11 (nI (unw op d)) l2 N L := by
  intro d
  induction d with
  | zero =>
    intro _ _ n hn
    obtain ⟨n', rfl⟩ := suc_of hn
    rw [fX12_reads_379, if_pos (by decide)]; rfl
  | succ d ih =>
    intro hd ho n hn
    obtain ⟨n', rfl⟩ := suc_of hn
    have c : ¬ nI (d + 1) ≤ (0 : Int32) := nI_ge (a := 0) (b := d + 1) (by omega) (by omega)
    obtain ⟨o1, o2⟩ := ho (d + 1) (by omega) (Nat.le_refl _)
    rw [fX12_reads_379, if_neg c, jg_in (show d + 1 < 7 by omega) (by decide), nI_clamp (by omega), o1, unw]
    rcases o2 with o2 | o2
    · rw [o2, if_pos (show nI 1 = (1 : Int32) from rfl), if_pos rfl, pk_m1]
      exact ih (by omega) (fun j h1 h2 => ho j h1 (by omega)) n' (by omega)
    · rw [o2, if_neg (show ¬ nI 2 = (1 : Int32) by decide), if_neg (by decide)]
/-- one code is put, and the next token taken -/
theorem pt_eq {N : JI} {L : JL} {tx : Nat → Nat} {m b q : Nat} (h : LR N L tx m b) (hb : b < m) (hq : q ≤ b) (e28 : N 66 28 = nI (1000 + q)) (v : Nat) {f84 f85 : Nat → Int32} {N1 : JI} (hN1 : N1 = jr (jr (j_up (j_up N 83 (1000 + q) (nI v)) 66 28 (nI (1000 + q + 1))) 84 f84) 85 f85) : ∃ N' L', fX12_nextToken N1 L = some (N', L') ∧ rF N N' L L' ∧ LR N' L' tx m (nxB tx m b) ∧ N' 66 28 = nI (1000 + (q + 1)) ∧ N' 83 (1000 + q) = nI v ∧ (∀ j, j ≠ 1000 + q → N' 83 j = N 83 j) ∧ N' 84 = f84 ∧ N' 85 = f85 := by
  have r1 : ∀ a, a ≠ 66 → a ≠ 83 → a ≠ 84 → a ≠ 85 → N1 a = N a := fun a z1 z2 z3 z4 => by rw [hN1, jr_ne _ _ z4, jr_ne _ _ z3, ju_row _ _ z1, ju_row _ _ z2]
  have r66 : ∀ k, k ≠ 28 → N1 66 k = N 66 k := fun k hk => by rw [hN1, jr_ne _ _ (by omega), jr_ne _ _ (by omega), ju_cell _ _ hk, ju_row _ _ (by omega)]
  have hL1 : LR N1 L tx m b := LR_fr h (r1 74 (by omega) (by omega) (by omega) (by omega)) (fun k h1 h2 => r66 k (by omega)) rfl
  obtain ⟨N', L', a1, a2, a3⟩ := LR_next hL1 hb
  refine ⟨N', L', a1, ⟨fun a z1 z2 z3 z4 => by rw [a2.1 a z1, r1 a z1 z2 z3 z4], fun k hk => by rw [a2.2.1 k (by omega), r66 k (by omega)], a2.2.2, fun j hj => by rw [a2.1 83 (by omega), hN1, jr_ne _ _ (by omega), jr_ne _ _ (by omega), ju_row _ _ (by omega), ju_cell _ _ (by omega)]⟩, a3, ?_, ?_, fun j hj => ?_, ?_, ?_⟩
  · rw [a2.2.1 28 (by omega), hN1, jr_ne _ _ (by omega), jr_ne _ _ (by omega), ju_same]; rfl
  · rw [a2.1 83 (by omega), hN1, jr_ne _ _ (by omega), jr_ne _ _ (by omega), ju_row _ _ (by omega), ju_same]
  · rw [a2.1 83 (by omega), hN1, jr_ne _ _ (by omega), jr_ne _ _ (by omega), ju_row _ _ (by omega), ju_cell _ _ hj]
  · rw [a2.1 84 (by omega), hN1, jr_ne _ _ (by omega), jr_at]
  · rw [a2.1 85 (by omega), hN1, jr_at]
theorem jr_self (M : JI) (a : Nat) : jr M a (M a) = M := by
  funext a'
  unfold jr
  split
  · rename_i h; rw [h]
  · rfl
theorem jr_up1 (M : JI) (a k : Nat) (v : Int32) : j_up M a k v = jr M a (fun j => if j = k then v else M a j) := by
  funext a'
  unfold jr
  by_cases h : a' = a
  · rw [if_pos h, h, ju_at]
  · rw [if_neg h, ju_row _ _ h]
theorem b01f : decide (jm_b01 (0 : Int32) = 0) = true := by decide
/-- an operation is met -/
theorem rop_step {N : JI} {L : JL} {tx : Nat → Nat} {m b q y : Nat} (h : LR N L tx m b) (hq : q ≤ b) (e28 : N 66 28 = nI (1000 + q)) (hy : y ≤ 5) (hlev : lev (lT tx m b) < 4) (hfl : lev (lT tx m b) = 1 → N 85 y = nI 0) : ∃ N' L', (∀ n, fX12_reads_11 (n + 1) (nI y) (nI 0) N L = fX12_reads_11 n (nI y) (nI 1) N' L') ∧ rF N N' L L' ∧ LR N' L' tx m (nxB tx m b) ∧ N' 66 28 = nI (1000 + (q + 1)) ∧ N' 83 (1000 + q) = nI (rop (lT tx m b)) ∧ (∀ j, j ≠ 1000 + q → N' 83 j = N 83 j) ∧ N' 84 = N 84 ∧ (∀ j, j ≠ y → N' 85 j = N 85 j) ∧ N' 85 y = (if lev (lT tx m b) = 0 then nI 0 else if lev (lT tx m b) = 1 then nI 1 else N 85 y) := by
  have hbm : b < m := lT_33 (tx := tx) (by intro e; rw [e] at hlev; have := lev_33; omega) h.2.1
  have hm := h.1.1
  have s43 : fX12_isSign (43 : Int32) N = some (bI (decide (lT tx m b = 43))) := RT_sign h.2.2.2 h.1 (c := 43) (by decide)
  have s45 : fX12_isSign (45 : Int32) N = some (bI (decide (lT tx m b = 45))) := RT_sign h.2.2.2 h.1 (c := 45) (by decide)
  have s42 : fX12_isSign (42 : Int32) N = some (bI (decide (lT tx m b = 42))) := RT_sign h.2.2.2 h.1 (c := 42) (by decide)
  have s60 : fX12_isSign (60 : Int32) N = some (bI (decide (lT tx m b = 60))) := RT_sign h.2.2.2 h.1 (c := 60) (by decide)
  have s61 : fX12_isSign (61 : Int32) N = some (bI (decide (lT tx m b = 61))) := RT_sign h.2.2.2 h.1 (c := 61) (by decide)
  obtain ⟨-, -, -, -, -, -, -, -, -, -, -, -, -, -, -, -, -, -, -, -, -, -, -, -, -, -, -, -, k28, k29, k30⟩ := kc_val
  have w28 : fX12_isWord (1111 : Int64) N L = some (bI (decide (lT tx m b = 28))) := by have := RT_word h.2.2.2 (k := 28) (by omega); rw [k28] at this; exact this
  have w29 : fX12_isWord (423 : Int64) N L = some (bI (decide (lT tx m b = 29))) := by have := RT_word h.2.2.2 (k := 29) (by omega); rw [k29] at this; exact this
  have hbt : bI true ≠ (0 : Int32) := by decide
  have hbf : bI false = (0 : Int32) := by decide
  have hz0 : nI 0 = (0 : Int32) := rfl
  have go : ∀ (v : Nat) (f85 : Nat → Int32), v = rop (lT tx m b) → (∀ j, j ≠ y → f85 j = N 85 j) → f85 y = (if lev (lT tx m b) = 0 then nI 0 else if lev (lT tx m b) = 1 then nI 1 else N 85 y) → (∀ n, fX12_reads_11 (n + 1) (nI y) (nI 0) N L = fX12_reads_424 (fX12_reads_11 n) (nI y) (nI 1) (jr (jr (j_up (j_up N 83 (1000 + q) (nI v)) 66 28 (nI (1000 + q + 1))) 84 (N 84)) 85 f85) L) → ∃ N' L', (∀ n, fX12_reads_11 (n + 1) (nI y) (nI 0) N L = fX12_reads_11 n (nI y) (nI 1) N' L') ∧ rF N N' L L' ∧ LR N' L' tx m (nxB tx m b) ∧ N' 66 28 = nI (1000 + (q + 1)) ∧ N' 83 (1000 + q) = nI (rop (lT tx m b)) ∧ (∀ j, j ≠ 1000 + q → N' 83 j = N 83 j) ∧ N' 84 = N 84 ∧ (∀ j, j ≠ y → N' 85 j = N 85 j) ∧ N' 85 y = (if lev (lT tx m b) = 0 then nI 0 else if lev (lT tx m b) = 1 then nI 1 else N 85 y) := by
    intro v f85 hv h1 h2 h3
    obtain ⟨N', L', a1, a2, a3, a4, a5, a6, a7, a8⟩ := pt_eq h hbm hq e28 v (f84 := N 84) (f85 := f85) rfl
    refine ⟨N', L', fun n => ?_, a2, a3, a4, by rw [a5, hv], a6, a7, fun j hj => by rw [a8]; exact h1 j hj, by rw [a8]; exact h2⟩
    rw [h3 n]
    unfold fX12_reads_424
    rw [a1, Option.bind_some]
  have e84 : ∀ v : Nat, (j_up (j_up N 83 (1000 + q) (nI v)) 66 28 (nI (1000 + q + 1))) 84 = N 84 := fun v => by rw [ju_row _ _ (by omega), ju_row _ _ (by omega)]
  have e85 : ∀ v : Nat, (j_up (j_up N 83 (1000 + q) (nI v)) 66 28 (nI (1000 + q + 1))) 85 = N 85 := fun v => by rw [ju_row _ _ (by omega), ju_row _ _ (by omega)]
  have pl : ∀ v : Nat, jr (jr (j_up (j_up N 83 (1000 + q) (nI v)) 66 28 (nI (1000 + q + 1))) 84 (N 84)) 85 (N 85) = j_up (j_up N 83 (1000 + q) (nI v)) 66 28 (nI (1000 + q + 1)) := by
    intro v
    have z1 := jr_self (j_up (j_up N 83 (1000 + q) (nI v)) 66 28 (nI (1000 + q + 1))) 84
    rw [e84 v] at z1
    rw [z1]
    have z2 := jr_self (j_up (j_up N 83 (1000 + q) (nI v)) 66 28 (nI (1000 + q + 1))) 85
    rw [e85 v] at z2
    exact z2
  have pu : ∀ (v : Nat) (w : Int32), j_up (j_up (j_up N 83 (1000 + q) (nI v)) 66 28 (nI (1000 + q + 1))) 85 y w = jr (jr (j_up (j_up N 83 (1000 + q) (nI v)) 66 28 (nI (1000 + q + 1))) 84 (N 84)) 85 (fun j => if j = y then w else N 85 j) := by
    intro v w
    have z1 := jr_self (j_up (j_up N 83 (1000 + q) (nI v)) 66 28 (nI (1000 + q + 1))) 84
    rw [e84 v] at z1
    rw [z1, jr_up1, e85 v]
  have hput : ∀ v : Nat, fX12_puts (nI v) N = some (j_up (j_up N 83 (1000 + q) (nI v)) 66 28 (nI (1000 + q + 1))) := fun v => pu_eq (by omega) e28 (nI v)
  have hcase : lT tx m b = 28 ∨ lT tx m b = 29 ∨ lT tx m b = 60 ∨ lT tx m b = 61 ∨ lT tx m b = 43 ∨ lT tx m b = 45 ∨ lT tx m b = 42 := by
    unfold lev at hlev
    by_cases c1 : lT tx m b = 28 ∨ lT tx m b = 29
    · omega
    · rw [if_neg c1] at hlev
      by_cases c2 : lT tx m b = 60 ∨ lT tx m b = 61
      · omega
      · rw [if_neg c2] at hlev
        by_cases c3 : lT tx m b = 43 ∨ lT tx m b = 45
        · omega
        · rw [if_neg c3] at hlev
          by_cases c4 : lT tx m b = 42
          · omega
          · rw [if_neg c4] at hlev; omega
  rcases hcase with c | c | c | c | c | c | c
  · refine go 26 (fun j => if j = y then nI 0 else N 85 j) (by rw [c]; rfl) (fun j hj => if_neg hj) (by rw [c]; exact if_pos rfl) (fun n => ?_)
    rw [fX12_reads_11, if_pos hz0, s43, s45, s42, s60, s61, c]
    show fX12_reads_304 (fX12_reads_11 n) (nI y) (nI 0) N L = _
    unfold fX12_reads_304 fX12_reads_324
    rw [w28, c]
    show (fX12_puts (nI 26) N).bind _ = _
    rw [hput, Option.bind_some, jg_in (show y < 7 by omega) (by decide), nI_clamp (by omega), pu]; rfl
  · refine go 27 (fun j => if j = y then nI 0 else N 85 j) (by rw [c]; rfl) (fun j hj => if_neg hj) (by rw [c]; exact if_pos rfl) (fun n => ?_)
    rw [fX12_reads_11, if_pos hz0, s43, s45, s42, s60, s61, c]
    show fX12_reads_304 (fX12_reads_11 n) (nI y) (nI 0) N L = _
    unfold fX12_reads_304 fX12_reads_324
    rw [w28, w29, c]
    show (fX12_puts (nI 27) N).bind _ = _
    rw [hput, Option.bind_some, jg_in (show y < 7 by omega) (by decide), nI_clamp (by omega), pu]; rfl
  · have hf : jm_b01 (N 85 y) = 0 := by rw [hfl (by rw [c]; rfl)]; decide
    refine go 24 (fun j => if j = y then nI 1 else N 85 j) (by rw [c]; rfl) (fun j hj => if_neg hj) (by rw [c]; exact if_pos rfl) (fun n => ?_)
    rw [fX12_reads_11, if_pos hz0, s43, s45, s42, s60, c]
    show fX12_reads_263 (fX12_reads_11 n) (nI y) (nI 0) N L = _
    unfold fX12_reads_263
    rw [jg_in (show y < 7 by omega) (by decide), nI_clamp (by omega), if_pos hf, s60, c]
    show (fX12_puts (nI 24) N).bind _ = _
    rw [hput, Option.bind_some, jg_in (show y < 7 by omega) (by decide), pu]; rfl
  · have hf : jm_b01 (N 85 y) = 0 := by rw [hfl (by rw [c]; rfl)]; decide
    refine go 25 (fun j => if j = y then nI 1 else N 85 j) (by rw [c]; rfl) (fun j hj => if_neg hj) (by rw [c]; exact if_pos rfl) (fun n => ?_)
    rw [fX12_reads_11, if_pos hz0, s43, s45, s42, s60, s61, c]
    show fX12_reads_263 (fX12_reads_11 n) (nI y) (nI 0) N L = _
    unfold fX12_reads_263
    rw [jg_in (show y < 7 by omega) (by decide), nI_clamp (by omega), if_pos hf, s60, c]
    show (fX12_puts (nI 25) N).bind _ = _
    rw [hput, Option.bind_some, jg_in (show y < 7 by omega) (by decide), pu]; rfl
  · refine go 20 (N 85) (by rw [c]; rfl) (fun j hj => rfl) (by rw [c]; rfl) (fun n => ?_)
    rw [fX12_reads_11, if_pos hz0, s43, c]
    show fX12_reads_206 (fX12_reads_11 n) (nI y) N L = _
    unfold fX12_reads_206
    rw [s43, c]
    show (fX12_puts (nI 20) N).bind _ = _
    rw [hput, Option.bind_some, pl]; rfl
  · refine go 21 (N 85) (by rw [c]; rfl) (fun j hj => rfl) (by rw [c]; rfl) (fun n => ?_)
    rw [fX12_reads_11, if_pos hz0, s43, s45, c]
    show fX12_reads_206 (fX12_reads_11 n) (nI y) N L = _
    unfold fX12_reads_206
    rw [s43, s45, c]
    show (fX12_puts (nI 21) N).bind _ = _
    rw [hput, Option.bind_some, pl]; rfl
  · refine go 22 (N 85) (by rw [c]; rfl) (fun j hj => rfl) (by rw [c]; rfl) (fun n => ?_)
    rw [fX12_reads_11, if_pos hz0, s43, s45, s42, c]
    show fX12_reads_206 (fX12_reads_11 n) (nI y) N L = _
    unfold fX12_reads_206
    rw [s43, s45, c]
    show (fX12_puts (nI 22) N).bind _ = _
    rw [hput, Option.bind_some, pl]; rfl
/-- what the reference has done when it has read -/
def RRd (tx : Nat → Nat) (m q d : Nat) (N N' : JI) (L L' : JL) (r : AR) : Prop := rF N N' L L' ∧ LR N' L' tx m r.2.1 ∧ N' 66 28 = nI (1000 + (q + r.2.2.2.1.length)) ∧ seg (N' 83) (1000 + q) r.2.2.2.1 ∧ (∀ j, j < 1000 + q → N' 83 j = N 83 j) ∧ (∀ j, j ≤ d → N' 84 j = N 84 j) ∧ ∀ j, j < d → N' 85 j = N 85 j
