theorem rF_w {N : JI} {L : JL} (v : Int32) : rF N (j_up N 66 17 v) L L := ⟨fun a h1 _ _ _ => ju_row _ _ h1, fun k hk => ju_cell _ _ (by omega), fun _ _ => rfl, fun _ _ => by rw [ju_row _ _ (by omega)]⟩
theorem r304 {N : JI} {L : JL} {tx : Nat → Nat} {m b y : Nat} (h : LR N L tx m b) (hy : y ≤ 5) (hst : lev (lT tx m b) = 4 ∨ (lev (lT tx m b) = 1 ∧ N 85 y = nI 1)) (n : Nat) : fX12_reads_11 (n + 1) (nI y) (nI 0) N L = fX12_reads_304 (fX12_reads_11 n) (nI y) (nI 0) N L := by
  have s43 : fX12_isSign (43 : Int32) N = some (bI (decide (lT tx m b = 43))) := RT_sign h.2.2.2 h.1 (c := 43) (by decide)
  have s45 : fX12_isSign (45 : Int32) N = some (bI (decide (lT tx m b = 45))) := RT_sign h.2.2.2 h.1 (c := 45) (by decide)
  have s42 : fX12_isSign (42 : Int32) N = some (bI (decide (lT tx m b = 42))) := RT_sign h.2.2.2 h.1 (c := 42) (by decide)
  have s60 : fX12_isSign (60 : Int32) N = some (bI (decide (lT tx m b = 60))) := RT_sign h.2.2.2 h.1 (c := 60) (by decide)
  have s61 : fX12_isSign (61 : Int32) N = some (bI (decide (lT tx m b = 61))) := RT_sign h.2.2.2 h.1 (c := 61) (by decide)
  have hz0 : nI 0 = (0 : Int32) := rfl
  have f4 : bI false = (0 : Int32) := by decide
  have h42 : lT tx m b ≠ 43 ∧ lT tx m b ≠ 45 ∧ lT tx m b ≠ 42 := by
    unfold lev at hst
    refine ⟨?_, ?_, ?_⟩ <;> (intro e; rw [e] at hst; simp at hst)
  rw [fX12_reads_11, if_pos hz0, s43, s45, s42, s60, s61, decide_eq_false h42.1, decide_eq_false h42.2.1, decide_eq_false h42.2.2, Option.bind_some, if_pos f4, Option.bind_some, if_pos f4, Option.bind_some, if_pos f4, Option.bind_some]
  have h263 : (lT tx m b = 60 ∨ lT tx m b = 61) → fX12_reads_263 (fX12_reads_11 n) (nI y) (nI 0) N L = fX12_reads_304 (fX12_reads_11 n) (nI y) (nI 0) N L := by
    intro hc
    rcases hst with q | ⟨-, q⟩
    · exfalso
      unfold lev at q
      rcases hc with e | e <;> (rw [e] at q; simp at q)
    · unfold fX12_reads_263
      rw [jg_in (show y < 7 by omega) (by decide), nI_clamp (by omega), q, if_neg (show ¬ jm_b01 (nI 1) = 0 by decide)]
  by_cases c60 : lT tx m b = 60
  · rw [decide_eq_true c60, if_neg (show ¬ bI true = (0 : Int32) by decide)]
    exact h263 (Or.inl c60)
  · rw [decide_eq_false c60, if_pos f4, Option.bind_some]
    by_cases c61 : lT tx m b = 61
    · rw [decide_eq_true c61, if_neg (show ¬ bI true = (0 : Int32) by decide)]
      exact h263 (Or.inr c61)
    · rw [decide_eq_false c61, if_pos f4]
theorem r304b {N : JI} {L : JL} {tx : Nat → Nat} {m b y : Nat} (h : LR N L tx m b) (hw : lev (lT tx m b) ≠ 0) {k11 : Int32 → Int32 → JI → JL → Option (Int32 × JI × JL)} : fX12_reads_304 k11 (nI y) (nI 0) N L = if lT tx m b = 41 then (if nI y ≤ (0 : Int32) then fX12_reads_399 (nI y) N L else (fX12_puts (29 : Int32) N).bind (fun q21 => fX12_reads_379 k11 100000 (nI y + (-1 : Int32)) (nI 0) q21 L)) else fX12_reads_399 (nI y) N L := by
  obtain ⟨-, -, -, -, -, -, -, -, -, -, -, -, -, -, -, -, -, -, -, -, -, -, -, -, -, -, -, -, k28, k29, k30⟩ := kc_val
  have w28 : fX12_isWord (1111 : Int64) N L = some (bI (decide (lT tx m b = 28))) := by have := RT_word h.2.2.2 (k := 28) (by omega); rw [k28] at this; exact this
  have w29 : fX12_isWord (423 : Int64) N L = some (bI (decide (lT tx m b = 29))) := by have := RT_word h.2.2.2 (k := 29) (by omega); rw [k29] at this; exact this
  have s41 : fX12_isSign (41 : Int32) N = some (bI (decide (lT tx m b = 41))) := RT_sign h.2.2.2 h.1 (c := 41) (by decide)
  have c28 : lT tx m b ≠ 28 := by intro e; apply hw; rw [e]; decide
  have c29 : lT tx m b ≠ 29 := by intro e; apply hw; rw [e]; decide
  have f4 : bI false = (0 : Int32) := by decide
  unfold fX12_reads_304
  rw [w28, w29, s41, decide_eq_false c28, decide_eq_false c29, Option.bind_some, if_pos f4, Option.bind_some, if_pos f4, Option.bind_some]
  by_cases c : lT tx m b = 41
  · rw [decide_eq_true c, if_neg (show ¬ bI true = (0 : Int32) by decide), if_pos c]
  · rw [decide_eq_false c, if_pos f4, if_neg c]
theorem r399 {N : JI} {L : JL} {tx : Nat → Nat} {m b y : Nat} (h : LR N L tx m b) (hy : y ≤ 5) (hne : ¬ (y = 0 ∧ lT tx m b = 59)) : fX12_reads_399 (nI y) N L = some (nI 0, j_up N 66 17 (nI (1 + 16 * b)), L) := by
  have s59 : fX12_isSign (59 : Int32) N = some (bI (decide (lT tx m b = 59))) := RT_sign h.2.2.2 h.1 (c := 59) (by decide)
  have hf := LR_fails h 1
  have hf' : fX12_fails (1 : Int32) N = some (nI 0, j_up N 66 17 (nI (1 + 16 * b))) := hf
  unfold fX12_reads_399
  rw [s59, hf', Option.bind_some, Option.bind_some]
  by_cases c0 : y = 0
  · have c59 : lT tx m b ≠ 59 := fun e => hne ⟨c0, e⟩
    rw [if_pos (by rw [c0]; rfl), decide_eq_false c59, if_pos (by decide)]; rfl
  · rw [if_neg (nI_ne0 (by omega) (by omega))]; rfl
/-- the end of a condition -/
theorem r_end {N : JI} {L : JL} {tx : Nat → Nat} {m b : Nat} (h : LR N L tx m b) (hst : lev (lT tx m b) = 4 ∨ (lev (lT tx m b) = 1 ∧ N 85 0 = nI 1)) : (lT tx m b = 59 → ∃ N' L', (∀ n, fX12_reads_11 (n + 1) (nI 0) (nI 0) N L = some (nI 1, N', L')) ∧ rN N N' L L' ∧ LR N' L' tx m (nxB tx m b)) ∧ (lT tx m b ≠ 59 → ∀ n, fX12_reads_11 (n + 1) (nI 0) (nI 0) N L = some (nI 0, j_up N 66 17 (nI (1 + 16 * b)), L)) := by
  have hw : lev (lT tx m b) ≠ 0 := by omega
  refine ⟨fun c => ?_, fun c n => ?_⟩
  · have hbm : b < m := lT_33 (tx := tx) (by omega) h.2.1
    obtain ⟨N', L', a1, a2, a3⟩ := LR_next h hbm
    refine ⟨N', L', fun n => ?_, a2, a3⟩
    have s59 : fX12_isSign (59 : Int32) N = some (bI (decide (lT tx m b = 59))) := RT_sign h.2.2.2 h.1 (c := 59) (by decide)
    rw [r304 h (by omega) hst, r304b h hw, if_neg (by omega)]
    unfold fX12_reads_399
    rw [if_pos (show nI 0 = (0 : Int32) from rfl), s59, decide_eq_true c, Option.bind_some, if_neg (show ¬ bI true = (0 : Int32) by decide), a1, Option.bind_some]; rfl
  · rw [r304 h (by omega) hst, r304b h hw]
    split
    · rw [if_pos (by decide), r399 h (by omega) (fun e => c e.2)]
    · rw [r399 h (by omega) (fun e => c e.2)]
theorem aLp_cf {tx : Nat → Nat} {m : Nat} {rc : Nat → AR} {x : Nat} (hx : 2 ≤ x) (hrc : ∀ b, (rc b).1 = 0 → (rc b).2.2.2.2 = false) : ∀ n acc, acc.2.2.2.2 = false → (aLp tx m rc x n acc).1 = 0 → (aLp tx m rc x n acc).2.2.2.2 = false := by
  intro n
  induction n with
  | zero => intro acc h _; exact h
  | succ n ih =>
    intro acc h h0
    rw [aLp] at h0 ⊢
    by_cases c : lev (lT tx m acc.2.1) = x
    · rw [if_pos c] at h0 ⊢
      by_cases r0 : (rc (nxB tx m acc.2.1)).1 = 0
      · rw [aBd_0 r0] at h0 ⊢
        refine ih _ ?_ h0
        show (if x = 1 then true else (rc (nxB tx m acc.2.1)).2.2.2.2) = false
        rw [if_neg (by omega)]
        exact hrc _ r0
      · rw [aBd_n r0] at h0
        exact absurd h0 r0
    · rw [if_neg c] at h0 ⊢
      exact h
theorem aR_cf {tx : Nat → Nat} {m : Nat} : ∀ z w x y b, (w = 0 → 2 ≤ x) → (aR tx m z w x y b).1 = 0 → (aR tx m z w x y b).2.2.2.2 = false := by
  intro z
  induction z with
  | zero => intro w x y b _ h; rw [aR] at h; exact absurd h (by decide)
  | succ z ih =>
    intro w x y b hx h
    rw [aR] at h ⊢
    by_cases cw : w = 0
    · rw [if_pos cw] at h ⊢
      by_cases cx : x < 4
      · rw [if_pos cx] at h ⊢
        by_cases r0 : (aR tx m z 0 (x + 1) y b).1 = 0
        · rw [aBd_0 r0] at h ⊢
          have := hx cw
          exact aLp_cf this (fun b' h' => ih 0 (x + 1) y b' (fun _ => by omega) h') _ _ (ih 0 (x + 1) y b (fun _ => by omega) r0) h
        · rw [aBd_n r0] at h
          exact absurd h r0
      · rw [if_neg cx] at h ⊢
        exact ih 1 y 0 b (fun e => absurd e (by decide)) h
    · rw [if_neg cw] at h ⊢
      unfold aPc at h ⊢
      split at h
      · rename_i c1; rw [if_pos c1]
      · rename_i c1
        rw [if_neg c1]
        split at h
        · rename_i c2; rw [if_pos c2]
        · rename_i c2
          rw [if_neg c2]
          split at h
          · rename_i c3; rw [if_pos c3]
          · rename_i c3
            rw [if_neg c3]
            split at h
            · rename_i c4; rw [if_pos c4]
            · rename_i c4
              rw [if_neg c4]
              split at h
              · rename_i c5
                rw [if_pos c5]
                by_cases r0 : (aR tx m z 1 (x + 1) 0 (nxB tx m b)).1 = 0
                · rw [aBd_0 r0]
                · rw [aBd_n r0] at h; exact absurd h r0
              · rename_i c5
                rw [if_neg c5]
                by_cases r0 : (aR tx m z 0 0 (x + 1) (nxB tx m b)).1 = 0
                · rw [aBd_0 r0]
                  split <;> rfl
                · rw [aBd_n r0] at h; exact absurd h r0
/-- the reference's reading of one thing, as the reading with no memory says -/
def RSp (tx : Nat → Nat) (m : Nat) (op : Nat → Nat) (d q b : Nat) (N : JI) (L : JL) (r : AR) (fl : Int32 → Prop) : Prop :=
  (r.1 = 0 → ∃ N' L', (∀ n, fX12_reads_11 (n + r.2.2.2.1.length) (nI d) (nI 1) N L = fX12_reads_11 n (nI (unw op d)) (nI 0) N' L') ∧ RRd tx m q d N N' L L' r ∧ fl (N' 85 d)) ∧
  (r.1 ≠ 0 → ∃ N' L', rF N N' L L' ∧ N' 66 17 = nI r.1 ∧ ∀ n, m + 2 ≤ n + b → fX12_reads_11 n (nI d) (nI 1) N L = some (nI 0, N', L'))
theorem rs_loop {tx : Nat → Nat} {m : Nat} {op : Nat → Nat} {rc : Nat → AR} {x y b0 q0 : Nat} {N0 : JI} {L0 : JL} {F : Int32} (hx : x < 4) (hy : y ≤ 5) (hu : unw op y = y) (hm : m ≤ 1000) (hq0 : q0 ≤ b0) (hpos : ∀ b, b ≤ m → (rc b).1 = 0 → PosOK m b (rc b)) (hrcf : 1 ≤ x → ∀ b, (rc b).1 = 0 → (rc b).2.2.2.2 = false) (ho : opn N0 op y)
    (hrc : ∀ b N L q, LR N L tx m b → N 66 28 = nI (1000 + q) → q ≤ b → opn N op y → (x = 0 → N 85 y = nI 0) → RSp tx m op y q b N L (rc b) (fun v => v = if x = 0 then bI (rc b).2.2.2.2 else N 85 y)) : ∀ n acc N L, acc.1 = 0 → PosOK m b0 acc → (x = 1 → n ≤ 1 ∧ (n = 1 → acc.2.2.2.2 = false)) → (∀ k, fX12_reads_11 (k + acc.2.2.2.1.length) (nI y) (nI 1) N0 L0 = fX12_reads_11 k (nI y) (nI 0) N L) → RRd tx m q0 y N0 N L0 L acc → (N 85 y = if x ≤ 1 then bI acc.2.2.2.2 else F) → RSp tx m op y q0 b0 N0 L0 (aLp tx m rc x n acc) (fun v => v = if x ≤ 1 then bI (aLp tx m rc x n acc).2.2.2.2 else F) := by
  intro n
  induction n with
  | zero =>
    intro acc N L h0 hp h1 hk hR hf
    rw [aLp]
    exact ⟨fun _ => ⟨N, L, fun k => by rw [hk k, hu], hR, hf⟩, fun h => absurd h0 h⟩
  | succ n ih =>
    intro acc N L h0 hp h1 hk hR hf
    rw [aLp]
    obtain ⟨f1, f2, f3, f4, f5, f6, f7⟩ := id hR
    by_cases c : lev (lT tx m acc.2.1) = x
    · rw [if_pos c]
      have hbm : acc.2.1 < m := lT_33 (tx := tx) (by intro e; rw [e] at c; have := lev_33; omega) hp.2.1
      obtain ⟨n1, n2⟩ := nxB_ok (tx := tx) hbm
      obtain ⟨p1, p2, p3, p4, p5⟩ := id hp
      obtain ⟨N1, L1, s1, s2, s3, s4, s5, s6, s7, s8, s9⟩ := rop_step (y := y) f2 (show q0 + acc.2.2.2.1.length ≤ acc.2.1 by omega) f3 hy (by omega) (fun e => by
        have hx1 : x = 1 := by omega
        rw [hf, if_pos (by omega)]
        obtain ⟨g1, g2⟩ := h1 hx1
        rw [g2 (by omega)]; rfl)
      have ho1 : opn N1 op y := fun j j1 j2 => by
        obtain ⟨z1, z2⟩ := ho j j1 j2
        exact ⟨by rw [s7, f6 j j2]; exact z1, z2⟩
      have hsp := hrc (nxB tx m acc.2.1) N1 L1 (q0 + acc.2.2.2.1.length + 1) s3 (by rw [s4]) (by omega) ho1 (fun e => by rw [s9, if_pos (by omega)])
      obtain ⟨sp1, sp2⟩ := hsp
      by_cases r0 : (rc (nxB tx m acc.2.1)).1 = 0
      · rw [aBd_0 r0]
        obtain ⟨N2, L2, t1, t2, t3⟩ := sp1 r0
        obtain ⟨u1, u2, u3, u4, u5, u6, u7⟩ := t2
        obtain ⟨v1, v2, v3, v4, v5⟩ := hpos _ n2 r0
        have hcf2 : ((if x = 1 then true else (rc (nxB tx m acc.2.1)).2.2.2.2) : Bool) = if x = 1 then true else (rc (nxB tx m acc.2.1)).2.2.2.2 := rfl
        refine ih (0, (rc (nxB tx m acc.2.1)).2.1, acc.2.2.1 ++ ((rc (nxB tx m acc.2.1)).2.2.1 ++ [20000 + lT tx m acc.2.1]), acc.2.2.2.1 ++ (rop (lT tx m acc.2.1) :: (rc (nxB tx m acc.2.1)).2.2.2.1), if x = 1 then true else (rc (nxB tx m acc.2.1)).2.2.2.2) N2 L2 rfl (PosOK_mk (by omega) v2 (by rw [List.length_append, List.length_append, List.length_singleton]; omega) (by rw [List.length_append, List.length_cons]; omega) (by rw [List.length_append, List.length_cons]; omega)) (fun e => ?_) (fun k => ?_) ?_ ?_
        · obtain ⟨g1, g2⟩ := h1 e
          exact ⟨by omega, fun e' => absurd e' (by omega)⟩
        · show fX12_reads_11 (k + (acc.2.2.2.1 ++ (rop (lT tx m acc.2.1) :: (rc (nxB tx m acc.2.1)).2.2.2.1)).length) (nI y) (nI 1) N0 L0 = _
          rw [List.length_append, List.length_cons, show k + (acc.2.2.2.1.length + ((rc (nxB tx m acc.2.1)).2.2.2.1.length + 1)) = (k + (rc (nxB tx m acc.2.1)).2.2.2.1.length + 1) + acc.2.2.2.1.length by omega, hk, s1, t1, hu]
        · refine ⟨rF_tr f1 (rF_tr s2 u1), u2, ?_, ?_, fun j hj => ?_, fun j hj => ?_, fun j hj => ?_⟩
          · show N2 66 28 = nI (1000 + (q0 + (acc.2.2.2.1 ++ (rop (lT tx m acc.2.1) :: (rc (nxB tx m acc.2.1)).2.2.2.1)).length))
            rw [u3, List.length_append, List.length_cons]
            congr 1
            omega
          · show seg (N2 83) (1000 + q0) (acc.2.2.2.1 ++ (rop (lT tx m acc.2.1) :: (rc (nxB tx m acc.2.1)).2.2.2.1))
            rw [seg_app]
            refine ⟨seg_cong _ _ (fun j j1 j2 => ?_) f4, ?_, ?_⟩
            · rw [u5 j (by omega), s6 j (by omega)]
            · rw [show 1000 + q0 + acc.2.2.2.1.length = 1000 + (q0 + acc.2.2.2.1.length) by omega, u5 _ (by omega)]; exact s5
            · rw [show 1000 + q0 + acc.2.2.2.1.length + 1 = 1000 + (q0 + acc.2.2.2.1.length + 1) by omega]; exact u4
          · rw [u5 j (by omega), s6 j (by omega), f5 j hj]
          · rw [u6 j hj, s7, f6 j hj]
          · rw [u7 j hj, s8 j (by omega), f7 j hj]
        · rw [t3]
          by_cases c0 : x = 0
          · rw [if_pos c0, if_pos (by omega)]
            show bI (rc (nxB tx m acc.2.1)).2.2.2.2 = bI (if x = 1 then true else (rc (nxB tx m acc.2.1)).2.2.2.2)
            rw [if_neg (by omega)]
          · rw [if_neg c0, s9, if_neg (by omega)]
            by_cases c1 : x = 1
            · rw [if_pos (by omega), if_pos (by omega)]
              show nI 1 = bI (if x = 1 then true else _)
              rw [if_pos c1]; rfl
            · rw [if_neg (by omega), if_neg (by omega), hf, if_neg (by omega)]
      · rw [aBd_n r0]
        obtain ⟨N2, L2, t1, t2, t3⟩ := sp2 r0
        refine ⟨fun h => absurd h r0, fun _ => ⟨N2, L2, rF_tr f1 (rF_tr s2 t1), t2, fun k hkm => ?_⟩⟩
        have hk2 : k = (k - acc.2.2.2.1.length - 1 + 1) + acc.2.2.2.1.length := by omega
        rw [hk2, hk, s1, t3 _ (by omega)]
    · rw [if_neg c]
      exact ⟨fun _ => ⟨N, L, fun k => by rw [hk k, hu], hR, hf⟩, fun h => absurd h0 h⟩
