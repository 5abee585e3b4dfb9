theorem put_rows {N : JI} {q : Nat} (v : Nat) : jr (jr (j_up (j_up N 83 (1000 + q) (nI v)) 66 28 (nI (1000 + q + 1))) 84 (N 84)) 85 (N 85) = j_up (j_up N 83 (1000 + q) (nI v)) 66 28 (nI (1000 + q + 1)) := by
  have e84 : (j_up (j_up N 83 (1000 + q) (nI v)) 66 28 (nI (1000 + q + 1))) 84 = N 84 := by rw [ju_row _ _ (by omega), ju_row _ _ (by omega)]
  have e85 : (j_up (j_up N 83 (1000 + q) (nI v)) 66 28 (nI (1000 + q + 1))) 85 = N 85 := by rw [ju_row _ _ (by omega), ju_row _ _ (by omega)]
  have z1 := jr_self (j_up (j_up N 83 (1000 + q) (nI v)) 66 28 (nI (1000 + q + 1))) 84
  rw [e84] at z1
  rw [z1]
  have z2 := jr_self (j_up (j_up N 83 (1000 + q) (nI v)) 66 28 (nI (1000 + q + 1))) 85
  rw [e85] at z2
  exact z2
/-- a thing of one token -/
theorem r_one {N : JI} {L : JL} {tx : Nat → Nat} {m b q x v : Nat} {op : Nat → Nat} (h : LR N L tx m b) (hb : b < m) (hq : q ≤ b) (e28 : N 66 28 = nI (1000 + q)) (hx : x ≤ 6) (ho : opn N op x) (hst : ∀ n, fX12_reads_11 (n + 1) (nI x) (nI 1) N L = (fX12_puts (nI v) N).bind (fun q22 => fX12_reads_152 (fX12_reads_11 n) 100000 (nI x) (nI 0) q22 L)) : ∃ N' L', (∀ n, fX12_reads_11 (n + 1) (nI x) (nI 1) N L = fX12_reads_11 n (nI (unw op x)) (nI 0) N' L') ∧ rF N N' L L' ∧ LR N' L' tx m (nxB tx m b) ∧ N' 66 28 = nI (1000 + (q + 1)) ∧ N' 83 (1000 + q) = nI v ∧ (∀ j, j ≠ 1000 + q → N' 83 j = N 83 j) ∧ N' 84 = N 84 ∧ N' 85 = N 85 := by
  have hm := h.1.1
  obtain ⟨N', L', a1, a2, a3, a4, a5, a6, a7, a8⟩ := pt_eq h hb hq e28 v (f84 := N 84) (f85 := N 85) rfl
  rw [put_rows] at a1
  refine ⟨N', L', fun n => ?_, a2, a3, a4, a5, a6, a7, a8⟩
  rw [hst, pu_eq (by omega) e28, Option.bind_some, un_152 (tx := tx) (m := m) (b := b) (op := op) x hx (fun j j1 j2 => by rw [ju_row _ _ (by omega), ju_row _ _ (by omega)]; exact ho j j1 j2) 100000 (by omega)]
  unfold fX12_reads_172
  rw [a1, Option.bind_some]
/-- a thing is opened -/
theorem r_open {N : JI} {L : JL} {tx : Nat → Nat} {m b q x v o : Nat} {op : Nat → Nat} (h : LR N L tx m b) (hb : b < m) (hq : q ≤ b) (e28 : N 66 28 = nI (1000 + q)) (hx : x ≤ 5) (ho : opn N op x) (ho2 : o = 1 ∨ o = 2) (hst : ∀ n, fX12_reads_11 (n + 1) (nI x) (nI 1) N L = (fX12_puts (nI v) N).bind (fun q33 => fX12_reads_172 (fX12_reads_11 n) (nI (x + 1)) (nI 1) (j_up (j_up q33 84 (x + 1) (nI o)) 85 (x + 1) (nI 0)) L)) : ∃ N' L', (∀ n, fX12_reads_11 (n + 1) (nI x) (nI 1) N L = fX12_reads_11 n (nI (x + 1)) (nI 1) N' L') ∧ rF N N' L L' ∧ LR N' L' tx m (nxB tx m b) ∧ N' 66 28 = nI (1000 + (q + 1)) ∧ N' 83 (1000 + q) = nI v ∧ (∀ j, j ≠ 1000 + q → N' 83 j = N 83 j) ∧ (∀ j, j ≠ x + 1 → N' 84 j = N 84 j) ∧ (∀ j, j ≠ x + 1 → N' 85 j = N 85 j) ∧ N' 85 (x + 1) = nI 0 ∧ opn N' (fun j => if j = x + 1 then o else op j) (x + 1) := by
  have hm := h.1.1
  obtain ⟨N', L', a1, a2, a3, a4, a5, a6, a7, a8⟩ := pt_eq h hb hq e28 v (f84 := fun j => if j = x + 1 then nI o else N 84 j) (f85 := fun j => if j = x + 1 then nI 0 else N 85 j) rfl
  have e84 : (j_up (j_up N 83 (1000 + q) (nI v)) 66 28 (nI (1000 + q + 1))) 84 = N 84 := by rw [ju_row _ _ (by omega), ju_row _ _ (by omega)]
  have e85 : (j_up (j_up N 83 (1000 + q) (nI v)) 66 28 (nI (1000 + q + 1))) 85 = N 85 := by rw [ju_row _ _ (by omega), ju_row _ _ (by omega)]
  have hN : j_up (j_up (j_up (j_up N 83 (1000 + q) (nI v)) 66 28 (nI (1000 + q + 1))) 84 (x + 1) (nI o)) 85 (x + 1) (nI 0) = jr (jr (j_up (j_up N 83 (1000 + q) (nI v)) 66 28 (nI (1000 + q + 1))) 84 (fun j => if j = x + 1 then nI o else N 84 j)) 85 (fun j => if j = x + 1 then nI 0 else N 85 j) := by
    rw [jr_up1, jr_up1 _ 84, e84, jr_ne _ _ (show (85 : Nat) ≠ 84 by omega), e85]
  refine ⟨N', L', fun n => ?_, a2, a3, a4, a5, a6, fun j hj => by rw [a7]; exact if_neg hj, fun j hj => by rw [a8]; exact if_neg hj, by rw [a8]; exact if_pos rfl, fun j j1 j2 => ?_⟩
  · rw [hst, pu_eq (by omega) e28, Option.bind_some, hN]
    unfold fX12_reads_172
    rw [a1, Option.bind_some]
  · rw [a7]
    show (if j = x + 1 then nI o else N 84 j) = nI (if j = x + 1 then o else op j) ∧ ((if j = x + 1 then o else op j) = 1 ∨ (if j = x + 1 then o else op j) = 2)
    by_cases c : j = x + 1
    · rw [if_pos c, if_pos c]; exact ⟨rfl, ho2⟩
    · rw [if_neg c, if_neg c]; exact ho j j1 (by omega)
theorem unw_cong {op op' : Nat → Nat} : ∀ d, (∀ j, j ≤ d → op' j = op j) → unw op' d = unw op d := by
  intro d
  induction d with
  | zero => intro _; rfl
  | succ d ih =>
    intro h
    rw [unw, unw, h (d + 1) (Nat.le_refl _), ih (fun j hj => h j (by omega))]
/-- a piece is met -/
theorem r_pc {N : JI} {L : JL} {tx : Nat → Nat} {m b x : Nat} (h : LR N L tx m b) (hx : x ≤ 5) :
    ((14 ≤ lT tx m b ∧ lT tx m b ≠ 32 ∧ lT tx m b ≠ 30 ∧ lT tx m b ≠ 40) → ∀ n, fX12_reads_11 (n + 1) (nI x) (nI 1) N L = some (nI 0, j_up N 66 17 (nI (1 + 16 * b)), L)) ∧
    (¬ (14 ≤ lT tx m b ∧ lT tx m b ≠ 32 ∧ lT tx m b ≠ 30 ∧ lT tx m b ≠ 40) → (x = 5 → ∀ n, fX12_reads_11 (n + 1) (nI x) (nI 1) N L = some (nI 0, j_up N 66 17 (nI (5 + 16 * b)), L)) ∧
      (x ≠ 5 → (lT tx m b = 32 → ∀ n, fX12_reads_11 (n + 1) (nI x) (nI 1) N L = (fX12_puts (nI (100 + lV tx m b)) N).bind (fun q22 => fX12_reads_152 (fX12_reads_11 n) 100000 (nI x) (nI 0) q22 L)) ∧
        (lT tx m b < 14 → ∀ n, fX12_reads_11 (n + 1) (nI x) (nI 1) N L = (fX12_puts (nI (lT tx m b + 1)) N).bind (fun q22 => fX12_reads_152 (fX12_reads_11 n) 100000 (nI x) (nI 0) q22 L)) ∧
        (lT tx m b = 30 → ∀ n, fX12_reads_11 (n + 1) (nI x) (nI 1) N L = (fX12_puts (nI 30) N).bind (fun q33 => fX12_reads_172 (fX12_reads_11 n) (nI (x + 1)) (nI 1) (j_up (j_up q33 84 (x + 1) (nI 1)) 85 (x + 1) (nI 0)) L)) ∧
        (lT tx m b = 40 → ∀ n, fX12_reads_11 (n + 1) (nI x) (nI 1) N L = (fX12_puts (nI 28) N).bind (fun q33 => fX12_reads_172 (fX12_reads_11 n) (nI (x + 1)) (nI 1) (j_up (j_up q33 84 (x + 1) (nI 2)) 85 (x + 1) (nI 0)) L)))) := by
  obtain ⟨-, -, -, -, -, -, -, -, -, -, -, -, -, -, -, -, -, -, -, -, -, -, -, -, -, -, -, -, k28, k29, k30⟩ := kc_val
  have w30 : fX12_isWord (10631 : Int64) N L = some (bI (decide (lT tx m b = 30))) := by have := RT_word h.2.2.2 (k := 30) (by omega); rw [k30] at this; exact this
  have s40 : fX12_isSign (40 : Int32) N = some (bI (decide (lT tx m b = 40))) := RT_sign h.2.2.2 h.1 (c := 40) (by decide)
  have hfa := RT_fact h.2.2.2
  have h2 := RT_two h.2.2.2
  have f1 : fX12_fails (1 : Int32) N = some (nI 0, j_up N 66 17 (nI (1 + 16 * b))) := LR_fails h 1
  have f5 : fX12_fails (5 : Int32) N = some (nI 0, j_up N 66 17 (nI (5 + 16 * b))) := LR_fails h 5
  have hbf : bI false = (0 : Int32) := by decide
  have hbt : ¬ bI true = (0 : Int32) := by decide
  have hz0 : nI 0 = (0 : Int32) := rfl
  have h1 : ¬ nI 1 = (0 : Int32) := by decide
  have h65 : ¬ (14 ≤ lT tx m b ∧ lT tx m b ≠ 32 ∧ lT tx m b ≠ 30 ∧ lT tx m b ≠ 40) → ∀ n, fX12_reads_11 (n + 1) (nI x) (nI 1) N L = fX12_reads_65 (fX12_reads_11 n) (nI x) (nI 1) (if lT tx m b < 14 then nI (lT tx m b + 1) else nI 0) (bI (decide (lT tx m b = 30))) (bI (decide (lT tx m b = 40))) N L := by
    intro hc n
    rw [fX12_reads_11, if_neg h1, hfa, Option.bind_some, w30, Option.bind_some, s40, Option.bind_some]
    by_cases c1 : lT tx m b < 14
    · rw [if_pos c1, if_neg (nI_ne0 (by omega) (by omega))]
    · rw [if_neg c1, if_pos hz0]
      by_cases c2 : lT tx m b = 30
      · rw [decide_eq_true c2, if_neg hbt]
      · rw [decide_eq_false c2, if_pos hbf]
        by_cases c3 : lT tx m b = 40
        · rw [decide_eq_true c3, if_neg hbt]
        · rw [decide_eq_false c3, if_pos hbf, if_pos (by rw [h2]; omega)]
  refine ⟨fun hc n => ?_, fun hc => ⟨fun c5 n => ?_, fun c5 => ?_⟩⟩
  · rw [fX12_reads_11, if_neg h1, hfa, Option.bind_some, w30, Option.bind_some, s40, Option.bind_some, if_neg (show ¬ lT tx m b < 14 by omega), if_pos hz0, decide_eq_false hc.2.2.1, if_pos hbf, decide_eq_false hc.2.2.2, if_pos hbf, if_neg (by rw [h2]; exact hc.2.1), f1, Option.bind_some]; rfl
  · rw [h65 hc]
    unfold fX12_reads_65
    rw [if_pos (by rw [c5]; rfl), f5, Option.bind_some]; rfl
  · have c5' : ¬ nI x = (5 : Int32) := fun e => c5 ((nI_eq (b := 5) (by omega) (by omega)).mp e)
    refine ⟨fun c n => ?_, fun c n => ?_, fun c n => ?_, fun c n => ?_⟩
    · rw [h65 hc]
      unfold fX12_reads_65
      rw [if_neg c5', decide_eq_false (show ¬ lT tx m b = 30 by omega), if_pos hbf, decide_eq_false (show ¬ lT tx m b = 40 by omega), if_pos hbf, if_neg (show ¬ lT tx m b < 14 by omega), if_pos (by decide), RT_told h.2.2.2 c, show (100 : Int32) + nI (lV tx m b) = nI (100 + lV tx m b) from nI_add 100 _]; rfl
    · rw [h65 hc]
      unfold fX12_reads_65
      rw [if_neg c5', decide_eq_false (show ¬ lT tx m b = 30 by omega), if_pos hbf, decide_eq_false (show ¬ lT tx m b = 40 by omega), if_pos hbf, if_pos c, if_neg (show ¬ nI (lT tx m b + 1) ≤ (0 : Int32) from nI_ge (a := 0) (b := lT tx m b + 1) (by omega) (by omega))]; rfl
    · rw [h65 hc]
      unfold fX12_reads_65 fX12_reads_99
      rw [if_neg c5', decide_eq_true c, if_neg hbt, if_neg hbt]
      congr 1
      funext q33
      rw [if_neg hbt, show nI x + (1 : Int32) = nI (x + 1) from nI_add _ 1, jg_in (show x + 1 < 7 by omega) (by decide), jg_in (show x + 1 < 7 by omega) (by decide), nI_clamp (by omega)]; rfl
    · rw [h65 hc]
      unfold fX12_reads_65 fX12_reads_99
      rw [if_neg c5', decide_eq_false (show ¬ lT tx m b = 30 by omega), if_pos hbf, decide_eq_true c, if_neg hbt, if_pos hbf]
      congr 1
      funext q33
      rw [if_pos hbf, show nI x + (1 : Int32) = nI (x + 1) from nI_add _ 1, jg_in (show x + 1 < 7 by omega) (by decide), jg_in (show x + 1 < 7 by omega) (by decide), nI_clamp (by omega)]; rfl
theorem lev_le (t : Nat) : lev t ≤ 4 := by
  unfold lev
  repeat' split
  all_goals omega
theorem r_not {tx : Nat → Nat} {m b q d : Nat} {op : Nat → Nat} {N : JI} {L : JL} {r : AR} {F : JI → Int32 → Prop} (hL : LR N L tx m b) (hbm : b < m) (hq : q ≤ b) (e28 : N 66 28 = nI (1000 + q)) (hd : d < 5) (ho : opn N op d) (hst : ∀ n, fX12_reads_11 (n + 1) (nI d) (nI 1) N L = (fX12_puts (nI 30) N).bind (fun q33 => fX12_reads_172 (fX12_reads_11 n) (nI (d + 1)) (nI 1) (j_up (j_up q33 84 (d + 1) (nI 1)) 85 (d + 1) (nI 0)) L)) (hr : ∀ N1 L1, LR N1 L1 tx m (nxB tx m b) → N1 66 28 = nI (1000 + (q + 1)) → opn N1 (fun j => if j = d + 1 then 1 else op j) (d + 1) → RSp tx m (fun j => if j = d + 1 then 1 else op j) (d + 1) (q + 1) (nxB tx m b) N1 L1 r (F N1)) : RSp tx m op d q b N L (aBd r (fun r => (0, r.2.1, r.2.2.1 ++ [20030], 30 :: r.2.2.2.1, false))) (fun v => v = N 85 d) := by
  obtain ⟨n1, n2⟩ := nxB_ok (tx := tx) hbm
  obtain ⟨N1, L1, a1, a2, a3, a4, a5, a6, a7, a8, a9, a10⟩ := r_open (v := 30) (o := 1) hL hbm hq e28 (by omega) ho (Or.inl rfl) hst
  have hs := hr N1 L1 a3 a4 a10
  have hw1 : unw (fun j => if j = d + 1 then 1 else op j) (d + 1) = unw op d := by
    rw [unw, if_pos (if_pos rfl)]
    exact unw_cong d (fun j hj => if_neg (by omega))
  by_cases r0 : r.1 = 0
  · rw [aBd_0 r0]
    obtain ⟨N2, L2, s1, ⟨u1, u2, u3, u4, u5, u6, u7⟩, s3⟩ := hs.1 r0
    refine ⟨fun _ => ⟨N2, L2, fun n => ?_, ⟨rF_tr a2 u1, u2, ?_, ⟨?_, ?_⟩, fun j hj => ?_, fun j hj => ?_, fun j hj => ?_⟩, ?_⟩, fun h => absurd rfl h⟩
    · show fX12_reads_11 (n + (30 :: r.2.2.2.1).length) (nI d) (nI 1) N L = _
      rw [List.length_cons, ← Nat.add_assoc, a1, s1, hw1]
    · show N2 66 28 = nI (1000 + (q + (30 :: r.2.2.2.1).length))
      rw [u3, List.length_cons]
      congr 1
      omega
    · rw [u5 _ (by omega)]; exact a5
    · exact u4
    · rw [u5 j (by omega), a6 j (by omega)]
    · rw [u6 j (by omega), a7 j (by omega)]
    · rw [u7 j (by omega), a8 j (by omega)]
    · show N2 85 d = N 85 d
      rw [u7 d (by omega), a8 d (by omega)]
  · rw [aBd_n r0]
    obtain ⟨N2, L2, s1, s2, s3⟩ := hs.2 r0
    refine ⟨fun h => absurd h r0, fun _ => ⟨N2, L2, rF_tr a2 s1, s2, fun n hn => ?_⟩⟩
    obtain ⟨n', rfl⟩ : ∃ n', n = n' + 1 := ⟨n - 1, by omega⟩
    rw [a1, s3 n' (by omega)]
theorem r_par {tx : Nat → Nat} {m b q d : Nat} {op : Nat → Nat} {N : JI} {L : JL} {r : AR} (hL : LR N L tx m b) (hbm : b < m) (hq : q ≤ b) (e28 : N 66 28 = nI (1000 + q)) (hd : d < 5) (ho : opn N op d) (hst : ∀ n, fX12_reads_11 (n + 1) (nI d) (nI 1) N L = (fX12_puts (nI 28) N).bind (fun q33 => fX12_reads_172 (fX12_reads_11 n) (nI (d + 1)) (nI 1) (j_up (j_up q33 84 (d + 1) (nI 2)) 85 (d + 1) (nI 0)) L)) (hpos : r.1 = 0 → PosOK m (nxB tx m b) r) (hex : r.1 = 0 → ExOK tx m 0 r) (hr : ∀ N1 L1, LR N1 L1 tx m (nxB tx m b) → N1 66 28 = nI (1000 + (q + 1)) → opn N1 (fun j => if j = d + 1 then 2 else op j) (d + 1) → unw (fun j => if j = d + 1 then 2 else op j) (d + 1) = d + 1 → N1 85 (d + 1) = nI 0 → RSp tx m (fun j => if j = d + 1 then 2 else op j) (d + 1) (q + 1) (nxB tx m b) N1 L1 r (fun v => v = bI r.2.2.2.2)) : RSp tx m op d q b N L (aBd r (fun r => if lT tx m r.2.1 = 41 then (0, nxB tx m r.2.1, r.2.2.1, 28 :: (r.2.2.2.1 ++ [29]), false) else (1 + 16 * r.2.1, 0, [], [], false))) (fun v => v = N 85 d) := by
  obtain ⟨n1, n2⟩ := nxB_ok (tx := tx) hbm
  have hm := hL.1.1
  obtain ⟨N1, L1, a1, a2, a3, a4, a5, a6, a7, a8, a9, a10⟩ := r_open (v := 28) (o := 2) hL hbm hq e28 (by omega) ho (Or.inr rfl) hst
  have hw1 : unw (fun j => if j = d + 1 then 2 else op j) (d + 1) = d + 1 := by
    rw [unw, if_neg (by rw [if_pos rfl]; omega)]
  have hs := hr N1 L1 a3 a4 a10 hw1 a9
  by_cases r0 : r.1 = 0
  · rw [aBd_0 r0]
    obtain ⟨N2, L2, s1, ⟨u1, u2, u3, u4, u5, u6, u7⟩, s3⟩ := hs.1 r0
    obtain ⟨p1, p2, p3, p4, p5⟩ := hpos r0
    have hlev : lev (lT tx m r.2.1) = 4 ∨ (lev (lT tx m r.2.1) = 1 ∧ N2 85 (d + 1) = nI 1) := by
      by_cases cl : lev (lT tx m r.2.1) < 4
      · obtain ⟨e1, e2⟩ := hex r0 _ (Nat.zero_le _) cl rfl
        exact Or.inr ⟨e1, by rw [s3, e2]; rfl⟩
      · exact Or.inl (by have := lev_le (lT tx m r.2.1); omega)
    have hlev0 : lev (lT tx m r.2.1) ≠ 0 := by omega
    have hst := r304 u2 (show d + 1 ≤ 5 by omega) hlev
    have hstb := fun n => r304b (y := d + 1) u2 hlev0 (k11 := fX12_reads_11 n)
    clear hlev hlev0
    by_cases c41 : lT tx m r.2.1 = 41
    · rw [if_pos c41]
      have hq2 : r.2.1 < m := lT_33 (tx := tx) (by omega) p2
      obtain ⟨N3, L3, b1, b2, b3, b4, b5, b6, b7, b8⟩ := pt_eq u2 hq2 (show q + 1 + r.2.2.2.1.length ≤ _ by omega) u3 29 (f84 := N2 84) (f85 := N2 85) rfl
      rw [put_rows] at b1
      have ho3 : opn (j_up (j_up N2 83 (1000 + (q + 1 + r.2.2.2.1.length)) (nI 29)) 66 28 (nI (1000 + (q + 1 + r.2.2.2.1.length) + 1))) op d := fun j j1 j2 => by
        rw [ju_row _ _ (by omega), ju_row _ _ (by omega), u6 j (by omega), a7 j (by omega)]
        exact ho j j1 j2
      refine ⟨fun _ => ⟨N3, L3, fun n => ?_, ⟨rF_tr a2 (rF_tr u1 b2), b3, ?_, ⟨?_, ?_⟩, fun j hj => ?_, fun j hj => ?_, fun j hj => ?_⟩, ?_⟩, fun h => absurd rfl h⟩
      · show fX12_reads_11 (n + (28 :: (r.2.2.2.1 ++ [29])).length) (nI d) (nI 1) N L = _
        rw [List.length_cons, List.length_append, List.length_singleton, show n + (r.2.2.2.1.length + 1 + 1) = ((n + 1) + r.2.2.2.1.length) + 1 by omega, a1, s1, hw1, hst, hstb, if_pos c41, if_neg (show ¬ nI (d + 1) ≤ (0 : Int32) from nI_ge (a := 0) (b := d + 1) (by omega) (by omega)), show (29 : Int32) = nI 29 from rfl, pu_eq (by omega) u3, Option.bind_some, show nI (d + 1) + (-1 : Int32) = nI d from pk_m1 d, un_379 (op := op) d (by omega) ho3 100000 (by omega)]
        unfold fX12_reads_424
        rw [b1, Option.bind_some]
      · show N3 66 28 = nI (1000 + (q + (28 :: (r.2.2.2.1 ++ [29])).length))
        rw [b4, List.length_cons, List.length_append, List.length_singleton]
        congr 1
        omega
      · rw [b6 _ (by omega), u5 _ (by omega)]; exact a5
      · rw [seg_app]
        refine ⟨seg_cong _ _ (fun j j1 j2 => b6 j (by omega)) u4, ?_, trivial⟩
        rw [show 1000 + q + 1 + r.2.2.2.1.length = 1000 + (q + 1 + r.2.2.2.1.length) by omega]
        exact b5
      · rw [b6 j (by omega), u5 j (by omega), a6 j (by omega)]
      · rw [b7, u6 j (by omega), a7 j (by omega)]
      · rw [b8, u7 j (by omega), a8 j (by omega)]
      · show N3 85 d = N 85 d
        rw [b8, u7 d (by omega), a8 d (by omega)]
    · rw [if_neg c41]
      refine ⟨fun h => ?_, fun _ => ⟨_, L2, rF_tr a2 (rF_tr u1 (rF_w _)), ju_same _ _ _ _, fun n hn => ?_⟩⟩
      · exfalso
        have h' : 1 + 16 * r.2.1 = 0 := h
        omega
      · obtain ⟨n', rfl⟩ : ∃ n', n = ((n' + 1) + r.2.2.2.1.length) + 1 := ⟨n - 2 - r.2.2.2.1.length, by omega⟩
        rw [a1, s1, hw1, hst, hstb, if_neg c41, r399 u2 (by omega) (by omega)]
  · rw [aBd_n r0]
    obtain ⟨N2, L2, s1, s2, s3⟩ := hs.2 r0
    refine ⟨fun h => absurd h r0, fun _ => ⟨N2, L2, rF_tr a2 s1, s2, fun n hn => ?_⟩⟩
    obtain ⟨n', rfl⟩ : ∃ n', n = n' + 1 := ⟨n - 1, by omega⟩
    rw [a1, s3 n' (by omega)]
