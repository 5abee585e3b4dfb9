theorem rs_one {tx : Nat → Nat} {m b q d v c t : Nat} {op : Nat → Nat} {N : JI} {L : JL} (hL : LR N L tx m b) (hbm : b < m) (hq : q ≤ b) (e28 : N 66 28 = nI (1000 + q)) (hd : d < 5) (ho : opn N op d) (hst : ∀ n, fX12_reads_11 (n + 1) (nI d) (nI 1) N L = (fX12_puts (nI v) N).bind (fun q22 => fX12_reads_152 (fX12_reads_11 n) 100000 (nI d) (nI 0) q22 L)) : RSp tx m op d q b N L (0, nxB tx m b, [c], [v], false) (fun v => v = N 85 d) := by
  obtain ⟨N', L', a1, a2, a3, a4, a5, a6, a7, a8⟩ := r_one hL hbm hq e28 (by omega) ho hst
  refine ⟨fun _ => ⟨N', L', a1, ⟨a2, a3, a4, ⟨a5, trivial⟩, fun j hj => a6 j (by omega), fun j _ => by rw [a7], fun j _ => by rw [a8]⟩, ?_⟩, fun h => absurd rfl h⟩
  show N' 85 d = N 85 d
  rw [a8]
theorem rs_bad {tx : Nat → Nat} {m b q d k : Nat} {op : Nat → Nat} {N : JI} {L : JL} {F : Int32 → Prop} (hL : LR N L tx m b) (hk : 1 ≤ k) (hst : ∀ n, fX12_reads_11 (n + 1) (nI d) (nI 1) N L = some (nI 0, j_up N 66 17 (nI (k + 16 * b)), L)) : RSp tx m op d q b N L (k + 16 * b, 0, [], [], false) F := by
  have hb := hL.2.1
  refine ⟨fun h => ?_, fun _ => ⟨j_up N 66 17 (nI (k + 16 * b)), L, rF_w _, ju_same _ _ _ _, fun n hn => ?_⟩⟩
  · exfalso
    have h' : k + 16 * b = 0 := h
    omega
  · obtain ⟨n', rfl⟩ : ∃ n', n = n' + 1 := ⟨n - 1, by omega⟩
    exact hst n'
theorem rs_pc {tx : Nat → Nat} {m b q d : Nat} {op : Nat → Nat} {N : JI} {L : JL} {rc : Nat → Nat → Nat → Nat → AR} {F : JI → Int32 → Prop} (hL : LR N L tx m b) (hq : q ≤ b) (e28 : N 66 28 = nI (1000 + q)) (hd : d ≤ 5) (ho : opn N op d)
    (hn : d < 5 → b < m → ∀ N1 L1, LR N1 L1 tx m (nxB tx m b) → N1 66 28 = nI (1000 + (q + 1)) → opn N1 (fun j => if j = d + 1 then 1 else op j) (d + 1) → RSp tx m (fun j => if j = d + 1 then 1 else op j) (d + 1) (q + 1) (nxB tx m b) N1 L1 (rc 1 (d + 1) 0 (nxB tx m b)) (F N1))
    (hp : d < 5 → b < m → ((rc 0 0 (d + 1) (nxB tx m b)).1 = 0 → PosOK m (nxB tx m b) (rc 0 0 (d + 1) (nxB tx m b)) ∧ ExOK tx m 0 (rc 0 0 (d + 1) (nxB tx m b))) ∧ ∀ N1 L1, LR N1 L1 tx m (nxB tx m b) → N1 66 28 = nI (1000 + (q + 1)) → opn N1 (fun j => if j = d + 1 then 2 else op j) (d + 1) → unw (fun j => if j = d + 1 then 2 else op j) (d + 1) = d + 1 → N1 85 (d + 1) = nI 0 → RSp tx m (fun j => if j = d + 1 then 2 else op j) (d + 1) (q + 1) (nxB tx m b) N1 L1 (rc 0 0 (d + 1) (nxB tx m b)) (fun v => v = bI (rc 0 0 (d + 1) (nxB tx m b)).2.2.2.2)) : RSp tx m op d q b N L (aPc tx m rc d b) (fun v => v = N 85 d) := by
  have hbm0 := hL.2.1
  obtain ⟨g1, g2⟩ := r_pc hL hd
  unfold aPc
  by_cases c1 : 14 ≤ lT tx m b ∧ lT tx m b ≠ 32 ∧ lT tx m b ≠ 30 ∧ lT tx m b ≠ 40
  · rw [if_pos c1]
    exact rs_bad hL (by omega) (g1 c1)
  · rw [if_neg c1]
    obtain ⟨g3, g4⟩ := g2 c1
    by_cases c2 : 5 ≤ d
    · rw [if_pos c2]
      exact rs_bad hL (by omega) (g3 (by omega))
    · rw [if_neg c2]
      obtain ⟨g32, g14, g30, g40⟩ := g4 (by omega)
      have hbm : b < m := lT_33 (tx := tx) (by omega) hbm0
      have hd5 : d < 5 := by omega
      by_cases c3 : lT tx m b = 32
      · rw [if_pos c3]
        exact rs_one (t := 0) hL hbm hq e28 hd5 ho (g32 c3)
      · rw [if_neg c3]
        by_cases c4 : lT tx m b < 14
        · rw [if_pos c4]
          exact rs_one (t := 0) hL hbm hq e28 hd5 ho (g14 c4)
        · rw [if_neg c4]
          by_cases c5 : lT tx m b = 30
          · rw [if_pos c5]
            exact r_not hL hbm hq e28 hd5 ho (g30 c5) (hn hd5 hbm)
          · rw [if_neg c5]
            have c6 : lT tx m b = 40 := by omega
            obtain ⟨q1, q2⟩ := hp hd5 hbm
            exact r_par hL hbm hq e28 hd5 ho (g40 c6) (fun h => (q1 h).1) (fun h => (q1 h).2) q2
