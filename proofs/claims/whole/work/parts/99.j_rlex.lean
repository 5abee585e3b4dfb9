/-! the reference's tokens -/
def rN (N N' : JI) (L L' : JL) : Prop := (∀ a, a ≠ 66 → N' a = N a) ∧ (∀ k, (k < 12 ∨ 16 < k) → N' 66 k = N 66 k) ∧ (∀ a, a ≠ 66 → L' a = L a)
theorem rN_rfl (N : JI) (L : JL) : rN N N L L := ⟨fun _ _ => rfl, fun _ _ => rfl, fun _ _ => rfl⟩
theorem rN_tr {N N' N'' : JI} {L L' L'' : JL} (h : rN N N' L L') (h' : rN N' N'' L' L'') : rN N N'' L L'' := ⟨fun a ha => (h'.1 a ha).trans (h.1 a ha), fun k hk => (h'.2.1 k hk).trans (h.2.1 k hk), fun a ha => (h'.2.2 a ha).trans (h.2.2 a ha)⟩
theorem rN_up (N : JI) (L : JL) {k : Nat} (v : Int32) (hk : 12 ≤ k ∧ k ≤ 16) : rN N (j_up N 66 k v) L L := ⟨fun a ha => ju_row _ _ ha, fun j hj => ju_cell _ _ (by omega), fun _ _ => rfl⟩
theorem rN_L (N : JI) (L : JL) (v : Int64) : rN N N L (j_up L 66 15 v) := ⟨fun _ _ => rfl, fun _ _ => rfl, fun a ha => ju_row _ _ ha⟩
theorem sg_eq {tx : Nat → Nat} {m i : Nat} (hi : i ≤ m) {N : JI} (hN : txR (N 74) tx m) (e11 : N 66 11 = nI m) : fX12_signAt (nI i) N = some (nI (if i < m then tx i else 0)) := by
  have hm := hN.1
  unfold fX12_signAt
  rw [e11]
  by_cases c : i < m
  · rw [if_neg (nI_ge c (by omega)), if_pos c, jg_in (by omega) (by decide), nI_clamp (by omega), (hN.2 i c).1]
  · rw [if_pos (nI_le (by omega) (by omega)), if_neg c]; rfl
theorem lN_step {a c : Nat} (hc : 97 ≤ c) (hc2 : c ≤ 122) : lN a * (27 : Int64) + (nI c).toInt64 - (96 : Int64) = lN (a * 27 + (c - 96)) := by
  have h1 : (nI c).toInt64 = lN c := by
    have : ∀ c, c < 127 → (nI c).toInt64 = lN c := by decide +kernel
    exact this c (by omega)
  rw [h1]
  show lN a * lN 27 + lN c - lN 96 = _
  have m1 : lN a * lN 27 = lN (a * 27) := (Int64.ofNat_mul a 27).symm
  have m2 : lN (a * 27) + lN c = lN (a * 27 + c) := (Int64.ofNat_add (a * 27) c).symm
  have m3 : lN (a * 27 + c) - lN 96 = lN (a * 27 + c - 96) := (Int64.ofNat_sub (a * 27 + c) 96 (by omega)).symm
  rw [m1, m2, m3]
  congr 1
  omega
theorem rtw_109 {tx : Nat → Nat} {m b : Nat} : ∀ d i, i + d = m → b ≤ i → ∀ n, d < n → ∀ (N : JI) (L : JL), txR (N 74) tx m → N 66 11 = nI m → N 66 12 = nI i → N 66 13 = nI b → (i - b ≤ 8 → L 66 15 = lN (vB 27 (fun k => tx (b + k) - 96) (i - b))) → ∃ N' L', fX12_nextToken_109 n N L = fX12_nextToken_188 N' L' ∧ rN N N' L L' ∧ N' 66 12 = nI (rnE isL tx m i) ∧ N' 66 13 = nI b ∧ (rnE isL tx m i - b ≤ 8 → L' 66 15 = lN (vB 27 (fun k => tx (b + k) - 96) (rnE isL tx m i - b))) := by
  intro d
  induction d with
  | zero =>
    intro i hi hb n hn N L hN e11 e12 e13 hw
    obtain ⟨n', rfl⟩ := suc_of hn
    have hm := hN.1
    have hs : rnE isL tx m i = i := rn_stop (by omega)
    refine ⟨N, L, ?_, rN_rfl N L, by rw [hs]; exact e12, e13, by rw [hs]; exact hw⟩
    rw [fX12_nextToken_109, e12, sg_eq (by omega) hN e11, Option.bind_some, if_neg (show ¬ i < m by omega), if_pos (by decide)]
  | succ d ih =>
    intro i hi hb n hn N L hN e11 e12 e13 hw
    obtain ⟨n', rfl⟩ := suc_of hn
    have hm := hN.1
    have ht := (hN.2 i (by omega)).2
    rw [fX12_nextToken_109, e12, e13, sg_eq (by omega) hN e11, Option.bind_some, if_pos (show i < m by omega), Option.bind_some, Option.bind_some, pk_sub hb, show nI i + (1 : Int32) = nI (i + 1) from nI_add _ 1]
    by_cases c1 : tx i < 97
    · have c1' : nI (tx i) < (97 : Int32) := nI_lt (b := 97) c1 (by omega)
      have hs : rnE isL tx m i = i := rn_stop (by unfold isL; rw [decide_eq_false (by omega)]; simp)
      rw [if_pos c1']
      exact ⟨N, L, rfl, rN_rfl N L, by rw [hs]; exact e12, e13, by rw [hs]; exact hw⟩
    · have c1' : ¬ nI (tx i) < (97 : Int32) := nI_nlt (b := 97) (by omega) (by omega)
      rw [if_neg c1']
      by_cases c2 : 122 < tx i
      · have c2' : (122 : Int32) < nI (tx i) := nI_lt (a := 122) c2 (by omega)
        have hs : rnE isL tx m i = i := rn_stop (by unfold isL; rw [decide_eq_false (show ¬ tx i ≤ 122 by omega)]; simp)
        rw [if_pos c2']
        exact ⟨N, L, rfl, rN_rfl N L, by rw [hs]; exact e12, e13, by rw [hs]; exact hw⟩
      · have c2' : ¬ (122 : Int32) < nI (tx i) := nI_nlt (a := 122) (by omega) (by omega)
        have hl : isL (tx i) = true := by unfold isL; rw [decide_eq_true (show 97 ≤ tx i by omega), decide_eq_true (show tx i ≤ 122 by omega)]; rfl
        rw [if_neg c2', rn_go (show i < m by omega) hl]
        by_cases c8 : 8 ≤ i - b
        · have c8' : (8 : Int32) ≤ nI (i - b) := nI_le (a := 8) c8 (by omega)
          rw [if_pos c8']
          obtain ⟨N', L', a1, a2, a3⟩ := ih (i + 1) (by omega) (by omega) n' (by omega) (j_up N 66 12 (nI (i + 1))) L (by rw [ju_row _ _ (by omega)]; exact hN) (by rw [ju_cell _ _ (by omega)]; exact e11) (ju_same _ _ _ _) (by rw [ju_cell _ _ (by omega)]; exact e13) (fun h => absurd h (by omega))
          exact ⟨N', L', a1, rN_tr (rN_up N L _ (by omega)) a2, a3⟩
        · have c8' : ¬ (8 : Int32) ≤ nI (i - b) := nI_ge (b := 8) (by omega) (by omega)
          rw [if_neg c8', hw (by omega), lN_step (by omega) (by omega)]
          obtain ⟨N', L', a1, a2, a3⟩ := ih (i + 1) (by omega) (by omega) n' (by omega) (j_up N 66 12 (nI (i + 1))) (j_up L 66 15 (lN (vB 27 (fun k => tx (b + k) - 96) (i - b) * 27 + (tx i - 96)))) (by rw [ju_row _ _ (by omega)]; exact hN) (by rw [ju_cell _ _ (by omega)]; exact e11) (ju_same _ _ _ _) (by rw [ju_cell _ _ (by omega)]; exact e13) (fun h => by
            rw [ju_same, show i + 1 - b = (i - b) + 1 by omega, vB, show b + (i - b) = i by omega])
          exact ⟨N', L', a1, rN_tr (rN_tr (rN_up N L _ (by omega)) (rN_L _ _ _)) a2, a3⟩
theorem rtn_224 {tx : Nat → Nat} {m b : Nat} : ∀ d i, i + d = m → b ≤ i → ∀ n, d < n → ∀ (N : JI) (L : JL), txR (N 74) tx m → N 66 11 = nI m → N 66 12 = nI i → N 66 13 = nI b → (i - b ≤ 4 → N 66 16 = nI (vB 10 (fun k => tx (b + k) - 48) (i - b))) → ∃ N' L', fX12_nextToken_224 n N L = fX12_nextToken_299 N' L' ∧ rN N N' L L' ∧ N' 66 12 = nI (rnE isDg tx m i) ∧ N' 66 13 = nI b ∧ (rnE isDg tx m i - b ≤ 4 → N' 66 16 = nI (vB 10 (fun k => tx (b + k) - 48) (rnE isDg tx m i - b))) := by
  intro d
  induction d with
  | zero =>
    intro i hi hb n hn N L hN e11 e12 e13 hw
    obtain ⟨n', rfl⟩ := suc_of hn
    have hm := hN.1
    have hs : rnE isDg tx m i = i := rn_stop (by omega)
    refine ⟨N, L, ?_, rN_rfl N L, by rw [hs]; exact e12, e13, by rw [hs]; exact hw⟩
    rw [fX12_nextToken_224, e12, sg_eq (by omega) hN e11, Option.bind_some, if_neg (show ¬ i < m by omega), if_pos (by decide)]
  | succ d ih =>
    intro i hi hb n hn N L hN e11 e12 e13 hw
    obtain ⟨n', rfl⟩ := suc_of hn
    have hm := hN.1
    have ht := (hN.2 i (by omega)).2
    rw [fX12_nextToken_224, e12, e13, sg_eq (by omega) hN e11, Option.bind_some, if_pos (show i < m by omega), Option.bind_some, Option.bind_some, pk_sub hb, show nI i + (1 : Int32) = nI (i + 1) from nI_add _ 1]
    by_cases c1 : tx i < 48
    · have c1' : nI (tx i) < (48 : Int32) := nI_lt (b := 48) c1 (by omega)
      have hs : rnE isDg tx m i = i := rn_stop (by unfold isDg; rw [decide_eq_false (by omega)]; simp)
      rw [if_pos c1']
      exact ⟨N, L, rfl, rN_rfl N L, by rw [hs]; exact e12, e13, by rw [hs]; exact hw⟩
    · have c1' : ¬ nI (tx i) < (48 : Int32) := nI_nlt (b := 48) (by omega) (by omega)
      rw [if_neg c1']
      by_cases c2 : 57 < tx i
      · have c2' : (57 : Int32) < nI (tx i) := nI_lt (a := 57) c2 (by omega)
        have hs : rnE isDg tx m i = i := rn_stop (by unfold isDg; rw [decide_eq_false (show ¬ tx i ≤ 57 by omega)]; simp)
        rw [if_pos c2']
        exact ⟨N, L, rfl, rN_rfl N L, by rw [hs]; exact e12, e13, by rw [hs]; exact hw⟩
      · have c2' : ¬ (57 : Int32) < nI (tx i) := nI_nlt (a := 57) (by omega) (by omega)
        have hl : isDg (tx i) = true := by unfold isDg; rw [decide_eq_true (show 48 ≤ tx i by omega), decide_eq_true (show tx i ≤ 57 by omega)]; rfl
        rw [if_neg c2', rn_go (show i < m by omega) hl]
        by_cases c8 : 4 ≤ i - b
        · have c8' : (4 : Int32) ≤ nI (i - b) := nI_le (a := 4) c8 (by omega)
          rw [if_pos c8']
          obtain ⟨N', L', a1, a2, a3⟩ := ih (i + 1) (by omega) (by omega) n' (by omega) (j_up N 66 12 (nI (i + 1))) L (by rw [ju_row _ _ (by omega)]; exact hN) (by rw [ju_cell _ _ (by omega)]; exact e11) (ju_same _ _ _ _) (by rw [ju_cell _ _ (by omega)]; exact e13) (fun h => absurd h (by omega))
          exact ⟨N', L', a1, rN_tr (rN_up N L _ (by omega)) a2, a3⟩
        · have c8' : ¬ (4 : Int32) ≤ nI (i - b) := nI_ge (b := 4) (by omega) (by omega)
          have hv : nI (vB 10 (fun k => tx (b + k) - 48) (i - b)) * (10 : Int32) + nI (tx i) - (48 : Int32) = nI (vB 10 (fun k => tx (b + k) - 48) (i + 1 - b)) := by
            rw [show i + 1 - b = (i - b) + 1 by omega, vB, show b + (i - b) = i by omega]
            show nI _ * nI 10 + nI (tx i) - nI 48 = _
            rw [pk_mul, nI_add, pk_sub (by omega)]
            congr 1
            omega
          rw [if_neg c8', hw (by omega), hv, ju_cell _ _ (show (12 : Nat) ≠ 16 by omega), e12, show nI i + (1 : Int32) = nI (i + 1) from nI_add _ 1]
          obtain ⟨N', L', a1, a2, a3⟩ := ih (i + 1) (by omega) (by omega) n' (by omega) (j_up (j_up N 66 16 (nI (vB 10 (fun k => tx (b + k) - 48) (i + 1 - b)))) 66 12 (nI (i + 1))) L (by rw [ju_row _ _ (by omega), ju_row _ _ (by omega)]; exact hN) (by rw [ju_cell _ _ (by omega), ju_cell _ _ (by omega)]; exact e11) (ju_same _ _ _ _) (by rw [ju_cell _ _ (by omega), ju_cell _ _ (by omega)]; exact e13) (fun h => by rw [ju_cell _ _ (by omega), ju_same])
          exact ⟨N', L', a1, rN_tr (rN_tr (rN_up N L _ (by omega)) (rN_up _ L _ (by omega))) a2, a3⟩
/-- what the reference sees of the token at b -/
def RT (N : JI) (L : JL) (tx : Nat → Nat) (m b : Nat) : Prop := N 66 13 = nI b ∧ N 66 12 = nI (lE tx m b) ∧ ((N 66 14 = nI 1 ∧ (∃ v, v < 282429536481 ∧ L 66 15 = lN v ∧ lT tx m b = tkW v) ∧ b < m) ∨ (N 66 14 = nI 2 ∧ lT tx m b = 32 ∧ N 66 16 = nI (lV tx m b) ∧ b < m) ∨ (N 66 14 = nI 3 ∧ lT tx m b = tx b ∧ isSg (tx b) = true ∧ b < m) ∨ (N 66 14 = nI 0 ∧ lT tx m b = 33 ∧ m ≤ b) ∨ (N 66 14 = nI 4 ∧ lT tx m b = 34 ∧ b < m))
theorem rnx_322 {tx : Nat → Nat} {m b : Nat} (hb : b < m) {N : JI} {L : JL} (hm : m ≤ 1000) (ht : tx b ≤ 126) (e12 : N 66 12 = nI b) (e13 : N 66 13 = nI b) (cl : isL (tx b) = false) (cd : isDg (tx b) = false) : ∃ N' L', fX12_nextToken_322 (nI (tx b)) N L = some (N', L') ∧ rN N N' L L' ∧ RT N' L' tx m b := by
  have hT : lT tx m b = if isSg (tx b) = true then tx b else 34 := by
    unfold lT
    rw [if_neg (by omega), cl, if_neg (show ¬ false = true by simp), cd, if_neg (show ¬ false = true by simp)]
  have hE : lE tx m b = b + 1 := by
    unfold lE
    rw [if_neg (by omega), cl, if_neg (show ¬ false = true by simp), cd, if_neg (show ¬ false = true by simp)]
  have key : ∀ c, c < 127 → ∀ (N : JI) (L : JL), fX12_nextToken_322 (nI c) N L = some (j_up (j_up N 66 12 (N 66 12 + (1 : Int32))) 66 14 (nI (if isSg c = true then 3 else 4)), L) := by
    intro c hc N L
    unfold fX12_nextToken_322 fX12_nextToken_345 isSg
    by_cases c1 : c < 40
    · have c1' : nI c < (40 : Int32) := nI_lt (b := 40) c1 (by omega)
      have c2' : ¬ nI c = (45 : Int32) := fun e => by have := (nI_eq (b := 45) (by omega) (by omega)).mp e; omega
      have c3' : nI c < (59 : Int32) := nI_lt (b := 59) (by omega) (by omega)
      rw [if_pos c1', if_neg c2', if_pos c3', decide_eq_false (by omega), decide_eq_false (show ¬ c = 45 by omega), decide_eq_false (show ¬ 59 ≤ c by omega)]; rfl
    · have c1' : ¬ nI c < (40 : Int32) := nI_nlt (b := 40) (by omega) (by omega)
      rw [if_neg c1', decide_eq_true (show 40 ≤ c by omega)]
      by_cases c2 : c ≤ 43
      · have c2' : nI c ≤ (43 : Int32) := nI_le (b := 43) c2 (by omega)
        rw [if_pos c2', decide_eq_true c2]; rfl
      · have c2' : ¬ nI c ≤ (43 : Int32) := nI_ge (a := 43) (by omega) (by omega)
        rw [if_neg c2', decide_eq_false c2]
        by_cases c3 : c = 45
        · have c3' : nI c = (45 : Int32) := by rw [c3]; rfl
          rw [if_pos c3', decide_eq_true c3]; rfl
        · have c3' : ¬ nI c = (45 : Int32) := fun e => c3 ((nI_eq (b := 45) (by omega) (by omega)).mp e)
          rw [if_neg c3', decide_eq_false c3]
          by_cases c4 : c < 59
          · have c4' : nI c < (59 : Int32) := nI_lt (b := 59) c4 (by omega)
            rw [if_pos c4', decide_eq_false (show ¬ 59 ≤ c by omega)]; rfl
          · have c4' : ¬ nI c < (59 : Int32) := nI_nlt (b := 59) (by omega) (by omega)
            rw [if_neg c4', decide_eq_true (show 59 ≤ c by omega)]
            by_cases c5 : c ≤ 61
            · have c5' : ¬ (61 : Int32) < nI c := nI_nlt (a := 61) (by omega) (by omega)
              rw [if_neg c5', decide_eq_true c5]; rfl
            · have c5' : (61 : Int32) < nI c := nI_lt (a := 61) (by omega) (by omega)
              rw [if_pos c5', decide_eq_false c5]; rfl
  refine ⟨_, _, key (tx b) (by omega) N L, rN_tr (rN_up N L _ (by omega)) (rN_up _ L _ (by omega)), ?_⟩
  rw [e12, show nI b + (1 : Int32) = nI (b + 1) from nI_add _ 1]
  refine ⟨by rw [ju_cell _ _ (by omega), ju_cell _ _ (by omega)]; exact e13, by rw [ju_cell _ _ (by omega), ju_same, hE], ?_⟩
  rw [ju_same, hT]
  cases cs : isSg (tx b) with
  | true => exact Or.inr (Or.inr (Or.inl ⟨rfl, by rw [if_pos rfl], rfl, hb⟩))
  | false => exact Or.inr (Or.inr (Or.inr (Or.inr ⟨rfl, by rw [if_neg (show ¬ false = true by simp)], hb⟩)))
theorem vw_lt {tx : Nat → Nat} {b n : Nat} (hn : n ≤ 8) (hl : ∀ i, i < n → isL (tx (b + i)) = true) : vB 27 (fun k => tx (b + k) - 96) n < 282429536481 := by
  have h1 := vB_lt (B := 27) (f := fun k => tx (b + k) - 96) (by omega) n (fun i hi => by
    have := hl i hi
    unfold isL at this
    simp at this
    show tx (b + i) - 96 < 27
    omega)
  have h2 : 27 ^ n ≤ 27 ^ 8 := Nat.pow_le_pow_right (by omega) hn
  have h3 : (27 : Nat) ^ 8 = 282429536481 := by decide
  omega
set_option maxHeartbeats 4000000 in
theorem rnx_52 {tx : Nat → Nat} {m b : Nat} (hb : b ≤ m) {N : JI} {L : JL} (hN : txR (N 74) tx m) (e11 : N 66 11 = nI m) (e12 : N 66 12 = nI b) : ∃ N' L', fX12_nextToken_52 N L = some (N', L') ∧ rN N N' L L' ∧ RT N' L' tx m b := by
  have hm := hN.1
  unfold fX12_nextToken_52
  rw [e12]
  generalize hN0 : j_up (j_up N 66 13 (nI b)) 66 16 (0 : Int32) = N0
  have c0 : rN N N0 L (j_up L 66 15 (0 : Int64)) := by
    rw [← hN0]; exact rN_tr (rN_tr (rN_up N L _ (by omega)) (rN_up _ L _ (by omega))) (rN_L _ _ _)
  have e013 : N0 66 13 = nI b := by rw [← hN0, ju_cell _ _ (by omega), ju_same]
  have e012 : N0 66 12 = nI b := by rw [← hN0, ju_cell _ _ (by omega), ju_cell _ _ (by omega)]; exact e12
  have e011 : N0 66 11 = nI m := by rw [← hN0, ju_cell _ _ (by omega), ju_cell _ _ (by omega)]; exact e11
  have e016 : N0 66 16 = nI 0 := by rw [← hN0, ju_same]; rfl
  have hN0t : txR (N0 74) tx m := by rw [← hN0, ju_row _ _ (by omega), ju_row _ _ (by omega)]; exact hN
  rw [e012, e011]
  by_cases cm : b = m
  · rw [if_pos (by rw [cm])]
    refine ⟨_, _, rfl, rN_tr c0 (rN_up N0 _ _ (by omega)), by rw [ju_cell _ _ (by omega)]; exact e013, ?_, ?_⟩
    · rw [ju_cell _ _ (by omega), e012]
      unfold lE
      rw [if_pos (by omega)]
    · refine Or.inr (Or.inr (Or.inr (Or.inl ⟨ju_same _ _ _ _, ?_, by omega⟩)))
      unfold lT
      rw [if_pos (by omega)]
  · rw [if_neg (fun e => cm ((nI_eq (by omega) (by omega)).mp e)), jg_in (show b < 1000 by omega) (by decide), nI_clamp (by omega)]
    obtain ⟨t1, t2⟩ := hN0t.2 b (by omega)
    rw [t1]
    have hsg : isL (tx b) = false → isDg (tx b) = false → ∃ N' L', fX12_nextToken_322 (nI (tx b)) N0 (j_up L 66 15 (0 : Int64)) = some (N', L') ∧ rN N N' L L' ∧ RT N' L' tx m b := by
      intro q1 q2
      obtain ⟨N', L', a1, a2, a3⟩ := rnx_322 (L := j_up L 66 15 (0 : Int64)) (show b < m by omega) hm t2 e012 e013 q1 q2
      exact ⟨N', L', a1, rN_tr c0 a2, a3⟩
    have hdg : isL (tx b) = false → isDg (tx b) = true → ∃ N' L', fX12_nextToken_224 100000 N0 (j_up L 66 15 (0 : Int64)) = some (N', L') ∧ rN N N' L L' ∧ RT N' L' tx m b := by
      intro q1 q2
      obtain ⟨N1, L1, a1, a2, a3, a4, a5⟩ := rtn_224 (tx := tx) (m := m) (b := b) (m - b) b (by omega) (Nat.le_refl _) 100000 (by omega) N0 (j_up L 66 15 (0 : Int64)) hN0t e011 e012 e013 (fun _ => by rw [Nat.sub_self]; exact e016)
      obtain ⟨r1, r2⟩ := rn_le (P := isDg) (tx := tx) hb
      have hE : lE tx m b = rnE isDg tx m b := by
        unfold lE
        rw [if_neg (by omega), q1, if_neg (show ¬ false = true by simp), q2, if_pos rfl]
      have hT : lT tx m b = if rnE isDg tx m b - b ≤ 4 then 32 else 34 := by
        unfold lT
        rw [if_neg (by omega), q1, if_neg (show ¬ false = true by simp), q2, if_pos rfl]
      rw [a1]
      unfold fX12_nextToken_299
      rw [a3, a4, pk_sub r1]
      by_cases c4 : rnE isDg tx m b - b ≤ 4
      · have c4' : nI (rnE isDg tx m b - b) ≤ (4 : Int32) := nI_le (b := 4) c4 (by omega)
        rw [if_pos c4']
        refine ⟨_, _, rfl, rN_tr c0 (rN_tr a2 (rN_up N1 L1 _ (by omega))), by rw [ju_cell _ _ (by omega)]; exact a4, by rw [ju_cell _ _ (by omega), a3, hE], Or.inr (Or.inl ⟨ju_same _ _ _ _, by rw [hT, if_pos c4], ?_, by omega⟩)⟩
        rw [ju_cell _ _ (by omega)]
        exact a5 c4
      · have c4' : ¬ nI (rnE isDg tx m b - b) ≤ (4 : Int32) := nI_ge (a := 4) (by omega) (by omega)
        rw [if_neg c4']
        exact ⟨_, _, rfl, rN_tr c0 (rN_tr a2 (rN_up N1 L1 _ (by omega))), by rw [ju_cell _ _ (by omega)]; exact a4, by rw [ju_cell _ _ (by omega), a3, hE], Or.inr (Or.inr (Or.inr (Or.inr ⟨ju_same _ _ _ _, by rw [hT, if_neg c4], by omega⟩)))⟩
    have hlt : isL (tx b) = true → ∃ N' L', fX12_nextToken_109 100000 N0 (j_up L 66 15 (0 : Int64)) = some (N', L') ∧ rN N N' L L' ∧ RT N' L' tx m b := by
      intro q1
      obtain ⟨N1, L1, a1, a2, a3, a4, a5⟩ := rtw_109 (tx := tx) (m := m) (b := b) (m - b) b (by omega) (Nat.le_refl _) 100000 (by omega) N0 (j_up L 66 15 (0 : Int64)) hN0t e011 e012 e013 (fun _ => by rw [Nat.sub_self, ju_same]; rfl)
      obtain ⟨r1, r2⟩ := rn_le (P := isL) (tx := tx) hb
      have hE : lE tx m b = rnE isL tx m b := by
        unfold lE
        rw [if_neg (by omega), q1, if_pos rfl]
      have hT : lT tx m b = if rnE isL tx m b - b ≤ 8 then tkW (vB 27 (fun i => tx (b + i) - 96) (rnE isL tx m b - b)) else 34 := by
        unfold lT
        rw [if_neg (by omega), q1, if_pos rfl]
      rw [a1]
      unfold fX12_nextToken_188
      rw [a3, a4, pk_sub r1]
      by_cases c4 : rnE isL tx m b - b ≤ 8
      · have c4' : nI (rnE isL tx m b - b) ≤ (8 : Int32) := nI_le (b := 8) c4 (by omega)
        rw [if_pos c4']
        refine ⟨_, _, rfl, rN_tr c0 (rN_tr a2 (rN_up N1 L1 _ (by omega))), by rw [ju_cell _ _ (by omega)]; exact a4, by rw [ju_cell _ _ (by omega), a3, hE], Or.inl ⟨ju_same _ _ _ _, ⟨vB 27 (fun k => tx (b + k) - 96) (rnE isL tx m b - b), vw_lt c4 (fun i hi => rn_in (m := m) (i := b) (by omega) (by omega)), a5 c4, by rw [hT, if_pos c4]⟩, by omega⟩⟩
      · have c4' : ¬ nI (rnE isL tx m b - b) ≤ (8 : Int32) := nI_ge (a := 8) (by omega) (by omega)
        rw [if_neg c4']
        exact ⟨_, _, rfl, rN_tr c0 (rN_tr a2 (rN_up N1 L1 _ (by omega))), by rw [ju_cell _ _ (by omega)]; exact a4, by rw [ju_cell _ _ (by omega), a3, hE], Or.inr (Or.inr (Or.inr (Or.inr ⟨ju_same _ _ _ _, by rw [hT, if_neg c4], by omega⟩)))⟩
    have hfin : (isL (tx b) = false) → ∃ N' L', (if nI (tx b) < (48 : Int32) then fX12_nextToken_322 (nI (tx b)) N0 (j_up L 66 15 (0 : Int64)) else if (57 : Int32) < nI (tx b) then fX12_nextToken_322 (nI (tx b)) N0 (j_up L 66 15 (0 : Int64)) else fX12_nextToken_224 100000 N0 (j_up L 66 15 (0 : Int64))) = some (N', L') ∧ rN N N' L L' ∧ RT N' L' tx m b := by
      intro q1
      by_cases d1 : tx b < 48
      · have d1' : nI (tx b) < (48 : Int32) := nI_lt (b := 48) d1 (by omega)
        rw [if_pos d1']
        exact hsg q1 (by unfold isDg; rw [decide_eq_false (by omega)]; rfl)
      · have d1' : ¬ nI (tx b) < (48 : Int32) := nI_nlt (b := 48) (by omega) (by omega)
        rw [if_neg d1']
        by_cases d2 : 57 < tx b
        · have d2' : (57 : Int32) < nI (tx b) := nI_lt (a := 57) d2 (by omega)
          rw [if_pos d2']
          exact hsg q1 (by unfold isDg; rw [decide_eq_false (show ¬ tx b ≤ 57 by omega)]; simp)
        · have d2' : ¬ (57 : Int32) < nI (tx b) := nI_nlt (a := 57) (by omega) (by omega)
          rw [if_neg d2']
          exact hdg q1 (by unfold isDg; rw [decide_eq_true (show 48 ≤ tx b by omega), decide_eq_true (show tx b ≤ 57 by omega)]; rfl)
    by_cases d1 : tx b < 97
    · have d1' : nI (tx b) < (97 : Int32) := nI_lt (b := 97) d1 (by omega)
      rw [if_pos d1']
      exact hfin (by unfold isL; rw [decide_eq_false (by omega)]; rfl)
    · have d1' : ¬ nI (tx b) < (97 : Int32) := nI_nlt (b := 97) (by omega) (by omega)
      rw [if_neg d1']
      by_cases d2 : 122 < tx b
      · have d2' : (122 : Int32) < nI (tx b) := nI_lt (a := 122) d2 (by omega)
        rw [if_pos d2']
        exact hfin (by unfold isL; rw [decide_eq_false (show ¬ tx b ≤ 122 by omega)]; simp)
      · have d2' : ¬ (122 : Int32) < nI (tx b) := nI_nlt (a := 122) (by omega) (by omega)
        rw [if_neg d2']
        exact hlt (by unfold isL; rw [decide_eq_true (show 97 ≤ tx b by omega), decide_eq_true (show tx b ≤ 122 by omega)]; rfl)
theorem rnx_0 {tx : Nat → Nat} {m : Nat} : ∀ d i, i + d = m → ∀ n, d < n → ∀ (N : JI) (L : JL), txR (N 74) tx m → N 66 11 = nI m → N 66 12 = nI i → ∃ N' L', fX12_nextToken_0 n N L = some (N', L') ∧ rN N N' L L' ∧ RT N' L' tx m (lB tx m i) := by
  intro d
  induction d with
  | zero =>
    intro i hi n hn N L hN e1 e2
    obtain ⟨n', rfl⟩ := suc_of hn
    have hm := hN.1
    have hs : lB tx m i = i := rn_stop (by omega)
    rw [fX12_nextToken_0, e1, e2, if_pos (nI_le (by omega) (by omega)), hs]
    exact rnx_52 (by omega) hN e1 e2
  | succ d ih =>
    intro i hi n hn N L hN e1 e2
    obtain ⟨n', rfl⟩ := suc_of hn
    have hm := hN.1
    obtain ⟨t1, t2⟩ := hN.2 i (by omega)
    have go : isBl (tx i) = true → ∃ N' L', fX12_nextToken_0 n' (j_up N 66 12 (nI i + (1 : Int32))) L = some (N', L') ∧ rN N N' L L' ∧ RT N' L' tx m (lB tx m i) := by
      intro hb
      rw [show nI i + (1 : Int32) = nI (i + 1) from nI_add _ 1]
      have hs : lB tx m i = lB tx m (i + 1) := rn_go (by omega) hb
      obtain ⟨N', L', a1, a2, a3⟩ := ih (i + 1) (by omega) n' (by omega) (j_up N 66 12 (nI (i + 1))) L (by rw [ju_row _ _ (by omega)]; exact hN) (by rw [ju_cell _ _ (by omega)]; exact e1) (ju_same _ _ _ _)
      rw [hs]
      exact ⟨N', L', a1, rN_tr (rN_up N L _ (by omega)) a2, a3⟩
    rw [fX12_nextToken_0, e1, e2, if_neg (nI_ge (by omega) (by omega)), jg_in (show i < 1000 by omega) (by decide), jg_in (show i < 1000 by omega) (by decide), nI_clamp (by omega), t1]
    by_cases c32 : tx i = 32
    · rw [if_pos (by rw [c32]; rfl)]
      exact go (by unfold isBl; rw [c32]; rfl)
    · rw [if_neg (show ¬ nI (tx i) = (32 : Int32) from fun x => c32 ((nI_eq (b := 32) (by omega) (by omega)).mp x))]
      by_cases c10 : tx i = 10
      · rw [if_pos (by rw [c10]; rfl)]
        exact go (by unfold isBl; rw [c10]; rfl)
      · rw [if_neg (show ¬ nI (tx i) = (10 : Int32) from fun x => c10 ((nI_eq (b := 10) (by omega) (by omega)).mp x))]
        have hs : lB tx m i = i := rn_stop (by unfold isBl; rw [decide_eq_false c10, decide_eq_false c32]; simp)
        rw [hs]
        exact rnx_52 (by omega) hN e1 e2
