def fX7_isTaken (t : Nat) (I : JI) : Option (Int32) :=
  j_g (j_in (17 : Int32) 19) (if (I (t + 5) (17 : Int32).toNatClampNeg) = (-1 : Int32) then (some ((0 : Int32))) else (some ((1 : Int32))))
set_option maxHeartbeats 4000000 in
set_option maxRecDepth 100000 in
theorem tcX7_isTaken {E : JE} {t : Nat} {r : Int32} {I : JI} {L : JL} {G D : JG} {S : JS} (hL : Lay G S) (ht : S[t]? = some (7, 9)) (h : fX7_isTaken t I = some r) : CallJ E xX7_isTaken 1 [.ref (E.1 + t)] I L G D S (some (.int r)) I L G D S := by
  unfold fX7_isTaken at h
  refine j_entry (by decide) (Nat.le_of_ble_eq_true rfl) ?_
  show AtJ E xX7_isTaken (Zr E (some (.int r)) I L G D S) ((S).length, jm_sl S) 1 0 [(0, .ref (E.1 + t))] [] I L G D S
  refine j_aload_n 1 dX7_isTaken_0 rfl rfl 0 rfl ?_
  refine j_getG 4 dX7_isTaken_1 rfl ht cl7 (k := 4) (by decide) flX7_28 rfl (ly7_4 hL ht).1 ?_
  refine j_bipush (v := (17 : Int32)) 6 dX7_isTaken_4 rfl (by decide) ?_
  obtain ⟨hg, h⟩ := j_gs h
  refine j_iald 7 dX7_isTaken_6 rfl (ly7_4 hL ht).2 (j_inv hg) ?_
  refine j_iconst (v := (-1 : Int32)) 8 dX7_isTaken_7 rfl (by decide) ?_
  refine j_icmp_eq 15 11 dX7_isTaken_8 (by decide) rfl (fun hc => ?_) (fun hc => ?_)
  · replace h := j_pos hc h
    refine j_iconst (v := (0 : Int32)) 16 dX7_isTaken_15 rfl (by decide) ?_
    cases h
    exact j_zret dX7_isTaken_16 rfl j_b01_0
  · replace h := j_neg hc h
    refine j_iconst (v := (1 : Int32)) 12 dX7_isTaken_11 rfl (by decide) ?_
    refine j_goto 16 dX7_isTaken_12 (by decide) ?_
    cases h
    exact j_zret dX7_isTaken_16 rfl j_b01_1
def fX7_isLate (t : Nat) (l1 : Int32) (l2 : Int32) (I : JI) : Option (Int32) :=
  j_g (j_in l1 19) (if (I (t + 5) l1.toNatClampNeg) = (-1 : Int32) then (some ((0 : Int32))) else (j_g (j_in l1 19) (j_g (j_in l1 16) (if l2 ≤ ((I (t + 5) l1.toNatClampNeg) + (I (t + 3) l1.toNatClampNeg)) then (some ((0 : Int32))) else (some ((1 : Int32)))))))
set_option maxHeartbeats 4000000 in
set_option maxRecDepth 100000 in
theorem tcX7_isLate {E : JE} {t : Nat} {l1 : Int32} {l2 : Int32} {r : Int32} {I : JI} {L : JL} {G D : JG} {S : JS} (hL : Lay G S) (ht : S[t]? = some (7, 9)) (h : fX7_isLate t l1 l2 I = some r) : CallJ E xX7_isLate 1 [.ref (E.1 + t), .int l1, .int l2] I L G D S (some (.int r)) I L G D S := by
  unfold fX7_isLate at h
  refine j_entry (by decide) (Nat.le_of_ble_eq_true rfl) ?_
  show AtJ E xX7_isLate (Zr E (some (.int r)) I L G D S) ((S).length, jm_sl S) 1 0 [(0, .ref (E.1 + t)), (1, .int l1), (2, .int l2)] [] I L G D S
  refine j_aload_n 1 dX7_isLate_0 rfl rfl 0 rfl ?_
  refine j_getG 4 dX7_isLate_1 rfl ht cl7 (k := 4) (by decide) flX7_28 rfl (ly7_4 hL ht).1 ?_
  refine j_iload_n 5 dX7_isLate_4 rfl rfl 1 rfl ?_
  obtain ⟨hg, h⟩ := j_gs h
  refine j_iald 6 dX7_isLate_5 rfl (ly7_4 hL ht).2 (j_inv hg) ?_
  refine j_iconst (v := (-1 : Int32)) 7 dX7_isLate_6 rfl (by decide) ?_
  refine j_icmp_eq 31 10 dX7_isLate_7 (by decide) rfl (fun hc => ?_) (fun hc => ?_)
  · replace h := j_pos hc h
    refine j_iconst (v := (0 : Int32)) 32 dX7_isLate_31 rfl (by decide) ?_
    cases h
    exact j_zret dX7_isLate_32 rfl j_b01_0
  · replace h := j_neg hc h
    refine j_iload_n 11 dX7_isLate_10 rfl rfl 2 rfl ?_
    refine j_aload_n 12 dX7_isLate_11 rfl rfl 0 rfl ?_
    refine j_getG 15 dX7_isLate_12 rfl ht cl7 (k := 4) (by decide) flX7_28 rfl (ly7_4 hL ht).1 ?_
    refine j_iload_n 16 dX7_isLate_15 rfl rfl 1 rfl ?_
    obtain ⟨hg, h⟩ := j_gs h
    refine j_iald 17 dX7_isLate_16 rfl (ly7_4 hL ht).2 (j_inv hg) ?_
    refine j_aload_n 18 dX7_isLate_17 rfl rfl 0 rfl ?_
    refine j_getG 21 dX7_isLate_18 rfl ht cl7 (k := 2) (by decide) flX7_22 rfl (ly7_2 hL ht).1 ?_
    refine j_iload_n 22 dX7_isLate_21 rfl rfl 1 rfl ?_
    obtain ⟨hg, h⟩ := j_gs h
    refine j_iald 23 dX7_isLate_22 rfl (ly7_2 hL ht).2 (j_inv hg) ?_
    refine j_iadd 24 dX7_isLate_23 rfl ?_
    refine j_icmp_le 31 27 dX7_isLate_24 (by decide) rfl (fun hc => ?_) (fun hc => ?_)
    · replace h := j_pos hc h
      refine j_iconst (v := (0 : Int32)) 32 dX7_isLate_31 rfl (by decide) ?_
      cases h
      exact j_zret dX7_isLate_32 rfl j_b01_0
    · replace h := j_neg hc h
      refine j_iconst (v := (1 : Int32)) 28 dX7_isLate_27 rfl (by decide) ?_
      refine j_goto 32 dX7_isLate_28 (by decide) ?_
      cases h
      exact j_zret dX7_isLate_32 rfl j_b01_1
def fX7_comerAt_48 (t : Nat) (k4 : Int32 → Int32 → Int32 → JI → Option (Int32)) (l1 : Int32) (l2 : Int32) (l3 : Int32) (I : JI) : Option (Int32) :=
  k4 l1 l2 (l3 + (1 : Int32)) I
set_option maxHeartbeats 4000000 in
set_option maxRecDepth 100000 in
theorem kX7_comerAt_48 {E : JE} {t : Nat} {k4 : Int32 → Int32 → Int32 → JI → Option (Int32)} {r : Int32} {L : JL} {G : JG} {D : JG} {S : JS} (hL : Lay G S) (ht : S[t]? = some (7, 9)) (H4 : ∀ (l1 : Int32) (l2 : Int32) (l3 : Int32) (I : JI), k4 l1 l2 l3 I = some r → AtJ E xX7_comerAt (Zr E (some (.int r)) I L G D S) ((S).length, jm_sl S) 1 4 [(0, .ref (E.1 + t)), (1, .int l1), (2, .int l2), (3, .int l3)] [] I L G D S) : ∀ (l1 : Int32) (l2 : Int32) (l3 : Int32) (I : JI), fX7_comerAt_48 t k4 l1 l2 l3 I = some r → AtJ E xX7_comerAt (Zr E (some (.int r)) I L G D S) ((S).length, jm_sl S) 1 48 [(0, .ref (E.1 + t)), (1, .int l1), (2, .int l2), (3, .int l3)] [] I L G D S := by
  intro l1 l2 l3 I  h
  unfold fX7_comerAt_48 at h
  refine j_iinc (v := (l3 + (1 : Int32))) (lv' := [(3, .int (l3 + (1 : Int32))), (0, .ref (E.1 + t)), (1, .int l1), (2, .int l2)]) (q := 3) 51 dX7_comerAt_48 rfl rfl rfl (by decide) rfl ?_
  refine j_goto 4 dX7_comerAt_51 (by decide) ?_
  refine j_sub [1, 2, 3, 0] rfl ?_
  exact H4 _ _ _ _  h
def fX7_comerAt_13 (t : Nat) (k4 : Int32 → Int32 → Int32 → JI → Option (Int32)) : Nat → Int32 → Int32 → Int32 → Int32 → JI → Option (Int32)
  | 0, _, _, _, _, _ => none
  | n + 1, l1, l2, l3, l4, I =>
    if (16 : Int32) ≤ l4 then (fX7_comerAt_48 t k4 l1 l2 l3 I) else (j_g (j_in l4 16) (if (I (t + 2) l4.toNatClampNeg) = l3 then (if l2 = l1 then (some (l4)) else ((fX7_comerAt_13 t k4 n) l1 (l2 + (1 : Int32)) l3 (l4 + (1 : Int32)) I)) else ((fX7_comerAt_13 t k4 n) l1 l2 l3 (l4 + (1 : Int32)) I)))
set_option maxHeartbeats 4000000 in
set_option maxRecDepth 100000 in
theorem kX7_comerAt_13 {E : JE} {t : Nat} {k4 : Int32 → Int32 → Int32 → JI → Option (Int32)} {r : Int32} {L : JL} {G : JG} {D : JG} {S : JS} (hL : Lay G S) (ht : S[t]? = some (7, 9)) (H4 : ∀ (l1 : Int32) (l2 : Int32) (l3 : Int32) (I : JI), k4 l1 l2 l3 I = some r → AtJ E xX7_comerAt (Zr E (some (.int r)) I L G D S) ((S).length, jm_sl S) 1 4 [(0, .ref (E.1 + t)), (1, .int l1), (2, .int l2), (3, .int l3)] [] I L G D S) : ∀ (n : Nat) (l1 : Int32) (l2 : Int32) (l3 : Int32) (l4 : Int32) (I : JI), fX7_comerAt_13 t k4 n l1 l2 l3 l4 I = some r → AtJ E xX7_comerAt (Zr E (some (.int r)) I L G D S) ((S).length, jm_sl S) 1 13 [(0, .ref (E.1 + t)), (1, .int l1), (2, .int l2), (3, .int l3), (4, .int l4)] [] I L G D S := by
  intro n
  induction n with
  | zero => intro l1 l2 l3 l4 I  h; simp [fX7_comerAt_13] at h
  | succ n ih =>
    intro l1 l2 l3 l4 I  h
    rw [fX7_comerAt_13] at h
    refine j_iload 15 dX7_comerAt_13 rfl 4 rfl ?_
    refine j_bipush (v := (16 : Int32)) 17 dX7_comerAt_15 rfl (by decide) ?_
    refine j_icmp_ge 48 20 dX7_comerAt_17 (by decide) rfl (fun hc => ?_) (fun hc => ?_)
    · replace h := j_pos hc h
      refine j_sub [0, 1, 2, 3] rfl ?_
      exact kX7_comerAt_48 hL  ht H4 _ _ _ _  h
    · replace h := j_neg hc h
      refine j_aload_n 21 dX7_comerAt_20 rfl rfl 0 rfl ?_
      refine j_getG 24 dX7_comerAt_21 rfl ht cl7 (k := 1) (by decide) flX7_18 rfl (ly7_1 hL ht).1 ?_
      refine j_iload 26 dX7_comerAt_24 rfl 4 rfl ?_
      obtain ⟨hg, h⟩ := j_gs h
      refine j_iald 27 dX7_comerAt_26 rfl (ly7_1 hL ht).2 (j_inv hg) ?_
      refine j_iload_n 28 dX7_comerAt_27 rfl rfl 3 rfl ?_
      refine j_icmp_ne 42 31 dX7_comerAt_28 (by decide) rfl (fun hc => ?_) (fun hc => ?_)
      · replace h := j_neg hc h
        refine j_iinc (v := (l4 + (1 : Int32))) (lv' := [(4, .int (l4 + (1 : Int32))), (0, .ref (E.1 + t)), (1, .int l1), (2, .int l2), (3, .int l3)]) (q := 4) 45 dX7_comerAt_42 rfl rfl rfl (by decide) rfl ?_
        refine j_goto 13 dX7_comerAt_45 (by decide) ?_
        refine j_sub [1, 2, 3, 4, 0] rfl ?_
        exact ih _ _ _ _ _  h
      · replace h := j_pos hc h
        refine j_iload_n 32 dX7_comerAt_31 rfl rfl 2 rfl ?_
        refine j_iload_n 33 dX7_comerAt_32 rfl rfl 1 rfl ?_
        refine j_icmp_ne 39 36 dX7_comerAt_33 (by decide) rfl (fun hc => ?_) (fun hc => ?_)
        · replace h := j_neg hc h
          refine j_iinc (v := (l2 + (1 : Int32))) (lv' := [(2, .int (l2 + (1 : Int32))), (0, .ref (E.1 + t)), (1, .int l1), (3, .int l3), (4, .int l4)]) (q := 2) 42 dX7_comerAt_39 rfl rfl rfl (by decide) rfl ?_
          refine j_iinc (v := (l4 + (1 : Int32))) (lv' := [(4, .int (l4 + (1 : Int32))), (2, .int (l2 + (1 : Int32))), (0, .ref (E.1 + t)), (1, .int l1), (3, .int l3)]) (q := 4) 45 dX7_comerAt_42 rfl rfl rfl (by decide) rfl ?_
          refine j_goto 13 dX7_comerAt_45 (by decide) ?_
          refine j_sub [2, 3, 1, 4, 0] rfl ?_
          exact ih _ _ _ _ _  h
        · replace h := j_pos hc h
          refine j_iload 38 dX7_comerAt_36 rfl 4 rfl ?_
          cases h
          exact j_iret dX7_comerAt_38 rfl
def fX7_comerAt_4 (t : Nat) : Nat → Int32 → Int32 → Int32 → JI → Option (Int32)
  | 0, _, _, _, _ => none
  | n + 1, l1, l2, l3, I =>
    if (18 : Int32) ≤ l3 then (some ((-1 : Int32))) else (fX7_comerAt_13 t (fX7_comerAt_4 t n) 100000 l1 l2 l3 (0 : Int32) I)
set_option maxHeartbeats 4000000 in
set_option maxRecDepth 100000 in
theorem kX7_comerAt_4 {E : JE} {t : Nat} {r : Int32} {L : JL} {G : JG} {D : JG} {S : JS} (hL : Lay G S) (ht : S[t]? = some (7, 9)) : ∀ (n : Nat) (l1 : Int32) (l2 : Int32) (l3 : Int32) (I : JI), fX7_comerAt_4 t n l1 l2 l3 I = some r → AtJ E xX7_comerAt (Zr E (some (.int r)) I L G D S) ((S).length, jm_sl S) 1 4 [(0, .ref (E.1 + t)), (1, .int l1), (2, .int l2), (3, .int l3)] [] I L G D S := by
  intro n
  induction n with
  | zero => intro l1 l2 l3 I  h; simp [fX7_comerAt_4] at h
  | succ n ih =>
    intro l1 l2 l3 I  h
    rw [fX7_comerAt_4] at h
    refine j_iload_n 5 dX7_comerAt_4 rfl rfl 3 rfl ?_
    refine j_bipush (v := (18 : Int32)) 7 dX7_comerAt_5 rfl (by decide) ?_
    refine j_icmp_ge 54 10 dX7_comerAt_7 (by decide) rfl (fun hc => ?_) (fun hc => ?_)
    · replace h := j_pos hc h
      refine j_iconst (v := (-1 : Int32)) 55 dX7_comerAt_54 rfl (by decide) ?_
      cases h
      exact j_iret dX7_comerAt_55 rfl
    · replace h := j_neg hc h
      refine j_iconst (v := (0 : Int32)) 11 dX7_comerAt_10 rfl (by decide) ?_
      refine j_istore (lv' := [(4, .int (0 : Int32)), (0, .ref (E.1 + t)), (1, .int l1), (2, .int l2), (3, .int l3)]) 13 dX7_comerAt_11 rfl (by decide) rfl ?_
      refine j_sub [1, 2, 3, 4, 0] rfl ?_
      exact kX7_comerAt_13 hL  ht ih 100000 _ _ _ _ _  h
def fX7_comerAt (t : Nat) (l1 : Int32) (I : JI) : Option (Int32) :=
  fX7_comerAt_4 t 100000 l1 (0 : Int32) (0 : Int32) I
set_option maxHeartbeats 4000000 in
set_option maxRecDepth 100000 in
theorem tcX7_comerAt {E : JE} {t : Nat} {l1 : Int32} {r : Int32} {I : JI} {L : JL} {G D : JG} {S : JS} (hL : Lay G S) (ht : S[t]? = some (7, 9)) (h : fX7_comerAt t l1 I = some r) : CallJ E xX7_comerAt 1 [.ref (E.1 + t), .int l1] I L G D S (some (.int r)) I L G D S := by
  unfold fX7_comerAt at h
  refine j_entry (by decide) (Nat.le_of_ble_eq_true rfl) ?_
  show AtJ E xX7_comerAt (Zr E (some (.int r)) I L G D S) ((S).length, jm_sl S) 1 0 [(0, .ref (E.1 + t)), (1, .int l1)] [] I L G D S
  refine j_iconst (v := (0 : Int32)) 1 dX7_comerAt_0 rfl (by decide) ?_
  refine j_istore_n (lv' := [(2, .int (0 : Int32)), (0, .ref (E.1 + t)), (1, .int l1)]) 2 dX7_comerAt_1 rfl rfl (by decide) rfl ?_
  refine j_iconst (v := (0 : Int32)) 3 dX7_comerAt_2 rfl (by decide) ?_
  refine j_istore_n (lv' := [(3, .int (0 : Int32)), (2, .int (0 : Int32)), (0, .ref (E.1 + t)), (1, .int l1)]) 4 dX7_comerAt_3 rfl rfl (by decide) rfl ?_
  refine j_sub [2, 3, 1, 0] rfl ?_
  exact kX7_comerAt_4 hL  ht  100000 _ _ _ _  h
def fX7_isBehindAnother_38 (t : Nat) (k2 : Int32 → Int32 → Int32 → JI → Option (Int32)) (l1 : Int32) (l2 : Int32) (l3 : Int32) (s0 : Int32) (I : JI) : Option (Int32) :=
  if s0 = 0 then (k2 l1 l2 (l3 + (1 : Int32)) I) else ((fX7_isWaived t l3 I).bind (fun q1 => if q1 = 0 then ((fX7_isLate t l3 l2 I).bind (fun q2 => if q2 = 0 then (some ((1 : Int32))) else (k2 l1 l2 (l3 + (1 : Int32)) I))) else (k2 l1 l2 (l3 + (1 : Int32)) I)))
set_option maxHeartbeats 4000000 in
set_option maxRecDepth 100000 in
theorem kX7_isBehindAnother_38 {E : JE} {t : Nat} {k2 : Int32 → Int32 → Int32 → JI → Option (Int32)} {r : Int32} {L : JL} {G : JG} {D : JG} {S : JS} (hL : Lay G S) (ht : S[t]? = some (7, 9)) (H2 : ∀ (l1 : Int32) (l2 : Int32) (l3 : Int32) (I : JI), k2 l1 l2 l3 I = some r → AtJ E xX7_isBehindAnother (Zr E (some (.int r)) I L G D S) ((S).length, jm_sl S) 2 2 [(0, .ref (E.1 + t)), (1, .int l1), (2, .int l2), (3, .int l3)] [] I L G D S) : ∀ (l1 : Int32) (l2 : Int32) (l3 : Int32) (s0 : Int32) (I : JI), fX7_isBehindAnother_38 t k2 l1 l2 l3 s0 I = some r → AtJ E xX7_isBehindAnother (Zr E (some (.int r)) I L G D S) ((S).length, jm_sl S) 2 38 [(0, .ref (E.1 + t)), (1, .int l1), (2, .int l2), (3, .int l3)] [.int s0] I L G D S := by
  intro l1 l2 l3 s0 I  h
  unfold fX7_isBehindAnother_38 at h
  refine j_istore (lv' := [(4, .int s0), (0, .ref (E.1 + t)), (1, .int l1), (2, .int l2), (3, .int l3)]) 40 dX7_isBehindAnother_38 rfl (by decide) rfl ?_
  refine j_iload 42 dX7_isBehindAnother_40 rfl 0 rfl ?_
  refine j_if_eq 64 45 dX7_isBehindAnother_42 (by decide) rfl (fun hc => ?_) (fun hc => ?_)
  · replace h := j_pos hc h
    refine j_iinc (v := (l3 + (1 : Int32))) (lv' := [(3, .int (l3 + (1 : Int32))), (4, .int s0), (0, .ref (E.1 + t)), (1, .int l1), (2, .int l2)]) (q := 4) 67 dX7_isBehindAnother_64 rfl rfl rfl (by decide) rfl ?_
    refine j_goto 2 dX7_isBehindAnother_67 (by decide) ?_
    refine j_sub [2, 3, 4, 0] rfl ?_
    exact H2 _ _ _ _  h
  · replace h := j_neg hc h
    refine j_aload_n 46 dX7_isBehindAnother_45 rfl rfl 1 rfl ?_
    refine j_iload_n 47 dX7_isBehindAnother_46 rfl rfl 4 rfl ?_
    obtain ⟨q1, hq1, h⟩ := j_bs h
    refine j_callV (rest := []) (As := [.int l3]) 50 dX7_isBehindAnother_47 rfl jyX7_isWaived (tcX7_isWaived hL ht hq1) ht cl7 flX7_126 wm1028 wm1029 (by decide) rfl rfl (Nat.le_of_ble_eq_true rfl) ?_
    refine j_if_ne 64 53 dX7_isBehindAnother_50 (by decide) rfl (fun hc => ?_) (fun hc => ?_)
    · replace h := j_neg hc h
      refine j_iinc (v := (l3 + (1 : Int32))) (lv' := [(3, .int (l3 + (1 : Int32))), (4, .int s0), (0, .ref (E.1 + t)), (1, .int l1), (2, .int l2)]) (q := 4) 67 dX7_isBehindAnother_64 rfl rfl rfl (by decide) rfl ?_
      refine j_goto 2 dX7_isBehindAnother_67 (by decide) ?_
      refine j_sub [2, 3, 4, 0] rfl ?_
      exact H2 _ _ _ _  h
    · replace h := j_pos hc h
      refine j_aload_n 54 dX7_isBehindAnother_53 rfl rfl 1 rfl ?_
      refine j_iload_n 55 dX7_isBehindAnother_54 rfl rfl 4 rfl ?_
      refine j_iload_n 56 dX7_isBehindAnother_55 rfl rfl 3 rfl ?_
      obtain ⟨q2, hq2, h⟩ := j_bs h
      refine j_callV (rest := []) (As := [.int l3, .int l2]) 59 dX7_isBehindAnother_56 rfl jyX7_isLate (tcX7_isLate hL ht hq2) ht cl7 flX7_130 wm1052 wm20 (by decide) rfl rfl (Nat.le_of_ble_eq_true rfl) ?_
      refine j_if_ne 64 62 dX7_isBehindAnother_59 (by decide) rfl (fun hc => ?_) (fun hc => ?_)
      · replace h := j_neg hc h
        refine j_iinc (v := (l3 + (1 : Int32))) (lv' := [(3, .int (l3 + (1 : Int32))), (4, .int s0), (0, .ref (E.1 + t)), (1, .int l1), (2, .int l2)]) (q := 4) 67 dX7_isBehindAnother_64 rfl rfl rfl (by decide) rfl ?_
        refine j_goto 2 dX7_isBehindAnother_67 (by decide) ?_
        refine j_sub [2, 3, 4, 0] rfl ?_
        exact H2 _ _ _ _  h
      · replace h := j_pos hc h
        refine j_iconst (v := (1 : Int32)) 63 dX7_isBehindAnother_62 rfl (by decide) ?_
        cases h
        exact j_zret dX7_isBehindAnother_63 rfl j_b01_1
def fX7_isBehindAnother_2 (t : Nat) : Nat → Int32 → Int32 → Int32 → JI → Option (Int32)
  | 0, _, _, _, _ => none
  | n + 1, l1, l2, l3, I =>
    if (16 : Int32) ≤ l3 then (some ((0 : Int32))) else (j_g (j_in l3 16) (if (I (t + 2) l3.toNatClampNeg) = (-1 : Int32) then (fX7_isBehindAnother_38 t (fX7_isBehindAnother_2 t n) l1 l2 l3 (0 : Int32) I) else (j_g (j_in l3 16) (j_g (j_in l1 16) (if (I (t + 2) l1.toNatClampNeg) ≤ (I (t + 2) l3.toNatClampNeg) then (fX7_isBehindAnother_38 t (fX7_isBehindAnother_2 t n) l1 l2 l3 (0 : Int32) I) else (fX7_isBehindAnother_38 t (fX7_isBehindAnother_2 t n) l1 l2 l3 (1 : Int32) I))))))
set_option maxHeartbeats 4000000 in
set_option maxRecDepth 100000 in
theorem kX7_isBehindAnother_2 {E : JE} {t : Nat} {r : Int32} {L : JL} {G : JG} {D : JG} {S : JS} (hL : Lay G S) (ht : S[t]? = some (7, 9)) : ∀ (n : Nat) (l1 : Int32) (l2 : Int32) (l3 : Int32) (I : JI), fX7_isBehindAnother_2 t n l1 l2 l3 I = some r → AtJ E xX7_isBehindAnother (Zr E (some (.int r)) I L G D S) ((S).length, jm_sl S) 2 2 [(0, .ref (E.1 + t)), (1, .int l1), (2, .int l2), (3, .int l3)] [] I L G D S := by
  intro n
  induction n with
  | zero => intro l1 l2 l3 I  h; simp [fX7_isBehindAnother_2] at h
  | succ n ih =>
    intro l1 l2 l3 I  h
    rw [fX7_isBehindAnother_2] at h
    refine j_iload_n 3 dX7_isBehindAnother_2 rfl rfl 3 rfl ?_
    refine j_bipush (v := (16 : Int32)) 5 dX7_isBehindAnother_3 rfl (by decide) ?_
    refine j_icmp_ge 70 8 dX7_isBehindAnother_5 (by decide) rfl (fun hc => ?_) (fun hc => ?_)
    · replace h := j_pos hc h
      refine j_iconst (v := (0 : Int32)) 71 dX7_isBehindAnother_70 rfl (by decide) ?_
      cases h
      exact j_zret dX7_isBehindAnother_71 rfl j_b01_0
    · replace h := j_neg hc h
      refine j_aload_n 9 dX7_isBehindAnother_8 rfl rfl 0 rfl ?_
      refine j_getG 12 dX7_isBehindAnother_9 rfl ht cl7 (k := 1) (by decide) flX7_18 rfl (ly7_1 hL ht).1 ?_
      refine j_iload_n 13 dX7_isBehindAnother_12 rfl rfl 3 rfl ?_
      obtain ⟨hg, h⟩ := j_gs h
      refine j_iald 14 dX7_isBehindAnother_13 rfl (ly7_1 hL ht).2 (j_inv hg) ?_
      refine j_iconst (v := (-1 : Int32)) 15 dX7_isBehindAnother_14 rfl (by decide) ?_
      refine j_icmp_eq 37 18 dX7_isBehindAnother_15 (by decide) rfl (fun hc => ?_) (fun hc => ?_)
      · replace h := j_pos hc h
        refine j_iconst (v := (0 : Int32)) 38 dX7_isBehindAnother_37 rfl (by decide) ?_
        exact kX7_isBehindAnother_38 hL  ht ih _ _ _ _ _  h
      · replace h := j_neg hc h
        refine j_aload_n 19 dX7_isBehindAnother_18 rfl rfl 0 rfl ?_
        refine j_getG 22 dX7_isBehindAnother_19 rfl ht cl7 (k := 1) (by decide) flX7_18 rfl (ly7_1 hL ht).1 ?_
        refine j_iload_n 23 dX7_isBehindAnother_22 rfl rfl 3 rfl ?_
        obtain ⟨hg, h⟩ := j_gs h
        refine j_iald 24 dX7_isBehindAnother_23 rfl (ly7_1 hL ht).2 (j_inv hg) ?_
        refine j_aload_n 25 dX7_isBehindAnother_24 rfl rfl 0 rfl ?_
        refine j_getG 28 dX7_isBehindAnother_25 rfl ht cl7 (k := 1) (by decide) flX7_18 rfl (ly7_1 hL ht).1 ?_
        refine j_iload_n 29 dX7_isBehindAnother_28 rfl rfl 1 rfl ?_
        obtain ⟨hg, h⟩ := j_gs h
        refine j_iald 30 dX7_isBehindAnother_29 rfl (ly7_1 hL ht).2 (j_inv hg) ?_
        refine j_icmp_ge 37 33 dX7_isBehindAnother_30 (by decide) rfl (fun hc => ?_) (fun hc => ?_)
        · replace h := j_pos hc h
          refine j_iconst (v := (0 : Int32)) 38 dX7_isBehindAnother_37 rfl (by decide) ?_
          exact kX7_isBehindAnother_38 hL  ht ih _ _ _ _ _  h
        · replace h := j_neg hc h
          refine j_iconst (v := (1 : Int32)) 34 dX7_isBehindAnother_33 rfl (by decide) ?_
          refine j_goto 38 dX7_isBehindAnother_34 (by decide) ?_
          exact kX7_isBehindAnother_38 hL  ht ih _ _ _ _ _  h
def fX7_isBehindAnother (t : Nat) (l1 : Int32) (l2 : Int32) (I : JI) : Option (Int32) :=
  fX7_isBehindAnother_2 t 100000 l1 l2 (0 : Int32) I
set_option maxHeartbeats 4000000 in
set_option maxRecDepth 100000 in
theorem tcX7_isBehindAnother {E : JE} {t : Nat} {l1 : Int32} {l2 : Int32} {r : Int32} {I : JI} {L : JL} {G D : JG} {S : JS} (hL : Lay G S) (ht : S[t]? = some (7, 9)) (h : fX7_isBehindAnother t l1 l2 I = some r) : CallJ E xX7_isBehindAnother 2 [.ref (E.1 + t), .int l1, .int l2] I L G D S (some (.int r)) I L G D S := by
  unfold fX7_isBehindAnother at h
  refine j_entry (by decide) (Nat.le_of_ble_eq_true rfl) ?_
  show AtJ E xX7_isBehindAnother (Zr E (some (.int r)) I L G D S) ((S).length, jm_sl S) 2 0 [(0, .ref (E.1 + t)), (1, .int l1), (2, .int l2)] [] I L G D S
  refine j_iconst (v := (0 : Int32)) 1 dX7_isBehindAnother_0 rfl (by decide) ?_
  refine j_istore_n (lv' := [(3, .int (0 : Int32)), (0, .ref (E.1 + t)), (1, .int l1), (2, .int l2)]) 2 dX7_isBehindAnother_1 rfl rfl (by decide) rfl ?_
  refine j_sub [1, 2, 3, 0] rfl ?_
  exact kX7_isBehindAnother_2 hL  ht  100000 _ _ _ _  h
def fX7_judgeClaim (t : Nat) (l1 : Int32) (l2 : Int32) (l3 : Int32) (l4 : Nat) (I : JI) : Option (Int32) :=
  (fX7_isTaken t I).bind (fun q1 => if q1 = 0 then (j_g (j_in l1 16) (if (I (t + 2) l1.toNatClampNeg) = (-1 : Int32) then (some ((1 : Int32))) else ((fX7_isWaived t l1 I).bind (fun q2 => if q2 = 0 then ((fX7_isLate t l1 l3 I).bind (fun q3 => if q3 = 0 then ((fX7_isBehindAnother t l1 l3 I).bind (fun q4 => if q4 = 0 then ((fX7_priceAsked t I).bind (fun q5 => if q5 ≤ l2 then ((fX1_of l4 (I (t + 1) 0) (I (t + 1) 2) I).bind (fun q6 => if (I (t + 1) 3) ≤ q6 then (some ((0 : Int32))) else (some ((5 : Int32))))) else (some ((4 : Int32))))) else (some ((3 : Int32))))) else (some ((2 : Int32))))) else (some ((1 : Int32))))))) else (some ((6 : Int32))))
set_option maxHeartbeats 4000000 in
set_option maxRecDepth 100000 in
theorem tcX7_judgeClaim {E : JE} {t : Nat} {l1 : Int32} {l2 : Int32} {l3 : Int32} {l4 : Nat} {r : Int32} {I : JI} {L : JL} {G D : JG} {S : JS} (hL : Lay G S) (ht : S[t]? = some (7, 9)) (h4 : S[l4]? = some (1, 4)) (h : fX7_judgeClaim t l1 l2 l3 l4 I = some r) : CallJ E xX7_judgeClaim 3 [.ref (E.1 + t), .int l1, .int l2, .int l3, .ref (E.1 + l4)] I L G D S (some (.int r)) I L G D S := by
  unfold fX7_judgeClaim at h
  refine j_entry (by decide) (Nat.le_of_ble_eq_true rfl) ?_
  show AtJ E xX7_judgeClaim (Zr E (some (.int r)) I L G D S) ((S).length, jm_sl S) 3 0 [(0, .ref (E.1 + t)), (1, .int l1), (2, .int l2), (3, .int l3), (4, .ref (E.1 + l4))] [] I L G D S
  refine j_aload_n 1 dX7_judgeClaim_0 rfl rfl 0 rfl ?_
  obtain ⟨q1, hq1, h⟩ := j_bs h
  refine j_callV (rest := []) (As := []) 4 dX7_judgeClaim_1 rfl jyX7_isTaken (tcX7_isTaken hL ht hq1) ht cl7 flX7_122 wm1037 wm1038 (by decide) rfl rfl (Nat.le_of_ble_eq_true rfl) ?_
  refine j_if_eq 10 7 dX7_judgeClaim_4 (by decide) rfl (fun hc => ?_) (fun hc => ?_)
  · replace h := j_pos hc h
    refine j_aload_n 11 dX7_judgeClaim_10 rfl rfl 0 rfl ?_
    refine j_getG 14 dX7_judgeClaim_11 rfl ht cl7 (k := 1) (by decide) flX7_18 rfl (ly7_1 hL ht).1 ?_
    refine j_iload_n 15 dX7_judgeClaim_14 rfl rfl 1 rfl ?_
    obtain ⟨hg, h⟩ := j_gs h
    refine j_iald 16 dX7_judgeClaim_15 rfl (ly7_1 hL ht).2 (j_inv hg) ?_
    refine j_iconst (v := (-1 : Int32)) 17 dX7_judgeClaim_16 rfl (by decide) ?_
    refine j_icmp_eq 28 20 dX7_judgeClaim_17 (by decide) rfl (fun hc => ?_) (fun hc => ?_)
    · replace h := j_pos hc h
      refine j_iconst (v := (1 : Int32)) 29 dX7_judgeClaim_28 rfl (by decide) ?_
      cases h
      exact j_iret dX7_judgeClaim_29 rfl
    · replace h := j_neg hc h
      refine j_aload_n 21 dX7_judgeClaim_20 rfl rfl 0 rfl ?_
      refine j_iload_n 22 dX7_judgeClaim_21 rfl rfl 1 rfl ?_
      obtain ⟨q2, hq2, h⟩ := j_bs h
      refine j_callV (rest := []) (As := [.int l1]) 25 dX7_judgeClaim_22 rfl jyX7_isWaived (tcX7_isWaived hL ht hq2) ht cl7 flX7_126 wm1028 wm1029 (by decide) rfl rfl (Nat.le_of_ble_eq_true rfl) ?_
      refine j_if_eq 30 28 dX7_judgeClaim_25 (by decide) rfl (fun hc => ?_) (fun hc => ?_)
      · replace h := j_pos hc h
        refine j_aload_n 31 dX7_judgeClaim_30 rfl rfl 0 rfl ?_
        refine j_iload_n 32 dX7_judgeClaim_31 rfl rfl 1 rfl ?_
        refine j_iload_n 33 dX7_judgeClaim_32 rfl rfl 3 rfl ?_
        obtain ⟨q3, hq3, h⟩ := j_bs h
        refine j_callV (rest := []) (As := [.int l1, .int l3]) 36 dX7_judgeClaim_33 rfl jyX7_isLate (tcX7_isLate hL ht hq3) ht cl7 flX7_130 wm1052 wm20 (by decide) rfl rfl (Nat.le_of_ble_eq_true rfl) ?_
        refine j_if_eq 41 39 dX7_judgeClaim_36 (by decide) rfl (fun hc => ?_) (fun hc => ?_)
        · replace h := j_pos hc h
          refine j_aload_n 42 dX7_judgeClaim_41 rfl rfl 0 rfl ?_
          refine j_iload_n 43 dX7_judgeClaim_42 rfl rfl 1 rfl ?_
          refine j_iload_n 44 dX7_judgeClaim_43 rfl rfl 3 rfl ?_
          obtain ⟨q4, hq4, h⟩ := j_bs h
          refine j_callV (rest := []) (As := [.int l1, .int l3]) 47 dX7_judgeClaim_44 rfl jyX7_isBehindAnother (tcX7_isBehindAnother hL ht hq4) ht cl7 flX7_134 wm1056 wm21 (by decide) rfl rfl (Nat.le_of_ble_eq_true rfl) ?_
          refine j_if_eq 52 50 dX7_judgeClaim_47 (by decide) rfl (fun hc => ?_) (fun hc => ?_)
          · replace h := j_pos hc h
            refine j_iload_n 53 dX7_judgeClaim_52 rfl rfl 2 rfl ?_
            refine j_aload_n 54 dX7_judgeClaim_53 rfl rfl 0 rfl ?_
            obtain ⟨q5, hq5, h⟩ := j_bs h
            refine j_callV (rest := [.int l2]) (As := []) 57 dX7_judgeClaim_54 rfl jyX7_priceAsked (tcX7_priceAsked hL ht hq5) ht cl7 flX7_118 wm1060 wm22 (by decide) rfl rfl (Nat.le_of_ble_eq_true rfl) ?_
            refine j_icmp_ge 62 60 dX7_judgeClaim_57 (by decide) rfl (fun hc => ?_) (fun hc => ?_)
            · replace h := j_pos hc h
              refine j_aload 64 dX7_judgeClaim_62 rfl 4 rfl ?_
              refine j_aload_n 65 dX7_judgeClaim_64 rfl rfl 0 rfl ?_
              refine j_getG 68 dX7_judgeClaim_65 rfl ht cl7 (k := 0) (by decide) flX7_12 rfl (ly7_0 hL ht).1 ?_
              refine j_getIN 71 dX7_judgeClaim_68 rfl (ly7_0 hL ht).2 cl0 (k := 0) (by decide) flX7_97 rfl ?_
              refine j_aload_n 72 dX7_judgeClaim_71 rfl rfl 0 rfl ?_
              refine j_getG 75 dX7_judgeClaim_72 rfl ht cl7 (k := 0) (by decide) flX7_12 rfl (ly7_0 hL ht).1 ?_
              refine j_getIN 78 dX7_judgeClaim_75 rfl (ly7_0 hL ht).2 cl0 (k := 2) (by decide) flX7_46 rfl ?_
              obtain ⟨q6, hq6, h⟩ := j_bs h
              refine j_callV (rest := []) (As := [.int (I (t + 1) 0), .int (I (t + 1) 2)]) 81 dX7_judgeClaim_78 rfl jyX1_of (tcX1_of hL h4 hq6) h4 cl1 flX7_137 wm663 wm664 (by decide) rfl rfl (Nat.le_of_ble_eq_true rfl) ?_
              refine j_aload_n 82 dX7_judgeClaim_81 rfl rfl 0 rfl ?_
              refine j_getG 85 dX7_judgeClaim_82 rfl ht cl7 (k := 0) (by decide) flX7_12 rfl (ly7_0 hL ht).1 ?_
              refine j_getIN 88 dX7_judgeClaim_85 rfl (ly7_0 hL ht).2 cl0 (k := 3) (by decide) flX7_109 rfl ?_
              refine j_icmp_ge 95 91 dX7_judgeClaim_88 (by decide) rfl (fun hc => ?_) (fun hc => ?_)
              · replace h := j_pos hc h
                refine j_iconst (v := (0 : Int32)) 96 dX7_judgeClaim_95 rfl (by decide) ?_
                cases h
                exact j_iret dX7_judgeClaim_96 rfl
              · replace h := j_neg hc h
                refine j_iconst (v := (5 : Int32)) 92 dX7_judgeClaim_91 rfl (by decide) ?_
                refine j_goto 96 dX7_judgeClaim_92 (by decide) ?_
                cases h
                exact j_iret dX7_judgeClaim_96 rfl
            · replace h := j_neg hc h
              refine j_iconst (v := (4 : Int32)) 61 dX7_judgeClaim_60 rfl (by decide) ?_
              cases h
              exact j_iret dX7_judgeClaim_61 rfl
          · replace h := j_neg hc h
            refine j_iconst (v := (3 : Int32)) 51 dX7_judgeClaim_50 rfl (by decide) ?_
            cases h
            exact j_iret dX7_judgeClaim_51 rfl
        · replace h := j_neg hc h
          refine j_iconst (v := (2 : Int32)) 40 dX7_judgeClaim_39 rfl (by decide) ?_
          cases h
          exact j_iret dX7_judgeClaim_40 rfl
      · replace h := j_neg hc h
        refine j_iconst (v := (1 : Int32)) 29 dX7_judgeClaim_28 rfl (by decide) ?_
        cases h
        exact j_iret dX7_judgeClaim_29 rfl
  · replace h := j_neg hc h
    refine j_bipush (v := (6 : Int32)) 9 dX7_judgeClaim_7 rfl (by decide) ?_
    cases h
    exact j_iret dX7_judgeClaim_9 rfl
def fX7_weightsOf_4 (t : Nat) : Nat → Int32 → Int32 → Int32 → JI → Option (Int32)
  | 0, _, _, _, _ => none
  | n + 1, l1, l2, l3, I =>
    if (16 : Int32) ≤ l3 then (some (l2)) else (j_g (j_in l3 16) (if (I (t + 2) l3.toNatClampNeg) = l1 then (j_g (j_in l3 16) ((fX7_weightsOf_4 t n) l1 (l2 + (I (t + 4) l3.toNatClampNeg)) (l3 + (1 : Int32)) I)) else ((fX7_weightsOf_4 t n) l1 l2 (l3 + (1 : Int32)) I)))
set_option maxHeartbeats 4000000 in
set_option maxRecDepth 100000 in
theorem kX7_weightsOf_4 {E : JE} {t : Nat} {r : Int32} {L : JL} {G : JG} {D : JG} {S : JS} (hL : Lay G S) (ht : S[t]? = some (7, 9)) : ∀ (n : Nat) (l1 : Int32) (l2 : Int32) (l3 : Int32) (I : JI), fX7_weightsOf_4 t n l1 l2 l3 I = some r → AtJ E xX7_weightsOf (Zr E (some (.int r)) I L G D S) ((S).length, jm_sl S) 1 4 [(0, .ref (E.1 + t)), (1, .int l1), (2, .int l2), (3, .int l3)] [] I L G D S := by
  intro n
  induction n with
  | zero => intro l1 l2 l3 I  h; simp [fX7_weightsOf_4] at h
  | succ n ih =>
    intro l1 l2 l3 I  h
    rw [fX7_weightsOf_4] at h
    refine j_iload_n 5 dX7_weightsOf_4 rfl rfl 3 rfl ?_
    refine j_bipush (v := (16 : Int32)) 7 dX7_weightsOf_5 rfl (by decide) ?_
    refine j_icmp_ge 35 10 dX7_weightsOf_7 (by decide) rfl (fun hc => ?_) (fun hc => ?_)
    · replace h := j_pos hc h
      refine j_iload_n 36 dX7_weightsOf_35 rfl rfl 2 rfl ?_
      cases h
      exact j_iret dX7_weightsOf_36 rfl
    · replace h := j_neg hc h
      refine j_aload_n 11 dX7_weightsOf_10 rfl rfl 0 rfl ?_
      refine j_getG 14 dX7_weightsOf_11 rfl ht cl7 (k := 1) (by decide) flX7_18 rfl (ly7_1 hL ht).1 ?_
      refine j_iload_n 15 dX7_weightsOf_14 rfl rfl 3 rfl ?_
      obtain ⟨hg, h⟩ := j_gs h
      refine j_iald 16 dX7_weightsOf_15 rfl (ly7_1 hL ht).2 (j_inv hg) ?_
      refine j_iload_n 17 dX7_weightsOf_16 rfl rfl 1 rfl ?_
      refine j_icmp_ne 29 20 dX7_weightsOf_17 (by decide) rfl (fun hc => ?_) (fun hc => ?_)
      · replace h := j_neg hc h
        refine j_iinc (v := (l3 + (1 : Int32))) (lv' := [(3, .int (l3 + (1 : Int32))), (0, .ref (E.1 + t)), (1, .int l1), (2, .int l2)]) (q := 3) 32 dX7_weightsOf_29 rfl rfl rfl (by decide) rfl ?_
        refine j_goto 4 dX7_weightsOf_32 (by decide) ?_
        refine j_sub [1, 2, 3, 0] rfl ?_
        exact ih _ _ _ _  h
      · replace h := j_pos hc h
        refine j_iload_n 21 dX7_weightsOf_20 rfl rfl 2 rfl ?_
        refine j_aload_n 22 dX7_weightsOf_21 rfl rfl 0 rfl ?_
        refine j_getG 25 dX7_weightsOf_22 rfl ht cl7 (k := 3) (by decide) flX7_25 rfl (ly7_3 hL ht).1 ?_
        refine j_iload_n 26 dX7_weightsOf_25 rfl rfl 3 rfl ?_
        obtain ⟨hg, h⟩ := j_gs h
        refine j_iald 27 dX7_weightsOf_26 rfl (ly7_3 hL ht).2 (j_inv hg) ?_
        refine j_iadd 28 dX7_weightsOf_27 rfl ?_
        refine j_istore_n (lv' := [(2, .int (l2 + (I (t + 4) l3.toNatClampNeg))), (0, .ref (E.1 + t)), (1, .int l1), (3, .int l3)]) 29 dX7_weightsOf_28 rfl rfl (by decide) rfl ?_
        refine j_iinc (v := (l3 + (1 : Int32))) (lv' := [(3, .int (l3 + (1 : Int32))), (2, .int (l2 + (I (t + 4) l3.toNatClampNeg))), (0, .ref (E.1 + t)), (1, .int l1)]) (q := 3) 32 dX7_weightsOf_29 rfl rfl rfl (by decide) rfl ?_
        refine j_goto 4 dX7_weightsOf_32 (by decide) ?_
        refine j_sub [2, 3, 1, 0] rfl ?_
        exact ih _ _ _ _  h
def fX7_weightsOf (t : Nat) (l1 : Int32) (I : JI) : Option (Int32) :=
  fX7_weightsOf_4 t 100000 l1 (0 : Int32) (0 : Int32) I
set_option maxHeartbeats 4000000 in
set_option maxRecDepth 100000 in
theorem tcX7_weightsOf {E : JE} {t : Nat} {l1 : Int32} {r : Int32} {I : JI} {L : JL} {G D : JG} {S : JS} (hL : Lay G S) (ht : S[t]? = some (7, 9)) (h : fX7_weightsOf t l1 I = some r) : CallJ E xX7_weightsOf 1 [.ref (E.1 + t), .int l1] I L G D S (some (.int r)) I L G D S := by
  unfold fX7_weightsOf at h
  refine j_entry (by decide) (Nat.le_of_ble_eq_true rfl) ?_
  show AtJ E xX7_weightsOf (Zr E (some (.int r)) I L G D S) ((S).length, jm_sl S) 1 0 [(0, .ref (E.1 + t)), (1, .int l1)] [] I L G D S
  refine j_iconst (v := (0 : Int32)) 1 dX7_weightsOf_0 rfl (by decide) ?_
  refine j_istore_n (lv' := [(2, .int (0 : Int32)), (0, .ref (E.1 + t)), (1, .int l1)]) 2 dX7_weightsOf_1 rfl rfl (by decide) rfl ?_
  refine j_iconst (v := (0 : Int32)) 3 dX7_weightsOf_2 rfl (by decide) ?_
  refine j_istore_n (lv' := [(3, .int (0 : Int32)), (2, .int (0 : Int32)), (0, .ref (E.1 + t)), (1, .int l1)]) 4 dX7_weightsOf_3 rfl rfl (by decide) rfl ?_
  refine j_sub [2, 3, 1, 0] rfl ?_
  exact kX7_weightsOf_4 hL  ht  100000 _ _ _ _  h
def fX7_portion_96 (t : Nat) (l1 : Int32) (l2 : Int32) (l3 : Int32) (l4 : Int32) (I : JI) : Option (Int32) :=
  j_g (j_in l1 16) (j_g (decide (¬ l2 = 0)) (if l3 ≤ l4 then (some (((((I (t + 1) 3) * (I (t + 4) l1.toNatClampNeg)) / l2) + (0 : Int32)))) else (some (((((I (t + 1) 3) * (I (t + 4) l1.toNatClampNeg)) / l2) + (1 : Int32))))))
set_option maxHeartbeats 4000000 in
set_option maxRecDepth 100000 in
theorem kX7_portion_96 {E : JE} {t : Nat} {r : Int32} {L : JL} {G : JG} {D : JG} {S : JS} (hL : Lay G S) (ht : S[t]? = some (7, 9)) : ∀ (l1 : Int32) (l2 : Int32) (l3 : Int32) (l4 : Int32) (I : JI), fX7_portion_96 t l1 l2 l3 l4 I = some r → AtJ E xX7_portion (Zr E (some (.int r)) I L G D S) ((S).length, jm_sl S) 2 96 [(0, .ref (E.1 + t)), (1, .int l1), (2, .int l2), (3, .int l3), (4, .int l4)] [] I L G D S := by
  intro l1 l2 l3 l4 I  h
  unfold fX7_portion_96 at h
  refine j_aload_n 97 dX7_portion_96 rfl rfl 0 rfl ?_
  refine j_getG 100 dX7_portion_97 rfl ht cl7 (k := 0) (by decide) flX7_12 rfl (ly7_0 hL ht).1 ?_
  refine j_getIN 103 dX7_portion_100 rfl (ly7_0 hL ht).2 cl0 (k := 3) (by decide) flX7_109 rfl ?_
  refine j_aload_n 104 dX7_portion_103 rfl rfl 0 rfl ?_
  refine j_getG 107 dX7_portion_104 rfl ht cl7 (k := 3) (by decide) flX7_25 rfl (ly7_3 hL ht).1 ?_
  refine j_iload_n 108 dX7_portion_107 rfl rfl 1 rfl ?_
  obtain ⟨hg, h⟩ := j_gs h
  refine j_iald 109 dX7_portion_108 rfl (ly7_3 hL ht).2 (j_inv hg) ?_
  refine j_imul 110 dX7_portion_109 rfl ?_
  refine j_iload_n 111 dX7_portion_110 rfl rfl 2 rfl ?_
  obtain ⟨hg, h⟩ := j_gs h
  refine j_idiv 112 dX7_portion_111 rfl (of_decide_eq_true hg) ?_
  refine j_iload 114 dX7_portion_112 rfl 4 rfl ?_
  refine j_iload_n 115 dX7_portion_114 rfl rfl 3 rfl ?_
  refine j_icmp_ge 122 118 dX7_portion_115 (by decide) rfl (fun hc => ?_) (fun hc => ?_)
  · replace h := j_pos hc h
    refine j_iconst (v := (0 : Int32)) 123 dX7_portion_122 rfl (by decide) ?_
    refine j_iadd 124 dX7_portion_123 rfl ?_
    cases h
    exact j_iret dX7_portion_124 rfl
  · replace h := j_neg hc h
    refine j_iconst (v := (1 : Int32)) 119 dX7_portion_118 rfl (by decide) ?_
    refine j_goto 123 dX7_portion_119 (by decide) ?_
    refine j_iadd 124 dX7_portion_123 rfl ?_
    cases h
    exact j_iret dX7_portion_124 rfl
def fX7_portion_31 (t : Nat) : Nat → Int32 → Int32 → Int32 → Int32 → Int32 → JI → Option (Int32)
  | 0, _, _, _, _, _, _ => none
  | n + 1, l1, l2, l3, l4, l5, I =>
    if (16 : Int32) ≤ l5 then (fX7_portion_96 t l1 l2 l3 l4 I) else (j_g (j_in l5 16) (j_g (j_in l1 16) (if (I (t + 2) l5.toNatClampNeg) = (I (t + 2) l1.toNatClampNeg) then (j_g (j_in l5 16) (j_g (decide (¬ l2 = 0)) (if l1 ≤ l5 then ((fX7_portion_31 t n) l1 l2 (l3 - (((I (t + 1) 3) * (I (t + 4) l5.toNatClampNeg)) / l2)) (l4 + (0 : Int32)) (l5 + (1 : Int32)) I) else ((fX7_portion_31 t n) l1 l2 (l3 - (((I (t + 1) 3) * (I (t + 4) l5.toNatClampNeg)) / l2)) (l4 + (1 : Int32)) (l5 + (1 : Int32)) I)))) else ((fX7_portion_31 t n) l1 l2 l3 l4 (l5 + (1 : Int32)) I))))
set_option maxHeartbeats 4000000 in
set_option maxRecDepth 100000 in
theorem kX7_portion_31 {E : JE} {t : Nat} {r : Int32} {L : JL} {G : JG} {D : JG} {S : JS} (hL : Lay G S) (ht : S[t]? = some (7, 9)) : ∀ (n : Nat) (l1 : Int32) (l2 : Int32) (l3 : Int32) (l4 : Int32) (l5 : Int32) (I : JI), fX7_portion_31 t n l1 l2 l3 l4 l5 I = some r → AtJ E xX7_portion (Zr E (some (.int r)) I L G D S) ((S).length, jm_sl S) 2 31 [(0, .ref (E.1 + t)), (1, .int l1), (2, .int l2), (3, .int l3), (4, .int l4), (5, .int l5)] [] I L G D S := by
  intro n
  induction n with
  | zero => intro l1 l2 l3 l4 l5 I  h; simp [fX7_portion_31] at h
  | succ n ih =>
    intro l1 l2 l3 l4 l5 I  h
    rw [fX7_portion_31] at h
    refine j_iload 33 dX7_portion_31 rfl 5 rfl ?_
    refine j_bipush (v := (16 : Int32)) 35 dX7_portion_33 rfl (by decide) ?_
    refine j_icmp_ge 96 38 dX7_portion_35 (by decide) rfl (fun hc => ?_) (fun hc => ?_)
    · replace h := j_pos hc h
      refine j_sub [0, 1, 2, 3, 4] rfl ?_
      exact kX7_portion_96 hL  ht  _ _ _ _ _  h
    · replace h := j_neg hc h
      refine j_aload_n 39 dX7_portion_38 rfl rfl 0 rfl ?_
      refine j_getG 42 dX7_portion_39 rfl ht cl7 (k := 1) (by decide) flX7_18 rfl (ly7_1 hL ht).1 ?_
      refine j_iload 44 dX7_portion_42 rfl 5 rfl ?_
      obtain ⟨hg, h⟩ := j_gs h
      refine j_iald 45 dX7_portion_44 rfl (ly7_1 hL ht).2 (j_inv hg) ?_
      refine j_aload_n 46 dX7_portion_45 rfl rfl 0 rfl ?_
      refine j_getG 49 dX7_portion_46 rfl ht cl7 (k := 1) (by decide) flX7_18 rfl (ly7_1 hL ht).1 ?_
      refine j_iload_n 50 dX7_portion_49 rfl rfl 1 rfl ?_
      obtain ⟨hg, h⟩ := j_gs h
      refine j_iald 51 dX7_portion_50 rfl (ly7_1 hL ht).2 (j_inv hg) ?_
      refine j_icmp_ne 90 54 dX7_portion_51 (by decide) rfl (fun hc => ?_) (fun hc => ?_)
      · replace h := j_neg hc h
        refine j_iinc (v := (l5 + (1 : Int32))) (lv' := [(5, .int (l5 + (1 : Int32))), (0, .ref (E.1 + t)), (1, .int l1), (2, .int l2), (3, .int l3), (4, .int l4)]) (q := 5) 93 dX7_portion_90 rfl rfl rfl (by decide) rfl ?_
        refine j_goto 31 dX7_portion_93 (by decide) ?_
        refine j_sub [1, 2, 3, 4, 5, 0] rfl ?_
        exact ih _ _ _ _ _ _  h
      · replace h := j_pos hc h
        refine j_iload_n 55 dX7_portion_54 rfl rfl 3 rfl ?_
        refine j_aload_n 56 dX7_portion_55 rfl rfl 0 rfl ?_
        refine j_getG 59 dX7_portion_56 rfl ht cl7 (k := 0) (by decide) flX7_12 rfl (ly7_0 hL ht).1 ?_
        refine j_getIN 62 dX7_portion_59 rfl (ly7_0 hL ht).2 cl0 (k := 3) (by decide) flX7_109 rfl ?_
        refine j_aload_n 63 dX7_portion_62 rfl rfl 0 rfl ?_
        refine j_getG 66 dX7_portion_63 rfl ht cl7 (k := 3) (by decide) flX7_25 rfl (ly7_3 hL ht).1 ?_
        refine j_iload 68 dX7_portion_66 rfl 5 rfl ?_
        obtain ⟨hg, h⟩ := j_gs h
        refine j_iald 69 dX7_portion_68 rfl (ly7_3 hL ht).2 (j_inv hg) ?_
        refine j_imul 70 dX7_portion_69 rfl ?_
        refine j_iload_n 71 dX7_portion_70 rfl rfl 2 rfl ?_
        obtain ⟨hg, h⟩ := j_gs h
        refine j_idiv 72 dX7_portion_71 rfl (of_decide_eq_true hg) ?_
        refine j_isub 73 dX7_portion_72 rfl ?_
        refine j_istore_n (lv' := [(3, .int (l3 - (((I (t + 1) 3) * (I (t + 4) l5.toNatClampNeg)) / l2))), (0, .ref (E.1 + t)), (1, .int l1), (2, .int l2), (4, .int l4), (5, .int l5)]) 74 dX7_portion_73 rfl rfl (by decide) rfl ?_
        refine j_iload 76 dX7_portion_74 rfl 4 rfl ?_
        refine j_iload 78 dX7_portion_76 rfl 5 rfl ?_
        refine j_iload_n 79 dX7_portion_78 rfl rfl 2 rfl ?_
        refine j_icmp_ge 86 82 dX7_portion_79 (by decide) rfl (fun hc => ?_) (fun hc => ?_)
        · replace h := j_pos hc h
          refine j_iconst (v := (0 : Int32)) 87 dX7_portion_86 rfl (by decide) ?_
          refine j_iadd 88 dX7_portion_87 rfl ?_
          refine j_istore (lv' := [(4, .int (l4 + (0 : Int32))), (3, .int (l3 - (((I (t + 1) 3) * (I (t + 4) l5.toNatClampNeg)) / l2))), (0, .ref (E.1 + t)), (1, .int l1), (2, .int l2), (5, .int l5)]) 90 dX7_portion_88 rfl (by decide) rfl ?_
          refine j_iinc (v := (l5 + (1 : Int32))) (lv' := [(5, .int (l5 + (1 : Int32))), (4, .int (l4 + (0 : Int32))), (3, .int (l3 - (((I (t + 1) 3) * (I (t + 4) l5.toNatClampNeg)) / l2))), (0, .ref (E.1 + t)), (1, .int l1), (2, .int l2)]) (q := 5) 93 dX7_portion_90 rfl rfl rfl (by decide) rfl ?_
          refine j_goto 31 dX7_portion_93 (by decide) ?_
          refine j_sub [3, 4, 5, 2, 1, 0] rfl ?_
          exact ih _ _ _ _ _ _  h
        · replace h := j_neg hc h
          refine j_iconst (v := (1 : Int32)) 83 dX7_portion_82 rfl (by decide) ?_
          refine j_goto 87 dX7_portion_83 (by decide) ?_
          refine j_iadd 88 dX7_portion_87 rfl ?_
          refine j_istore (lv' := [(4, .int (l4 + (1 : Int32))), (3, .int (l3 - (((I (t + 1) 3) * (I (t + 4) l5.toNatClampNeg)) / l2))), (0, .ref (E.1 + t)), (1, .int l1), (2, .int l2), (5, .int l5)]) 90 dX7_portion_88 rfl (by decide) rfl ?_
          refine j_iinc (v := (l5 + (1 : Int32))) (lv' := [(5, .int (l5 + (1 : Int32))), (4, .int (l4 + (1 : Int32))), (3, .int (l3 - (((I (t + 1) 3) * (I (t + 4) l5.toNatClampNeg)) / l2))), (0, .ref (E.1 + t)), (1, .int l1), (2, .int l2)]) (q := 5) 93 dX7_portion_90 rfl rfl rfl (by decide) rfl ?_
          refine j_goto 31 dX7_portion_93 (by decide) ?_
          refine j_sub [3, 4, 5, 2, 1, 0] rfl ?_
          exact ih _ _ _ _ _ _  h
def fX7_portion (t : Nat) (l1 : Int32) (I : JI) : Option (Int32) :=
  j_g (j_in l1 16) ((fX7_weightsOf t (I (t + 2) l1.toNatClampNeg) I).bind (fun q1 => if 0 < q1 then (fX7_portion_31 t 100000 l1 q1 (I (t + 1) 3) (0 : Int32) (0 : Int32) I) else (some ((0 : Int32)))))
set_option maxHeartbeats 4000000 in
set_option maxRecDepth 100000 in
theorem tcX7_portion {E : JE} {t : Nat} {l1 : Int32} {r : Int32} {I : JI} {L : JL} {G D : JG} {S : JS} (hL : Lay G S) (ht : S[t]? = some (7, 9)) (h : fX7_portion t l1 I = some r) : CallJ E xX7_portion 2 [.ref (E.1 + t), .int l1] I L G D S (some (.int r)) I L G D S := by
  unfold fX7_portion at h
  refine j_entry (by decide) (Nat.le_of_ble_eq_true rfl) ?_
  show AtJ E xX7_portion (Zr E (some (.int r)) I L G D S) ((S).length, jm_sl S) 2 0 [(0, .ref (E.1 + t)), (1, .int l1)] [] I L G D S
  refine j_aload_n 1 dX7_portion_0 rfl rfl 0 rfl ?_
  refine j_aload_n 2 dX7_portion_1 rfl rfl 0 rfl ?_
  refine j_getG 5 dX7_portion_2 rfl ht cl7 (k := 1) (by decide) flX7_18 rfl (ly7_1 hL ht).1 ?_
  refine j_iload_n 6 dX7_portion_5 rfl rfl 1 rfl ?_
  obtain ⟨hg, h⟩ := j_gs h
  refine j_iald 7 dX7_portion_6 rfl (ly7_1 hL ht).2 (j_inv hg) ?_
  obtain ⟨q1, hq1, h⟩ := j_bs h
  refine j_callV (rest := []) (As := [.int (I (t + 2) l1.toNatClampNeg)]) 10 dX7_portion_7 rfl jyX7_weightsOf (tcX7_weightsOf hL ht hq1) ht cl7 flX7_143 wm1073 wm23 (by decide) rfl rfl (Nat.le_of_ble_eq_true rfl) ?_
  refine j_istore_n (lv' := [(2, .int q1), (0, .ref (E.1 + t)), (1, .int l1)]) 11 dX7_portion_10 rfl rfl (by decide) rfl ?_
  refine j_iload_n 12 dX7_portion_11 rfl rfl 0 rfl ?_
  refine j_if_gt 17 15 dX7_portion_12 (by decide) rfl (fun hc => ?_) (fun hc => ?_)
  · replace h := j_pos hc h
    refine j_aload_n 18 dX7_portion_17 rfl rfl 1 rfl ?_
    refine j_getG 21 dX7_portion_18 rfl ht cl7 (k := 0) (by decide) flX7_12 rfl (ly7_0 hL ht).1 ?_
    refine j_getIN 24 dX7_portion_21 rfl (ly7_0 hL ht).2 cl0 (k := 3) (by decide) flX7_109 rfl ?_
    refine j_istore_n (lv' := [(3, .int (I (t + 1) 3)), (2, .int q1), (0, .ref (E.1 + t)), (1, .int l1)]) 25 dX7_portion_24 rfl rfl (by decide) rfl ?_
    refine j_iconst (v := (0 : Int32)) 26 dX7_portion_25 rfl (by decide) ?_
    refine j_istore (lv' := [(4, .int (0 : Int32)), (3, .int (I (t + 1) 3)), (2, .int q1), (0, .ref (E.1 + t)), (1, .int l1)]) 28 dX7_portion_26 rfl (by decide) rfl ?_
    refine j_iconst (v := (0 : Int32)) 29 dX7_portion_28 rfl (by decide) ?_
    refine j_istore (lv' := [(5, .int (0 : Int32)), (4, .int (0 : Int32)), (3, .int (I (t + 1) 3)), (2, .int q1), (0, .ref (E.1 + t)), (1, .int l1)]) 31 dX7_portion_29 rfl (by decide) rfl ?_
    refine j_sub [4, 5, 3, 2, 1, 0] rfl ?_
    exact kX7_portion_31 hL  ht  100000 _ _ _ _ _ _  h
  · replace h := j_neg hc h
    refine j_iconst (v := (0 : Int32)) 16 dX7_portion_15 rfl (by decide) ?_
    cases h
    exact j_iret dX7_portion_16 rfl
def fX8_init (t : Nat) (I : JI) (G : JG) (S : JS) : Option (JI × JG × JS) :=
  some ((j_clr I (S).length 0), (j_up G t 0 (some (S).length)), (S ++ [(22, 1000)]))
set_option maxHeartbeats 4000000 in
set_option maxRecDepth 100000 in
theorem tcX8_init {E : JE} {t : Nat} {r : JI × JG × JS} {I : JI} {L : JL} {G D : JG} {S : JS} (ht : S[t]? = some (8, 10)) (h : fX8_init t I G S = some r) : CallJ E xX8_init 1 [.ref (E.1 + t)] I L G D S none r.1 L r.2.1 D r.2.2 := by
  unfold fX8_init at h
  refine j_entry (by decide) (Nat.le_of_ble_eq_true rfl) ?_
  show AtJ E xX8_init (Zr E none r.1 L r.2.1 D r.2.2) ((r.2.2).length, jm_sl r.2.2) 1 0 [(0, .ref (E.1 + t))] [] I L G D S
  refine j_aload_n 1 dX8_init_0 rfl rfl 0 rfl ?_
  refine j_obj 4 dX8_init_1 rfl flX8_3 wm117 wm118 (by decide) (Nat.le_of_ble_eq_true rfl) ?_
  refine j_aload_n 5 dX8_init_4 rfl rfl 0 rfl ?_
  refine j_sipush (v := (1000 : Int32)) 8 dX8_init_5 rfl (by decide) ?_
  refine j_nwB (N := 1000) 10 dX8_init_8 rfl wm232 (by decide) (by decide) (by decide) ?_
  refine j_putF 13 dX8_init_10 rfl (jm_pre ht) cl8 (k := 0) (by decide) flX8_9 rfl rfl rfl rfl (fun _ => rfl) (fun _ => rfl) ?_
  cases h
  exact j_vret dX8_init_13 rfl
def fX8_write_48 (k3 : Int64 → Int32 → JI → Option (JI)) (l1 : Int64) (l3 : Int32) (l4 : Int32) (I : JI) : Option (JI) :=
  j_g (j_in (I 12 1) 1000) (k3 l1 (l3 + (-8 : Int32)) (j_up (j_up I 13 (I 12 1).toNatClampNeg l4.toInt8.toInt32.toInt8.toInt32) 12 1 (((j_up I 13 (I 12 1).toNatClampNeg l4.toInt8.toInt32.toInt8.toInt32) 12 1) + (1 : Int32))))
set_option maxHeartbeats 4000000 in
set_option maxRecDepth 100000 in
theorem kX8_write_48 {E : JE} {k3 : Int64 → Int32 → JI → Option (JI)} {r : JI} {L : JL} {G : JG} {D : JG} {S : JS} (hL : Lay G S) (H3 : ∀ (l1 : Int64) (l3 : Int32) (I : JI), k3 l1 l3 I = some r → AtJ E xX8_write (Zr E none r L G D S) ((S).length, jm_sl S) 1 3 [(0, .ref (E.1 + 12)), (1, .long l1), (3, .int l3)] [] I L G D S) : ∀ (l1 : Int64) (l3 : Int32) (l4 : Int32) (I : JI), fX8_write_48 k3 l1 l3 l4 I = some r → AtJ E xX8_write (Zr E none r L G D S) ((S).length, jm_sl S) 1 48 [(0, .ref (E.1 + 12)), (1, .long l1), (3, .int l3), (4, .int l4)] [] I L G D S := by
  intro l1 l3 l4 I  h
  unfold fX8_write_48 at h
  refine j_aload_n 49 dX8_write_48 rfl rfl 0 rfl ?_
  refine j_getG 52 dX8_write_49 rfl (sh_12 hL) cl8 (k := 0) (by decide) flX8_9 rfl (gs_12_0 hL) ?_
  refine j_aload_n 53 dX8_write_52 rfl rfl 0 rfl ?_
  refine j_getI 56 dX8_write_53 rfl (sh_12 hL) cl8 (k := 1) (by decide) flX8_15 rfl ?_
  refine j_iload 58 dX8_write_56 rfl 3 rfl ?_
  refine j_i2b 59 dX8_write_58 rfl ?_
  obtain ⟨hg, h⟩ := j_gs h
  refine j_bast 60 dX8_write_59 rfl (sh_13 hL) (j_inv hg) ?_
  refine j_aload_n 61 dX8_write_60 rfl rfl 0 rfl ?_
  refine j_dup 62 dX8_write_61 rfl rfl ?_
  refine j_getI 65 dX8_write_62 rfl (sh_12 hL) cl8 (k := 1) (by decide) flX8_15 rfl ?_
  refine j_iconst (v := (1 : Int32)) 66 dX8_write_65 rfl (by decide) ?_
  refine j_iadd 67 dX8_write_66 rfl ?_
  refine j_putI 70 dX8_write_67 rfl (sh_12 hL) cl8 (k := 1) (by decide) flX8_15 rfl rfl rfl ?_
  refine j_iinc (v := (l3 + (-8 : Int32))) (lv' := [(3, .int (l3 + (-8 : Int32))), (0, .ref (E.1 + 12)), (1, .long l1), (4, .int l4)]) (q := 2) 73 dX8_write_70 rfl rfl rfl (by decide) rfl ?_
  refine j_goto 3 dX8_write_73 (by decide) ?_
  refine j_sub [1, 2, 0] rfl ?_
  exact H3 _ _ _  h
def fX8_write_3 : Nat → Int64 → Int32 → JI → Option (JI)
  | 0, _, _, _ => none
  | n + 1, l1, l3, I =>
    if l3 < 0 then (some (I)) else (if (1000 : Int32) ≤ (I 12 1) then ((fX8_write_3 n) l1 (l3 + (-8 : Int32)) I) else (if ((l1.toUInt64 >>> (l3.toInt64.toUInt64 &&& Int64.toUInt64 63)).toInt64.toInt32 &&& (255 : Int32)) = (10 : Int32) then (fX8_write_48 (fX8_write_3 n) l1 l3 ((l1.toUInt64 >>> (l3.toInt64.toUInt64 &&& Int64.toUInt64 63)).toInt64.toInt32 &&& (255 : Int32)) I) else (if ((l1.toUInt64 >>> (l3.toInt64.toUInt64 &&& Int64.toUInt64 63)).toInt64.toInt32 &&& (255 : Int32)) < (32 : Int32) then ((fX8_write_3 n) l1 (l3 + (-8 : Int32)) I) else (if (126 : Int32) < ((l1.toUInt64 >>> (l3.toInt64.toUInt64 &&& Int64.toUInt64 63)).toInt64.toInt32 &&& (255 : Int32)) then ((fX8_write_3 n) l1 (l3 + (-8 : Int32)) I) else (fX8_write_48 (fX8_write_3 n) l1 l3 ((l1.toUInt64 >>> (l3.toInt64.toUInt64 &&& Int64.toUInt64 63)).toInt64.toInt32 &&& (255 : Int32)) I)))))
set_option maxHeartbeats 4000000 in
set_option maxRecDepth 100000 in
theorem kX8_write_3 {E : JE} {r : JI} {L : JL} {G : JG} {D : JG} {S : JS} (hL : Lay G S) : ∀ (n : Nat) (l1 : Int64) (l3 : Int32) (I : JI), fX8_write_3 n l1 l3 I = some r → AtJ E xX8_write (Zr E none r L G D S) ((S).length, jm_sl S) 1 3 [(0, .ref (E.1 + 12)), (1, .long l1), (3, .int l3)] [] I L G D S := by
  intro n
  induction n with
  | zero => intro l1 l3 I  h; simp [fX8_write_3] at h
  | succ n ih =>
    intro l1 l3 I  h
    rw [fX8_write_3] at h
    refine j_iload_n 4 dX8_write_3 rfl rfl 2 rfl ?_
    refine j_if_lt 76 7 dX8_write_4 (by decide) rfl (fun hc => ?_) (fun hc => ?_)
    · replace h := j_pos hc h
      cases h
      exact j_vret dX8_write_76 rfl
    · replace h := j_neg hc h
      refine j_lload_n 8 dX8_write_7 rfl rfl 1 rfl ?_
      refine j_iload_n 9 dX8_write_8 rfl rfl 2 rfl ?_
      refine j_lushr 10 dX8_write_9 rfl ?_
      refine j_l2i 11 dX8_write_10 rfl ?_
      refine j_sipush (v := (255 : Int32)) 14 dX8_write_11 rfl (by decide) ?_
      refine j_iand 15 dX8_write_14 rfl ?_
      refine j_istore (lv' := [(4, .int ((l1.toUInt64 >>> (l3.toInt64.toUInt64 &&& Int64.toUInt64 63)).toInt64.toInt32 &&& (255 : Int32))), (0, .ref (E.1 + 12)), (1, .long l1), (3, .int l3)]) 17 dX8_write_15 rfl (by decide) rfl ?_
      refine j_aload_n 18 dX8_write_17 rfl rfl 1 rfl ?_
      refine j_getI 21 dX8_write_18 rfl (sh_12 hL) cl8 (k := 1) (by decide) flX8_15 rfl ?_
      refine j_sipush (v := (1000 : Int32)) 24 dX8_write_21 rfl (by decide) ?_
      refine j_icmp_ge 70 27 dX8_write_24 (by decide) rfl (fun hc => ?_) (fun hc => ?_)
      · replace h := j_pos hc h
        refine j_iinc (v := (l3 + (-8 : Int32))) (lv' := [(3, .int (l3 + (-8 : Int32))), (4, .int ((l1.toUInt64 >>> (l3.toInt64.toUInt64 &&& Int64.toUInt64 63)).toInt64.toInt32 &&& (255 : Int32))), (0, .ref (E.1 + 12)), (1, .long l1)]) (q := 3) 73 dX8_write_70 rfl rfl rfl (by decide) rfl ?_
        refine j_goto 3 dX8_write_73 (by decide) ?_
        refine j_sub [2, 3, 0] rfl ?_
        exact ih _ _ _  h
      · replace h := j_neg hc h
        refine j_iload 29 dX8_write_27 rfl 0 rfl ?_
        refine j_bipush (v := (10 : Int32)) 31 dX8_write_29 rfl (by decide) ?_
        refine j_icmp_eq 48 34 dX8_write_31 (by decide) rfl (fun hc => ?_) (fun hc => ?_)
        · replace h := j_pos hc h
          refine j_sub [1, 2, 3, 0] rfl ?_
          exact kX8_write_48 hL   ih _ _ _ _  h
        · replace h := j_neg hc h
          refine j_iload 36 dX8_write_34 rfl 0 rfl ?_
          refine j_bipush (v := (32 : Int32)) 38 dX8_write_36 rfl (by decide) ?_
          refine j_icmp_lt 70 41 dX8_write_38 (by decide) rfl (fun hc => ?_) (fun hc => ?_)
          · replace h := j_pos hc h
            refine j_iinc (v := (l3 + (-8 : Int32))) (lv' := [(3, .int (l3 + (-8 : Int32))), (4, .int ((l1.toUInt64 >>> (l3.toInt64.toUInt64 &&& Int64.toUInt64 63)).toInt64.toInt32 &&& (255 : Int32))), (0, .ref (E.1 + 12)), (1, .long l1)]) (q := 3) 73 dX8_write_70 rfl rfl rfl (by decide) rfl ?_
            refine j_goto 3 dX8_write_73 (by decide) ?_
            refine j_sub [2, 3, 0] rfl ?_
            exact ih _ _ _  h
          · replace h := j_neg hc h
            refine j_iload 43 dX8_write_41 rfl 0 rfl ?_
            refine j_bipush (v := (126 : Int32)) 45 dX8_write_43 rfl (by decide) ?_
            refine j_icmp_gt 70 48 dX8_write_45 (by decide) rfl (fun hc => ?_) (fun hc => ?_)
            · replace h := j_pos hc h
              refine j_iinc (v := (l3 + (-8 : Int32))) (lv' := [(3, .int (l3 + (-8 : Int32))), (4, .int ((l1.toUInt64 >>> (l3.toInt64.toUInt64 &&& Int64.toUInt64 63)).toInt64.toInt32 &&& (255 : Int32))), (0, .ref (E.1 + 12)), (1, .long l1)]) (q := 3) 73 dX8_write_70 rfl rfl rfl (by decide) rfl ?_
              refine j_goto 3 dX8_write_73 (by decide) ?_
              refine j_sub [2, 3, 0] rfl ?_
              exact ih _ _ _  h
            · replace h := j_neg hc h
              refine j_sub [1, 2, 3, 0] rfl ?_
              exact kX8_write_48 hL   ih _ _ _ _  h
def fX8_write (l1 : Int64) (I : JI) : Option (JI) :=
  fX8_write_3 100000 l1 (56 : Int32) I
set_option maxHeartbeats 4000000 in
set_option maxRecDepth 100000 in
theorem tcX8_write {E : JE} {l1 : Int64} {r : JI} {I : JI} {L : JL} {G D : JG} {S : JS} (hL : Lay G S) (h : fX8_write l1 I = some r) : CallJ E xX8_write 1 [.ref (E.1 + 12), .long l1] I L G D S none r L G D S := by
  unfold fX8_write at h
  refine j_entry (by decide) (Nat.le_of_ble_eq_true rfl) ?_
  show AtJ E xX8_write (Zr E none r L G D S) ((S).length, jm_sl S) 1 0 [(0, .ref (E.1 + 12)), (1, .long l1)] [] I L G D S
  refine j_bipush (v := (56 : Int32)) 2 dX8_write_0 rfl (by decide) ?_
  refine j_istore_n (lv' := [(3, .int (56 : Int32)), (0, .ref (E.1 + 12)), (1, .long l1)]) 3 dX8_write_2 rfl rfl (by decide) rfl ?_
  refine j_sub [1, 2, 0] rfl ?_
  exact kX8_write_3 hL    100000 _ _ _  h
def fX8_isLetter (l0 : Int32)  : Option (Int32) :=
  if l0 < (97 : Int32) then (some ((0 : Int32))) else (if (122 : Int32) < l0 then (some ((0 : Int32))) else (some ((1 : Int32))))
set_option maxHeartbeats 4000000 in
set_option maxRecDepth 100000 in
theorem tcX8_isLetter {E : JE} {l0 : Int32} {r : Int32} {I : JI} {L : JL} {G D : JG} {S : JS} (h : fX8_isLetter l0 = some r) : CallJ E xX8_isLetter 1 [.int l0] I L G D S (some (.int r)) I L G D S := by
  unfold fX8_isLetter at h
  refine j_entry (by decide) (Nat.le_of_ble_eq_true rfl) ?_
  show AtJ E xX8_isLetter (Zr E (some (.int r)) I L G D S) ((S).length, jm_sl S) 1 0 [(0, .int l0)] [] I L G D S
  refine j_iload_n 1 dX8_isLetter_0 rfl rfl 0 rfl ?_
  refine j_bipush (v := (97 : Int32)) 3 dX8_isLetter_1 rfl (by decide) ?_
  refine j_icmp_lt 16 6 dX8_isLetter_3 (by decide) rfl (fun hc => ?_) (fun hc => ?_)
  · replace h := j_pos hc h
    refine j_iconst (v := (0 : Int32)) 17 dX8_isLetter_16 rfl (by decide) ?_
    cases h
    exact j_zret dX8_isLetter_17 rfl j_b01_0
  · replace h := j_neg hc h
    refine j_iload_n 7 dX8_isLetter_6 rfl rfl 0 rfl ?_
    refine j_bipush (v := (122 : Int32)) 9 dX8_isLetter_7 rfl (by decide) ?_
    refine j_icmp_gt 16 12 dX8_isLetter_9 (by decide) rfl (fun hc => ?_) (fun hc => ?_)
    · replace h := j_pos hc h
      refine j_iconst (v := (0 : Int32)) 17 dX8_isLetter_16 rfl (by decide) ?_
      cases h
      exact j_zret dX8_isLetter_17 rfl j_b01_0
    · replace h := j_neg hc h
      refine j_iconst (v := (1 : Int32)) 13 dX8_isLetter_12 rfl (by decide) ?_
      refine j_goto 17 dX8_isLetter_13 (by decide) ?_
      cases h
      exact j_zret dX8_isLetter_17 rfl j_b01_1
def fX8_isWord_37 (k2 : Int32 → Int32 → JI → Option (Int32)) (l1 : Int32) (l2 : Int32) (s0 : Int32) (I : JI) : Option (Int32) :=
  j_g (j_in ((l1 * (8 : Int32)) + l2) 248) (if s0 = (jm_wb.getD ((l1 * (8 : Int32)) + l2).toNatClampNeg 0) then (k2 l1 (l2 + (1 : Int32)) I) else (some ((0 : Int32))))
set_option maxHeartbeats 4000000 in
set_option maxRecDepth 100000 in
theorem kX8_isWord_37 {E : JE} {k2 : Int32 → Int32 → JI → Option (Int32)} {r : Int32} {L : JL} {G : JG} {D : JG} {S : JS} (hL : Lay G S) (H2 : ∀ (l1 : Int32) (l2 : Int32) (I : JI), k2 l1 l2 I = some r → AtJ E xX8_isWord (Zr E (some (.int r)) I L G D S) ((S).length, jm_sl S) 8 2 [(0, .ref (E.1 + 12)), (1, .int l1), (2, .int l2)] [] I L G D S) : ∀ (l1 : Int32) (l2 : Int32) (s0 : Int32) (I : JI), fX8_isWord_37 k2 l1 l2 s0 I = some r → AtJ E xX8_isWord (Zr E (some (.int r)) I L G D S) ((S).length, jm_sl S) 8 37 [(0, .ref (E.1 + 12)), (1, .int l1), (2, .int l2)] [.int s0] I L G D S := by
  intro l1 l2 s0 I  h
  unfold fX8_isWord_37 at h
  refine j_istore_n (lv' := [(3, .int s0), (0, .ref (E.1 + 12)), (1, .int l1), (2, .int l2)]) 38 dX8_isWord_37 rfl rfl (by decide) rfl ?_
  refine j_iload_n 39 dX8_isWord_38 rfl rfl 0 rfl ?_
  refine j_ldcs 41 dX8_isWord_39 rfl rfl ?_
  refine j_iload_n 42 dX8_isWord_41 rfl rfl 2 rfl ?_
  refine j_bipush (v := (8 : Int32)) 44 dX8_isWord_42 rfl (by decide) ?_
  refine j_imul 45 dX8_isWord_44 rfl ?_
  refine j_iload_n 46 dX8_isWord_45 rfl rfl 3 rfl ?_
  refine j_iadd 47 dX8_isWord_46 rfl ?_
  obtain ⟨hg, h⟩ := j_gs h
  refine j_charAt 50 dX8_isWord_47 rfl flX8_88 (j_inv hg) (by decide) (Nat.le_of_ble_eq_true rfl) ?_
  refine j_icmp_eq 55 53 dX8_isWord_50 (by decide) rfl (fun hc => ?_) (fun hc => ?_)
  · replace h := j_pos hc h
    refine j_iinc (v := (l2 + (1 : Int32))) (lv' := [(2, .int (l2 + (1 : Int32))), (3, .int s0), (0, .ref (E.1 + 12)), (1, .int l1)]) (q := 3) 58 dX8_isWord_55 rfl rfl rfl (by decide) rfl ?_
    refine j_goto 2 dX8_isWord_58 (by decide) ?_
    refine j_sub [2, 3, 0] rfl ?_
    exact H2 _ _ _  h
  · replace h := j_neg hc h
    refine j_iconst (v := (0 : Int32)) 54 dX8_isWord_53 rfl (by decide) ?_
    cases h
    exact j_zret dX8_isWord_54 rfl j_b01_0
def fX8_isWord_2 : Nat → Int32 → Int32 → JI → Option (Int32)
  | 0, _, _, _ => none
  | n + 1, l1, l2, I =>
    if (8 : Int32) ≤ l2 then (some ((1 : Int32))) else (if (I 12 2) ≤ ((I 12 3) + l2) then (fX8_isWord_37 (fX8_isWord_2 n) l1 l2 (32 : Int32) I) else (j_g (j_in ((I 12 3) + l2) 1000) (fX8_isWord_37 (fX8_isWord_2 n) l1 l2 (I 13 ((I 12 3) + l2).toNatClampNeg) I)))
set_option maxHeartbeats 4000000 in
set_option maxRecDepth 100000 in
theorem kX8_isWord_2 {E : JE} {r : Int32} {L : JL} {G : JG} {D : JG} {S : JS} (hL : Lay G S) : ∀ (n : Nat) (l1 : Int32) (l2 : Int32) (I : JI), fX8_isWord_2 n l1 l2 I = some r → AtJ E xX8_isWord (Zr E (some (.int r)) I L G D S) ((S).length, jm_sl S) 8 2 [(0, .ref (E.1 + 12)), (1, .int l1), (2, .int l2)] [] I L G D S := by
  intro n
  induction n with
  | zero => intro l1 l2 I  h; simp [fX8_isWord_2] at h
  | succ n ih =>
    intro l1 l2 I  h
    rw [fX8_isWord_2] at h
    refine j_iload_n 3 dX8_isWord_2 rfl rfl 2 rfl ?_
    refine j_bipush (v := (8 : Int32)) 5 dX8_isWord_3 rfl (by decide) ?_
    refine j_icmp_ge 61 8 dX8_isWord_5 (by decide) rfl (fun hc => ?_) (fun hc => ?_)
    · replace h := j_pos hc h
      refine j_iconst (v := (1 : Int32)) 62 dX8_isWord_61 rfl (by decide) ?_
      cases h
      exact j_zret dX8_isWord_62 rfl j_b01_1
    · replace h := j_neg hc h
      refine j_aload_n 9 dX8_isWord_8 rfl rfl 0 rfl ?_
      refine j_getI 12 dX8_isWord_9 rfl (sh_12 hL) cl8 (k := 3) (by decide) flX8_64 rfl ?_
      refine j_iload_n 13 dX8_isWord_12 rfl rfl 2 rfl ?_
      refine j_iadd 14 dX8_isWord_13 rfl ?_
      refine j_aload_n 15 dX8_isWord_14 rfl rfl 0 rfl ?_
      refine j_getI 18 dX8_isWord_15 rfl (sh_12 hL) cl8 (k := 2) (by decide) flX8_38 rfl ?_
      refine j_icmp_ge 35 21 dX8_isWord_18 (by decide) rfl (fun hc => ?_) (fun hc => ?_)
      · replace h := j_pos hc h
        refine j_bipush (v := (32 : Int32)) 37 dX8_isWord_35 rfl (by decide) ?_
        exact kX8_isWord_37 hL   ih _ _ _ _  h
      · replace h := j_neg hc h
        refine j_aload_n 22 dX8_isWord_21 rfl rfl 0 rfl ?_
        refine j_getG 25 dX8_isWord_22 rfl (sh_12 hL) cl8 (k := 0) (by decide) flX8_9 rfl (gs_12_0 hL) ?_
        refine j_aload_n 26 dX8_isWord_25 rfl rfl 0 rfl ?_
        refine j_getI 29 dX8_isWord_26 rfl (sh_12 hL) cl8 (k := 3) (by decide) flX8_64 rfl ?_
        refine j_iload_n 30 dX8_isWord_29 rfl rfl 2 rfl ?_
        refine j_iadd 31 dX8_isWord_30 rfl ?_
        obtain ⟨hg, h⟩ := j_gs h
        refine j_bald 32 dX8_isWord_31 rfl (sh_13 hL) (j_inv hg) ?_
        refine j_goto 37 dX8_isWord_32 (by decide) ?_
        exact kX8_isWord_37 hL   ih _ _ _ _  h
def fX8_isWord (l1 : Int32) (I : JI) : Option (Int32) :=
  fX8_isWord_2 100000 l1 (0 : Int32) I
set_option maxHeartbeats 4000000 in
set_option maxRecDepth 100000 in
theorem tcX8_isWord {E : JE} {l1 : Int32} {r : Int32} {I : JI} {L : JL} {G D : JG} {S : JS} (hL : Lay G S) (h : fX8_isWord l1 I = some r) : CallJ E xX8_isWord 8 [.ref (E.1 + 12), .int l1] I L G D S (some (.int r)) I L G D S := by
  unfold fX8_isWord at h
  refine j_entry (by decide) (Nat.le_of_ble_eq_true rfl) ?_
  show AtJ E xX8_isWord (Zr E (some (.int r)) I L G D S) ((S).length, jm_sl S) 8 0 [(0, .ref (E.1 + 12)), (1, .int l1)] [] I L G D S
  refine j_iconst (v := (0 : Int32)) 1 dX8_isWord_0 rfl (by decide) ?_
  refine j_istore_n (lv' := [(2, .int (0 : Int32)), (0, .ref (E.1 + 12)), (1, .int l1)]) 2 dX8_isWord_1 rfl rfl (by decide) rfl ?_
  refine j_sub [1, 2, 0] rfl ?_
  exact kX8_isWord_2 hL    100000 _ _ _  h
def fX8_takeWord_47 : Nat → Int32 → JI → Option (JI)
  | 0, _, _ => none
  | n + 1, l1, I =>
    if (31 : Int32) ≤ l1 then (some (I)) else (if (8 : Int32) < ((I 12 2) - (I 12 3)) then (some (I)) else ((fX8_isWord l1 I).bind (fun q2 => if q2 = 0 then ((fX8_takeWord_47 n) (l1 + (1 : Int32)) I) else ((fX8_takeWord_47 n) (l1 + (1 : Int32)) (j_up I 12 4 l1)))))
set_option maxHeartbeats 4000000 in
set_option maxRecDepth 100000 in
theorem kX8_takeWord_47 {E : JE} {r : JI} {L : JL} {G : JG} {D : JG} {S : JS} (hL : Lay G S) : ∀ (n : Nat) (l1 : Int32) (I : JI), fX8_takeWord_47 n l1 I = some r → AtJ E xX8_takeWord (Zr E none r L G D S) ((S).length, jm_sl S) 9 47 [(0, .ref (E.1 + 12)), (1, .int l1)] [] I L G D S := by
  intro n
  induction n with
  | zero => intro l1 I  h; simp [fX8_takeWord_47] at h
  | succ n ih =>
    intro l1 I  h
    rw [fX8_takeWord_47] at h
    refine j_iload_n 48 dX8_takeWord_47 rfl rfl 1 rfl ?_
    refine j_bipush (v := (31 : Int32)) 50 dX8_takeWord_48 rfl (by decide) ?_
    refine j_icmp_ge 86 53 dX8_takeWord_50 (by decide) rfl (fun hc => ?_) (fun hc => ?_)
    · replace h := j_pos hc h
      cases h
      exact j_vret dX8_takeWord_86 rfl
    · replace h := j_neg hc h
      refine j_aload_n 54 dX8_takeWord_53 rfl rfl 0 rfl ?_
      refine j_getI 57 dX8_takeWord_54 rfl (sh_12 hL) cl8 (k := 2) (by decide) flX8_38 rfl ?_
      refine j_aload_n 58 dX8_takeWord_57 rfl rfl 0 rfl ?_
      refine j_getI 61 dX8_takeWord_58 rfl (sh_12 hL) cl8 (k := 3) (by decide) flX8_64 rfl ?_
      refine j_isub 62 dX8_takeWord_61 rfl ?_
      refine j_bipush (v := (8 : Int32)) 64 dX8_takeWord_62 rfl (by decide) ?_
      refine j_icmp_gt 86 67 dX8_takeWord_64 (by decide) rfl (fun hc => ?_) (fun hc => ?_)
      · replace h := j_pos hc h
        cases h
        exact j_vret dX8_takeWord_86 rfl
      · replace h := j_neg hc h
        refine j_aload_n 68 dX8_takeWord_67 rfl rfl 0 rfl ?_
        refine j_iload_n 69 dX8_takeWord_68 rfl rfl 1 rfl ?_
        obtain ⟨q2, hq2, h⟩ := j_bs h
        refine j_callV (rest := []) (As := [.int l1]) 72 dX8_takeWord_69 rfl jyX8_isWord (tcX8_isWord hL  hq2) (sh_12 hL) cl8 flX8_83 wm743 wm2 (by decide) rfl rfl (Nat.le_of_ble_eq_true rfl) ?_
        refine j_if_eq 80 75 dX8_takeWord_72 (by decide) rfl (fun hc => ?_) (fun hc => ?_)
        · replace h := j_pos hc h
          refine j_iinc (v := (l1 + (1 : Int32))) (lv' := [(1, .int (l1 + (1 : Int32))), (0, .ref (E.1 + 12))]) (q := 1) 83 dX8_takeWord_80 rfl rfl rfl (by decide) rfl ?_
          refine j_goto 47 dX8_takeWord_83 (by decide) ?_
          refine j_sub [1, 0] rfl ?_
          exact ih _ _  h
        · replace h := j_neg hc h
          refine j_aload_n 76 dX8_takeWord_75 rfl rfl 0 rfl ?_
          refine j_iload_n 77 dX8_takeWord_76 rfl rfl 1 rfl ?_
          refine j_putI 80 dX8_takeWord_77 rfl (sh_12 hL) cl8 (k := 4) (by decide) flX8_44 rfl rfl rfl ?_
          refine j_iinc (v := (l1 + (1 : Int32))) (lv' := [(1, .int (l1 + (1 : Int32))), (0, .ref (E.1 + 12))]) (q := 1) 83 dX8_takeWord_80 rfl rfl rfl (by decide) rfl ?_
          refine j_goto 47 dX8_takeWord_83 (by decide) ?_
          refine j_sub [1, 0] rfl ?_
          exact ih _ _  h
def fX8_takeWord_39 (I : JI) : Option (JI) :=
  fX8_takeWord_47 100000 (0 : Int32) (j_up I 12 4 (34 : Int32))
set_option maxHeartbeats 4000000 in
set_option maxRecDepth 100000 in
theorem kX8_takeWord_39 {E : JE} {r : JI} {L : JL} {G : JG} {D : JG} {S : JS} (hL : Lay G S) : ∀ (I : JI), fX8_takeWord_39 I = some r → AtJ E xX8_takeWord (Zr E none r L G D S) ((S).length, jm_sl S) 9 39 [(0, .ref (E.1 + 12))] [] I L G D S := by
  intro I  h
  unfold fX8_takeWord_39 at h
  refine j_aload_n 40 dX8_takeWord_39 rfl rfl 0 rfl ?_
  refine j_bipush (v := (34 : Int32)) 42 dX8_takeWord_40 rfl (by decide) ?_
  refine j_putI 45 dX8_takeWord_42 rfl (sh_12 hL) cl8 (k := 4) (by decide) flX8_44 rfl rfl rfl ?_
  refine j_iconst (v := (0 : Int32)) 46 dX8_takeWord_45 rfl (by decide) ?_
  refine j_istore_n (lv' := [(1, .int (0 : Int32)), (0, .ref (E.1 + 12))]) 47 dX8_takeWord_46 rfl rfl (by decide) rfl ?_
  refine j_sub [1, 0] rfl ?_
  exact kX8_takeWord_47 hL    100000 _ _  h
def fX8_takeWord_0 : Nat → JI → Option (JI)
  | 0, _ => none
  | n + 1, I =>
    if (I 12 1) ≤ (I 12 2) then (fX8_takeWord_39 I) else (j_g (j_in (I 12 2) 1000) ((fX8_isLetter (I 13 (I 12 2).toNatClampNeg)).bind (fun q1 => if q1 = 0 then (fX8_takeWord_39 I) else ((fX8_takeWord_0 n) (j_up I 12 2 ((I 12 2) + (1 : Int32)))))))
set_option maxHeartbeats 4000000 in
set_option maxRecDepth 100000 in
theorem kX8_takeWord_0 {E : JE} {r : JI} {L : JL} {G : JG} {D : JG} {S : JS} (hL : Lay G S) : ∀ (n : Nat)  (I : JI), fX8_takeWord_0 n I = some r → AtJ E xX8_takeWord (Zr E none r L G D S) ((S).length, jm_sl S) 9 0 [(0, .ref (E.1 + 12))] [] I L G D S := by
  intro n
  induction n with
  | zero => intro I  h; simp [fX8_takeWord_0] at h
  | succ n ih =>
    intro I  h
    rw [fX8_takeWord_0] at h
    refine j_aload_n 1 dX8_takeWord_0 rfl rfl 0 rfl ?_
    refine j_getI 4 dX8_takeWord_1 rfl (sh_12 hL) cl8 (k := 2) (by decide) flX8_38 rfl ?_
    refine j_aload_n 5 dX8_takeWord_4 rfl rfl 0 rfl ?_
    refine j_getI 8 dX8_takeWord_5 rfl (sh_12 hL) cl8 (k := 1) (by decide) flX8_15 rfl ?_
    refine j_icmp_ge 39 11 dX8_takeWord_8 (by decide) rfl (fun hc => ?_) (fun hc => ?_)
    · replace h := j_pos hc h
      exact kX8_takeWord_39 hL    _  h
    · replace h := j_neg hc h
      refine j_aload_n 12 dX8_takeWord_11 rfl rfl 0 rfl ?_
      refine j_getG 15 dX8_takeWord_12 rfl (sh_12 hL) cl8 (k := 0) (by decide) flX8_9 rfl (gs_12_0 hL) ?_
      refine j_aload_n 16 dX8_takeWord_15 rfl rfl 0 rfl ?_
      refine j_getI 19 dX8_takeWord_16 rfl (sh_12 hL) cl8 (k := 2) (by decide) flX8_38 rfl ?_
      obtain ⟨hg, h⟩ := j_gs h
      refine j_bald 20 dX8_takeWord_19 rfl (sh_13 hL) (j_inv hg) ?_
      obtain ⟨q1, hq1, h⟩ := j_bs h
      refine j_callS (rest := []) (As := [.int (I 13 (I 12 2).toNatClampNeg)]) 23 dX8_takeWord_20 rfl jyX8_isLetter (tcX8_isLetter   hq1) flX8_67 wm735 (by decide) rfl rfl (Nat.le_of_ble_eq_true rfl) ?_
      refine j_if_eq 39 26 dX8_takeWord_23 (by decide) rfl (fun hc => ?_) (fun hc => ?_)
      · replace h := j_pos hc h
        exact kX8_takeWord_39 hL    _  h
      · replace h := j_neg hc h
        refine j_aload_n 27 dX8_takeWord_26 rfl rfl 0 rfl ?_
        refine j_dup 28 dX8_takeWord_27 rfl rfl ?_
        refine j_getI 31 dX8_takeWord_28 rfl (sh_12 hL) cl8 (k := 2) (by decide) flX8_38 rfl ?_
        refine j_iconst (v := (1 : Int32)) 32 dX8_takeWord_31 rfl (by decide) ?_
        refine j_iadd 33 dX8_takeWord_32 rfl ?_
        refine j_putI 36 dX8_takeWord_33 rfl (sh_12 hL) cl8 (k := 2) (by decide) flX8_38 rfl rfl rfl ?_
        refine j_goto 0 dX8_takeWord_36 (by decide) ?_
        exact ih _  h
def fX8_takeWord (I : JI) : Option (JI) :=
  fX8_takeWord_0 100000 I
set_option maxHeartbeats 4000000 in
set_option maxRecDepth 100000 in
theorem tcX8_takeWord {E : JE} {r : JI} {I : JI} {L : JL} {G D : JG} {S : JS} (hL : Lay G S) (h : fX8_takeWord I = some r) : CallJ E xX8_takeWord 9 [.ref (E.1 + 12)] I L G D S none r L G D S := by
  unfold fX8_takeWord at h
  refine j_entry (by decide) (Nat.le_of_ble_eq_true rfl) ?_
  show AtJ E xX8_takeWord (Zr E none r L G D S) ((S).length, jm_sl S) 9 0 [(0, .ref (E.1 + 12))] [] I L G D S
  exact kX8_takeWord_0 hL    100000 _  h
def fX8_isDigit (l0 : Int32)  : Option (Int32) :=
  if l0 < (48 : Int32) then (some ((0 : Int32))) else (if (57 : Int32) < l0 then (some ((0 : Int32))) else (some ((1 : Int32))))
set_option maxHeartbeats 4000000 in
set_option maxRecDepth 100000 in
theorem tcX8_isDigit {E : JE} {l0 : Int32} {r : Int32} {I : JI} {L : JL} {G D : JG} {S : JS} (h : fX8_isDigit l0 = some r) : CallJ E xX8_isDigit 1 [.int l0] I L G D S (some (.int r)) I L G D S := by
  unfold fX8_isDigit at h
  refine j_entry (by decide) (Nat.le_of_ble_eq_true rfl) ?_
  show AtJ E xX8_isDigit (Zr E (some (.int r)) I L G D S) ((S).length, jm_sl S) 1 0 [(0, .int l0)] [] I L G D S
  refine j_iload_n 1 dX8_isDigit_0 rfl rfl 0 rfl ?_
  refine j_bipush (v := (48 : Int32)) 3 dX8_isDigit_1 rfl (by decide) ?_
  refine j_icmp_lt 16 6 dX8_isDigit_3 (by decide) rfl (fun hc => ?_) (fun hc => ?_)
  · replace h := j_pos hc h
    refine j_iconst (v := (0 : Int32)) 17 dX8_isDigit_16 rfl (by decide) ?_
    cases h
    exact j_zret dX8_isDigit_17 rfl j_b01_0
  · replace h := j_neg hc h
    refine j_iload_n 7 dX8_isDigit_6 rfl rfl 0 rfl ?_
    refine j_bipush (v := (57 : Int32)) 9 dX8_isDigit_7 rfl (by decide) ?_
    refine j_icmp_gt 16 12 dX8_isDigit_9 (by decide) rfl (fun hc => ?_) (fun hc => ?_)
    · replace h := j_pos hc h
      refine j_iconst (v := (0 : Int32)) 17 dX8_isDigit_16 rfl (by decide) ?_
      cases h
      exact j_zret dX8_isDigit_17 rfl j_b01_0
    · replace h := j_neg hc h
      refine j_iconst (v := (1 : Int32)) 13 dX8_isDigit_12 rfl (by decide) ?_
      refine j_goto 17 dX8_isDigit_13 (by decide) ?_
      cases h
      exact j_zret dX8_isDigit_17 rfl j_b01_1
def fX8_takeNumber_68 (I : JI) : Option (JI) :=
  if ((I 12 2) - (I 12 3)) ≤ (4 : Int32) then (some ((j_up I 12 4 (32 : Int32)))) else (some ((j_up I 12 4 (34 : Int32))))
set_option maxHeartbeats 4000000 in
set_option maxRecDepth 100000 in
theorem kX8_takeNumber_68 {E : JE} {r : JI} {L : JL} {G : JG} {D : JG} {S : JS} (hL : Lay G S) : ∀ (I : JI), fX8_takeNumber_68 I = some r → AtJ E xX8_takeNumber (Zr E none r L G D S) ((S).length, jm_sl S) 2 68 [(0, .ref (E.1 + 12))] [] I L G D S := by
  intro I  h
  unfold fX8_takeNumber_68 at h
  refine j_aload_n 69 dX8_takeNumber_68 rfl rfl 0 rfl ?_
  refine j_aload_n 70 dX8_takeNumber_69 rfl rfl 0 rfl ?_
  refine j_getI 73 dX8_takeNumber_70 rfl (sh_12 hL) cl8 (k := 2) (by decide) flX8_38 rfl ?_
  refine j_aload_n 74 dX8_takeNumber_73 rfl rfl 0 rfl ?_
  refine j_getI 77 dX8_takeNumber_74 rfl (sh_12 hL) cl8 (k := 3) (by decide) flX8_64 rfl ?_
  refine j_isub 78 dX8_takeNumber_77 rfl ?_
  refine j_iconst (v := (4 : Int32)) 79 dX8_takeNumber_78 rfl (by decide) ?_
  refine j_icmp_le 87 82 dX8_takeNumber_79 (by decide) rfl (fun hc => ?_) (fun hc => ?_)
  · replace h := j_pos hc h
    refine j_bipush (v := (32 : Int32)) 89 dX8_takeNumber_87 rfl (by decide) ?_
    refine j_putI 92 dX8_takeNumber_89 rfl (sh_12 hL) cl8 (k := 4) (by decide) flX8_44 rfl rfl rfl ?_
    cases h
    exact j_vret dX8_takeNumber_92 rfl
  · replace h := j_neg hc h
    refine j_bipush (v := (34 : Int32)) 84 dX8_takeNumber_82 rfl (by decide) ?_
    refine j_goto 89 dX8_takeNumber_84 (by decide) ?_
    refine j_putI 92 dX8_takeNumber_89 rfl (sh_12 hL) cl8 (k := 4) (by decide) flX8_44 rfl rfl rfl ?_
    cases h
    exact j_vret dX8_takeNumber_92 rfl
def fX8_takeNumber_5 : Nat → JI → Option (JI)
  | 0, _ => none
  | n + 1, I =>
    if (I 12 1) ≤ (I 12 2) then (fX8_takeNumber_68 I) else (j_g (j_in (I 12 2) 1000) ((fX8_isDigit (I 13 (I 12 2).toNatClampNeg)).bind (fun q1 => if q1 = 0 then (fX8_takeNumber_68 I) else (j_g (j_in (I 12 2) 1000) ((fX8_takeNumber_5 n) (j_up (j_up I 12 5 ((((I 12 5) * (10 : Int32)) + (I 13 (I 12 2).toNatClampNeg)) - (48 : Int32))) 12 2 (((j_up I 12 5 ((((I 12 5) * (10 : Int32)) + (I 13 (I 12 2).toNatClampNeg)) - (48 : Int32))) 12 2) + (1 : Int32))))))))
set_option maxHeartbeats 4000000 in
set_option maxRecDepth 100000 in
theorem kX8_takeNumber_5 {E : JE} {r : JI} {L : JL} {G : JG} {D : JG} {S : JS} (hL : Lay G S) : ∀ (n : Nat)  (I : JI), fX8_takeNumber_5 n I = some r → AtJ E xX8_takeNumber (Zr E none r L G D S) ((S).length, jm_sl S) 2 5 [(0, .ref (E.1 + 12))] [] I L G D S := by
  intro n
  induction n with
  | zero => intro I  h; simp [fX8_takeNumber_5] at h
  | succ n ih =>
    intro I  h
    rw [fX8_takeNumber_5] at h
    refine j_aload_n 6 dX8_takeNumber_5 rfl rfl 0 rfl ?_
    refine j_getI 9 dX8_takeNumber_6 rfl (sh_12 hL) cl8 (k := 2) (by decide) flX8_38 rfl ?_
    refine j_aload_n 10 dX8_takeNumber_9 rfl rfl 0 rfl ?_
    refine j_getI 13 dX8_takeNumber_10 rfl (sh_12 hL) cl8 (k := 1) (by decide) flX8_15 rfl ?_
    refine j_icmp_ge 68 16 dX8_takeNumber_13 (by decide) rfl (fun hc => ?_) (fun hc => ?_)
    · replace h := j_pos hc h
      exact kX8_takeNumber_68 hL    _  h
    · replace h := j_neg hc h
      refine j_aload_n 17 dX8_takeNumber_16 rfl rfl 0 rfl ?_
      refine j_getG 20 dX8_takeNumber_17 rfl (sh_12 hL) cl8 (k := 0) (by decide) flX8_9 rfl (gs_12_0 hL) ?_
      refine j_aload_n 21 dX8_takeNumber_20 rfl rfl 0 rfl ?_
      refine j_getI 24 dX8_takeNumber_21 rfl (sh_12 hL) cl8 (k := 2) (by decide) flX8_38 rfl ?_
      obtain ⟨hg, h⟩ := j_gs h
      refine j_bald 25 dX8_takeNumber_24 rfl (sh_13 hL) (j_inv hg) ?_
      obtain ⟨q1, hq1, h⟩ := j_bs h
      refine j_callS (rest := []) (As := [.int (I 13 (I 12 2).toNatClampNeg)]) 28 dX8_takeNumber_25 rfl jyX8_isDigit (tcX8_isDigit   hq1) flX8_74 wm787 (by decide) rfl rfl (Nat.le_of_ble_eq_true rfl) ?_
      refine j_if_eq 68 31 dX8_takeNumber_28 (by decide) rfl (fun hc => ?_) (fun hc => ?_)
      · replace h := j_pos hc h
        exact kX8_takeNumber_68 hL    _  h
      · replace h := j_neg hc h
        refine j_aload_n 32 dX8_takeNumber_31 rfl rfl 0 rfl ?_
        refine j_aload_n 33 dX8_takeNumber_32 rfl rfl 0 rfl ?_
        refine j_getI 36 dX8_takeNumber_33 rfl (sh_12 hL) cl8 (k := 5) (by decide) flX8_94 rfl ?_
        refine j_bipush (v := (10 : Int32)) 38 dX8_takeNumber_36 rfl (by decide) ?_
        refine j_imul 39 dX8_takeNumber_38 rfl ?_
        refine j_aload_n 40 dX8_takeNumber_39 rfl rfl 0 rfl ?_
        refine j_getG 43 dX8_takeNumber_40 rfl (sh_12 hL) cl8 (k := 0) (by decide) flX8_9 rfl (gs_12_0 hL) ?_
        refine j_aload_n 44 dX8_takeNumber_43 rfl rfl 0 rfl ?_
        refine j_getI 47 dX8_takeNumber_44 rfl (sh_12 hL) cl8 (k := 2) (by decide) flX8_38 rfl ?_
        obtain ⟨hg, h⟩ := j_gs h
        refine j_bald 48 dX8_takeNumber_47 rfl (sh_13 hL) (j_inv hg) ?_
        refine j_iadd 49 dX8_takeNumber_48 rfl ?_
        refine j_bipush (v := (48 : Int32)) 51 dX8_takeNumber_49 rfl (by decide) ?_
        refine j_isub 52 dX8_takeNumber_51 rfl ?_
        refine j_putI 55 dX8_takeNumber_52 rfl (sh_12 hL) cl8 (k := 5) (by decide) flX8_94 rfl rfl rfl ?_
        refine j_aload_n 56 dX8_takeNumber_55 rfl rfl 0 rfl ?_
        refine j_dup 57 dX8_takeNumber_56 rfl rfl ?_
        refine j_getI 60 dX8_takeNumber_57 rfl (sh_12 hL) cl8 (k := 2) (by decide) flX8_38 rfl ?_
        refine j_iconst (v := (1 : Int32)) 61 dX8_takeNumber_60 rfl (by decide) ?_
        refine j_iadd 62 dX8_takeNumber_61 rfl ?_
        refine j_putI 65 dX8_takeNumber_62 rfl (sh_12 hL) cl8 (k := 2) (by decide) flX8_38 rfl rfl rfl ?_
        refine j_goto 5 dX8_takeNumber_65 (by decide) ?_
        exact ih _  h
def fX8_takeNumber (I : JI) : Option (JI) :=
  fX8_takeNumber_5 100000 (j_up I 12 5 (0 : Int32))
set_option maxHeartbeats 4000000 in
set_option maxRecDepth 100000 in
theorem tcX8_takeNumber {E : JE} {r : JI} {I : JI} {L : JL} {G D : JG} {S : JS} (hL : Lay G S) (h : fX8_takeNumber I = some r) : CallJ E xX8_takeNumber 2 [.ref (E.1 + 12)] I L G D S none r L G D S := by
  unfold fX8_takeNumber at h
  refine j_entry (by decide) (Nat.le_of_ble_eq_true rfl) ?_
  show AtJ E xX8_takeNumber (Zr E none r L G D S) ((S).length, jm_sl S) 2 0 [(0, .ref (E.1 + 12))] [] I L G D S
  refine j_aload_n 1 dX8_takeNumber_0 rfl rfl 0 rfl ?_
  refine j_iconst (v := (0 : Int32)) 2 dX8_takeNumber_1 rfl (by decide) ?_
  refine j_putI 5 dX8_takeNumber_2 rfl (sh_12 hL) cl8 (k := 5) (by decide) flX8_94 rfl rfl rfl ?_
  exact kX8_takeNumber_5 hL    100000 _  h
def fX8_isSign_12 (l0 : Int32)  : Option (Int32) :=
  if l0 = (45 : Int32) then (some ((1 : Int32))) else (if l0 < (59 : Int32) then (some ((0 : Int32))) else (if (61 : Int32) < l0 then (some ((0 : Int32))) else (some ((1 : Int32)))))
set_option maxHeartbeats 4000000 in
set_option maxRecDepth 100000 in
theorem kX8_isSign_12 {E : JE} {r : Int32} {I : JI} {L : JL} {G : JG} {D : JG} {S : JS}  : ∀ (l0 : Int32), fX8_isSign_12 l0 = some r → AtJ E xX8_isSign (Zr E (some (.int r)) I L G D S) ((S).length, jm_sl S) 1 12 [(0, .int l0)] [] I L G D S := by
  intro l0  h
  unfold fX8_isSign_12 at h
  refine j_iload_n 13 dX8_isSign_12 rfl rfl 0 rfl ?_
  refine j_bipush (v := (45 : Int32)) 15 dX8_isSign_13 rfl (by decide) ?_
  refine j_icmp_eq 30 18 dX8_isSign_15 (by decide) rfl (fun hc => ?_) (fun hc => ?_)
  · replace h := j_pos hc h
    refine j_iconst (v := (1 : Int32)) 31 dX8_isSign_30 rfl (by decide) ?_
    refine j_goto 35 dX8_isSign_31 (by decide) ?_
    cases h
    exact j_zret dX8_isSign_35 rfl j_b01_1
  · replace h := j_neg hc h
    refine j_iload_n 19 dX8_isSign_18 rfl rfl 0 rfl ?_
    refine j_bipush (v := (59 : Int32)) 21 dX8_isSign_19 rfl (by decide) ?_
    refine j_icmp_lt 34 24 dX8_isSign_21 (by decide) rfl (fun hc => ?_) (fun hc => ?_)
    · replace h := j_pos hc h
      refine j_iconst (v := (0 : Int32)) 35 dX8_isSign_34 rfl (by decide) ?_
      cases h
      exact j_zret dX8_isSign_35 rfl j_b01_0
    · replace h := j_neg hc h
      refine j_iload_n 25 dX8_isSign_24 rfl rfl 0 rfl ?_
      refine j_bipush (v := (61 : Int32)) 27 dX8_isSign_25 rfl (by decide) ?_
      refine j_icmp_gt 34 30 dX8_isSign_27 (by decide) rfl (fun hc => ?_) (fun hc => ?_)
      · replace h := j_pos hc h
        refine j_iconst (v := (0 : Int32)) 35 dX8_isSign_34 rfl (by decide) ?_
        cases h
        exact j_zret dX8_isSign_35 rfl j_b01_0
      · replace h := j_neg hc h
        refine j_iconst (v := (1 : Int32)) 31 dX8_isSign_30 rfl (by decide) ?_
        refine j_goto 35 dX8_isSign_31 (by decide) ?_
        cases h
        exact j_zret dX8_isSign_35 rfl j_b01_1
def fX8_isSign (l0 : Int32)  : Option (Int32) :=
  if l0 < (40 : Int32) then (fX8_isSign_12 l0) else (if l0 ≤ (43 : Int32) then (some ((1 : Int32))) else (fX8_isSign_12 l0))
set_option maxHeartbeats 4000000 in
set_option maxRecDepth 100000 in
theorem tcX8_isSign {E : JE} {l0 : Int32} {r : Int32} {I : JI} {L : JL} {G D : JG} {S : JS} (h : fX8_isSign l0 = some r) : CallJ E xX8_isSign 1 [.int l0] I L G D S (some (.int r)) I L G D S := by
  unfold fX8_isSign at h
  refine j_entry (by decide) (Nat.le_of_ble_eq_true rfl) ?_
  show AtJ E xX8_isSign (Zr E (some (.int r)) I L G D S) ((S).length, jm_sl S) 1 0 [(0, .int l0)] [] I L G D S
  refine j_iload_n 1 dX8_isSign_0 rfl rfl 0 rfl ?_
  refine j_bipush (v := (40 : Int32)) 3 dX8_isSign_1 rfl (by decide) ?_
  refine j_icmp_lt 12 6 dX8_isSign_3 (by decide) rfl (fun hc => ?_) (fun hc => ?_)
  · replace h := j_pos hc h
    exact kX8_isSign_12     _  h
  · replace h := j_neg hc h
    refine j_iload_n 7 dX8_isSign_6 rfl rfl 0 rfl ?_
    refine j_bipush (v := (43 : Int32)) 9 dX8_isSign_7 rfl (by decide) ?_
    refine j_icmp_le 30 12 dX8_isSign_9 (by decide) rfl (fun hc => ?_) (fun hc => ?_)
    · replace h := j_pos hc h
      refine j_iconst (v := (1 : Int32)) 31 dX8_isSign_30 rfl (by decide) ?_
      refine j_goto 35 dX8_isSign_31 (by decide) ?_
      cases h
      exact j_zret dX8_isSign_35 rfl j_b01_1
    · replace h := j_neg hc h
      exact kX8_isSign_12     _  h
def fX8_next_52 (I : JI) : Option (JI) :=
  if ((j_up I 12 3 (I 12 2)) 12 2) < ((j_up I 12 3 (I 12 2)) 12 1) then (j_g (j_in ((j_up I 12 3 (I 12 2)) 12 2) 1000) ((fX8_isLetter ((j_up I 12 3 (I 12 2)) 13 ((j_up I 12 3 (I 12 2)) 12 2).toNatClampNeg)).bind (fun q1 => if q1 = 0 then (j_g (j_in ((j_up I 12 3 (I 12 2)) 12 2) 1000) ((fX8_isDigit ((j_up I 12 3 (I 12 2)) 13 ((j_up I 12 3 (I 12 2)) 12 2).toNatClampNeg)).bind (fun q2 => if q2 = 0 then (j_g (j_in ((j_up I 12 3 (I 12 2)) 12 2) 1000) ((fX8_isSign ((j_up I 12 3 (I 12 2)) 13 ((j_up I 12 3 (I 12 2)) 12 2).toNatClampNeg)).bind (fun q3 => if q3 = 0 then (some ((j_up (j_up (j_up I 12 3 (I 12 2)) 12 4 (34 : Int32)) 12 2 (((j_up (j_up I 12 3 (I 12 2)) 12 4 (34 : Int32)) 12 2) + (1 : Int32))))) else (j_g (j_in ((j_up I 12 3 (I 12 2)) 12 2) 1000) (some ((j_up (j_up (j_up I 12 3 (I 12 2)) 12 4 ((j_up I 12 3 (I 12 2)) 13 ((j_up I 12 3 (I 12 2)) 12 2).toNatClampNeg)) 12 2 (((j_up (j_up I 12 3 (I 12 2)) 12 4 ((j_up I 12 3 (I 12 2)) 13 ((j_up I 12 3 (I 12 2)) 12 2).toNatClampNeg)) 12 2) + (1 : Int32))))))))) else ((fX8_takeNumber (j_up I 12 3 (I 12 2))).bind (fun q4 => some (q4)))))) else ((fX8_takeWord (j_up I 12 3 (I 12 2))).bind (fun q5 => some (q5)))))) else (some ((j_up (j_up I 12 3 (I 12 2)) 12 4 (33 : Int32))))
set_option maxHeartbeats 4000000 in
set_option maxRecDepth 100000 in
theorem kX8_next_52 {E : JE} {r : JI} {L : JL} {G : JG} {D : JG} {S : JS} (hL : Lay G S) : ∀ (I : JI), fX8_next_52 I = some r → AtJ E xX8_next (Zr E none r L G D S) ((S).length, jm_sl S) 10 52 [(0, .ref (E.1 + 12))] [] I L G D S := by
  intro I  h
  unfold fX8_next_52 at h
  refine j_aload_n 53 dX8_next_52 rfl rfl 0 rfl ?_
  refine j_aload_n 54 dX8_next_53 rfl rfl 0 rfl ?_
  refine j_getI 57 dX8_next_54 rfl (sh_12 hL) cl8 (k := 2) (by decide) flX8_38 rfl ?_
  refine j_putI 60 dX8_next_57 rfl (sh_12 hL) cl8 (k := 3) (by decide) flX8_64 rfl rfl rfl ?_
  refine j_aload_n 61 dX8_next_60 rfl rfl 0 rfl ?_
  refine j_getI 64 dX8_next_61 rfl (sh_12 hL) cl8 (k := 2) (by decide) flX8_38 rfl ?_
  refine j_aload_n 65 dX8_next_64 rfl rfl 0 rfl ?_
  refine j_getI 68 dX8_next_65 rfl (sh_12 hL) cl8 (k := 1) (by decide) flX8_15 rfl ?_
  refine j_icmp_lt 80 71 dX8_next_68 (by decide) rfl (fun hc => ?_) (fun hc => ?_)
  · replace h := j_pos hc h
    refine j_aload_n 81 dX8_next_80 rfl rfl 0 rfl ?_
    refine j_getG 84 dX8_next_81 rfl (sh_12 hL) cl8 (k := 0) (by decide) flX8_9 rfl (gs_12_0 hL) ?_
    refine j_aload_n 85 dX8_next_84 rfl rfl 0 rfl ?_
    refine j_getI 88 dX8_next_85 rfl (sh_12 hL) cl8 (k := 2) (by decide) flX8_38 rfl ?_
    obtain ⟨hg, h⟩ := j_gs h
    refine j_bald 89 dX8_next_88 rfl (sh_13 hL) (j_inv hg) ?_
    obtain ⟨q1, hq1, h⟩ := j_bs h
    refine j_callS (rest := []) (As := [.int ((j_up I 12 3 (I 12 2)) 13 ((j_up I 12 3 (I 12 2)) 12 2).toNatClampNeg)]) 92 dX8_next_89 rfl jyX8_isLetter (tcX8_isLetter   hq1) flX8_67 wm735 (by decide) rfl rfl (Nat.le_of_ble_eq_true rfl) ?_
    refine j_if_eq 102 95 dX8_next_92 (by decide) rfl (fun hc => ?_) (fun hc => ?_)
    · replace h := j_pos hc h
      refine j_aload_n 103 dX8_next_102 rfl rfl 0 rfl ?_
      refine j_getG 106 dX8_next_103 rfl (sh_12 hL) cl8 (k := 0) (by decide) flX8_9 rfl (gs_12_0 hL) ?_
      refine j_aload_n 107 dX8_next_106 rfl rfl 0 rfl ?_
      refine j_getI 110 dX8_next_107 rfl (sh_12 hL) cl8 (k := 2) (by decide) flX8_38 rfl ?_
      obtain ⟨hg, h⟩ := j_gs h
      refine j_bald 111 dX8_next_110 rfl (sh_13 hL) (j_inv hg) ?_
      obtain ⟨q2, hq2, h⟩ := j_bs h
      refine j_callS (rest := []) (As := [.int ((j_up I 12 3 (I 12 2)) 13 ((j_up I 12 3 (I 12 2)) 12 2).toNatClampNeg)]) 114 dX8_next_111 rfl jyX8_isDigit (tcX8_isDigit   hq2) flX8_74 wm787 (by decide) rfl rfl (Nat.le_of_ble_eq_true rfl) ?_
      refine j_if_eq 124 117 dX8_next_114 (by decide) rfl (fun hc => ?_) (fun hc => ?_)
      · replace h := j_pos hc h
        refine j_aload_n 125 dX8_next_124 rfl rfl 0 rfl ?_
        refine j_aload_n 126 dX8_next_125 rfl rfl 0 rfl ?_
        refine j_getG 129 dX8_next_126 rfl (sh_12 hL) cl8 (k := 0) (by decide) flX8_9 rfl (gs_12_0 hL) ?_
        refine j_aload_n 130 dX8_next_129 rfl rfl 0 rfl ?_
        refine j_getI 133 dX8_next_130 rfl (sh_12 hL) cl8 (k := 2) (by decide) flX8_38 rfl ?_
        obtain ⟨hg, h⟩ := j_gs h
        refine j_bald 134 dX8_next_133 rfl (sh_13 hL) (j_inv hg) ?_
        obtain ⟨q3, hq3, h⟩ := j_bs h
        refine j_callS (rest := [.ref (E.1 + 12)]) (As := [.int ((j_up I 12 3 (I 12 2)) 13 ((j_up I 12 3 (I 12 2)) 12 2).toNatClampNeg)]) 137 dX8_next_134 rfl jyX8_isSign (tcX8_isSign   hq3) flX8_80 wm794 (by decide) rfl rfl (Nat.le_of_ble_eq_true rfl) ?_
        refine j_if_eq 152 140 dX8_next_137 (by decide) rfl (fun hc => ?_) (fun hc => ?_)
        · replace h := j_pos hc h
          refine j_bipush (v := (34 : Int32)) 154 dX8_next_152 rfl (by decide) ?_
          refine j_putI 157 dX8_next_154 rfl (sh_12 hL) cl8 (k := 4) (by decide) flX8_44 rfl rfl rfl ?_
          refine j_aload_n 158 dX8_next_157 rfl rfl 0 rfl ?_
          refine j_dup 159 dX8_next_158 rfl rfl ?_
          refine j_getI 162 dX8_next_159 rfl (sh_12 hL) cl8 (k := 2) (by decide) flX8_38 rfl ?_
          refine j_iconst (v := (1 : Int32)) 163 dX8_next_162 rfl (by decide) ?_
          refine j_iadd 164 dX8_next_163 rfl ?_
          refine j_putI 167 dX8_next_164 rfl (sh_12 hL) cl8 (k := 2) (by decide) flX8_38 rfl rfl rfl ?_
          cases h
          exact j_vret dX8_next_167 rfl
        · replace h := j_neg hc h
          refine j_aload_n 141 dX8_next_140 rfl rfl 0 rfl ?_
          refine j_getG 144 dX8_next_141 rfl (sh_12 hL) cl8 (k := 0) (by decide) flX8_9 rfl (gs_12_0 hL) ?_
          refine j_aload_n 145 dX8_next_144 rfl rfl 0 rfl ?_
          refine j_getI 148 dX8_next_145 rfl (sh_12 hL) cl8 (k := 2) (by decide) flX8_38 rfl ?_
          obtain ⟨hg, h⟩ := j_gs h
          refine j_bald 149 dX8_next_148 rfl (sh_13 hL) (j_inv hg) ?_
          refine j_goto 154 dX8_next_149 (by decide) ?_
          refine j_putI 157 dX8_next_154 rfl (sh_12 hL) cl8 (k := 4) (by decide) flX8_44 rfl rfl rfl ?_
          refine j_aload_n 158 dX8_next_157 rfl rfl 0 rfl ?_
          refine j_dup 159 dX8_next_158 rfl rfl ?_
          refine j_getI 162 dX8_next_159 rfl (sh_12 hL) cl8 (k := 2) (by decide) flX8_38 rfl ?_
          refine j_iconst (v := (1 : Int32)) 163 dX8_next_162 rfl (by decide) ?_
          refine j_iadd 164 dX8_next_163 rfl ?_
          refine j_putI 167 dX8_next_164 rfl (sh_12 hL) cl8 (k := 2) (by decide) flX8_38 rfl rfl rfl ?_
          cases h
          exact j_vret dX8_next_167 rfl
      · replace h := j_neg hc h
        refine j_aload_n 118 dX8_next_117 rfl rfl 0 rfl ?_
        obtain ⟨q4, hq4, h⟩ := j_bs h
        refine j_callV (rest := []) (As := []) 121 dX8_next_118 rfl jyX8_takeNumber (tcX8_takeNumber hL  hq4) (sh_12 hL) cl8 flX8_77 wm791 wm3 (by decide) rfl rfl (Nat.le_of_ble_eq_true rfl) ?_
        refine j_goto 167 dX8_next_121 (by decide) ?_
        cases h
        exact j_vret dX8_next_167 rfl
    · replace h := j_neg hc h
      refine j_aload_n 96 dX8_next_95 rfl rfl 0 rfl ?_
      obtain ⟨q5, hq5, h⟩ := j_bs h
      refine j_callV (rest := []) (As := []) 99 dX8_next_96 rfl jyX8_takeWord (tcX8_takeWord hL  hq5) (sh_12 hL) cl8 flX8_71 wm739 wm1 (by decide) rfl rfl (Nat.le_of_ble_eq_true rfl) ?_
      refine j_goto 167 dX8_next_99 (by decide) ?_
      cases h
      exact j_vret dX8_next_167 rfl
  · replace h := j_neg hc h
    refine j_aload_n 72 dX8_next_71 rfl rfl 0 rfl ?_
    refine j_bipush (v := (33 : Int32)) 74 dX8_next_72 rfl (by decide) ?_
    refine j_putI 77 dX8_next_74 rfl (sh_12 hL) cl8 (k := 4) (by decide) flX8_44 rfl rfl rfl ?_
    refine j_goto 167 dX8_next_77 (by decide) ?_
    cases h
    exact j_vret dX8_next_167 rfl
def fX8_next_0 : Nat → JI → Option (JI)
  | 0, _ => none
  | n + 1, I =>
    if (I 12 1) ≤ (I 12 2) then (fX8_next_52 I) else (j_g (j_in (I 12 2) 1000) (if (I 13 (I 12 2).toNatClampNeg) = (10 : Int32) then ((fX8_next_0 n) (j_up I 12 2 ((I 12 2) + (1 : Int32)))) else (j_g (j_in (I 12 2) 1000) (if (I 13 (I 12 2).toNatClampNeg) = (32 : Int32) then ((fX8_next_0 n) (j_up I 12 2 ((I 12 2) + (1 : Int32)))) else (fX8_next_52 I)))))
set_option maxHeartbeats 4000000 in
set_option maxRecDepth 100000 in
theorem kX8_next_0 {E : JE} {r : JI} {L : JL} {G : JG} {D : JG} {S : JS} (hL : Lay G S) : ∀ (n : Nat)  (I : JI), fX8_next_0 n I = some r → AtJ E xX8_next (Zr E none r L G D S) ((S).length, jm_sl S) 10 0 [(0, .ref (E.1 + 12))] [] I L G D S := by
  intro n
  induction n with
  | zero => intro I  h; simp [fX8_next_0] at h
  | succ n ih =>
    intro I  h
    rw [fX8_next_0] at h
    refine j_aload_n 1 dX8_next_0 rfl rfl 0 rfl ?_
    refine j_getI 4 dX8_next_1 rfl (sh_12 hL) cl8 (k := 2) (by decide) flX8_38 rfl ?_
    refine j_aload_n 5 dX8_next_4 rfl rfl 0 rfl ?_
    refine j_getI 8 dX8_next_5 rfl (sh_12 hL) cl8 (k := 1) (by decide) flX8_15 rfl ?_
    refine j_icmp_ge 52 11 dX8_next_8 (by decide) rfl (fun hc => ?_) (fun hc => ?_)
    · replace h := j_pos hc h
      exact kX8_next_52 hL    _  h
    · replace h := j_neg hc h
      refine j_aload_n 12 dX8_next_11 rfl rfl 0 rfl ?_
      refine j_getG 15 dX8_next_12 rfl (sh_12 hL) cl8 (k := 0) (by decide) flX8_9 rfl (gs_12_0 hL) ?_
      refine j_aload_n 16 dX8_next_15 rfl rfl 0 rfl ?_
      refine j_getI 19 dX8_next_16 rfl (sh_12 hL) cl8 (k := 2) (by decide) flX8_38 rfl ?_
      obtain ⟨hg, h⟩ := j_gs h
      refine j_bald 20 dX8_next_19 rfl (sh_13 hL) (j_inv hg) ?_
      refine j_bipush (v := (10 : Int32)) 22 dX8_next_20 rfl (by decide) ?_
      refine j_icmp_eq 39 25 dX8_next_22 (by decide) rfl (fun hc => ?_) (fun hc => ?_)
      · replace h := j_pos hc h
        refine j_aload_n 40 dX8_next_39 rfl rfl 0 rfl ?_
        refine j_dup 41 dX8_next_40 rfl rfl ?_
        refine j_getI 44 dX8_next_41 rfl (sh_12 hL) cl8 (k := 2) (by decide) flX8_38 rfl ?_
        refine j_iconst (v := (1 : Int32)) 45 dX8_next_44 rfl (by decide) ?_
        refine j_iadd 46 dX8_next_45 rfl ?_
        refine j_putI 49 dX8_next_46 rfl (sh_12 hL) cl8 (k := 2) (by decide) flX8_38 rfl rfl rfl ?_
        refine j_goto 0 dX8_next_49 (by decide) ?_
        exact ih _  h
      · replace h := j_neg hc h
        refine j_aload_n 26 dX8_next_25 rfl rfl 0 rfl ?_
        refine j_getG 29 dX8_next_26 rfl (sh_12 hL) cl8 (k := 0) (by decide) flX8_9 rfl (gs_12_0 hL) ?_
        refine j_aload_n 30 dX8_next_29 rfl rfl 0 rfl ?_
        refine j_getI 33 dX8_next_30 rfl (sh_12 hL) cl8 (k := 2) (by decide) flX8_38 rfl ?_
        obtain ⟨hg, h⟩ := j_gs h
        refine j_bald 34 dX8_next_33 rfl (sh_13 hL) (j_inv hg) ?_
        refine j_bipush (v := (32 : Int32)) 36 dX8_next_34 rfl (by decide) ?_
        refine j_icmp_ne 52 39 dX8_next_36 (by decide) rfl (fun hc => ?_) (fun hc => ?_)
        · replace h := j_neg hc h
          exact kX8_next_52 hL    _  h
        · replace h := j_pos hc h
          refine j_aload_n 40 dX8_next_39 rfl rfl 0 rfl ?_
          refine j_dup 41 dX8_next_40 rfl rfl ?_
          refine j_getI 44 dX8_next_41 rfl (sh_12 hL) cl8 (k := 2) (by decide) flX8_38 rfl ?_
          refine j_iconst (v := (1 : Int32)) 45 dX8_next_44 rfl (by decide) ?_
          refine j_iadd 46 dX8_next_45 rfl ?_
          refine j_putI 49 dX8_next_46 rfl (sh_12 hL) cl8 (k := 2) (by decide) flX8_38 rfl rfl rfl ?_
          refine j_goto 0 dX8_next_49 (by decide) ?_
          exact ih _  h
def fX8_next (I : JI) : Option (JI) :=
  fX8_next_0 100000 I
set_option maxHeartbeats 4000000 in
set_option maxRecDepth 100000 in
theorem tcX8_next {E : JE} {r : JI} {I : JI} {L : JL} {G D : JG} {S : JS} (hL : Lay G S) (h : fX8_next I = some r) : CallJ E xX8_next 10 [.ref (E.1 + 12)] I L G D S none r L G D S := by
  unfold fX8_next at h
  refine j_entry (by decide) (Nat.le_of_ble_eq_true rfl) ?_
  show AtJ E xX8_next (Zr E none r L G D S) ((S).length, jm_sl S) 10 0 [(0, .ref (E.1 + 12))] [] I L G D S
  exact kX8_next_0 hL    100000 _  h
def fX8_wrong (l1 : Int32) (I : JI) : Option (JI) :=
  if (I 12 6) = 0 then (some ((j_up (j_up (j_up I 12 6 (l1 + ((16 : Int32) * (I 12 3)))) 12 2 ((j_up I 12 6 (l1 + ((16 : Int32) * (I 12 3)))) 12 1)) 12 4 (33 : Int32)))) else (some ((j_up (j_up I 12 2 (I 12 1)) 12 4 (33 : Int32))))
set_option maxHeartbeats 4000000 in
set_option maxRecDepth 100000 in
theorem tcX8_wrong {E : JE} {l1 : Int32} {r : JI} {I : JI} {L : JL} {G D : JG} {S : JS} (hL : Lay G S) (h : fX8_wrong l1 I = some r) : CallJ E xX8_wrong 1 [.ref (E.1 + 12), .int l1] I L G D S none r L G D S := by
  unfold fX8_wrong at h
  refine j_entry (by decide) (Nat.le_of_ble_eq_true rfl) ?_
  show AtJ E xX8_wrong (Zr E none r L G D S) ((S).length, jm_sl S) 1 0 [(0, .ref (E.1 + 12)), (1, .int l1)] [] I L G D S
  refine j_aload_n 1 dX8_wrong_0 rfl rfl 0 rfl ?_
  refine j_getI 4 dX8_wrong_1 rfl (sh_12 hL) cl8 (k := 6) (by decide) flX8_35 rfl ?_
  refine j_if_ne 20 7 dX8_wrong_4 (by decide) rfl (fun hc => ?_) (fun hc => ?_)
  · replace h := j_neg hc h
    refine j_aload_n 21 dX8_wrong_20 rfl rfl 0 rfl ?_
    refine j_aload_n 22 dX8_wrong_21 rfl rfl 0 rfl ?_
    refine j_getI 25 dX8_wrong_22 rfl (sh_12 hL) cl8 (k := 1) (by decide) flX8_15 rfl ?_
    refine j_putI 28 dX8_wrong_25 rfl (sh_12 hL) cl8 (k := 2) (by decide) flX8_38 rfl rfl rfl ?_
    refine j_aload_n 29 dX8_wrong_28 rfl rfl 0 rfl ?_
    refine j_bipush (v := (33 : Int32)) 31 dX8_wrong_29 rfl (by decide) ?_
    refine j_putI 34 dX8_wrong_31 rfl (sh_12 hL) cl8 (k := 4) (by decide) flX8_44 rfl rfl rfl ?_
    cases h
    exact j_vret dX8_wrong_34 rfl
  · replace h := j_pos hc h
    refine j_aload_n 8 dX8_wrong_7 rfl rfl 0 rfl ?_
    refine j_iload_n 9 dX8_wrong_8 rfl rfl 1 rfl ?_
    refine j_bipush (v := (16 : Int32)) 11 dX8_wrong_9 rfl (by decide) ?_
    refine j_aload_n 12 dX8_wrong_11 rfl rfl 0 rfl ?_
    refine j_getI 15 dX8_wrong_12 rfl (sh_12 hL) cl8 (k := 3) (by decide) flX8_64 rfl ?_
    refine j_imul 16 dX8_wrong_15 rfl ?_
    refine j_iadd 17 dX8_wrong_16 rfl ?_
    refine j_putI 20 dX8_wrong_17 rfl (sh_12 hL) cl8 (k := 6) (by decide) flX8_35 rfl rfl rfl ?_
    refine j_aload_n 21 dX8_wrong_20 rfl rfl 0 rfl ?_
    refine j_aload_n 22 dX8_wrong_21 rfl rfl 0 rfl ?_
    refine j_getI 25 dX8_wrong_22 rfl (sh_12 hL) cl8 (k := 1) (by decide) flX8_15 rfl ?_
    refine j_putI 28 dX8_wrong_25 rfl (sh_12 hL) cl8 (k := 2) (by decide) flX8_38 rfl rfl rfl ?_
    refine j_aload_n 29 dX8_wrong_28 rfl rfl 0 rfl ?_
    refine j_bipush (v := (33 : Int32)) 31 dX8_wrong_29 rfl (by decide) ?_
    refine j_putI 34 dX8_wrong_31 rfl (sh_12 hL) cl8 (k := 4) (by decide) flX8_44 rfl rfl rfl ?_
    cases h
    exact j_vret dX8_wrong_34 rfl
def fX8_readWho (l1 : Int32) (I : JI) (D : JG) (S : JS) : Option (JI) :=
  if ((I 12 4) - (14 : Int32)) < 0 then ((fX8_wrong (1 : Int32) I).bind (fun q1 => some (q1))) else (if ((I 12 4) - (14 : Int32)) < (4 : Int32) then (j_opt (D 12 9) (none) (fun b2 => j_g (decide (S[b2]? = some (4, 17))) (j_g (j_in l1 18) ((fX8_next (j_up I (b2 + 4) l1.toNatClampNeg ((I 12 4) - (14 : Int32)))).bind (fun q3 => some (q3)))))) else ((fX8_wrong (1 : Int32) I).bind (fun q4 => some (q4))))
set_option maxHeartbeats 4000000 in
set_option maxRecDepth 100000 in
theorem tcX8_readWho {E : JE} {l1 : Int32} {r : JI} {I : JI} {L : JL} {G D : JG} {S : JS} (hL : Lay G S) (h : fX8_readWho l1 I D S = some r) : CallJ E xX8_readWho 11 [.ref (E.1 + 12), .int l1] I L G D S none r L G D S := by
  unfold fX8_readWho at h
  refine j_entry (by decide) (Nat.le_of_ble_eq_true rfl) ?_
  show AtJ E xX8_readWho (Zr E none r L G D S) ((S).length, jm_sl S) 11 0 [(0, .ref (E.1 + 12)), (1, .int l1)] [] I L G D S
  refine j_aload_n 1 dX8_readWho_0 rfl rfl 0 rfl ?_
  refine j_getI 4 dX8_readWho_1 rfl (sh_12 hL) cl8 (k := 4) (by decide) flX8_44 rfl ?_
  refine j_bipush (v := (14 : Int32)) 6 dX8_readWho_4 rfl (by decide) ?_
  refine j_isub 7 dX8_readWho_6 rfl ?_
  refine j_istore_n (lv' := [(2, .int ((I 12 4) - (14 : Int32))), (0, .ref (E.1 + 12)), (1, .int l1)]) 8 dX8_readWho_7 rfl rfl (by decide) rfl ?_
  refine j_iload_n 9 dX8_readWho_8 rfl rfl 0 rfl ?_
  refine j_if_lt 17 12 dX8_readWho_9 (by decide) rfl (fun hc => ?_) (fun hc => ?_)
  · replace h := j_pos hc h
    refine j_aload_n 18 dX8_readWho_17 rfl rfl 1 rfl ?_
    refine j_iconst (v := (1 : Int32)) 19 dX8_readWho_18 rfl (by decide) ?_
    obtain ⟨q1, hq1, h⟩ := j_bs h
    refine j_callV (rest := []) (As := [.int (1 : Int32)]) 22 dX8_readWho_19 rfl jyX8_wrong (tcX8_wrong hL  hq1) (sh_12 hL) cl8 flX8_50 wm798 wm4 (by decide) rfl rfl (Nat.le_of_ble_eq_true rfl) ?_
    cases h
    exact j_vret dX8_readWho_22 rfl
  · replace h := j_neg hc h
    refine j_iload_n 13 dX8_readWho_12 rfl rfl 0 rfl ?_
    refine j_iconst (v := (4 : Int32)) 14 dX8_readWho_13 rfl (by decide) ?_
    refine j_icmp_lt 23 17 dX8_readWho_14 (by decide) rfl (fun hc => ?_) (fun hc => ?_)
    · replace h := j_pos hc h
      refine j_aload_n 24 dX8_readWho_23 rfl rfl 1 rfl ?_
      rcases j_os h with ⟨hb, h⟩ | ⟨b2, hb, h⟩
      · refine j_getDn 27 dX8_readWho_24 rfl (sh_12 hL) cl8 (k := 9) (by decide) flX8_19 rfl hb ?_
        cases h
      obtain ⟨hsb2, h⟩ := j_gs h
      replace hsb2 := of_decide_eq_true hsb2
      refine j_getD 27 dX8_readWho_24 rfl (sh_12 hL) cl8 (k := 9) (by decide) flX8_19 rfl hb ?_
      refine j_getGN 30 dX8_readWho_27 rfl hsb2 cl4 (k := 3) (by decide) flX8_129 rfl (ly4_3 hL hsb2).1 ?_
      refine j_iload_n 31 dX8_readWho_30 rfl rfl 2 rfl ?_
      refine j_iload_n 32 dX8_readWho_31 rfl rfl 0 rfl ?_
      obtain ⟨hg, h⟩ := j_gs h
      refine j_iast 33 dX8_readWho_32 rfl (ly4_3 hL hsb2).2 (j_inv hg) ?_
      refine j_aload_n 34 dX8_readWho_33 rfl rfl 1 rfl ?_
      obtain ⟨q3, hq3, h⟩ := j_bs h
      refine j_callV (rest := []) (As := []) 37 dX8_readWho_34 rfl jyX8_next (tcX8_next hL  hq3) (sh_12 hL) cl8 flX8_41 wm732 wm0 (by decide) rfl rfl (Nat.le_of_ble_eq_true rfl) ?_
      cases h
      exact j_vret dX8_readWho_37 rfl
    · replace h := j_neg hc h
      refine j_aload_n 18 dX8_readWho_17 rfl rfl 1 rfl ?_
      refine j_iconst (v := (1 : Int32)) 19 dX8_readWho_18 rfl (by decide) ?_
      obtain ⟨q4, hq4, h⟩ := j_bs h
      refine j_callV (rest := []) (As := [.int (1 : Int32)]) 22 dX8_readWho_19 rfl jyX8_wrong (tcX8_wrong hL  hq4) (sh_12 hL) cl8 flX8_50 wm798 wm4 (by decide) rfl rfl (Nat.le_of_ble_eq_true rfl) ?_
      cases h
      exact j_vret dX8_readWho_22 rfl
def fX8_want (l1 : Int32) (I : JI) : Option (JI) :=
  if (I 12 4) = l1 then ((fX8_next I).bind (fun q2 => some (q2))) else ((fX8_wrong (1 : Int32) I).bind (fun q1 => some (q1)))
set_option maxHeartbeats 4000000 in
set_option maxRecDepth 100000 in
theorem tcX8_want {E : JE} {l1 : Int32} {r : JI} {I : JI} {L : JL} {G D : JG} {S : JS} (hL : Lay G S) (h : fX8_want l1 I = some r) : CallJ E xX8_want 11 [.ref (E.1 + 12), .int l1] I L G D S none r L G D S := by
  unfold fX8_want at h
  refine j_entry (by decide) (Nat.le_of_ble_eq_true rfl) ?_
  show AtJ E xX8_want (Zr E none r L G D S) ((S).length, jm_sl S) 11 0 [(0, .ref (E.1 + 12)), (1, .int l1)] [] I L G D S
  refine j_aload_n 1 dX8_want_0 rfl rfl 0 rfl ?_
  refine j_getI 4 dX8_want_1 rfl (sh_12 hL) cl8 (k := 4) (by decide) flX8_44 rfl ?_
  refine j_iload_n 5 dX8_want_4 rfl rfl 1 rfl ?_
  refine j_icmp_ne 15 8 dX8_want_5 (by decide) rfl (fun hc => ?_) (fun hc => ?_)
  · replace h := j_neg hc h
    refine j_aload_n 16 dX8_want_15 rfl rfl 0 rfl ?_
    refine j_iconst (v := (1 : Int32)) 17 dX8_want_16 rfl (by decide) ?_
    obtain ⟨q1, hq1, h⟩ := j_bs h
    refine j_callV (rest := []) (As := [.int (1 : Int32)]) 20 dX8_want_17 rfl jyX8_wrong (tcX8_wrong hL  hq1) (sh_12 hL) cl8 flX8_50 wm798 wm4 (by decide) rfl rfl (Nat.le_of_ble_eq_true rfl) ?_
    cases h
    exact j_vret dX8_want_20 rfl
  · replace h := j_pos hc h
    refine j_aload_n 9 dX8_want_8 rfl rfl 0 rfl ?_
    obtain ⟨q2, hq2, h⟩ := j_bs h
    refine j_callV (rest := []) (As := []) 12 dX8_want_9 rfl jyX8_next (tcX8_next hL  hq2) (sh_12 hL) cl8 flX8_41 wm732 wm0 (by decide) rfl rfl (Nat.le_of_ble_eq_true rfl) ?_
    refine j_goto 20 dX8_want_12 (by decide) ?_
    cases h
    exact j_vret dX8_want_20 rfl
def fX8_readForms_24 : Nat → Int32 → Int32 → Int32 → JI → JG → JS → Option (JI)
  | 0, _, _, _, _, _, _ => none
  | n + 1, l1, l2, l3, I, D, S =>
    if (3 : Int32) < l3 then (some (I)) else (if l2 < 0 then (some (I)) else (if (3 : Int32) ≤ l2 then (some (I)) else (j_opt (D 12 9) (none) (fun b3 => j_g (decide (S[b3]? = some (4, 17))) (j_g (j_in l1 18) (if (((I (b3 + 5) l1.toNatClampNeg) >>> (l2 &&& 31)) &&& (1 : Int32)) = 0 then (j_opt (D 12 9) (none) (fun b4 => j_g (decide (S[b4]? = some (4, 17))) (j_g (j_in l1 18) (j_g (j_in l1 18) ((fX8_next (j_up I (b4 + 5) l1.toNatClampNeg ((I (b4 + 5) l1.toNatClampNeg) ||| ((1 : Int32) <<< (l2 &&& 31))))).bind (fun q5 => (fX8_readForms_24 n) l1 ((q5 12 4) - (6 : Int32)) (l3 + (1 : Int32)) q5 D S)))))) else ((fX8_wrong (3 : Int32) I).bind (fun q6 => some (q6)))))))))
set_option maxHeartbeats 4000000 in
set_option maxRecDepth 100000 in
theorem kX8_readForms_24 {E : JE} {r : JI} {L : JL} {G : JG} {S : JS} (hL : Lay G S) : ∀ (n : Nat) (l1 : Int32) (l2 : Int32) (l3 : Int32) (I : JI) (D : JG), fX8_readForms_24 n l1 l2 l3 I D S = some r → AtJ E xX8_readForms (Zr E none r L G D S) ((S).length, jm_sl S) 11 24 [(0, .ref (E.1 + 12)), (1, .int l1), (2, .int l2), (3, .int l3)] [] I L G D S := by
  intro n
  induction n with
  | zero => intro l1 l2 l3 I D  h; simp [fX8_readForms_24] at h
  | succ n ih =>
    intro l1 l2 l3 I D  h
    rw [fX8_readForms_24] at h
    refine j_iload_n 25 dX8_readForms_24 rfl rfl 3 rfl ?_
    refine j_iconst (v := (3 : Int32)) 26 dX8_readForms_25 rfl (by decide) ?_
    refine j_icmp_gt 93 29 dX8_readForms_26 (by decide) rfl (fun hc => ?_) (fun hc => ?_)
    · replace h := j_pos hc h
      cases h
      exact j_vret dX8_readForms_93 rfl
    · replace h := j_neg hc h
      refine j_iload_n 30 dX8_readForms_29 rfl rfl 2 rfl ?_
      refine j_if_lt 93 33 dX8_readForms_30 (by decide) rfl (fun hc => ?_) (fun hc => ?_)
      · replace h := j_pos hc h
        cases h
        exact j_vret dX8_readForms_93 rfl
      · replace h := j_neg hc h
        refine j_iload_n 34 dX8_readForms_33 rfl rfl 2 rfl ?_
        refine j_iconst (v := (3 : Int32)) 35 dX8_readForms_34 rfl (by decide) ?_
        refine j_icmp_ge 93 38 dX8_readForms_35 (by decide) rfl (fun hc => ?_) (fun hc => ?_)
        · replace h := j_pos hc h
          cases h
          exact j_vret dX8_readForms_93 rfl
        · replace h := j_neg hc h
          refine j_aload_n 39 dX8_readForms_38 rfl rfl 0 rfl ?_
          rcases j_os h with ⟨hb, h⟩ | ⟨b3, hb, h⟩
          · refine j_getDn 42 dX8_readForms_39 rfl (sh_12 hL) cl8 (k := 9) (by decide) flX8_19 rfl hb ?_
            cases h
          obtain ⟨hsb3, h⟩ := j_gs h
          replace hsb3 := of_decide_eq_true hsb3
          refine j_getD 42 dX8_readForms_39 rfl (sh_12 hL) cl8 (k := 9) (by decide) flX8_19 rfl hb ?_
          refine j_getGN 45 dX8_readForms_42 rfl hsb3 cl4 (k := 4) (by decide) flX8_133 rfl (ly4_4 hL hsb3).1 ?_
          refine j_iload_n 46 dX8_readForms_45 rfl rfl 1 rfl ?_
          obtain ⟨hg, h⟩ := j_gs h
          refine j_iald 47 dX8_readForms_46 rfl (ly4_4 hL hsb3).2 (j_inv hg) ?_
          refine j_iload_n 48 dX8_readForms_47 rfl rfl 2 rfl ?_
          refine j_ishr 49 dX8_readForms_48 rfl ?_
          refine j_iconst (v := (1 : Int32)) 50 dX8_readForms_49 rfl (by decide) ?_
          refine j_iand 51 dX8_readForms_50 rfl ?_
          refine j_if_eq 60 54 dX8_readForms_51 (by decide) rfl (fun hc => ?_) (fun hc => ?_)
          · replace h := j_pos hc h
            refine j_aload_n 61 dX8_readForms_60 rfl rfl 0 rfl ?_
            rcases j_os h with ⟨hb, h⟩ | ⟨b4, hb, h⟩
            · refine j_getDn 64 dX8_readForms_61 rfl (sh_12 hL) cl8 (k := 9) (by decide) flX8_19 rfl hb ?_
              cases h
            obtain ⟨hsb4, h⟩ := j_gs h
            replace hsb4 := of_decide_eq_true hsb4
            refine j_getD 64 dX8_readForms_61 rfl (sh_12 hL) cl8 (k := 9) (by decide) flX8_19 rfl hb ?_
            refine j_getGN 67 dX8_readForms_64 rfl hsb4 cl4 (k := 4) (by decide) flX8_133 rfl (ly4_4 hL hsb4).1 ?_
            refine j_iload_n 68 dX8_readForms_67 rfl rfl 1 rfl ?_
            refine j_dup2_11 69 dX8_readForms_68 rfl rfl rfl ?_
            obtain ⟨hg, h⟩ := j_gs h
            refine j_iald 70 dX8_readForms_69 rfl (ly4_4 hL hsb4).2 (j_inv hg) ?_
            refine j_iconst (v := (1 : Int32)) 71 dX8_readForms_70 rfl (by decide) ?_
            refine j_iload_n 72 dX8_readForms_71 rfl rfl 2 rfl ?_
            refine j_ishl 73 dX8_readForms_72 rfl ?_
            refine j_ior 74 dX8_readForms_73 rfl ?_
            obtain ⟨hg, h⟩ := j_gs h
            refine j_iast 75 dX8_readForms_74 rfl (ly4_4 hL hsb4).2 (j_inv hg) ?_
            refine j_aload_n 76 dX8_readForms_75 rfl rfl 0 rfl ?_
            obtain ⟨q5, hq5, h⟩ := j_bs h
            refine j_callV (rest := []) (As := []) 79 dX8_readForms_76 rfl jyX8_next (tcX8_next hL  hq5) (sh_12 hL) cl8 flX8_41 wm732 wm0 (by decide) rfl rfl (Nat.le_of_ble_eq_true rfl) ?_
            refine j_aload_n 80 dX8_readForms_79 rfl rfl 0 rfl ?_
            refine j_getI 83 dX8_readForms_80 rfl (sh_12 hL) cl8 (k := 4) (by decide) flX8_44 rfl ?_
            refine j_bipush (v := (6 : Int32)) 85 dX8_readForms_83 rfl (by decide) ?_
            refine j_isub 86 dX8_readForms_85 rfl ?_
            refine j_istore_n (lv' := [(2, .int ((q5 12 4) - (6 : Int32))), (0, .ref (E.1 + 12)), (1, .int l1), (3, .int l3)]) 87 dX8_readForms_86 rfl rfl (by decide) rfl ?_
            refine j_iinc (v := (l3 + (1 : Int32))) (lv' := [(3, .int (l3 + (1 : Int32))), (2, .int ((q5 12 4) - (6 : Int32))), (0, .ref (E.1 + 12)), (1, .int l1)]) (q := 3) 90 dX8_readForms_87 rfl rfl rfl (by decide) rfl ?_
            refine j_goto 24 dX8_readForms_90 (by decide) ?_
            refine j_sub [2, 3, 1, 0] rfl ?_
            exact ih _ _ _ _ _  h
          · replace h := j_neg hc h
            refine j_aload_n 55 dX8_readForms_54 rfl rfl 0 rfl ?_
            refine j_iconst (v := (3 : Int32)) 56 dX8_readForms_55 rfl (by decide) ?_
            obtain ⟨q6, hq6, h⟩ := j_bs h
            refine j_callV (rest := []) (As := [.int (3 : Int32)]) 59 dX8_readForms_56 rfl jyX8_wrong (tcX8_wrong hL  hq6) (sh_12 hL) cl8 flX8_50 wm798 wm4 (by decide) rfl rfl (Nat.le_of_ble_eq_true rfl) ?_
            cases h
            exact j_vret dX8_readForms_59 rfl
def fX8_readForms (l1 : Int32) (I : JI) (D : JG) (S : JS) : Option (JI) :=
  if ((I 12 4) - (6 : Int32)) < 0 then ((fX8_wrong (1 : Int32) I).bind (fun q1 => fX8_readForms_24 100000 l1 ((I 12 4) - (6 : Int32)) (0 : Int32) q1 D S)) else (if ((I 12 4) - (6 : Int32)) < (3 : Int32) then (fX8_readForms_24 100000 l1 ((I 12 4) - (6 : Int32)) (0 : Int32) I D S) else ((fX8_wrong (1 : Int32) I).bind (fun q2 => fX8_readForms_24 100000 l1 ((I 12 4) - (6 : Int32)) (0 : Int32) q2 D S)))
set_option maxHeartbeats 4000000 in
set_option maxRecDepth 100000 in
theorem tcX8_readForms {E : JE} {l1 : Int32} {r : JI} {I : JI} {L : JL} {G D : JG} {S : JS} (hL : Lay G S) (h : fX8_readForms l1 I D S = some r) : CallJ E xX8_readForms 11 [.ref (E.1 + 12), .int l1] I L G D S none r L G D S := by
  unfold fX8_readForms at h
  refine j_entry (by decide) (Nat.le_of_ble_eq_true rfl) ?_
  show AtJ E xX8_readForms (Zr E none r L G D S) ((S).length, jm_sl S) 11 0 [(0, .ref (E.1 + 12)), (1, .int l1)] [] I L G D S
  refine j_aload_n 1 dX8_readForms_0 rfl rfl 0 rfl ?_
  refine j_getI 4 dX8_readForms_1 rfl (sh_12 hL) cl8 (k := 4) (by decide) flX8_44 rfl ?_
  refine j_bipush (v := (6 : Int32)) 6 dX8_readForms_4 rfl (by decide) ?_
  refine j_isub 7 dX8_readForms_6 rfl ?_
  refine j_istore_n (lv' := [(2, .int ((I 12 4) - (6 : Int32))), (0, .ref (E.1 + 12)), (1, .int l1)]) 8 dX8_readForms_7 rfl rfl (by decide) rfl ?_
  refine j_iload_n 9 dX8_readForms_8 rfl rfl 0 rfl ?_
  refine j_if_lt 17 12 dX8_readForms_9 (by decide) rfl (fun hc => ?_) (fun hc => ?_)
  · replace h := j_pos hc h
    refine j_aload_n 18 dX8_readForms_17 rfl rfl 1 rfl ?_
    refine j_iconst (v := (1 : Int32)) 19 dX8_readForms_18 rfl (by decide) ?_
    obtain ⟨q1, hq1, h⟩ := j_bs h
    refine j_callV (rest := []) (As := [.int (1 : Int32)]) 22 dX8_readForms_19 rfl jyX8_wrong (tcX8_wrong hL  hq1) (sh_12 hL) cl8 flX8_50 wm798 wm4 (by decide) rfl rfl (Nat.le_of_ble_eq_true rfl) ?_
    refine j_iconst (v := (0 : Int32)) 23 dX8_readForms_22 rfl (by decide) ?_
    refine j_istore_n (lv' := [(3, .int (0 : Int32)), (2, .int ((I 12 4) - (6 : Int32))), (0, .ref (E.1 + 12)), (1, .int l1)]) 24 dX8_readForms_23 rfl rfl (by decide) rfl ?_
    refine j_sub [2, 3, 1, 0] rfl ?_
    exact kX8_readForms_24 hL    100000 _ _ _ _ _  h
  · replace h := j_neg hc h
    refine j_iload_n 13 dX8_readForms_12 rfl rfl 0 rfl ?_
    refine j_iconst (v := (3 : Int32)) 14 dX8_readForms_13 rfl (by decide) ?_
    refine j_icmp_lt 22 17 dX8_readForms_14 (by decide) rfl (fun hc => ?_) (fun hc => ?_)
    · replace h := j_pos hc h
      refine j_iconst (v := (0 : Int32)) 23 dX8_readForms_22 rfl (by decide) ?_
      refine j_istore_n (lv' := [(3, .int (0 : Int32)), (2, .int ((I 12 4) - (6 : Int32))), (0, .ref (E.1 + 12)), (1, .int l1)]) 24 dX8_readForms_23 rfl rfl (by decide) rfl ?_
      refine j_sub [2, 3, 1, 0] rfl ?_
      exact kX8_readForms_24 hL    100000 _ _ _ _ _  h
    · replace h := j_neg hc h
      refine j_aload_n 18 dX8_readForms_17 rfl rfl 1 rfl ?_
      refine j_iconst (v := (1 : Int32)) 19 dX8_readForms_18 rfl (by decide) ?_
      obtain ⟨q2, hq2, h⟩ := j_bs h
      refine j_callV (rest := []) (As := [.int (1 : Int32)]) 22 dX8_readForms_19 rfl jyX8_wrong (tcX8_wrong hL  hq2) (sh_12 hL) cl8 flX8_50 wm798 wm4 (by decide) rfl rfl (Nat.le_of_ble_eq_true rfl) ?_
      refine j_iconst (v := (0 : Int32)) 23 dX8_readForms_22 rfl (by decide) ?_
      refine j_istore_n (lv' := [(3, .int (0 : Int32)), (2, .int ((I 12 4) - (6 : Int32))), (0, .ref (E.1 + 12)), (1, .int l1)]) 24 dX8_readForms_23 rfl rfl (by decide) rfl ?_
      refine j_sub [2, 3, 1, 0] rfl ?_
      exact kX8_readForms_24 hL    100000 _ _ _ _ _  h
def fX8_readWithin_25 (l1 : Int32) (I : JI) (D : JG) (S : JS) : Option (JI) :=
  j_opt (D 12 9) (none) (fun b2 => j_g (decide (S[b2]? = some (4, 17))) (j_g (j_in l1 18) ((fX8_want (32 : Int32) (j_up I (b2 + 6) l1.toNatClampNeg (I 12 5))).bind (fun q3 => some (q3)))))
set_option maxHeartbeats 4000000 in
set_option maxRecDepth 100000 in
theorem kX8_readWithin_25 {E : JE} {r : JI} {L : JL} {G : JG} {S : JS} (hL : Lay G S) : ∀ (l1 : Int32) (I : JI) (D : JG), fX8_readWithin_25 l1 I D S = some r → AtJ E xX8_readWithin (Zr E none r L G D S) ((S).length, jm_sl S) 12 25 [(0, .ref (E.1 + 12)), (1, .int l1)] [] I L G D S := by
  intro l1 I D  h
  unfold fX8_readWithin_25 at h
  refine j_aload_n 26 dX8_readWithin_25 rfl rfl 0 rfl ?_
  rcases j_os h with ⟨hb, h⟩ | ⟨b2, hb, h⟩
  · refine j_getDn 29 dX8_readWithin_26 rfl (sh_12 hL) cl8 (k := 9) (by decide) flX8_19 rfl hb ?_
    cases h
  obtain ⟨hsb2, h⟩ := j_gs h
  replace hsb2 := of_decide_eq_true hsb2
  refine j_getD 29 dX8_readWithin_26 rfl (sh_12 hL) cl8 (k := 9) (by decide) flX8_19 rfl hb ?_
  refine j_getGN 32 dX8_readWithin_29 rfl hsb2 cl4 (k := 5) (by decide) flX8_136 rfl (ly4_5 hL hsb2).1 ?_
  refine j_iload_n 33 dX8_readWithin_32 rfl rfl 1 rfl ?_
  refine j_aload_n 34 dX8_readWithin_33 rfl rfl 0 rfl ?_
  refine j_getI 37 dX8_readWithin_34 rfl (sh_12 hL) cl8 (k := 5) (by decide) flX8_94 rfl ?_
  obtain ⟨hg, h⟩ := j_gs h
  refine j_iast 38 dX8_readWithin_37 rfl (ly4_5 hL hsb2).2 (j_inv hg) ?_
  refine j_aload_n 39 dX8_readWithin_38 rfl rfl 0 rfl ?_
  refine j_bipush (v := (32 : Int32)) 41 dX8_readWithin_39 rfl (by decide) ?_
  obtain ⟨q3, hq3, h⟩ := j_bs h
  refine j_callV (rest := []) (As := [.int (32 : Int32)]) 44 dX8_readWithin_41 rfl jyX8_want (tcX8_want hL  hq3) (sh_12 hL) cl8 flX8_100 wm817 wm7 (by decide) rfl rfl (Nat.le_of_ble_eq_true rfl) ?_
  cases h
  exact j_vret dX8_readWithin_44 rfl
def fX8_readWithin (l1 : Int32) (I : JI) (D : JG) (S : JS) : Option (JI) :=
  if (I 12 4) = (32 : Int32) then (if (I 12 5) ≤ (999 : Int32) then (fX8_readWithin_25 l1 I D S) else ((fX8_wrong (4 : Int32) I).bind (fun q1 => some (q1)))) else (fX8_readWithin_25 l1 I D S)
set_option maxHeartbeats 4000000 in
set_option maxRecDepth 100000 in
theorem tcX8_readWithin {E : JE} {l1 : Int32} {r : JI} {I : JI} {L : JL} {G D : JG} {S : JS} (hL : Lay G S) (h : fX8_readWithin l1 I D S = some r) : CallJ E xX8_readWithin 12 [.ref (E.1 + 12), .int l1] I L G D S none r L G D S := by
  unfold fX8_readWithin at h
  refine j_entry (by decide) (Nat.le_of_ble_eq_true rfl) ?_
  show AtJ E xX8_readWithin (Zr E none r L G D S) ((S).length, jm_sl S) 12 0 [(0, .ref (E.1 + 12)), (1, .int l1)] [] I L G D S
  refine j_aload_n 1 dX8_readWithin_0 rfl rfl 0 rfl ?_
  refine j_getI 4 dX8_readWithin_1 rfl (sh_12 hL) cl8 (k := 4) (by decide) flX8_44 rfl ?_
  refine j_bipush (v := (32 : Int32)) 6 dX8_readWithin_4 rfl (by decide) ?_
  refine j_icmp_ne 25 9 dX8_readWithin_6 (by decide) rfl (fun hc => ?_) (fun hc => ?_)
  · replace h := j_neg hc h
    exact kX8_readWithin_25 hL    _ _ _  h
  · replace h := j_pos hc h
    refine j_aload_n 10 dX8_readWithin_9 rfl rfl 0 rfl ?_
    refine j_getI 13 dX8_readWithin_10 rfl (sh_12 hL) cl8 (k := 5) (by decide) flX8_94 rfl ?_
    refine j_sipush (v := (999 : Int32)) 16 dX8_readWithin_13 rfl (by decide) ?_
    refine j_icmp_le 25 19 dX8_readWithin_16 (by decide) rfl (fun hc => ?_) (fun hc => ?_)
    · replace h := j_pos hc h
      exact kX8_readWithin_25 hL    _ _ _  h
    · replace h := j_neg hc h
      refine j_aload_n 20 dX8_readWithin_19 rfl rfl 0 rfl ?_
      refine j_iconst (v := (4 : Int32)) 21 dX8_readWithin_20 rfl (by decide) ?_
      obtain ⟨q1, hq1, h⟩ := j_bs h
      refine j_callV (rest := []) (As := [.int (4 : Int32)]) 24 dX8_readWithin_21 rfl jyX8_wrong (tcX8_wrong hL  hq1) (sh_12 hL) cl8 flX8_50 wm798 wm4 (by decide) rfl rfl (Nat.le_of_ble_eq_true rfl) ?_
      cases h
      exact j_vret dX8_readWithin_24 rfl
def fX8_readPiece_54 (rc : Int32 → Int32 → Int32 → JI → JG → JS → Option (JI)) (l1 : Int32) (l2 : Int32) (I : JI) (D : JG) (S : JS) : Option (JI) :=
  if l1 < (5 : Int32) then (if l2 = 0 then (if (I 12 4) = (30 : Int32) then ((fX8_next I).bind (fun q5 => (rc (1 : Int32) (l1 + (1 : Int32)) (0 : Int32) q5 D S).bind (fun q6 => j_opt (D 12 9) (none) (fun b7 => j_g (decide (S[b7]? = some (4, 17))) ((fX4_addCode b7 (20030 : Int32) q6).bind (fun q8 => some (q8))))))) else ((fX8_next I).bind (fun q2 => (rc (0 : Int32) (0 : Int32) (l1 + (1 : Int32)) q2 D S).bind (fun q3 => (fX8_want (41 : Int32) q3).bind (fun q4 => some (q4)))))) else (j_opt (D 12 9) (if (I 12 4) = (32 : Int32) then (none) else (none)) (fun b9 => j_g (decide (S[b9]? = some (4, 17))) (if (I 12 4) = (32 : Int32) then ((fX4_addCode b9 (I 12 5) I).bind (fun q12 => (fX8_next q12).bind (fun q13 => some (q13)))) else ((fX4_addCode b9 ((10000 : Int32) + (I 12 4)) I).bind (fun q10 => (fX8_next q10).bind (fun q11 => some (q11)))))))) else ((fX8_wrong (5 : Int32) I).bind (fun q14 => some (q14)))
set_option maxHeartbeats 4000000 in
set_option maxRecDepth 100000 in
theorem kX8_readPiece_54 {E : JE} {dz : Nat} {rc : Int32 → Int32 → Int32 → JI → JG → JS → Option (JI)} {r : JI} {L : JL} {G : JG} {S : JS} (hL : Lay G S) (hz : 20 ≤ dz) (Hrc0 : ∀ (a b : Int32) (I : JI) (D : JG) (r' : JI), rc 0 a b I D S = some r' → CallJ E xX8_readLevel dz [.ref (E.1 + 12), .int a, .int b] I L G D S none r' L G D S) (Hrc1 : ∀ (a b : Int32) (I : JI) (D : JG) (r' : JI), rc 1 a b I D S = some r' → CallJ E xX8_readPiece dz [.ref (E.1 + 12), .int a] I L G D S none r' L G D S) : ∀ (l1 : Int32) (l2 : Int32) (I : JI) (D : JG), fX8_readPiece_54 rc l1 l2 I D S = some r → AtJ E xX8_readPiece (Zr E none r L G D S) ((S).length, jm_sl S) (dz + 1) 54 [(0, .ref (E.1 + 12)), (1, .int l1), (2, .int l2)] [] I L G D S := by
  intro l1 l2 I D  h
  unfold fX8_readPiece_54 at h
  refine j_iload_n 55 dX8_readPiece_54 rfl rfl 1 rfl ?_
  refine j_iconst (v := (5 : Int32)) 56 dX8_readPiece_55 rfl (by decide) ?_
  refine j_icmp_lt 67 59 dX8_readPiece_56 (by decide) rfl (fun hc => ?_) (fun hc => ?_)
  · replace h := j_pos hc h
    refine j_iload_n 68 dX8_readPiece_67 rfl rfl 2 rfl ?_
    refine j_if_eq 109 71 dX8_readPiece_68 (by decide) rfl (fun hc => ?_) (fun hc => ?_)
    · replace h := j_pos hc h
      refine j_aload_n 110 dX8_readPiece_109 rfl rfl 0 rfl ?_
      refine j_getI 113 dX8_readPiece_110 rfl (sh_12 hL) cl8 (k := 4) (by decide) flX8_44 rfl ?_
      refine j_bipush (v := (30 : Int32)) 115 dX8_readPiece_113 rfl (by decide) ?_
      refine j_icmp_ne 142 118 dX8_readPiece_115 (by decide) rfl (fun hc => ?_) (fun hc => ?_)
      · replace h := j_neg hc h
        refine j_aload_n 143 dX8_readPiece_142 rfl rfl 0 rfl ?_
        obtain ⟨q2, hq2, h⟩ := j_bs h
        refine j_callV (rest := []) (As := []) 146 dX8_readPiece_143 rfl jyX8_next (tcX8_next hL  hq2) (sh_12 hL) cl8 flX8_41 wm732 wm0 (by omega) rfl rfl (Nat.le_of_ble_eq_true rfl) ?_
        refine j_aload_n 147 dX8_readPiece_146 rfl rfl 0 rfl ?_
        refine j_iconst (v := (0 : Int32)) 148 dX8_readPiece_147 rfl (by decide) ?_
        refine j_iload_n 149 dX8_readPiece_148 rfl rfl 1 rfl ?_
        refine j_iconst (v := (1 : Int32)) 150 dX8_readPiece_149 rfl (by decide) ?_
        refine j_iadd 151 dX8_readPiece_150 rfl ?_
        obtain ⟨q3, hq3, h⟩ := j_bs h
        refine j_callV (rest := []) (As := [.int (0 : Int32), .int (l1 + (1 : Int32))]) 154 dX8_readPiece_151 rfl jyX8_readLevel (Hrc0 _ _ _ _ _ hq3) (sh_12 hL) cl8 flX8_122 wm829 wm10 (by omega) rfl rfl (Nat.le_of_ble_eq_true rfl) ?_
        refine j_aload_n 155 dX8_readPiece_154 rfl rfl 0 rfl ?_
        refine j_bipush (v := (41 : Int32)) 157 dX8_readPiece_155 rfl (by decide) ?_
        obtain ⟨q4, hq4, h⟩ := j_bs h
        refine j_callV (rest := []) (As := [.int (41 : Int32)]) 160 dX8_readPiece_157 rfl jyX8_want (tcX8_want hL  hq4) (sh_12 hL) cl8 flX8_100 wm817 wm7 (by omega) rfl rfl (Nat.le_of_ble_eq_true rfl) ?_
        cases h
        exact j_vret dX8_readPiece_160 rfl
      · replace h := j_pos hc h
        refine j_aload_n 119 dX8_readPiece_118 rfl rfl 0 rfl ?_
        obtain ⟨q5, hq5, h⟩ := j_bs h
        refine j_callV (rest := []) (As := []) 122 dX8_readPiece_119 rfl jyX8_next (tcX8_next hL  hq5) (sh_12 hL) cl8 flX8_41 wm732 wm0 (by omega) rfl rfl (Nat.le_of_ble_eq_true rfl) ?_
        refine j_aload_n 123 dX8_readPiece_122 rfl rfl 0 rfl ?_
        refine j_iload_n 124 dX8_readPiece_123 rfl rfl 1 rfl ?_
        refine j_iconst (v := (1 : Int32)) 125 dX8_readPiece_124 rfl (by decide) ?_
        refine j_iadd 126 dX8_readPiece_125 rfl ?_
        obtain ⟨q6, hq6, h⟩ := j_bs h
        refine j_callV (rest := []) (As := [.int (l1 + (1 : Int32))]) 129 dX8_readPiece_126 rfl jyX8_readPiece (Hrc1 _ _ _ _ _ hq6) (sh_12 hL) cl8 flX8_139 wm833 wm11 (by omega) rfl rfl (Nat.le_of_ble_eq_true rfl) ?_
        refine j_aload_n 130 dX8_readPiece_129 rfl rfl 0 rfl ?_
        rcases j_os h with ⟨hb, h⟩ | ⟨b7, hb, h⟩
        · refine j_getDn 133 dX8_readPiece_130 rfl (sh_12 hL) cl8 (k := 9) (by decide) flX8_19 rfl hb ?_
          refine j_sipush (v := (20030 : Int32)) 136 dX8_readPiece_133 rfl (by decide) ?_
          cases h
        obtain ⟨hsb7, h⟩ := j_gs h
        replace hsb7 := of_decide_eq_true hsb7
        refine j_getD 133 dX8_readPiece_130 rfl (sh_12 hL) cl8 (k := 9) (by decide) flX8_19 rfl hb ?_
        refine j_sipush (v := (20030 : Int32)) 136 dX8_readPiece_133 rfl (by decide) ?_
        obtain ⟨q8, hq8, h⟩ := j_bs h
        refine j_callV (rest := []) (As := [.int (20030 : Int32)]) 139 dX8_readPiece_136 rfl jyX4_addCode (tcX4_addCode hL hsb7 hq8) hsb7 cl4 flX8_146 wm836 wm837 (by omega) rfl rfl (Nat.le_of_ble_eq_true rfl) ?_
        refine j_goto 160 dX8_readPiece_139 (by decide) ?_
        cases h
        exact j_vret dX8_readPiece_160 rfl
    · replace h := j_neg hc h
      refine j_aload_n 72 dX8_readPiece_71 rfl rfl 0 rfl ?_
      rcases j_os h with ⟨hb, h⟩ | ⟨b9, hb, h⟩
      · refine j_getDn 75 dX8_readPiece_72 rfl (sh_12 hL) cl8 (k := 9) (by decide) flX8_19 rfl hb ?_
        refine j_aload_n 76 dX8_readPiece_75 rfl rfl 0 rfl ?_
        refine j_getI 79 dX8_readPiece_76 rfl (sh_12 hL) cl8 (k := 4) (by decide) flX8_44 rfl ?_
        refine j_bipush (v := (32 : Int32)) 81 dX8_readPiece_79 rfl (by decide) ?_
        refine j_icmp_ne 91 84 dX8_readPiece_81 (by decide) rfl (fun hc => ?_) (fun hc => ?_)
        · replace h := j_neg hc h
          refine j_sipush (v := (10000 : Int32)) 94 dX8_readPiece_91 rfl (by decide) ?_
          refine j_aload_n 95 dX8_readPiece_94 rfl rfl 0 rfl ?_
          refine j_getI 98 dX8_readPiece_95 rfl (sh_12 hL) cl8 (k := 4) (by decide) flX8_44 rfl ?_
          refine j_iadd 99 dX8_readPiece_98 rfl ?_
          cases h
        · replace h := j_pos hc h
          refine j_aload_n 85 dX8_readPiece_84 rfl rfl 0 rfl ?_
          refine j_getI 88 dX8_readPiece_85 rfl (sh_12 hL) cl8 (k := 5) (by decide) flX8_94 rfl ?_
          refine j_goto 99 dX8_readPiece_88 (by decide) ?_
          cases h
      obtain ⟨hsb9, h⟩ := j_gs h
      replace hsb9 := of_decide_eq_true hsb9
      refine j_getD 75 dX8_readPiece_72 rfl (sh_12 hL) cl8 (k := 9) (by decide) flX8_19 rfl hb ?_
      refine j_aload_n 76 dX8_readPiece_75 rfl rfl 0 rfl ?_
      refine j_getI 79 dX8_readPiece_76 rfl (sh_12 hL) cl8 (k := 4) (by decide) flX8_44 rfl ?_
      refine j_bipush (v := (32 : Int32)) 81 dX8_readPiece_79 rfl (by decide) ?_
      refine j_icmp_ne 91 84 dX8_readPiece_81 (by decide) rfl (fun hc => ?_) (fun hc => ?_)
      · replace h := j_neg hc h
        refine j_sipush (v := (10000 : Int32)) 94 dX8_readPiece_91 rfl (by decide) ?_
        refine j_aload_n 95 dX8_readPiece_94 rfl rfl 0 rfl ?_
        refine j_getI 98 dX8_readPiece_95 rfl (sh_12 hL) cl8 (k := 4) (by decide) flX8_44 rfl ?_
        refine j_iadd 99 dX8_readPiece_98 rfl ?_
        obtain ⟨q10, hq10, h⟩ := j_bs h
        refine j_callV (rest := []) (As := [.int ((10000 : Int32) + (I 12 4))]) 102 dX8_readPiece_99 rfl jyX4_addCode (tcX4_addCode hL hsb9 hq10) hsb9 cl4 flX8_146 wm836 wm837 (by omega) rfl rfl (Nat.le_of_ble_eq_true rfl) ?_
        refine j_aload_n 103 dX8_readPiece_102 rfl rfl 0 rfl ?_
        obtain ⟨q11, hq11, h⟩ := j_bs h
        refine j_callV (rest := []) (As := []) 106 dX8_readPiece_103 rfl jyX8_next (tcX8_next hL  hq11) (sh_12 hL) cl8 flX8_41 wm732 wm0 (by omega) rfl rfl (Nat.le_of_ble_eq_true rfl) ?_
        refine j_goto 160 dX8_readPiece_106 (by decide) ?_
        cases h
        exact j_vret dX8_readPiece_160 rfl
      · replace h := j_pos hc h
        refine j_aload_n 85 dX8_readPiece_84 rfl rfl 0 rfl ?_
        refine j_getI 88 dX8_readPiece_85 rfl (sh_12 hL) cl8 (k := 5) (by decide) flX8_94 rfl ?_
        refine j_goto 99 dX8_readPiece_88 (by decide) ?_
        obtain ⟨q12, hq12, h⟩ := j_bs h
        refine j_callV (rest := []) (As := [.int (I 12 5)]) 102 dX8_readPiece_99 rfl jyX4_addCode (tcX4_addCode hL hsb9 hq12) hsb9 cl4 flX8_146 wm836 wm837 (by omega) rfl rfl (Nat.le_of_ble_eq_true rfl) ?_
        refine j_aload_n 103 dX8_readPiece_102 rfl rfl 0 rfl ?_
        obtain ⟨q13, hq13, h⟩ := j_bs h
        refine j_callV (rest := []) (As := []) 106 dX8_readPiece_103 rfl jyX8_next (tcX8_next hL  hq13) (sh_12 hL) cl8 flX8_41 wm732 wm0 (by omega) rfl rfl (Nat.le_of_ble_eq_true rfl) ?_
        refine j_goto 160 dX8_readPiece_106 (by decide) ?_
        cases h
        exact j_vret dX8_readPiece_160 rfl
  · replace h := j_neg hc h
    refine j_aload_n 60 dX8_readPiece_59 rfl rfl 0 rfl ?_
    refine j_iconst (v := (5 : Int32)) 61 dX8_readPiece_60 rfl (by decide) ?_
    obtain ⟨q14, hq14, h⟩ := j_bs h
    refine j_callV (rest := []) (As := [.int (5 : Int32)]) 64 dX8_readPiece_61 rfl jyX8_wrong (tcX8_wrong hL  hq14) (sh_12 hL) cl8 flX8_50 wm798 wm4 (by omega) rfl rfl (Nat.le_of_ble_eq_true rfl) ?_
    refine j_goto 160 dX8_readPiece_64 (by decide) ?_
    cases h
    exact j_vret dX8_readPiece_160 rfl
def fX8_readPiece_23 (rc : Int32 → Int32 → Int32 → JI → JG → JS → Option (JI)) (l1 : Int32) (s0 : Int32) (I : JI) (D : JG) (S : JS) : Option (JI) :=
  if s0 = 0 then (if (I 12 4) = (30 : Int32) then (fX8_readPiece_54 rc l1 s0 I D S) else (if (I 12 4) = (40 : Int32) then (fX8_readPiece_54 rc l1 s0 I D S) else ((fX8_wrong (1 : Int32) I).bind (fun q1 => some (q1))))) else (fX8_readPiece_54 rc l1 s0 I D S)
set_option maxHeartbeats 4000000 in
set_option maxRecDepth 100000 in
theorem kX8_readPiece_23 {E : JE} {dz : Nat} {rc : Int32 → Int32 → Int32 → JI → JG → JS → Option (JI)} {r : JI} {L : JL} {G : JG} {S : JS} (hL : Lay G S) (hz : 20 ≤ dz) (Hrc0 : ∀ (a b : Int32) (I : JI) (D : JG) (r' : JI), rc 0 a b I D S = some r' → CallJ E xX8_readLevel dz [.ref (E.1 + 12), .int a, .int b] I L G D S none r' L G D S) (Hrc1 : ∀ (a b : Int32) (I : JI) (D : JG) (r' : JI), rc 1 a b I D S = some r' → CallJ E xX8_readPiece dz [.ref (E.1 + 12), .int a] I L G D S none r' L G D S) : ∀ (l1 : Int32) (s0 : Int32) (I : JI) (D : JG), fX8_readPiece_23 rc l1 s0 I D S = some r → AtJ E xX8_readPiece (Zr E none r L G D S) ((S).length, jm_sl S) (dz + 1) 23 [(0, .ref (E.1 + 12)), (1, .int l1)] [.int s0] I L G D S := by
  intro l1 s0 I D  h
  unfold fX8_readPiece_23 at h
  refine j_istore_n (lv' := [(2, .int s0), (0, .ref (E.1 + 12)), (1, .int l1)]) 24 dX8_readPiece_23 rfl rfl (by decide) rfl ?_
  refine j_iload_n 25 dX8_readPiece_24 rfl rfl 0 rfl ?_
  refine j_if_ne 54 28 dX8_readPiece_25 (by decide) rfl (fun hc => ?_) (fun hc => ?_)
  · replace h := j_neg hc h
    refine j_sub [1, 2, 0] rfl ?_
    exact kX8_readPiece_54 hL hz Hrc0 Hrc1   _ _ _ _  h
  · replace h := j_pos hc h
    refine j_aload_n 29 dX8_readPiece_28 rfl rfl 1 rfl ?_
    refine j_getI 32 dX8_readPiece_29 rfl (sh_12 hL) cl8 (k := 4) (by decide) flX8_44 rfl ?_
    refine j_bipush (v := (30 : Int32)) 34 dX8_readPiece_32 rfl (by decide) ?_
    refine j_icmp_eq 54 37 dX8_readPiece_34 (by decide) rfl (fun hc => ?_) (fun hc => ?_)
    · replace h := j_pos hc h
      refine j_sub [1, 2, 0] rfl ?_
      exact kX8_readPiece_54 hL hz Hrc0 Hrc1   _ _ _ _  h
    · replace h := j_neg hc h
      refine j_aload_n 38 dX8_readPiece_37 rfl rfl 1 rfl ?_
      refine j_getI 41 dX8_readPiece_38 rfl (sh_12 hL) cl8 (k := 4) (by decide) flX8_44 rfl ?_
      refine j_bipush (v := (40 : Int32)) 43 dX8_readPiece_41 rfl (by decide) ?_
      refine j_icmp_eq 54 46 dX8_readPiece_43 (by decide) rfl (fun hc => ?_) (fun hc => ?_)
      · replace h := j_pos hc h
        refine j_sub [1, 2, 0] rfl ?_
        exact kX8_readPiece_54 hL hz Hrc0 Hrc1   _ _ _ _  h
      · replace h := j_neg hc h
        refine j_aload_n 47 dX8_readPiece_46 rfl rfl 1 rfl ?_
        refine j_iconst (v := (1 : Int32)) 48 dX8_readPiece_47 rfl (by decide) ?_
        obtain ⟨q1, hq1, h⟩ := j_bs h
        refine j_callV (rest := []) (As := [.int (1 : Int32)]) 51 dX8_readPiece_48 rfl jyX8_wrong (tcX8_wrong hL  hq1) (sh_12 hL) cl8 flX8_50 wm798 wm4 (by omega) rfl rfl (Nat.le_of_ble_eq_true rfl) ?_
        refine j_goto 160 dX8_readPiece_51 (by decide) ?_
        cases h
        exact j_vret dX8_readPiece_160 rfl
def fX8_readPiece_b (rc : Int32 → Int32 → Int32 → JI → JG → JS → Option (JI)) (l1 : Int32) (I : JI) (D : JG) (S : JS) : Option (JI) :=
  if (I 12 4) = (32 : Int32) then (fX8_readPiece_23 rc l1 (1 : Int32) I D S) else (if (14 : Int32) ≤ (I 12 4) then (fX8_readPiece_23 rc l1 (0 : Int32) I D S) else (fX8_readPiece_23 rc l1 (1 : Int32) I D S))
set_option maxHeartbeats 4000000 in
set_option maxRecDepth 100000 in
theorem tcbX8_readPiece {E : JE} {dz : Nat} {rc : Int32 → Int32 → Int32 → JI → JG → JS → Option (JI)} {l1 : Int32} {r : JI} {I : JI} {L : JL} {G D : JG} {S : JS} (hL : Lay G S) (hz : 20 ≤ dz) (Hrc0 : ∀ (a b : Int32) (I : JI) (D : JG) (r' : JI), rc 0 a b I D S = some r' → CallJ E xX8_readLevel dz [.ref (E.1 + 12), .int a, .int b] I L G D S none r' L G D S) (Hrc1 : ∀ (a b : Int32) (I : JI) (D : JG) (r' : JI), rc 1 a b I D S = some r' → CallJ E xX8_readPiece dz [.ref (E.1 + 12), .int a] I L G D S none r' L G D S) (h : fX8_readPiece_b rc l1 I D S = some r) : CallJ E xX8_readPiece (dz + 1) [.ref (E.1 + 12), .int l1] I L G D S none r L G D S := by
  unfold fX8_readPiece_b at h
  refine j_entry (by decide) (Nat.le_of_ble_eq_true rfl) ?_
  show AtJ E xX8_readPiece (Zr E none r L G D S) ((S).length, jm_sl S) (dz + 1) 0 [(0, .ref (E.1 + 12)), (1, .int l1)] [] I L G D S
  refine j_aload_n 1 dX8_readPiece_0 rfl rfl 0 rfl ?_
  refine j_getI 4 dX8_readPiece_1 rfl (sh_12 hL) cl8 (k := 4) (by decide) flX8_44 rfl ?_
  refine j_bipush (v := (32 : Int32)) 6 dX8_readPiece_4 rfl (by decide) ?_
  refine j_icmp_eq 18 9 dX8_readPiece_6 (by decide) rfl (fun hc => ?_) (fun hc => ?_)
  · replace h := j_pos hc h
    refine j_iconst (v := (1 : Int32)) 19 dX8_readPiece_18 rfl (by decide) ?_
    refine j_goto 23 dX8_readPiece_19 (by decide) ?_
    exact kX8_readPiece_23 hL hz Hrc0 Hrc1   _ _ _ _  h
  · replace h := j_neg hc h
    refine j_aload_n 10 dX8_readPiece_9 rfl rfl 0 rfl ?_
    refine j_getI 13 dX8_readPiece_10 rfl (sh_12 hL) cl8 (k := 4) (by decide) flX8_44 rfl ?_
    refine j_bipush (v := (14 : Int32)) 15 dX8_readPiece_13 rfl (by decide) ?_
    refine j_icmp_ge 22 18 dX8_readPiece_15 (by decide) rfl (fun hc => ?_) (fun hc => ?_)
    · replace h := j_pos hc h
      refine j_iconst (v := (0 : Int32)) 23 dX8_readPiece_22 rfl (by decide) ?_
      exact kX8_readPiece_23 hL hz Hrc0 Hrc1   _ _ _ _  h
    · replace h := j_neg hc h
      refine j_iconst (v := (1 : Int32)) 19 dX8_readPiece_18 rfl (by decide) ?_
      refine j_goto 23 dX8_readPiece_19 (by decide) ?_
      exact kX8_readPiece_23 hL hz Hrc0 Hrc1   _ _ _ _  h
def fX8_levelOf (l0 : Int32)  : Option (Int32) :=
  if l0 = (28 : Int32) then (some ((0 : Int32))) else (if l0 = (29 : Int32) then (some ((0 : Int32))) else (if l0 = (42 : Int32) then (some ((3 : Int32))) else (if l0 = (43 : Int32) then (some ((2 : Int32))) else (if l0 = (45 : Int32) then (some ((2 : Int32))) else (if l0 = (60 : Int32) then (some ((1 : Int32))) else (if l0 = (61 : Int32) then (some ((1 : Int32))) else (some ((4 : Int32)))))))))
set_option maxHeartbeats 4000000 in
set_option maxRecDepth 100000 in
theorem tcX8_levelOf {E : JE} {l0 : Int32} {r : Int32} {I : JI} {L : JL} {G D : JG} {S : JS} (h : fX8_levelOf l0 = some r) : CallJ E xX8_levelOf 1 [.int l0] I L G D S (some (.int r)) I L G D S := by
  unfold fX8_levelOf at h
  refine j_entry (by decide) (Nat.le_of_ble_eq_true rfl) ?_
  show AtJ E xX8_levelOf (Zr E (some (.int r)) I L G D S) ((S).length, jm_sl S) 1 0 [(0, .int l0)] [] I L G D S
  refine j_iload_n 1 dX8_levelOf_0 rfl rfl 0 rfl ?_
  by_cases hc0 : l0 = (28 : Int32)
  · replace h := j_pos hc0 h
    refine j_lookup (off := 67) 68 dX8_levelOf_1 (by decide) (by decide) (by rw [hc0]; decide) ?_
    refine j_iconst (v := (0 : Int32)) 69 dX8_levelOf_68 rfl (by decide) ?_
    cases h
    exact j_iret dX8_levelOf_69 rfl
  replace h := j_neg hc0 h
  by_cases hc1 : l0 = (29 : Int32)
  · replace h := j_pos hc1 h
    refine j_lookup (off := 67) 68 dX8_levelOf_1 (by decide) (by decide) (by rw [hc1]; decide) ?_
    refine j_iconst (v := (0 : Int32)) 69 dX8_levelOf_68 rfl (by decide) ?_
    cases h
    exact j_iret dX8_levelOf_69 rfl
  replace h := j_neg hc1 h
  by_cases hc2 : l0 = (42 : Int32)
  · replace h := j_pos hc2 h
    refine j_lookup (off := 73) 74 dX8_levelOf_1 (by decide) (by decide) (by rw [hc2]; decide) ?_
    refine j_iconst (v := (3 : Int32)) 75 dX8_levelOf_74 rfl (by decide) ?_
    cases h
    exact j_iret dX8_levelOf_75 rfl
  replace h := j_neg hc2 h
  by_cases hc3 : l0 = (43 : Int32)
  · replace h := j_pos hc3 h
    refine j_lookup (off := 71) 72 dX8_levelOf_1 (by decide) (by decide) (by rw [hc3]; decide) ?_
    refine j_iconst (v := (2 : Int32)) 73 dX8_levelOf_72 rfl (by decide) ?_
    cases h
    exact j_iret dX8_levelOf_73 rfl
  replace h := j_neg hc3 h
  by_cases hc4 : l0 = (45 : Int32)
  · replace h := j_pos hc4 h
    refine j_lookup (off := 71) 72 dX8_levelOf_1 (by decide) (by decide) (by rw [hc4]; decide) ?_
    refine j_iconst (v := (2 : Int32)) 73 dX8_levelOf_72 rfl (by decide) ?_
    cases h
    exact j_iret dX8_levelOf_73 rfl
  replace h := j_neg hc4 h
  by_cases hc5 : l0 = (60 : Int32)
  · replace h := j_pos hc5 h
    refine j_lookup (off := 69) 70 dX8_levelOf_1 (by decide) (by decide) (by rw [hc5]; decide) ?_
    refine j_iconst (v := (1 : Int32)) 71 dX8_levelOf_70 rfl (by decide) ?_
    cases h
    exact j_iret dX8_levelOf_71 rfl
  replace h := j_neg hc5 h
  by_cases hc6 : l0 = (61 : Int32)
  · replace h := j_pos hc6 h
    refine j_lookup (off := 69) 70 dX8_levelOf_1 (by decide) (by decide) (by rw [hc6]; decide) ?_
    refine j_iconst (v := (1 : Int32)) 71 dX8_levelOf_70 rfl (by decide) ?_
    cases h
    exact j_iret dX8_levelOf_71 rfl
  replace h := j_neg hc6 h
  refine j_lookup (off := 75) 76 dX8_levelOf_1 (by decide) (by decide) (by have g0 := j_nei (n := 28) hc0 (by decide); have g1 := j_nei (n := 29) hc1 (by decide); have g2 := j_nei (n := 42) hc2 (by decide); have g3 := j_nei (n := 43) hc3 (by decide); have g4 := j_nei (n := 45) hc4 (by decide); have g5 := j_nei (n := 60) hc5 (by decide); have g6 := j_nei (n := 61) hc6 (by decide); generalize l0.toInt = z at g0 g1 g2 g3 g4 g5 g6 ⊢; simp [Op.lookupswitch.offset, g0, Ne.symm g0, g1, Ne.symm g1, g2, Ne.symm g2, g3, Ne.symm g3, g4, Ne.symm g4, g5, Ne.symm g5, g6, Ne.symm g6]) ?_
  refine j_iconst (v := (4 : Int32)) 77 dX8_levelOf_76 rfl (by decide) ?_
  cases h
  exact j_iret dX8_levelOf_77 rfl
def fX8_readLevel_35 (rc : Int32 → Int32 → Int32 → JI → JG → JS → Option (JI)) : Nat → Int32 → Int32 → Int32 → Int32 → JI → JG → JS → Option (JI)
  | 0, _, _, _, _, _, _, _ => none
  | n + 1, l1, l2, l3, l4, I, D, S =>
    if l3 ≤ l4 then (some (I)) else ((fX8_levelOf (I 12 4)).bind (fun q3 => if q3 = l1 then ((fX8_next I).bind (fun q4 => (rc (0 : Int32) (l1 + (1 : Int32)) l2 q4 D S).bind (fun q5 => j_opt (D 12 9) (none) (fun b6 => j_g (decide (S[b6]? = some (4, 17))) ((fX4_addCode b6 ((20000 : Int32) + (I 12 4)) q5).bind (fun q7 => (fX8_readLevel_35 rc n) l1 l2 l3 (l4 + (1 : Int32)) q7 D S)))))) else (some (I))))
set_option maxHeartbeats 4000000 in
set_option maxRecDepth 100000 in
theorem kX8_readLevel_35 {E : JE} {dz : Nat} {rc : Int32 → Int32 → Int32 → JI → JG → JS → Option (JI)} {r : JI} {L : JL} {G : JG} {S : JS} (hL : Lay G S) (hz : 20 ≤ dz) (Hrc0 : ∀ (a b : Int32) (I : JI) (D : JG) (r' : JI), rc 0 a b I D S = some r' → CallJ E xX8_readLevel dz [.ref (E.1 + 12), .int a, .int b] I L G D S none r' L G D S) (Hrc1 : ∀ (a b : Int32) (I : JI) (D : JG) (r' : JI), rc 1 a b I D S = some r' → CallJ E xX8_readPiece dz [.ref (E.1 + 12), .int a] I L G D S none r' L G D S) : ∀ (n : Nat) (l1 : Int32) (l2 : Int32) (l3 : Int32) (l4 : Int32) (I : JI) (D : JG), fX8_readLevel_35 rc n l1 l2 l3 l4 I D S = some r → AtJ E xX8_readLevel (Zr E none r L G D S) ((S).length, jm_sl S) (dz + 1) 35 [(0, .ref (E.1 + 12)), (1, .int l1), (2, .int l2), (3, .int l3), (4, .int l4)] [] I L G D S := by
  intro n
  induction n with
  | zero => intro l1 l2 l3 l4 I D  h; simp [fX8_readLevel_35] at h
  | succ n ih =>
    intro l1 l2 l3 l4 I D  h
    rw [fX8_readLevel_35] at h
    refine j_iload 37 dX8_readLevel_35 rfl 4 rfl ?_
    refine j_iload_n 38 dX8_readLevel_37 rfl rfl 3 rfl ?_
    refine j_icmp_ge 89 41 dX8_readLevel_38 (by decide) rfl (fun hc => ?_) (fun hc => ?_)
    · replace h := j_pos hc h
      cases h
      exact j_vret dX8_readLevel_89 rfl
    · replace h := j_neg hc h
      refine j_aload_n 42 dX8_readLevel_41 rfl rfl 0 rfl ?_
      refine j_getI 45 dX8_readLevel_42 rfl (sh_12 hL) cl8 (k := 4) (by decide) flX8_44 rfl ?_
      obtain ⟨q3, hq3, h⟩ := j_bs h
      refine j_callS (rest := []) (As := [.int (I 12 4)]) 48 dX8_readLevel_45 rfl jyX8_levelOf (tcX8_levelOf   hq3) flX8_142 wm840 (by omega) rfl rfl (Nat.le_of_ble_eq_true rfl) ?_
      refine j_iload_n 49 dX8_readLevel_48 rfl rfl 1 rfl ?_
      refine j_icmp_ne 89 52 dX8_readLevel_49 (by decide) rfl (fun hc => ?_) (fun hc => ?_)
      · replace h := j_neg hc h
        cases h
        exact j_vret dX8_readLevel_89 rfl
      · replace h := j_pos hc h
        refine j_aload_n 53 dX8_readLevel_52 rfl rfl 0 rfl ?_
        refine j_getI 56 dX8_readLevel_53 rfl (sh_12 hL) cl8 (k := 4) (by decide) flX8_44 rfl ?_
        refine j_istore (lv' := [(5, .int (I 12 4)), (0, .ref (E.1 + 12)), (1, .int l1), (2, .int l2), (3, .int l3), (4, .int l4)]) 58 dX8_readLevel_56 rfl (by decide) rfl ?_
        refine j_aload_n 59 dX8_readLevel_58 rfl rfl 1 rfl ?_
        obtain ⟨q4, hq4, h⟩ := j_bs h
        refine j_callV (rest := []) (As := []) 62 dX8_readLevel_59 rfl jyX8_next (tcX8_next hL  hq4) (sh_12 hL) cl8 flX8_41 wm732 wm0 (by omega) rfl rfl (Nat.le_of_ble_eq_true rfl) ?_
        refine j_aload_n 63 dX8_readLevel_62 rfl rfl 1 rfl ?_
        refine j_iload_n 64 dX8_readLevel_63 rfl rfl 2 rfl ?_
        refine j_iconst (v := (1 : Int32)) 65 dX8_readLevel_64 rfl (by decide) ?_
        refine j_iadd 66 dX8_readLevel_65 rfl ?_
        refine j_iload_n 67 dX8_readLevel_66 rfl rfl 3 rfl ?_
        obtain ⟨q5, hq5, h⟩ := j_bs h
        refine j_callV (rest := []) (As := [.int (l1 + (1 : Int32)), .int l2]) 70 dX8_readLevel_67 rfl jyX8_readLevel (Hrc0 _ _ _ _ _ hq5) (sh_12 hL) cl8 flX8_122 wm829 wm10 (by omega) rfl rfl (Nat.le_of_ble_eq_true rfl) ?_
        refine j_aload_n 71 dX8_readLevel_70 rfl rfl 1 rfl ?_
        rcases j_os h with ⟨hb, h⟩ | ⟨b6, hb, h⟩
        · refine j_getDn 74 dX8_readLevel_71 rfl (sh_12 hL) cl8 (k := 9) (by decide) flX8_19 rfl hb ?_
          refine j_sipush (v := (20000 : Int32)) 77 dX8_readLevel_74 rfl (by decide) ?_
          refine j_iload 79 dX8_readLevel_77 rfl 0 rfl ?_
          refine j_iadd 80 dX8_readLevel_79 rfl ?_
          cases h
        obtain ⟨hsb6, h⟩ := j_gs h
        replace hsb6 := of_decide_eq_true hsb6
        refine j_getD 74 dX8_readLevel_71 rfl (sh_12 hL) cl8 (k := 9) (by decide) flX8_19 rfl hb ?_
        refine j_sipush (v := (20000 : Int32)) 77 dX8_readLevel_74 rfl (by decide) ?_
        refine j_iload 79 dX8_readLevel_77 rfl 0 rfl ?_
        refine j_iadd 80 dX8_readLevel_79 rfl ?_
        obtain ⟨q7, hq7, h⟩ := j_bs h
        refine j_callV (rest := []) (As := [.int ((20000 : Int32) + (I 12 4))]) 83 dX8_readLevel_80 rfl jyX4_addCode (tcX4_addCode hL hsb6 hq7) hsb6 cl4 flX8_146 wm836 wm837 (by omega) rfl rfl (Nat.le_of_ble_eq_true rfl) ?_
        refine j_iinc (v := (l4 + (1 : Int32))) (lv' := [(4, .int (l4 + (1 : Int32))), (5, .int (I 12 4)), (0, .ref (E.1 + 12)), (1, .int l1), (2, .int l2), (3, .int l3)]) (q := 5) 86 dX8_readLevel_83 rfl rfl rfl (by decide) rfl ?_
        refine j_goto 35 dX8_readLevel_86 (by decide) ?_
        refine j_sub [2, 3, 4, 5, 0] rfl ?_
        exact ih _ _ _ _ _ _  h
def fX8_readLevel_b (rc : Int32 → Int32 → Int32 → JI → JG → JS → Option (JI)) (l1 : Int32) (l2 : Int32) (I : JI) (D : JG) (S : JS) : Option (JI) :=
  if l1 < (4 : Int32) then ((rc (0 : Int32) (l1 + (1 : Int32)) l2 I D S).bind (fun q1 => if l1 = (1 : Int32) then (fX8_readLevel_35 rc 100000 l1 l2 (1 : Int32) (0 : Int32) q1 D S) else (fX8_readLevel_35 rc 100000 l1 l2 (1000 : Int32) (0 : Int32) q1 D S))) else ((rc (1 : Int32) l2 (0 : Int32) I D S).bind (fun q2 => some (q2)))
set_option maxHeartbeats 4000000 in
set_option maxRecDepth 100000 in
theorem tcbX8_readLevel {E : JE} {dz : Nat} {rc : Int32 → Int32 → Int32 → JI → JG → JS → Option (JI)} {l1 : Int32} {l2 : Int32} {r : JI} {I : JI} {L : JL} {G D : JG} {S : JS} (hL : Lay G S) (hz : 20 ≤ dz) (Hrc0 : ∀ (a b : Int32) (I : JI) (D : JG) (r' : JI), rc 0 a b I D S = some r' → CallJ E xX8_readLevel dz [.ref (E.1 + 12), .int a, .int b] I L G D S none r' L G D S) (Hrc1 : ∀ (a b : Int32) (I : JI) (D : JG) (r' : JI), rc 1 a b I D S = some r' → CallJ E xX8_readPiece dz [.ref (E.1 + 12), .int a] I L G D S none r' L G D S) (h : fX8_readLevel_b rc l1 l2 I D S = some r) : CallJ E xX8_readLevel (dz + 1) [.ref (E.1 + 12), .int l1, .int l2] I L G D S none r L G D S := by
  unfold fX8_readLevel_b at h
  refine j_entry (by decide) (Nat.le_of_ble_eq_true rfl) ?_
  show AtJ E xX8_readLevel (Zr E none r L G D S) ((S).length, jm_sl S) (dz + 1) 0 [(0, .ref (E.1 + 12)), (1, .int l1), (2, .int l2)] [] I L G D S
  refine j_iload_n 1 dX8_readLevel_0 rfl rfl 1 rfl ?_
  refine j_iconst (v := (4 : Int32)) 2 dX8_readLevel_1 rfl (by decide) ?_
  refine j_icmp_lt 11 5 dX8_readLevel_2 (by decide) rfl (fun hc => ?_) (fun hc => ?_)
  · replace h := j_pos hc h
    refine j_aload_n 12 dX8_readLevel_11 rfl rfl 0 rfl ?_
    refine j_iload_n 13 dX8_readLevel_12 rfl rfl 1 rfl ?_
    refine j_iconst (v := (1 : Int32)) 14 dX8_readLevel_13 rfl (by decide) ?_
    refine j_iadd 15 dX8_readLevel_14 rfl ?_
    refine j_iload_n 16 dX8_readLevel_15 rfl rfl 2 rfl ?_
    obtain ⟨q1, hq1, h⟩ := j_bs h
    refine j_callV (rest := []) (As := [.int (l1 + (1 : Int32)), .int l2]) 19 dX8_readLevel_16 rfl jyX8_readLevel (Hrc0 _ _ _ _ _ hq1) (sh_12 hL) cl8 flX8_122 wm829 wm10 (by omega) rfl rfl (Nat.le_of_ble_eq_true rfl) ?_
    refine j_iload_n 20 dX8_readLevel_19 rfl rfl 1 rfl ?_
    refine j_iconst (v := (1 : Int32)) 21 dX8_readLevel_20 rfl (by decide) ?_
    refine j_icmp_ne 28 24 dX8_readLevel_21 (by decide) rfl (fun hc => ?_) (fun hc => ?_)
    · replace h := j_neg hc h
      refine j_sipush (v := (1000 : Int32)) 31 dX8_readLevel_28 rfl (by decide) ?_
      refine j_istore_n (lv' := [(3, .int (1000 : Int32)), (0, .ref (E.1 + 12)), (1, .int l1), (2, .int l2)]) 32 dX8_readLevel_31 rfl rfl (by decide) rfl ?_
      refine j_iconst (v := (0 : Int32)) 33 dX8_readLevel_32 rfl (by decide) ?_
      refine j_istore (lv' := [(4, .int (0 : Int32)), (3, .int (1000 : Int32)), (0, .ref (E.1 + 12)), (1, .int l1), (2, .int l2)]) 35 dX8_readLevel_33 rfl (by decide) rfl ?_
      refine j_sub [2, 3, 4, 1, 0] rfl ?_
      exact kX8_readLevel_35 hL hz Hrc0 Hrc1   100000 _ _ _ _ _ _  h
    · replace h := j_pos hc h
      refine j_iconst (v := (1 : Int32)) 25 dX8_readLevel_24 rfl (by decide) ?_
      refine j_goto 31 dX8_readLevel_25 (by decide) ?_
      refine j_istore_n (lv' := [(3, .int (1 : Int32)), (0, .ref (E.1 + 12)), (1, .int l1), (2, .int l2)]) 32 dX8_readLevel_31 rfl rfl (by decide) rfl ?_
      refine j_iconst (v := (0 : Int32)) 33 dX8_readLevel_32 rfl (by decide) ?_
      refine j_istore (lv' := [(4, .int (0 : Int32)), (3, .int (1 : Int32)), (0, .ref (E.1 + 12)), (1, .int l1), (2, .int l2)]) 35 dX8_readLevel_33 rfl (by decide) rfl ?_
      refine j_sub [2, 3, 4, 1, 0] rfl ?_
      exact kX8_readLevel_35 hL hz Hrc0 Hrc1   100000 _ _ _ _ _ _  h
  · replace h := j_neg hc h
    refine j_aload_n 6 dX8_readLevel_5 rfl rfl 0 rfl ?_
    refine j_iload_n 7 dX8_readLevel_6 rfl rfl 2 rfl ?_
    obtain ⟨q2, hq2, h⟩ := j_bs h
    refine j_callV (rest := []) (As := [.int l2]) 10 dX8_readLevel_7 rfl jyX8_readPiece (Hrc1 _ _ _ _ _ hq2) (sh_12 hL) cl8 flX8_139 wm833 wm11 (by omega) rfl rfl (Nat.le_of_ble_eq_true rfl) ?_
    cases h
    exact j_vret dX8_readLevel_10 rfl
def fX8_rec : Nat → Int32 → Int32 → Int32 → JI → JG → JS → Option (JI)
  | 0, _, _, _, _, _, _ => none
  | z + 1, w, a, b, I, D, S => if w = 0 then fX8_readLevel_b (fX8_rec z) a b I D S else fX8_readPiece_b (fX8_rec z) a I D S
theorem kX8_rec {E : JE} {L : JL} {G : JG} {S : JS} (hL : Lay G S) : ∀ (z : Nat), (∀ (a b : Int32) (I : JI) (D : JG) (r : JI), fX8_rec z 0 a b I D S = some r → CallJ E xX8_readLevel (20 + z) [.ref (E.1 + 12), .int a, .int b] I L G D S none r L G D S) ∧ (∀ (a b : Int32) (I : JI) (D : JG) (r : JI), fX8_rec z 1 a b I D S = some r → CallJ E xX8_readPiece (20 + z) [.ref (E.1 + 12), .int a] I L G D S none r L G D S) := by
  intro z
  induction z with
  | zero => exact ⟨fun a b I D r h => by simp [fX8_rec] at h, fun a b I D r h => by simp [fX8_rec] at h⟩
  | succ z ih =>
    refine ⟨fun a b I D r h => ?_, fun a b I D r h => ?_⟩
    · rw [fX8_rec, if_pos rfl] at h
      exact tcbX8_readLevel hL (dz := 20 + z) (by omega) ih.1 ih.2 h
    · rw [fX8_rec, if_neg (by decide)] at h
      exact tcbX8_readPiece hL (dz := 20 + z) (by omega) ih.1 ih.2 h
def fX8_readLevel (a : Int32) (b : Int32) (I : JI) (D : JG) (S : JS) : Option (JI) := fX8_rec 100 0 a b I D S
theorem tcX8_readLevel {E : JE} {a b : Int32} {r : JI} {I : JI} {L : JL} {G D : JG} {S : JS} (hL : Lay G S) (h : fX8_readLevel a b I D S = some r) : CallJ E xX8_readLevel 120 [.ref (E.1 + 12), .int a, .int b] I L G D S none r L G D S := (kX8_rec hL 100).1 _ _ _ _ _ h
def fX8_readPiece (a : Int32) (I : JI) (D : JG) (S : JS) : Option (JI) := fX8_rec 100 1 a 0 I D S
theorem tcX8_readPiece {E : JE} {a : Int32} {r : JI} {I : JI} {L : JL} {G D : JG} {S : JS} (hL : Lay G S) (h : fX8_readPiece a I D S = some r) : CallJ E xX8_readPiece 120 [.ref (E.1 + 12), .int a] I L G D S none r L G D S := (kX8_rec hL 100).2 _ _ _ _ _ h
def fX8_readRule_95 (l3 : Int32) (I : JI) (L : JL) (D : JG) (S : JS) : Option (JI × JL) :=
  (fX8_want (24 : Int32) I).bind (fun q12 => (fX8_readLevel (0 : Int32) (0 : Int32) q12 D S).bind (fun q13 => j_opt (D 12 9) (none) (fun b14 => j_g (decide (S[b14]? = some (4, 17))) ((fX4_endCondition b14 l3 q13).bind (fun q15 => (fX8_want (59 : Int32) q15).bind (fun q16 => some (q16, L)))))))
set_option maxHeartbeats 4000000 in
set_option maxRecDepth 100000 in
theorem kX8_readRule_95 {E : JE} {r : JI × JL} {G : JG} {S : JS} (hL : Lay G S) : ∀ (l3 : Int32) (I : JI) (L : JL) (D : JG), fX8_readRule_95 l3 I L D S = some r → AtJ E xX8_readRule (Zr E none r.1 r.2 G D S) ((S).length, jm_sl S) 121 95 [(0, .ref (E.1 + 12)), (3, .int l3)] [] I L G D S := by
  intro l3 I L D  h
  unfold fX8_readRule_95 at h
  refine j_aload_n 96 dX8_readRule_95 rfl rfl 0 rfl ?_
  refine j_bipush (v := (24 : Int32)) 98 dX8_readRule_96 rfl (by decide) ?_
  obtain ⟨q12, hq12, h⟩ := j_bs h
  refine j_callV (rest := []) (As := [.int (24 : Int32)]) 101 dX8_readRule_98 rfl jyX8_want (tcX8_want hL  hq12) (sh_12 hL) cl8 flX8_100 wm817 wm7 (by decide) rfl rfl (Nat.le_of_ble_eq_true rfl) ?_
  refine j_aload_n 102 dX8_readRule_101 rfl rfl 0 rfl ?_
  refine j_iconst (v := (0 : Int32)) 103 dX8_readRule_102 rfl (by decide) ?_
  refine j_iconst (v := (0 : Int32)) 104 dX8_readRule_103 rfl (by decide) ?_
  obtain ⟨q13, hq13, h⟩ := j_bs h
  refine j_callV (rest := []) (As := [.int (0 : Int32), .int (0 : Int32)]) 107 dX8_readRule_104 rfl jyX8_readLevel (tcX8_readLevel hL  hq13) (sh_12 hL) cl8 flX8_122 wm829 wm10 (by decide) rfl rfl (Nat.le_of_ble_eq_true rfl) ?_
  refine j_aload_n 108 dX8_readRule_107 rfl rfl 0 rfl ?_
  rcases j_os h with ⟨hb, h⟩ | ⟨b14, hb, h⟩
  · refine j_getDn 111 dX8_readRule_108 rfl (sh_12 hL) cl8 (k := 9) (by decide) flX8_19 rfl hb ?_
    refine j_iload_n 112 dX8_readRule_111 rfl rfl 1 rfl ?_
    cases h
  obtain ⟨hsb14, h⟩ := j_gs h
  replace hsb14 := of_decide_eq_true hsb14
  refine j_getD 111 dX8_readRule_108 rfl (sh_12 hL) cl8 (k := 9) (by decide) flX8_19 rfl hb ?_
  refine j_iload_n 112 dX8_readRule_111 rfl rfl 1 rfl ?_
  obtain ⟨q15, hq15, h⟩ := j_bs h
  refine j_callV (rest := []) (As := [.int l3]) 115 dX8_readRule_112 rfl jyX4_endCondition (tcX4_endCondition hL hsb14 hq15) hsb14 cl4 flX8_126 wm843 wm844 (by decide) rfl rfl (Nat.le_of_ble_eq_true rfl) ?_
  refine j_aload_n 116 dX8_readRule_115 rfl rfl 0 rfl ?_
  refine j_bipush (v := (59 : Int32)) 118 dX8_readRule_116 rfl (by decide) ?_
  obtain ⟨q16, hq16, h⟩ := j_bs h
  refine j_callV (rest := []) (As := [.int (59 : Int32)]) 121 dX8_readRule_118 rfl jyX8_want (tcX8_want hL  hq16) (sh_12 hL) cl8 flX8_100 wm817 wm7 (by decide) rfl rfl (Nat.le_of_ble_eq_true rfl) ?_
  cases h
  exact j_vret dX8_readRule_121 rfl
def fX8_readRule_82 (l2 : Int32) (l3 : Int32) (I : JI) (L : JL) (D : JG) (S : JS) : Option (JI × JL) :=
  if l2 = 0 then (fX8_readRule_95 l3 I L D S) else (if (I 12 4) = (24 : Int32) then (fX8_readRule_95 l3 I L D S) else ((fX8_want (59 : Int32) I).bind (fun q11 => some (q11, L))))
set_option maxHeartbeats 4000000 in
set_option maxRecDepth 100000 in
theorem kX8_readRule_82 {E : JE} {r : JI × JL} {G : JG} {S : JS} (hL : Lay G S) : ∀ (l2 : Int32) (l3 : Int32) (I : JI) (L : JL) (D : JG), fX8_readRule_82 l2 l3 I L D S = some r → AtJ E xX8_readRule (Zr E none r.1 r.2 G D S) ((S).length, jm_sl S) 121 82 [(0, .ref (E.1 + 12)), (2, .int l2), (3, .int l3)] [] I L G D S := by
  intro l2 l3 I L D  h
  unfold fX8_readRule_82 at h
  refine j_iload_n 83 dX8_readRule_82 rfl rfl 1 rfl ?_
  refine j_if_eq 95 86 dX8_readRule_83 (by decide) rfl (fun hc => ?_) (fun hc => ?_)
  · replace h := j_pos hc h
    refine j_sub [0, 2] rfl ?_
    exact kX8_readRule_95 hL    _ _ _ _  h
  · replace h := j_neg hc h
    refine j_aload_n 87 dX8_readRule_86 rfl rfl 0 rfl ?_
    refine j_getI 90 dX8_readRule_87 rfl (sh_12 hL) cl8 (k := 4) (by decide) flX8_44 rfl ?_
    refine j_bipush (v := (24 : Int32)) 92 dX8_readRule_90 rfl (by decide) ?_
    refine j_icmp_ne 115 95 dX8_readRule_92 (by decide) rfl (fun hc => ?_) (fun hc => ?_)
    · replace h := j_neg hc h
      refine j_aload_n 116 dX8_readRule_115 rfl rfl 0 rfl ?_
      refine j_bipush (v := (59 : Int32)) 118 dX8_readRule_116 rfl (by decide) ?_
      obtain ⟨q11, hq11, h⟩ := j_bs h
      refine j_callV (rest := []) (As := [.int (59 : Int32)]) 121 dX8_readRule_118 rfl jyX8_want (tcX8_want hL  hq11) (sh_12 hL) cl8 flX8_100 wm817 wm7 (by decide) rfl rfl (Nat.le_of_ble_eq_true rfl) ?_
      cases h
      exact j_vret dX8_readRule_121 rfl
    · replace h := j_pos hc h
      refine j_sub [0, 2] rfl ?_
      exact kX8_readRule_95 hL    _ _ _ _  h
def fX8_readRule_36 (l1 : Int32) (s0 : Int32) (I : JI) (L : JL) (D : JG) (S : JS) : Option (JI × JL) :=
  j_opt (D 12 9) (none) (fun b3 => j_g (decide (S[b3]? = some (4, 17))) ((fX4_addLine b3 s0 l1 I L).bind (fun q4 => (fX8_next q4.2.1).bind (fun q5 => if s0 = 0 then (fX8_readRule_82 s0 q4.1 q5 q4.2.2 D S) else ((fX8_readWho q4.1 q5 D S).bind (fun q6 => (fX8_want (22 : Int32) q6).bind (fun q7 => (fX8_readForms q4.1 q7 D S).bind (fun q8 => (fX8_want (23 : Int32) q8).bind (fun q9 => (fX8_readWithin q4.1 q9 D S).bind (fun q10 => fX8_readRule_82 s0 q4.1 q10 q4.2.2 D S))))))))))
set_option maxHeartbeats 4000000 in
set_option maxRecDepth 100000 in
theorem kX8_readRule_36 {E : JE} {r : JI × JL} {G : JG} {S : JS} (hL : Lay G S) : ∀ (l1 : Int32) (s0 : Int32) (I : JI) (L : JL) (D : JG), fX8_readRule_36 l1 s0 I L D S = some r → AtJ E xX8_readRule (Zr E none r.1 r.2 G D S) ((S).length, jm_sl S) 121 36 [(0, .ref (E.1 + 12)), (1, .int l1)] [.int s0] I L G D S := by
  intro l1 s0 I L D  h
  unfold fX8_readRule_36 at h
  refine j_istore_n (lv' := [(2, .int s0), (0, .ref (E.1 + 12)), (1, .int l1)]) 37 dX8_readRule_36 rfl rfl (by decide) rfl ?_
  refine j_aload_n 38 dX8_readRule_37 rfl rfl 1 rfl ?_
  rcases j_os h with ⟨hb, h⟩ | ⟨b3, hb, h⟩
  · refine j_getDn 41 dX8_readRule_38 rfl (sh_12 hL) cl8 (k := 9) (by decide) flX8_19 rfl hb ?_
    refine j_iload_n 42 dX8_readRule_41 rfl rfl 0 rfl ?_
    refine j_iload_n 43 dX8_readRule_42 rfl rfl 2 rfl ?_
    cases h
  obtain ⟨hsb3, h⟩ := j_gs h
  replace hsb3 := of_decide_eq_true hsb3
  refine j_getD 41 dX8_readRule_38 rfl (sh_12 hL) cl8 (k := 9) (by decide) flX8_19 rfl hb ?_
  refine j_iload_n 42 dX8_readRule_41 rfl rfl 0 rfl ?_
  refine j_iload_n 43 dX8_readRule_42 rfl rfl 2 rfl ?_
  obtain ⟨q4, hq4, h⟩ := j_bs h
  refine j_callV (rest := []) (As := [.int s0, .int l1]) 46 dX8_readRule_43 rfl jyX4_addLine (tcX4_addLine hL hsb3 hq4) hsb3 cl4 flX8_109 wm805 wm806 (by decide) rfl rfl (Nat.le_of_ble_eq_true rfl) ?_
  refine j_istore_n (lv' := [(3, .int q4.1), (2, .int s0), (0, .ref (E.1 + 12)), (1, .int l1)]) 47 dX8_readRule_46 rfl rfl (by decide) rfl ?_
  refine j_aload_n 48 dX8_readRule_47 rfl rfl 2 rfl ?_
  obtain ⟨q5, hq5, h⟩ := j_bs h
  refine j_callV (rest := []) (As := []) 51 dX8_readRule_48 rfl jyX8_next (tcX8_next hL  hq5) (sh_12 hL) cl8 flX8_41 wm732 wm0 (by decide) rfl rfl (Nat.le_of_ble_eq_true rfl) ?_
  refine j_iload_n 52 dX8_readRule_51 rfl rfl 1 rfl ?_
  refine j_if_eq 82 55 dX8_readRule_52 (by decide) rfl (fun hc => ?_) (fun hc => ?_)
  · replace h := j_pos hc h
    refine j_sub [2, 1, 0] rfl ?_
    exact kX8_readRule_82 hL    _ _ _ _ _  h
  · replace h := j_neg hc h
    refine j_aload_n 56 dX8_readRule_55 rfl rfl 2 rfl ?_
    refine j_iload_n 57 dX8_readRule_56 rfl rfl 0 rfl ?_
    obtain ⟨q6, hq6, h⟩ := j_bs h
    refine j_callV (rest := []) (As := [.int q4.1]) 60 dX8_readRule_57 rfl jyX8_readWho (tcX8_readWho hL  hq6) (sh_12 hL) cl8 flX8_113 wm813 wm6 (by decide) rfl rfl (Nat.le_of_ble_eq_true rfl) ?_
    refine j_aload_n 61 dX8_readRule_60 rfl rfl 2 rfl ?_
    refine j_bipush (v := (22 : Int32)) 63 dX8_readRule_61 rfl (by decide) ?_
    obtain ⟨q7, hq7, h⟩ := j_bs h
    refine j_callV (rest := []) (As := [.int (22 : Int32)]) 66 dX8_readRule_63 rfl jyX8_want (tcX8_want hL  hq7) (sh_12 hL) cl8 flX8_100 wm817 wm7 (by decide) rfl rfl (Nat.le_of_ble_eq_true rfl) ?_
    refine j_aload_n 67 dX8_readRule_66 rfl rfl 2 rfl ?_
    refine j_iload_n 68 dX8_readRule_67 rfl rfl 0 rfl ?_
    obtain ⟨q8, hq8, h⟩ := j_bs h
    refine j_callV (rest := []) (As := [.int q4.1]) 71 dX8_readRule_68 rfl jyX8_readForms (tcX8_readForms hL  hq8) (sh_12 hL) cl8 flX8_116 wm821 wm8 (by decide) rfl rfl (Nat.le_of_ble_eq_true rfl) ?_
    refine j_aload_n 72 dX8_readRule_71 rfl rfl 2 rfl ?_
    refine j_bipush (v := (23 : Int32)) 74 dX8_readRule_72 rfl (by decide) ?_
    obtain ⟨q9, hq9, h⟩ := j_bs h
    refine j_callV (rest := []) (As := [.int (23 : Int32)]) 77 dX8_readRule_74 rfl jyX8_want (tcX8_want hL  hq9) (sh_12 hL) cl8 flX8_100 wm817 wm7 (by decide) rfl rfl (Nat.le_of_ble_eq_true rfl) ?_
    refine j_aload_n 78 dX8_readRule_77 rfl rfl 2 rfl ?_
    refine j_iload_n 79 dX8_readRule_78 rfl rfl 0 rfl ?_
    obtain ⟨q10, hq10, h⟩ := j_bs h
    refine j_callV (rest := []) (As := [.int q4.1]) 82 dX8_readRule_79 rfl jyX8_readWithin (tcX8_readWithin hL  hq10) (sh_12 hL) cl8 flX8_119 wm825 wm9 (by decide) rfl rfl (Nat.le_of_ble_eq_true rfl) ?_
    refine j_sub [2, 1, 0] rfl ?_
    exact kX8_readRule_82 hL    _ _ _ _ _  h
def fX8_readRule (l1 : Int32) (I : JI) (L : JL) (D : JG) (S : JS) : Option (JI × JL) :=
  if l1 = 0 then (j_opt (D 12 9) (none) (fun b1 => j_g (decide (S[b1]? = some (4, 17))) (if (I b1 12) < (12 : Int32) then (if (I 12 4) = (18 : Int32) then (fX8_readRule_36 l1 (1 : Int32) I L D S) else (fX8_readRule_36 l1 (0 : Int32) I L D S)) else ((fX8_wrong (5 : Int32) I).bind (fun q2 => some (q2, L)))))) else (if (I 12 4) = (18 : Int32) then (fX8_readRule_36 l1 (1 : Int32) I L D S) else (fX8_readRule_36 l1 (0 : Int32) I L D S))
set_option maxHeartbeats 4000000 in
set_option maxRecDepth 100000 in
theorem tcX8_readRule {E : JE} {l1 : Int32} {r : JI × JL} {I : JI} {L : JL} {G D : JG} {S : JS} (hL : Lay G S) (h : fX8_readRule l1 I L D S = some r) : CallJ E xX8_readRule 121 [.ref (E.1 + 12), .int l1] I L G D S none r.1 r.2 G D S := by
  unfold fX8_readRule at h
  refine j_entry (by decide) (Nat.le_of_ble_eq_true rfl) ?_
  show AtJ E xX8_readRule (Zr E none r.1 r.2 G D S) ((S).length, jm_sl S) 121 0 [(0, .ref (E.1 + 12)), (1, .int l1)] [] I L G D S
  refine j_iload_n 1 dX8_readRule_0 rfl rfl 1 rfl ?_
  refine j_if_ne 22 4 dX8_readRule_1 (by decide) rfl (fun hc => ?_) (fun hc => ?_)
  · replace h := j_neg hc h
    refine j_aload_n 23 dX8_readRule_22 rfl rfl 0 rfl ?_
    refine j_getI 26 dX8_readRule_23 rfl (sh_12 hL) cl8 (k := 4) (by decide) flX8_44 rfl ?_
    refine j_bipush (v := (18 : Int32)) 28 dX8_readRule_26 rfl (by decide) ?_
    refine j_icmp_ne 35 31 dX8_readRule_28 (by decide) rfl (fun hc => ?_) (fun hc => ?_)
    · replace h := j_neg hc h
      refine j_iconst (v := (0 : Int32)) 36 dX8_readRule_35 rfl (by decide) ?_
      exact kX8_readRule_36 hL    _ _ _ _ _  h
    · replace h := j_pos hc h
      refine j_iconst (v := (1 : Int32)) 32 dX8_readRule_31 rfl (by decide) ?_
      refine j_goto 36 dX8_readRule_32 (by decide) ?_
      exact kX8_readRule_36 hL    _ _ _ _ _  h
  · replace h := j_pos hc h
    refine j_aload_n 5 dX8_readRule_4 rfl rfl 0 rfl ?_
    rcases j_os h with ⟨hb, h⟩ | ⟨b1, hb, h⟩
    · refine j_getDn 8 dX8_readRule_5 rfl (sh_12 hL) cl8 (k := 9) (by decide) flX8_19 rfl hb ?_
      cases h
    obtain ⟨hsb1, h⟩ := j_gs h
    replace hsb1 := of_decide_eq_true hsb1
    refine j_getD 8 dX8_readRule_5 rfl (sh_12 hL) cl8 (k := 9) (by decide) flX8_19 rfl hb ?_
    refine j_getIN 11 dX8_readRule_8 rfl hsb1 cl4 (k := 12) (by decide) flX8_106 rfl ?_
    refine j_bipush (v := (12 : Int32)) 13 dX8_readRule_11 rfl (by decide) ?_
    refine j_icmp_lt 22 16 dX8_readRule_13 (by decide) rfl (fun hc => ?_) (fun hc => ?_)
    · replace h := j_pos hc h
      refine j_aload_n 23 dX8_readRule_22 rfl rfl 0 rfl ?_
      refine j_getI 26 dX8_readRule_23 rfl (sh_12 hL) cl8 (k := 4) (by decide) flX8_44 rfl ?_
      refine j_bipush (v := (18 : Int32)) 28 dX8_readRule_26 rfl (by decide) ?_
      refine j_icmp_ne 35 31 dX8_readRule_28 (by decide) rfl (fun hc => ?_) (fun hc => ?_)
      · replace h := j_neg hc h
        refine j_iconst (v := (0 : Int32)) 36 dX8_readRule_35 rfl (by decide) ?_
        exact kX8_readRule_36 hL    _ _ _ _ _  h
      · replace h := j_pos hc h
        refine j_iconst (v := (1 : Int32)) 32 dX8_readRule_31 rfl (by decide) ?_
        refine j_goto 36 dX8_readRule_32 (by decide) ?_
        exact kX8_readRule_36 hL    _ _ _ _ _  h
    · replace h := j_neg hc h
      refine j_aload_n 17 dX8_readRule_16 rfl rfl 0 rfl ?_
      refine j_iconst (v := (5 : Int32)) 18 dX8_readRule_17 rfl (by decide) ?_
      obtain ⟨q2, hq2, h⟩ := j_bs h
      refine j_callV (rest := []) (As := [.int (5 : Int32)]) 21 dX8_readRule_18 rfl jyX8_wrong (tcX8_wrong hL  hq2) (sh_12 hL) cl8 flX8_50 wm798 wm4 (by decide) rfl rfl (Nat.le_of_ble_eq_true rfl) ?_
      cases h
      exact j_vret dX8_readRule_21 rfl
def fX8_readPrice_39 (s0 : Int32) (s1 : Nat) (I : JI) (D : JG) (S : JS) : Option (JI) :=
  j_g (decide (jm_b01 s0 = s0)) (j_opt (D 12 9) (none) (fun b4 => j_g (decide (S[b4]? = some (4, 17))) (if (jm_b01 ((j_up I s1 15 s0) b4 15)) = 0 then ((fX8_want (25 : Int32) (j_up I s1 15 s0)).bind (fun q5 => (fX8_want (59 : Int32) q5).bind (fun q6 => some (q6)))) else ((fX8_want (2 : Int32) (j_up I s1 15 s0)).bind (fun q7 => (fX8_want (59 : Int32) q7).bind (fun q8 => some (q8)))))))
set_option maxHeartbeats 4000000 in
set_option maxRecDepth 100000 in
theorem kX8_readPrice_39 {E : JE} {r : JI} {L : JL} {G : JG} {S : JS} (hL : Lay G S) : ∀ (s0 : Int32) (s1 : Nat) (I : JI) (D : JG), S[s1]? = some (4, 17) → fX8_readPrice_39 s0 s1 I D S = some r → AtJ E xX8_readPrice (Zr E none r L G D S) ((S).length, jm_sl S) 12 39 [(0, .ref (E.1 + 12))] [.int s0, .ref (E.1 + s1)] I L G D S := by
  intro s0 s1 I D hs1 h
  unfold fX8_readPrice_39 at h
  obtain ⟨hz, h⟩ := j_gs h
  refine j_putZN 42 dX8_readPrice_39 rfl hs1 cl4 (k := 15) (by decide) flX8_97 rfl rfl rfl (of_decide_eq_true hz) ?_
  refine j_aload_n 43 dX8_readPrice_42 rfl rfl 0 rfl ?_
  refine j_aload_n 44 dX8_readPrice_43 rfl rfl 0 rfl ?_
  rcases j_os h with ⟨hb, h⟩ | ⟨b4, hb, h⟩
  · refine j_getDn 47 dX8_readPrice_44 rfl (sh_12 hL) cl8 (k := 9) (by decide) flX8_19 rfl hb ?_
    cases h
  obtain ⟨hsb4, h⟩ := j_gs h
  replace hsb4 := of_decide_eq_true hsb4
  refine j_getD 47 dX8_readPrice_44 rfl (sh_12 hL) cl8 (k := 9) (by decide) flX8_19 rfl hb ?_
  refine j_getZN 50 dX8_readPrice_47 rfl hsb4 cl4 (k := 15) (by decide) flX8_97 rfl ?_
  refine j_if_eq 57 53 dX8_readPrice_50 (by decide) rfl (fun hc => ?_) (fun hc => ?_)
  · replace h := j_pos hc h
    refine j_bipush (v := (25 : Int32)) 59 dX8_readPrice_57 rfl (by decide) ?_
    obtain ⟨q5, hq5, h⟩ := j_bs h
    refine j_callV (rest := []) (As := [.int (25 : Int32)]) 62 dX8_readPrice_59 rfl jyX8_want (tcX8_want hL  hq5) (sh_12 hL) cl8 flX8_100 wm817 wm7 (by decide) rfl rfl (Nat.le_of_ble_eq_true rfl) ?_
    refine j_aload_n 63 dX8_readPrice_62 rfl rfl 0 rfl ?_
    refine j_bipush (v := (59 : Int32)) 65 dX8_readPrice_63 rfl (by decide) ?_
    obtain ⟨q6, hq6, h⟩ := j_bs h
    refine j_callV (rest := []) (As := [.int (59 : Int32)]) 68 dX8_readPrice_65 rfl jyX8_want (tcX8_want hL  hq6) (sh_12 hL) cl8 flX8_100 wm817 wm7 (by decide) rfl rfl (Nat.le_of_ble_eq_true rfl) ?_
    cases h
    exact j_vret dX8_readPrice_68 rfl
  · replace h := j_neg hc h
    refine j_iconst (v := (2 : Int32)) 54 dX8_readPrice_53 rfl (by decide) ?_
    refine j_goto 59 dX8_readPrice_54 (by decide) ?_
    obtain ⟨q7, hq7, h⟩ := j_bs h
    refine j_callV (rest := []) (As := [.int (2 : Int32)]) 62 dX8_readPrice_59 rfl jyX8_want (tcX8_want hL  hq7) (sh_12 hL) cl8 flX8_100 wm817 wm7 (by decide) rfl rfl (Nat.le_of_ble_eq_true rfl) ?_
    refine j_aload_n 63 dX8_readPrice_62 rfl rfl 0 rfl ?_
    refine j_bipush (v := (59 : Int32)) 65 dX8_readPrice_63 rfl (by decide) ?_
    obtain ⟨q8, hq8, h⟩ := j_bs h
    refine j_callV (rest := []) (As := [.int (59 : Int32)]) 68 dX8_readPrice_65 rfl jyX8_want (tcX8_want hL  hq8) (sh_12 hL) cl8 flX8_100 wm817 wm7 (by decide) rfl rfl (Nat.le_of_ble_eq_true rfl) ?_
    cases h
    exact j_vret dX8_readPrice_68 rfl
def fX8_readPrice (I : JI) (D : JG) (S : JS) : Option (JI) :=
  if (jm_b01 (I 12 7)) = 0 then ((fX8_next (j_up I 12 7 (1 : Int32))).bind (fun q1 => j_opt (D 12 9) (if (q1 12 4) = (2 : Int32) then (none) else (none)) (fun b2 => j_g (decide (S[b2]? = some (4, 17))) (if (q1 12 4) = (2 : Int32) then (fX8_readPrice_39 (1 : Int32) b2 q1 D S) else (fX8_readPrice_39 (0 : Int32) b2 q1 D S))))) else ((fX8_wrong (3 : Int32) I).bind (fun q3 => some (q3)))
set_option maxHeartbeats 4000000 in
set_option maxRecDepth 100000 in
theorem tcX8_readPrice {E : JE} {r : JI} {I : JI} {L : JL} {G D : JG} {S : JS} (hL : Lay G S) (h : fX8_readPrice I D S = some r) : CallJ E xX8_readPrice 12 [.ref (E.1 + 12)] I L G D S none r L G D S := by
  unfold fX8_readPrice at h
  refine j_entry (by decide) (Nat.le_of_ble_eq_true rfl) ?_
  show AtJ E xX8_readPrice (Zr E none r L G D S) ((S).length, jm_sl S) 12 0 [(0, .ref (E.1 + 12))] [] I L G D S
  refine j_aload_n 1 dX8_readPrice_0 rfl rfl 0 rfl ?_
  refine j_getZ 4 dX8_readPrice_1 rfl (sh_12 hL) cl8 (k := 7) (by decide) flX8_28 rfl ?_
  refine j_if_eq 13 7 dX8_readPrice_4 (by decide) rfl (fun hc => ?_) (fun hc => ?_)
  · replace h := j_pos hc h
    refine j_aload_n 14 dX8_readPrice_13 rfl rfl 0 rfl ?_
    refine j_iconst (v := (1 : Int32)) 15 dX8_readPrice_14 rfl (by decide) ?_
    refine j_putZ 18 dX8_readPrice_15 rfl (sh_12 hL) cl8 (k := 7) (by decide) flX8_28 rfl rfl rfl j_b01_1 ?_
    refine j_aload_n 19 dX8_readPrice_18 rfl rfl 0 rfl ?_
    obtain ⟨q1, hq1, h⟩ := j_bs h
    refine j_callV (rest := []) (As := []) 22 dX8_readPrice_19 rfl jyX8_next (tcX8_next hL  hq1) (sh_12 hL) cl8 flX8_41 wm732 wm0 (by decide) rfl rfl (Nat.le_of_ble_eq_true rfl) ?_
    refine j_aload_n 23 dX8_readPrice_22 rfl rfl 0 rfl ?_
    rcases j_os h with ⟨hb, h⟩ | ⟨b2, hb, h⟩
    · refine j_getDn 26 dX8_readPrice_23 rfl (sh_12 hL) cl8 (k := 9) (by decide) flX8_19 rfl hb ?_
      refine j_aload_n 27 dX8_readPrice_26 rfl rfl 0 rfl ?_
      refine j_getI 30 dX8_readPrice_27 rfl (sh_12 hL) cl8 (k := 4) (by decide) flX8_44 rfl ?_
      refine j_iconst (v := (2 : Int32)) 31 dX8_readPrice_30 rfl (by decide) ?_
      refine j_icmp_ne 38 34 dX8_readPrice_31 (by decide) rfl (fun hc => ?_) (fun hc => ?_)
      · replace h := j_neg hc h
        refine j_iconst (v := (0 : Int32)) 39 dX8_readPrice_38 rfl (by decide) ?_
        cases h
      · replace h := j_pos hc h
        refine j_iconst (v := (1 : Int32)) 35 dX8_readPrice_34 rfl (by decide) ?_
        refine j_goto 39 dX8_readPrice_35 (by decide) ?_
        cases h
    obtain ⟨hsb2, h⟩ := j_gs h
    replace hsb2 := of_decide_eq_true hsb2
    refine j_getD 26 dX8_readPrice_23 rfl (sh_12 hL) cl8 (k := 9) (by decide) flX8_19 rfl hb ?_
    refine j_aload_n 27 dX8_readPrice_26 rfl rfl 0 rfl ?_
    refine j_getI 30 dX8_readPrice_27 rfl (sh_12 hL) cl8 (k := 4) (by decide) flX8_44 rfl ?_
    refine j_iconst (v := (2 : Int32)) 31 dX8_readPrice_30 rfl (by decide) ?_
    refine j_icmp_ne 38 34 dX8_readPrice_31 (by decide) rfl (fun hc => ?_) (fun hc => ?_)
    · replace h := j_neg hc h
      refine j_iconst (v := (0 : Int32)) 39 dX8_readPrice_38 rfl (by decide) ?_
      exact kX8_readPrice_39 hL    _ _ _ _ hsb2 h
    · replace h := j_pos hc h
      refine j_iconst (v := (1 : Int32)) 35 dX8_readPrice_34 rfl (by decide) ?_
      refine j_goto 39 dX8_readPrice_35 (by decide) ?_
      exact kX8_readPrice_39 hL    _ _ _ _ hsb2 h
  · replace h := j_neg hc h
    refine j_aload_n 8 dX8_readPrice_7 rfl rfl 0 rfl ?_
    refine j_iconst (v := (3 : Int32)) 9 dX8_readPrice_8 rfl (by decide) ?_
    obtain ⟨q3, hq3, h⟩ := j_bs h
    refine j_callV (rest := []) (As := [.int (3 : Int32)]) 12 dX8_readPrice_9 rfl jyX8_wrong (tcX8_wrong hL  hq3) (sh_12 hL) cl8 flX8_50 wm798 wm4 (by decide) rfl rfl (Nat.le_of_ble_eq_true rfl) ?_
    cases h
    exact j_vret dX8_readPrice_12 rfl
