def fX0_init (t : Nat)  : Option (Unit) :=
  some ()
set_option maxHeartbeats 4000000 in
set_option maxRecDepth 100000 in
theorem tcX0_init {E : JE} {t : Nat} {r : Unit} {I : JI} {L : JL} {G D : JG} {S : JS} (ht : S[t]? = some (0, 7)) (h : fX0_init t = some r) : CallJ E xX0_init 1 [.ref (E.1 + t)] I L G D S none I L G D S := by
  unfold fX0_init at h
  refine j_entry (by decide) (Nat.le_of_ble_eq_true rfl) ?_
  show AtJ E xX0_init (Zr E none I L G D S) ((S).length, jm_sl S) 1 0 [(0, .ref (E.1 + t))] [] I L G D S
  refine j_aload_n 1 dX0_init_0 rfl rfl 0 rfl ?_
  refine j_obj 4 dX0_init_1 rfl flX0_3 wm117 wm118 (by decide) (Nat.le_of_ble_eq_true rfl) ?_
  cases h
  exact j_vret dX0_init_4 rfl
def fX0_tell (t : Nat) (l1 : Int32) (l2 : Int32) (l3 : Int32) (l4 : Int32) (l5 : Int32) (l6 : Int32) (l7 : Int32) (I : JI) : Option (JI) :=
  some ((j_up (j_up (j_up (j_up (j_up (j_up (j_up I t 0 l1) t 1 l2) t 2 l3) t 3 l4) t 4 l5) t 5 l6) t 6 l7))
set_option maxHeartbeats 4000000 in
set_option maxRecDepth 100000 in
theorem tcX0_tell {E : JE} {t : Nat} {l1 : Int32} {l2 : Int32} {l3 : Int32} {l4 : Int32} {l5 : Int32} {l6 : Int32} {l7 : Int32} {r : JI} {I : JI} {L : JL} {G D : JG} {S : JS} (hL : Lay G S) (ht : S[t]? = some (0, 7)) (h : fX0_tell t l1 l2 l3 l4 l5 l6 l7 I = some r) : CallJ E xX0_tell 1 [.ref (E.1 + t), .int l1, .int l2, .int l3, .int l4, .int l5, .int l6, .int l7] I L G D S none r L G D S := by
  unfold fX0_tell at h
  refine j_entry (by decide) (Nat.le_of_ble_eq_true rfl) ?_
  show AtJ E xX0_tell (Zr E none r L G D S) ((S).length, jm_sl S) 1 0 [(0, .ref (E.1 + t)), (1, .int l1), (2, .int l2), (3, .int l3), (4, .int l4), (5, .int l5), (6, .int l6), (7, .int l7)] [] I L G D S
  refine j_aload_n 1 dX0_tell_0 rfl rfl 0 rfl ?_
  refine j_iload_n 2 dX0_tell_1 rfl rfl 1 rfl ?_
  refine j_putI 5 dX0_tell_2 rfl ht cl0 (k := 0) (by decide) flX0_9 rfl rfl rfl ?_
  refine j_aload_n 6 dX0_tell_5 rfl rfl 0 rfl ?_
  refine j_iload_n 7 dX0_tell_6 rfl rfl 2 rfl ?_
  refine j_putI 10 dX0_tell_7 rfl ht cl0 (k := 1) (by decide) flX0_15 rfl rfl rfl ?_
  refine j_aload_n 11 dX0_tell_10 rfl rfl 0 rfl ?_
  refine j_iload_n 12 dX0_tell_11 rfl rfl 3 rfl ?_
  refine j_putI 15 dX0_tell_12 rfl ht cl0 (k := 2) (by decide) flX0_18 rfl rfl rfl ?_
  refine j_aload_n 16 dX0_tell_15 rfl rfl 0 rfl ?_
  refine j_iload 18 dX0_tell_16 rfl 4 rfl ?_
  refine j_putI 21 dX0_tell_18 rfl ht cl0 (k := 3) (by decide) flX0_21 rfl rfl rfl ?_
  refine j_aload_n 22 dX0_tell_21 rfl rfl 0 rfl ?_
  refine j_iload 24 dX0_tell_22 rfl 5 rfl ?_
  refine j_putI 27 dX0_tell_24 rfl ht cl0 (k := 4) (by decide) flX0_24 rfl rfl rfl ?_
  refine j_aload_n 28 dX0_tell_27 rfl rfl 0 rfl ?_
  refine j_iload 30 dX0_tell_28 rfl 6 rfl ?_
  refine j_putI 33 dX0_tell_30 rfl ht cl0 (k := 5) (by decide) flX0_27 rfl rfl rfl ?_
  refine j_aload_n 34 dX0_tell_33 rfl rfl 0 rfl ?_
  refine j_iload 36 dX0_tell_34 rfl 7 rfl ?_
  refine j_putI 39 dX0_tell_36 rfl ht cl0 (k := 6) (by decide) flX0_30 rfl rfl rfl ?_
  cases h
  exact j_vret dX0_tell_39 rfl
def fX0_tellEach_15 (t : Nat) (l1 : Int32) (l2 : Int32) (l3 : Int32) (l4 : Int32) (l5 : Int32) (s0 : Int32) (I : JI) : Option (JI) :=
  (fX0_tell t l1 l2 l3 l4 l5 s0 s0 I).bind (fun q1 => some (q1))
set_option maxHeartbeats 4000000 in
set_option maxRecDepth 100000 in
theorem kX0_tellEach_15 {E : JE} {t : Nat} {r : JI} {L : JL} {G : JG} {D : JG} {S : JS} (hL : Lay G S) (ht : S[t]? = some (0, 7)) : ∀ (l1 : Int32) (l2 : Int32) (l3 : Int32) (l4 : Int32) (l5 : Int32) (s0 : Int32) (I : JI), fX0_tellEach_15 t l1 l2 l3 l4 l5 s0 I = some r → AtJ E xX0_tellEach (Zr E none r L G D S) ((S).length, jm_sl S) 2 15 [(0, .ref (E.1 + t)), (1, .int l1), (2, .int l2), (3, .int l3), (4, .int l4), (5, .int l5)] [.int s0] I L G D S := by
  intro l1 l2 l3 l4 l5 s0 I  h
  unfold fX0_tellEach_15 at h
  refine j_istore (lv' := [(7, .int s0), (0, .ref (E.1 + t)), (1, .int l1), (2, .int l2), (3, .int l3), (4, .int l4), (5, .int l5)]) 17 dX0_tellEach_15 rfl (by decide) rfl ?_
  refine j_aload_n 18 dX0_tellEach_17 rfl rfl 1 rfl ?_
  refine j_iload_n 19 dX0_tellEach_18 rfl rfl 2 rfl ?_
  refine j_iload_n 20 dX0_tellEach_19 rfl rfl 3 rfl ?_
  refine j_iload_n 21 dX0_tellEach_20 rfl rfl 4 rfl ?_
  refine j_iload 23 dX0_tellEach_21 rfl 5 rfl ?_
  refine j_iload 25 dX0_tellEach_23 rfl 6 rfl ?_
  refine j_iload 27 dX0_tellEach_25 rfl 0 rfl ?_
  refine j_iload 29 dX0_tellEach_27 rfl 0 rfl ?_
  obtain ⟨q1, hq1, h⟩ := j_bs h
  refine j_callV (rest := []) (As := [.int l1, .int l2, .int l3, .int l4, .int l5, .int s0, .int s0]) 32 dX0_tellEach_29 rfl jyX0_tell (tcX0_tell hL ht hq1) ht cl0 flX0_33 wm875 wm876 (by decide) rfl rfl (Nat.le_of_ble_eq_true rfl) ?_
  cases h
  exact j_vret dX0_tellEach_32 rfl
def fX0_tellEach (t : Nat) (l1 : Int32) (l2 : Int32) (l3 : Int32) (l4 : Int32) (l5 : Int32) (l6 : Int32) (I : JI) : Option (JI) :=
  if l5 = (1 : Int32) then (fX0_tellEach_15 t l1 l2 l3 l4 l5 (0 : Int32) I) else (fX0_tellEach_15 t l1 l2 l3 l4 l5 (l4 * l6) I)
set_option maxHeartbeats 4000000 in
set_option maxRecDepth 100000 in
theorem tcX0_tellEach {E : JE} {t : Nat} {l1 : Int32} {l2 : Int32} {l3 : Int32} {l4 : Int32} {l5 : Int32} {l6 : Int32} {r : JI} {I : JI} {L : JL} {G D : JG} {S : JS} (hL : Lay G S) (ht : S[t]? = some (0, 7)) (h : fX0_tellEach t l1 l2 l3 l4 l5 l6 I = some r) : CallJ E xX0_tellEach 2 [.ref (E.1 + t), .int l1, .int l2, .int l3, .int l4, .int l5, .int l6] I L G D S none r L G D S := by
  unfold fX0_tellEach at h
  refine j_entry (by decide) (Nat.le_of_ble_eq_true rfl) ?_
  show AtJ E xX0_tellEach (Zr E none r L G D S) ((S).length, jm_sl S) 2 0 [(0, .ref (E.1 + t)), (1, .int l1), (2, .int l2), (3, .int l3), (4, .int l4), (5, .int l5), (6, .int l6)] [] I L G D S
  refine j_iload 2 dX0_tellEach_0 rfl 5 rfl ?_
  refine j_iconst (v := (1 : Int32)) 3 dX0_tellEach_2 rfl (by decide) ?_
  refine j_icmp_ne 10 6 dX0_tellEach_3 (by decide) rfl (fun hc => ?_) (fun hc => ?_)
  · replace h := j_neg hc h
    refine j_iload 12 dX0_tellEach_10 rfl 4 rfl ?_
    refine j_iload 14 dX0_tellEach_12 rfl 6 rfl ?_
    refine j_imul 15 dX0_tellEach_14 rfl ?_
    refine j_sub [0, 1, 2, 3, 4, 5] rfl ?_
    exact kX0_tellEach_15 hL  ht  _ _ _ _ _ _ _  h
  · replace h := j_pos hc h
    refine j_iconst (v := (0 : Int32)) 7 dX0_tellEach_6 rfl (by decide) ?_
    refine j_goto 15 dX0_tellEach_7 (by decide) ?_
    refine j_sub [0, 1, 2, 3, 4, 5] rfl ?_
    exact kX0_tellEach_15 hL  ht  _ _ _ _ _ _ _  h
def fX0_copyAll (t : Nat) (l1 : Nat) (I : JI) : Option (JI) :=
  (fX0_tell t (I l1 0) (I l1 1) (I l1 2) (I l1 3) (I l1 4) (I l1 5) (I l1 6) I).bind (fun q1 => some (q1))
set_option maxHeartbeats 4000000 in
set_option maxRecDepth 100000 in
theorem tcX0_copyAll {E : JE} {t : Nat} {l1 : Nat} {r : JI} {I : JI} {L : JL} {G D : JG} {S : JS} (hL : Lay G S) (ht : S[t]? = some (0, 7)) (h1 : S[l1]? = some (0, 7)) (h : fX0_copyAll t l1 I = some r) : CallJ E xX0_copyAll 2 [.ref (E.1 + t), .ref (E.1 + l1)] I L G D S none r L G D S := by
  unfold fX0_copyAll at h
  refine j_entry (by decide) (Nat.le_of_ble_eq_true rfl) ?_
  show AtJ E xX0_copyAll (Zr E none r L G D S) ((S).length, jm_sl S) 2 0 [(0, .ref (E.1 + t)), (1, .ref (E.1 + l1))] [] I L G D S
  refine j_aload_n 1 dX0_copyAll_0 rfl rfl 0 rfl ?_
  refine j_aload_n 2 dX0_copyAll_1 rfl rfl 1 rfl ?_
  refine j_getI 5 dX0_copyAll_2 rfl h1 cl0 (k := 0) (by decide) flX0_9 rfl ?_
  refine j_aload_n 6 dX0_copyAll_5 rfl rfl 1 rfl ?_
  refine j_getI 9 dX0_copyAll_6 rfl h1 cl0 (k := 1) (by decide) flX0_15 rfl ?_
  refine j_aload_n 10 dX0_copyAll_9 rfl rfl 1 rfl ?_
  refine j_getI 13 dX0_copyAll_10 rfl h1 cl0 (k := 2) (by decide) flX0_18 rfl ?_
  refine j_aload_n 14 dX0_copyAll_13 rfl rfl 1 rfl ?_
  refine j_getI 17 dX0_copyAll_14 rfl h1 cl0 (k := 3) (by decide) flX0_21 rfl ?_
  refine j_aload_n 18 dX0_copyAll_17 rfl rfl 1 rfl ?_
  refine j_getI 21 dX0_copyAll_18 rfl h1 cl0 (k := 4) (by decide) flX0_24 rfl ?_
  refine j_aload_n 22 dX0_copyAll_21 rfl rfl 1 rfl ?_
  refine j_getI 25 dX0_copyAll_22 rfl h1 cl0 (k := 5) (by decide) flX0_27 rfl ?_
  refine j_aload_n 26 dX0_copyAll_25 rfl rfl 1 rfl ?_
  refine j_getI 29 dX0_copyAll_26 rfl h1 cl0 (k := 6) (by decide) flX0_30 rfl ?_
  obtain ⟨q1, hq1, h⟩ := j_bs h
  refine j_callV (rest := []) (As := [.int (I l1 0), .int (I l1 1), .int (I l1 2), .int (I l1 3), .int (I l1 4), .int (I l1 5), .int (I l1 6)]) 32 dX0_copyAll_29 rfl jyX0_tell (tcX0_tell hL ht hq1) ht cl0 flX0_33 wm875 wm876 (by decide) rfl rfl (Nat.le_of_ble_eq_true rfl) ?_
  cases h
  exact j_vret dX0_copyAll_32 rfl
def fX9_isTold (l1 : Int32) (I : JI) : Option (Int32) :=
  if l1 < 0 then (some ((0 : Int32))) else (if (12 : Int32) ≤ l1 then (some ((0 : Int32))) else (if (((I 1 5) >>> (l1 &&& 31)) &&& (1 : Int32)) = 0 then (some ((0 : Int32))) else (some ((1 : Int32)))))
set_option maxHeartbeats 4000000 in
set_option maxRecDepth 100000 in
theorem tcX9_isTold {E : JE} {l1 : Int32} {r : Int32} {I : JI} {L : JL} {G D : JG} {S : JS} (hL : Lay G S) (h : fX9_isTold l1 I = some r) : CallJ E xX9_isTold 1 [.ref (E.1 + 1), .int l1] I L G D S (some (.int r)) I L G D S := by
  unfold fX9_isTold at h
  refine j_entry (by decide) (Nat.le_of_ble_eq_true rfl) ?_
  show AtJ E xX9_isTold (Zr E (some (.int r)) I L G D S) ((S).length, jm_sl S) 1 0 [(0, .ref (E.1 + 1)), (1, .int l1)] [] I L G D S
  refine j_iload_n 1 dX9_isTold_0 rfl rfl 1 rfl ?_
  refine j_if_lt 25 4 dX9_isTold_1 (by decide) rfl (fun hc => ?_) (fun hc => ?_)
  · replace h := j_pos hc h
    refine j_iconst (v := (0 : Int32)) 26 dX9_isTold_25 rfl (by decide) ?_
    cases h
    exact j_zret dX9_isTold_26 rfl j_b01_0
  · replace h := j_neg hc h
    refine j_iload_n 5 dX9_isTold_4 rfl rfl 1 rfl ?_
    refine j_bipush (v := (12 : Int32)) 7 dX9_isTold_5 rfl (by decide) ?_
    refine j_icmp_ge 25 10 dX9_isTold_7 (by decide) rfl (fun hc => ?_) (fun hc => ?_)
    · replace h := j_pos hc h
      refine j_iconst (v := (0 : Int32)) 26 dX9_isTold_25 rfl (by decide) ?_
      cases h
      exact j_zret dX9_isTold_26 rfl j_b01_0
    · replace h := j_neg hc h
      refine j_aload_n 11 dX9_isTold_10 rfl rfl 0 rfl ?_
      refine j_getI 14 dX9_isTold_11 rfl (sh_1 hL) cl9 (k := 5) (by decide) flX9_32 rfl ?_
      refine j_iload_n 15 dX9_isTold_14 rfl rfl 1 rfl ?_
      refine j_ishr 16 dX9_isTold_15 rfl ?_
      refine j_iconst (v := (1 : Int32)) 17 dX9_isTold_16 rfl (by decide) ?_
      refine j_iand 18 dX9_isTold_17 rfl ?_
      refine j_if_eq 25 21 dX9_isTold_18 (by decide) rfl (fun hc => ?_) (fun hc => ?_)
      · replace h := j_pos hc h
        refine j_iconst (v := (0 : Int32)) 26 dX9_isTold_25 rfl (by decide) ?_
        cases h
        exact j_zret dX9_isTold_26 rfl j_b01_0
      · replace h := j_neg hc h
        refine j_iconst (v := (1 : Int32)) 22 dX9_isTold_21 rfl (by decide) ?_
        refine j_goto 26 dX9_isTold_22 (by decide) ?_
        cases h
        exact j_zret dX9_isTold_26 rfl j_b01_1
def fX11_isPerson (l0 : Int32)  : Option (Int32) :=
  if l0 < 0 then (some ((0 : Int32))) else (if (16 : Int32) ≤ l0 then (some ((0 : Int32))) else (some ((1 : Int32))))
set_option maxHeartbeats 4000000 in
set_option maxRecDepth 100000 in
theorem tcX11_isPerson {E : JE} {l0 : Int32} {r : Int32} {I : JI} {L : JL} {G D : JG} {S : JS} (h : fX11_isPerson l0 = some r) : CallJ E xX11_isPerson 1 [.int l0] I L G D S (some (.int r)) I L G D S := by
  unfold fX11_isPerson at h
  refine j_entry (by decide) (Nat.le_of_ble_eq_true rfl) ?_
  show AtJ E xX11_isPerson (Zr E (some (.int r)) I L G D S) ((S).length, jm_sl S) 1 0 [(0, .int l0)] [] I L G D S
  refine j_iload_n 1 dX11_isPerson_0 rfl rfl 0 rfl ?_
  refine j_if_lt 14 4 dX11_isPerson_1 (by decide) rfl (fun hc => ?_) (fun hc => ?_)
  · replace h := j_pos hc h
    refine j_iconst (v := (0 : Int32)) 15 dX11_isPerson_14 rfl (by decide) ?_
    cases h
    exact j_zret dX11_isPerson_15 rfl j_b01_0
  · replace h := j_neg hc h
    refine j_iload_n 5 dX11_isPerson_4 rfl rfl 0 rfl ?_
    refine j_bipush (v := (16 : Int32)) 7 dX11_isPerson_5 rfl (by decide) ?_
    refine j_icmp_ge 14 10 dX11_isPerson_7 (by decide) rfl (fun hc => ?_) (fun hc => ?_)
    · replace h := j_pos hc h
      refine j_iconst (v := (0 : Int32)) 15 dX11_isPerson_14 rfl (by decide) ?_
      cases h
      exact j_zret dX11_isPerson_15 rfl j_b01_0
    · replace h := j_neg hc h
      refine j_iconst (v := (1 : Int32)) 11 dX11_isPerson_10 rfl (by decide) ?_
      refine j_goto 15 dX11_isPerson_11 (by decide) ?_
      cases h
      exact j_zret dX11_isPerson_15 rfl j_b01_1
def fX11_areTwoPeople (l0 : Int32) (l1 : Int32)  : Option (Int32) :=
  (fX11_isPerson l0).bind (fun q1 => if q1 = 0 then (some ((0 : Int32))) else ((fX11_isPerson l1).bind (fun q2 => if q2 = 0 then (some ((0 : Int32))) else (if l0 = l1 then (some ((0 : Int32))) else (some ((1 : Int32)))))))
set_option maxHeartbeats 4000000 in
set_option maxRecDepth 100000 in
theorem tcX11_areTwoPeople {E : JE} {l0 : Int32} {l1 : Int32} {r : Int32} {I : JI} {L : JL} {G D : JG} {S : JS} (h : fX11_areTwoPeople l0 l1 = some r) : CallJ E xX11_areTwoPeople 2 [.int l0, .int l1] I L G D S (some (.int r)) I L G D S := by
  unfold fX11_areTwoPeople at h
  refine j_entry (by decide) (Nat.le_of_ble_eq_true rfl) ?_
  show AtJ E xX11_areTwoPeople (Zr E (some (.int r)) I L G D S) ((S).length, jm_sl S) 2 0 [(0, .int l0), (1, .int l1)] [] I L G D S
  refine j_iload_n 1 dX11_areTwoPeople_0 rfl rfl 0 rfl ?_
  obtain ⟨q1, hq1, h⟩ := j_bs h
  refine j_callS (rest := []) (As := [.int l0]) 4 dX11_areTwoPeople_1 rfl jyX11_isPerson (tcX11_isPerson   hq1) flX11_96 wm642 (by decide) rfl rfl (Nat.le_of_ble_eq_true rfl) ?_
  refine j_if_eq 23 7 dX11_areTwoPeople_4 (by decide) rfl (fun hc => ?_) (fun hc => ?_)
  · replace h := j_pos hc h
    refine j_iconst (v := (0 : Int32)) 24 dX11_areTwoPeople_23 rfl (by decide) ?_
    cases h
    exact j_zret dX11_areTwoPeople_24 rfl j_b01_0
  · replace h := j_neg hc h
    refine j_iload_n 8 dX11_areTwoPeople_7 rfl rfl 1 rfl ?_
    obtain ⟨q2, hq2, h⟩ := j_bs h
    refine j_callS (rest := []) (As := [.int l1]) 11 dX11_areTwoPeople_8 rfl jyX11_isPerson (tcX11_isPerson   hq2) flX11_96 wm642 (by decide) rfl rfl (Nat.le_of_ble_eq_true rfl) ?_
    refine j_if_eq 23 14 dX11_areTwoPeople_11 (by decide) rfl (fun hc => ?_) (fun hc => ?_)
    · replace h := j_pos hc h
      refine j_iconst (v := (0 : Int32)) 24 dX11_areTwoPeople_23 rfl (by decide) ?_
      cases h
      exact j_zret dX11_areTwoPeople_24 rfl j_b01_0
    · replace h := j_neg hc h
      refine j_iload_n 15 dX11_areTwoPeople_14 rfl rfl 0 rfl ?_
      refine j_iload_n 16 dX11_areTwoPeople_15 rfl rfl 1 rfl ?_
      refine j_icmp_eq 23 19 dX11_areTwoPeople_16 (by decide) rfl (fun hc => ?_) (fun hc => ?_)
      · replace h := j_pos hc h
        refine j_iconst (v := (0 : Int32)) 24 dX11_areTwoPeople_23 rfl (by decide) ?_
        cases h
        exact j_zret dX11_areTwoPeople_24 rfl j_b01_0
      · replace h := j_neg hc h
        refine j_iconst (v := (1 : Int32)) 20 dX11_areTwoPeople_19 rfl (by decide) ?_
        refine j_goto 24 dX11_areTwoPeople_20 (by decide) ?_
        cases h
        exact j_zret dX11_areTwoPeople_24 rfl j_b01_1
def fX11_isPrice (l0 : Int32)  : Option (Int32) :=
  if l0 < 0 then (some ((0 : Int32))) else (if (9999 : Int32) < l0 then (some ((0 : Int32))) else (some ((1 : Int32))))
set_option maxHeartbeats 4000000 in
set_option maxRecDepth 100000 in
theorem tcX11_isPrice {E : JE} {l0 : Int32} {r : Int32} {I : JI} {L : JL} {G D : JG} {S : JS} (h : fX11_isPrice l0 = some r) : CallJ E xX11_isPrice 1 [.int l0] I L G D S (some (.int r)) I L G D S := by
  unfold fX11_isPrice at h
  refine j_entry (by decide) (Nat.le_of_ble_eq_true rfl) ?_
  show AtJ E xX11_isPrice (Zr E (some (.int r)) I L G D S) ((S).length, jm_sl S) 1 0 [(0, .int l0)] [] I L G D S
  refine j_iload_n 1 dX11_isPrice_0 rfl rfl 0 rfl ?_
  refine j_if_lt 15 4 dX11_isPrice_1 (by decide) rfl (fun hc => ?_) (fun hc => ?_)
  · replace h := j_pos hc h
    refine j_iconst (v := (0 : Int32)) 16 dX11_isPrice_15 rfl (by decide) ?_
    cases h
    exact j_zret dX11_isPrice_16 rfl j_b01_0
  · replace h := j_neg hc h
    refine j_iload_n 5 dX11_isPrice_4 rfl rfl 0 rfl ?_
    refine j_sipush (v := (9999 : Int32)) 8 dX11_isPrice_5 rfl (by decide) ?_
    refine j_icmp_gt 15 11 dX11_isPrice_8 (by decide) rfl (fun hc => ?_) (fun hc => ?_)
    · replace h := j_pos hc h
      refine j_iconst (v := (0 : Int32)) 16 dX11_isPrice_15 rfl (by decide) ?_
      cases h
      exact j_zret dX11_isPrice_16 rfl j_b01_0
    · replace h := j_neg hc h
      refine j_iconst (v := (1 : Int32)) 12 dX11_isPrice_11 rfl (by decide) ?_
      refine j_goto 16 dX11_isPrice_12 (by decide) ?_
      cases h
      exact j_zret dX11_isPrice_16 rfl j_b01_1
def fX0_isSound (t : Nat) (I : JI) : Option (Int32) :=
  (fX9_isTold (I t 0) I).bind (fun q1 => if q1 = 0 then (some ((0 : Int32))) else ((fX11_areTwoPeople (I t 1) (I t 2)).bind (fun q2 => if q2 = 0 then (some ((0 : Int32))) else (if (I t 3) < (1 : Int32) then (some ((0 : Int32))) else (if (I t 3) ≤ (12 : Int32) then (if (I t 4) < 0 then (some ((0 : Int32))) else (if (3 : Int32) ≤ (I t 4) then (some ((0 : Int32))) else ((fX11_isPrice (I t 5)).bind (fun q3 => if q3 = 0 then (some ((0 : Int32))) else ((fX11_isPrice (I t 6)).bind (fun q4 => if q4 = 0 then (some ((0 : Int32))) else (if (I t 4) = (1 : Int32) then (if (I t 5) = 0 then (if (I t 6) = 0 then (some ((1 : Int32))) else (some ((0 : Int32)))) else (some ((0 : Int32)))) else (some ((1 : Int32)))))))))) else (some ((0 : Int32))))))))
set_option maxHeartbeats 4000000 in
set_option maxRecDepth 100000 in
theorem tcX0_isSound {E : JE} {t : Nat} {r : Int32} {I : JI} {L : JL} {G D : JG} {S : JS} (hL : Lay G S) (ht : S[t]? = some (0, 7)) (h : fX0_isSound t I = some r) : CallJ E xX0_isSound 3 [.ref (E.1 + t), .ref (E.1 + 1)] I L G D S (some (.int r)) I L G D S := by
  unfold fX0_isSound at h
  refine j_entry (by decide) (Nat.le_of_ble_eq_true rfl) ?_
  show AtJ E xX0_isSound (Zr E (some (.int r)) I L G D S) ((S).length, jm_sl S) 3 0 [(0, .ref (E.1 + t)), (1, .ref (E.1 + 1))] [] I L G D S
  refine j_aload_n 1 dX0_isSound_0 rfl rfl 1 rfl ?_
  refine j_aload_n 2 dX0_isSound_1 rfl rfl 0 rfl ?_
  refine j_getI 5 dX0_isSound_2 rfl ht cl0 (k := 0) (by decide) flX0_9 rfl ?_
  obtain ⟨q1, hq1, h⟩ := j_bs h
  refine j_callV (rest := []) (As := [.int (I t 0)]) 8 dX0_isSound_5 rfl jyX9_isTold (tcX9_isTold hL  hq1) (sh_1 hL) cl9 flX0_37 wm645 wm646 (by decide) rfl rfl (Nat.le_of_ble_eq_true rfl) ?_
  refine j_if_eq 42 11 dX0_isSound_8 (by decide) rfl (fun hc => ?_) (fun hc => ?_)
  · replace h := j_pos hc h
    refine j_iconst (v := (0 : Int32)) 43 dX0_isSound_42 rfl (by decide) ?_
    cases h
    exact j_zret dX0_isSound_43 rfl j_b01_0
  · replace h := j_neg hc h
    refine j_aload_n 12 dX0_isSound_11 rfl rfl 0 rfl ?_
    refine j_getI 15 dX0_isSound_12 rfl ht cl0 (k := 1) (by decide) flX0_15 rfl ?_
    refine j_aload_n 16 dX0_isSound_15 rfl rfl 0 rfl ?_
    refine j_getI 19 dX0_isSound_16 rfl ht cl0 (k := 2) (by decide) flX0_18 rfl ?_
    obtain ⟨q2, hq2, h⟩ := j_bs h
    refine j_callSN (rest := []) (As := [.int (I t 1), .int (I t 2)]) 22 dX0_isSound_19 rfl jyX11_areTwoPeople (tcX11_areTwoPeople   hq2) flX0_43 wm660 (by decide) rfl rfl (Nat.le_of_ble_eq_true rfl) ?_
    refine j_if_eq 42 25 dX0_isSound_22 (by decide) rfl (fun hc => ?_) (fun hc => ?_)
    · replace h := j_pos hc h
      refine j_iconst (v := (0 : Int32)) 43 dX0_isSound_42 rfl (by decide) ?_
      cases h
      exact j_zret dX0_isSound_43 rfl j_b01_0
    · replace h := j_neg hc h
      refine j_aload_n 26 dX0_isSound_25 rfl rfl 0 rfl ?_
      refine j_getI 29 dX0_isSound_26 rfl ht cl0 (k := 3) (by decide) flX0_21 rfl ?_
      refine j_iconst (v := (1 : Int32)) 30 dX0_isSound_29 rfl (by decide) ?_
      refine j_icmp_lt 42 33 dX0_isSound_30 (by decide) rfl (fun hc => ?_) (fun hc => ?_)
      · replace h := j_pos hc h
        refine j_iconst (v := (0 : Int32)) 43 dX0_isSound_42 rfl (by decide) ?_
        cases h
        exact j_zret dX0_isSound_43 rfl j_b01_0
      · replace h := j_neg hc h
        refine j_aload_n 34 dX0_isSound_33 rfl rfl 0 rfl ?_
        refine j_getI 37 dX0_isSound_34 rfl ht cl0 (k := 3) (by decide) flX0_21 rfl ?_
        refine j_bipush (v := (12 : Int32)) 39 dX0_isSound_37 rfl (by decide) ?_
        refine j_icmp_le 44 42 dX0_isSound_39 (by decide) rfl (fun hc => ?_) (fun hc => ?_)
        · replace h := j_pos hc h
          refine j_aload_n 45 dX0_isSound_44 rfl rfl 0 rfl ?_
          refine j_getI 48 dX0_isSound_45 rfl ht cl0 (k := 4) (by decide) flX0_24 rfl ?_
          refine j_if_lt 79 51 dX0_isSound_48 (by decide) rfl (fun hc => ?_) (fun hc => ?_)
          · replace h := j_pos hc h
            refine j_iconst (v := (0 : Int32)) 80 dX0_isSound_79 rfl (by decide) ?_
            cases h
            exact j_zret dX0_isSound_80 rfl j_b01_0
          · replace h := j_neg hc h
            refine j_aload_n 52 dX0_isSound_51 rfl rfl 0 rfl ?_
            refine j_getI 55 dX0_isSound_52 rfl ht cl0 (k := 4) (by decide) flX0_24 rfl ?_
            refine j_iconst (v := (3 : Int32)) 56 dX0_isSound_55 rfl (by decide) ?_
            refine j_icmp_ge 79 59 dX0_isSound_56 (by decide) rfl (fun hc => ?_) (fun hc => ?_)
            · replace h := j_pos hc h
              refine j_iconst (v := (0 : Int32)) 80 dX0_isSound_79 rfl (by decide) ?_
              cases h
              exact j_zret dX0_isSound_80 rfl j_b01_0
            · replace h := j_neg hc h
              refine j_aload_n 60 dX0_isSound_59 rfl rfl 0 rfl ?_
              refine j_getI 63 dX0_isSound_60 rfl ht cl0 (k := 5) (by decide) flX0_27 rfl ?_
              obtain ⟨q3, hq3, h⟩ := j_bs h
              refine j_callSN (rest := []) (As := [.int (I t 5)]) 66 dX0_isSound_63 rfl jyX11_isPrice (tcX11_isPrice   hq3) flX0_47 wm889 (by decide) rfl rfl (Nat.le_of_ble_eq_true rfl) ?_
              refine j_if_eq 79 69 dX0_isSound_66 (by decide) rfl (fun hc => ?_) (fun hc => ?_)
              · replace h := j_pos hc h
                refine j_iconst (v := (0 : Int32)) 80 dX0_isSound_79 rfl (by decide) ?_
                cases h
                exact j_zret dX0_isSound_80 rfl j_b01_0
              · replace h := j_neg hc h
                refine j_aload_n 70 dX0_isSound_69 rfl rfl 0 rfl ?_
                refine j_getI 73 dX0_isSound_70 rfl ht cl0 (k := 6) (by decide) flX0_30 rfl ?_
                obtain ⟨q4, hq4, h⟩ := j_bs h
                refine j_callSN (rest := []) (As := [.int (I t 6)]) 76 dX0_isSound_73 rfl jyX11_isPrice (tcX11_isPrice   hq4) flX0_47 wm889 (by decide) rfl rfl (Nat.le_of_ble_eq_true rfl) ?_
                refine j_if_ne 81 79 dX0_isSound_76 (by decide) rfl (fun hc => ?_) (fun hc => ?_)
                · replace h := j_neg hc h
                  refine j_aload_n 82 dX0_isSound_81 rfl rfl 0 rfl ?_
                  refine j_getI 85 dX0_isSound_82 rfl ht cl0 (k := 4) (by decide) flX0_24 rfl ?_
                  refine j_iconst (v := (1 : Int32)) 86 dX0_isSound_85 rfl (by decide) ?_
                  refine j_icmp_ne 103 89 dX0_isSound_86 (by decide) rfl (fun hc => ?_) (fun hc => ?_)
                  · replace h := j_neg hc h
                    refine j_iconst (v := (1 : Int32)) 104 dX0_isSound_103 rfl (by decide) ?_
                    refine j_goto 108 dX0_isSound_104 (by decide) ?_
                    cases h
                    exact j_zret dX0_isSound_108 rfl j_b01_1
                  · replace h := j_pos hc h
                    refine j_aload_n 90 dX0_isSound_89 rfl rfl 0 rfl ?_
                    refine j_getI 93 dX0_isSound_90 rfl ht cl0 (k := 5) (by decide) flX0_27 rfl ?_
                    refine j_if_ne 107 96 dX0_isSound_93 (by decide) rfl (fun hc => ?_) (fun hc => ?_)
                    · replace h := j_neg hc h
                      refine j_iconst (v := (0 : Int32)) 108 dX0_isSound_107 rfl (by decide) ?_
                      cases h
                      exact j_zret dX0_isSound_108 rfl j_b01_0
                    · replace h := j_pos hc h
                      refine j_aload_n 97 dX0_isSound_96 rfl rfl 0 rfl ?_
                      refine j_getI 100 dX0_isSound_97 rfl ht cl0 (k := 6) (by decide) flX0_30 rfl ?_
                      refine j_if_ne 107 103 dX0_isSound_100 (by decide) rfl (fun hc => ?_) (fun hc => ?_)
                      · replace h := j_neg hc h
                        refine j_iconst (v := (0 : Int32)) 108 dX0_isSound_107 rfl (by decide) ?_
                        cases h
                        exact j_zret dX0_isSound_108 rfl j_b01_0
                      · replace h := j_pos hc h
                        refine j_iconst (v := (1 : Int32)) 104 dX0_isSound_103 rfl (by decide) ?_
                        refine j_goto 108 dX0_isSound_104 (by decide) ?_
                        cases h
                        exact j_zret dX0_isSound_108 rfl j_b01_1
                · replace h := j_pos hc h
                  refine j_iconst (v := (0 : Int32)) 80 dX0_isSound_79 rfl (by decide) ?_
                  cases h
                  exact j_zret dX0_isSound_80 rfl j_b01_0
        · replace h := j_neg hc h
          refine j_iconst (v := (0 : Int32)) 43 dX0_isSound_42 rfl (by decide) ?_
          cases h
          exact j_zret dX0_isSound_43 rfl j_b01_0
def fX1_of (t : Nat) (l1 : Int32) (l2 : Int32) (I : JI) : Option (Int32) :=
  j_g (j_in ((l1 * (16 : Int32)) + l2) 192) (some ((I (t + 1) ((l1 * (16 : Int32)) + l2).toNatClampNeg)))
set_option maxHeartbeats 4000000 in
set_option maxRecDepth 100000 in
theorem tcX1_of {E : JE} {t : Nat} {l1 : Int32} {l2 : Int32} {r : Int32} {I : JI} {L : JL} {G D : JG} {S : JS} (hL : Lay G S) (ht : S[t]? = some (1, 4)) (h : fX1_of t l1 l2 I = some r) : CallJ E xX1_of 1 [.ref (E.1 + t), .int l1, .int l2] I L G D S (some (.int r)) I L G D S := by
  unfold fX1_of at h
  refine j_entry (by decide) (Nat.le_of_ble_eq_true rfl) ?_
  show AtJ E xX1_of (Zr E (some (.int r)) I L G D S) ((S).length, jm_sl S) 1 0 [(0, .ref (E.1 + t)), (1, .int l1), (2, .int l2)] [] I L G D S
  refine j_aload_n 1 dX1_of_0 rfl rfl 0 rfl ?_
  refine j_getG 4 dX1_of_1 rfl ht cl1 (k := 0) (by decide) flX1_9 rfl (ly1_0 hL ht).1 ?_
  refine j_iload_n 5 dX1_of_4 rfl rfl 1 rfl ?_
  refine j_bipush (v := (16 : Int32)) 7 dX1_of_5 rfl (by decide) ?_
  refine j_imul 8 dX1_of_7 rfl ?_
  refine j_iload_n 9 dX1_of_8 rfl rfl 2 rfl ?_
  refine j_iadd 10 dX1_of_9 rfl ?_
  obtain ⟨hg, h⟩ := j_gs h
  refine j_iald 11 dX1_of_10 rfl (ly1_0 hL ht).2 (j_inv hg) ?_
  cases h
  exact j_iret dX1_of_11 rfl
def fX0_canBe (t : Nat) (l2 : Nat) (I : JI) : Option (Int32) :=
  (fX0_isSound t I).bind (fun q1 => if q1 = 0 then (some ((0 : Int32))) else ((fX1_of l2 (I t 0) (I t 1) I).bind (fun q2 => if q2 < (I t 3) then (some ((0 : Int32))) else (some ((1 : Int32))))))
set_option maxHeartbeats 4000000 in
set_option maxRecDepth 100000 in
theorem tcX0_canBe {E : JE} {t : Nat} {l2 : Nat} {r : Int32} {I : JI} {L : JL} {G D : JG} {S : JS} (hL : Lay G S) (ht : S[t]? = some (0, 7)) (h2 : S[l2]? = some (1, 4)) (h : fX0_canBe t l2 I = some r) : CallJ E xX0_canBe 4 [.ref (E.1 + t), .ref (E.1 + 1), .ref (E.1 + l2)] I L G D S (some (.int r)) I L G D S := by
  unfold fX0_canBe at h
  refine j_entry (by decide) (Nat.le_of_ble_eq_true rfl) ?_
  show AtJ E xX0_canBe (Zr E (some (.int r)) I L G D S) ((S).length, jm_sl S) 4 0 [(0, .ref (E.1 + t)), (1, .ref (E.1 + 1)), (2, .ref (E.1 + l2))] [] I L G D S
  refine j_aload_n 1 dX0_canBe_0 rfl rfl 0 rfl ?_
  refine j_aload_n 2 dX0_canBe_1 rfl rfl 1 rfl ?_
  obtain ⟨q1, hq1, h⟩ := j_bs h
  refine j_callV (rest := []) (As := [.ref (E.1 + 1)]) 5 dX0_canBe_2 rfl jyX0_isSound (tcX0_isSound hL ht hq1) ht cl0 flX0_50 wm883 wm884 (by decide) rfl rfl (Nat.le_of_ble_eq_true rfl) ?_
  refine j_if_eq 31 8 dX0_canBe_5 (by decide) rfl (fun hc => ?_) (fun hc => ?_)
  · replace h := j_pos hc h
    refine j_iconst (v := (0 : Int32)) 32 dX0_canBe_31 rfl (by decide) ?_
    cases h
    exact j_zret dX0_canBe_32 rfl j_b01_0
  · replace h := j_neg hc h
    refine j_aload_n 9 dX0_canBe_8 rfl rfl 2 rfl ?_
    refine j_aload_n 10 dX0_canBe_9 rfl rfl 0 rfl ?_
    refine j_getI 13 dX0_canBe_10 rfl ht cl0 (k := 0) (by decide) flX0_9 rfl ?_
    refine j_aload_n 14 dX0_canBe_13 rfl rfl 0 rfl ?_
    refine j_getI 17 dX0_canBe_14 rfl ht cl0 (k := 1) (by decide) flX0_15 rfl ?_
    obtain ⟨q2, hq2, h⟩ := j_bs h
    refine j_callV (rest := []) (As := [.int (I t 0), .int (I t 1)]) 20 dX0_canBe_17 rfl jyX1_of (tcX1_of hL h2 hq2) h2 cl1 flX0_54 wm663 wm664 (by decide) rfl rfl (Nat.le_of_ble_eq_true rfl) ?_
    refine j_aload_n 21 dX0_canBe_20 rfl rfl 0 rfl ?_
    refine j_getI 24 dX0_canBe_21 rfl ht cl0 (k := 3) (by decide) flX0_21 rfl ?_
    refine j_icmp_lt 31 27 dX0_canBe_24 (by decide) rfl (fun hc => ?_) (fun hc => ?_)
    · replace h := j_pos hc h
      refine j_iconst (v := (0 : Int32)) 32 dX0_canBe_31 rfl (by decide) ?_
      cases h
      exact j_zret dX0_canBe_32 rfl j_b01_0
    · replace h := j_neg hc h
      refine j_iconst (v := (1 : Int32)) 28 dX0_canBe_27 rfl (by decide) ?_
      refine j_goto 32 dX0_canBe_28 (by decide) ?_
      cases h
      exact j_zret dX0_canBe_32 rfl j_b01_1
def fX1_init (t : Nat) (I : JI) (G : JG) (S : JS) : Option (JI × JG × JS) :=
  some ((j_clr (j_clr (j_clr (j_clr I (S).length 0) ((S ++ [(20, 192)])).length 0) (((S ++ [(20, 192)]) ++ [(20, 12)])).length 0) ((((S ++ [(20, 192)]) ++ [(20, 12)]) ++ [(20, 16)])).length 0), (j_up (j_up (j_up (j_up G t 0 (some (S).length)) t 1 (some ((S ++ [(20, 192)])).length)) t 2 (some (((S ++ [(20, 192)]) ++ [(20, 12)])).length)) t 3 (some ((((S ++ [(20, 192)]) ++ [(20, 12)]) ++ [(20, 16)])).length)), ((((S ++ [(20, 192)]) ++ [(20, 12)]) ++ [(20, 16)]) ++ [(20, 16)]))
set_option maxHeartbeats 4000000 in
set_option maxRecDepth 100000 in
theorem tcX1_init {E : JE} {t : Nat} {r : JI × JG × JS} {I : JI} {L : JL} {G D : JG} {S : JS} (ht : S[t]? = some (1, 4)) (h : fX1_init t I G S = some r) : CallJ E xX1_init 1 [.ref (E.1 + t)] I L G D S none r.1 L r.2.1 D r.2.2 := by
  unfold fX1_init at h
  refine j_entry (by decide) (Nat.le_of_ble_eq_true rfl) ?_
  show AtJ E xX1_init (Zr E none r.1 L r.2.1 D r.2.2) ((r.2.2).length, jm_sl r.2.2) 1 0 [(0, .ref (E.1 + t))] [] I L G D S
  refine j_aload_n 1 dX1_init_0 rfl rfl 0 rfl ?_
  refine j_obj 4 dX1_init_1 rfl flX1_3 wm117 wm118 (by decide) (Nat.le_of_ble_eq_true rfl) ?_
  refine j_aload_n 5 dX1_init_4 rfl rfl 0 rfl ?_
  refine j_sipush (v := (192 : Int32)) 8 dX1_init_5 rfl (by decide) ?_
  refine j_nwI (N := 192) 10 dX1_init_8 rfl wm170 (by decide) (by decide) (by decide) ?_
  refine j_putF 13 dX1_init_10 rfl (jm_pre ht) cl1 (k := 0) (by decide) flX1_9 rfl rfl rfl rfl (fun _ => rfl) (fun _ => rfl) ?_
  refine j_aload_n 14 dX1_init_13 rfl rfl 0 rfl ?_
  refine j_bipush (v := (12 : Int32)) 16 dX1_init_14 rfl (by decide) ?_
  refine j_nwI (N := 12) 18 dX1_init_16 rfl wm170 (by decide) (by decide) (by decide) ?_
  refine j_putF 21 dX1_init_18 rfl (jm_pre (jm_pre ht)) cl1 (k := 1) (by decide) flX1_15 rfl rfl rfl rfl (fun _ => rfl) (fun _ => rfl) ?_
  refine j_aload_n 22 dX1_init_21 rfl rfl 0 rfl ?_
  refine j_bipush (v := (16 : Int32)) 24 dX1_init_22 rfl (by decide) ?_
  refine j_nwI (N := 16) 26 dX1_init_24 rfl wm170 (by decide) (by decide) (by decide) ?_
  refine j_putF 29 dX1_init_26 rfl (jm_pre (jm_pre (jm_pre ht))) cl1 (k := 2) (by decide) flX1_18 rfl rfl rfl rfl (fun _ => rfl) (fun _ => rfl) ?_
  refine j_aload_n 30 dX1_init_29 rfl rfl 0 rfl ?_
  refine j_bipush (v := (16 : Int32)) 32 dX1_init_30 rfl (by decide) ?_
  refine j_nwI (N := 16) 34 dX1_init_32 rfl wm170 (by decide) (by decide) (by decide) ?_
  refine j_putF 37 dX1_init_34 rfl (jm_pre (jm_pre (jm_pre (jm_pre ht)))) cl1 (k := 3) (by decide) flX1_21 rfl rfl rfl rfl (fun _ => rfl) (fun _ => rfl) ?_
  cases h
  exact j_vret dX1_init_37 rfl
def fX11_withBit (l0 : Int32) (l1 : Int32) (l2 : Int32)  : Option (Int32) :=
  if l2 = 0 then (some ((l0 &&& (((1 : Int32) <<< (l1 &&& 31)) ^^^ (-1 : Int32))))) else (some ((l0 ||| ((1 : Int32) <<< (l1 &&& 31)))))
set_option maxHeartbeats 4000000 in
set_option maxRecDepth 100000 in
theorem tcX11_withBit {E : JE} {l0 : Int32} {l1 : Int32} {l2 : Int32} {r : Int32} {I : JI} {L : JL} {G D : JG} {S : JS} (h : fX11_withBit l0 l1 l2 = some r) : CallJ E xX11_withBit 1 [.int l0, .int l1, .int l2] I L G D S (some (.int r)) I L G D S := by
  unfold fX11_withBit at h
  refine j_entry (by decide) (Nat.le_of_ble_eq_true rfl) ?_
  show AtJ E xX11_withBit (Zr E (some (.int r)) I L G D S) ((S).length, jm_sl S) 1 0 [(0, .int l0), (1, .int l1), (2, .int l2)] [] I L G D S
  refine j_iload_n 1 dX11_withBit_0 rfl rfl 2 rfl ?_
  refine j_if_eq 12 4 dX11_withBit_1 (by decide) rfl (fun hc => ?_) (fun hc => ?_)
  · replace h := j_pos hc h
    refine j_iload_n 13 dX11_withBit_12 rfl rfl 0 rfl ?_
    refine j_iconst (v := (1 : Int32)) 14 dX11_withBit_13 rfl (by decide) ?_
    refine j_iload_n 15 dX11_withBit_14 rfl rfl 1 rfl ?_
    refine j_ishl 16 dX11_withBit_15 rfl ?_
    refine j_iconst (v := (-1 : Int32)) 17 dX11_withBit_16 rfl (by decide) ?_
    refine j_ixor 18 dX11_withBit_17 rfl ?_
    refine j_iand 19 dX11_withBit_18 rfl ?_
    cases h
    exact j_iret dX11_withBit_19 rfl
  · replace h := j_neg hc h
    refine j_iload_n 5 dX11_withBit_4 rfl rfl 0 rfl ?_
    refine j_iconst (v := (1 : Int32)) 6 dX11_withBit_5 rfl (by decide) ?_
    refine j_iload_n 7 dX11_withBit_6 rfl rfl 1 rfl ?_
    refine j_ishl 8 dX11_withBit_7 rfl ?_
    refine j_ior 9 dX11_withBit_8 rfl ?_
    refine j_goto 19 dX11_withBit_9 (by decide) ?_
    cases h
    exact j_iret dX11_withBit_19 rfl
def fX1_add_87 (t : Nat) (l1 : Int32) (l2 : Int32) (l6 : Int32) (s0 : Int32) (s1 : Int32) (s2 : Int32) (I : JI) : Option (JI) :=
  j_g (j_in s2 16) (j_g (j_in l1 12) ((fX11_withBit ((j_up I (t + 3) s2.toNatClampNeg (s1 + s0)) (t + 2) l1.toNatClampNeg) l2 l6).bind (fun q1 => j_g (j_in l1 12) (some ((j_up (j_up I (t + 3) s2.toNatClampNeg (s1 + s0)) (t + 2) l1.toNatClampNeg q1))))))
set_option maxHeartbeats 4000000 in
set_option maxRecDepth 100000 in
theorem kX1_add_87 {E : JE} {t : Nat} {r : JI} {L : JL} {G : JG} {D : JG} {S : JS} (hL : Lay G S) (ht : S[t]? = some (1, 4)) : ∀ (l1 : Int32) (l2 : Int32) (l6 : Int32) (s0 : Int32) (s1 : Int32) (s2 : Int32) (I : JI), fX1_add_87 t l1 l2 l6 s0 s1 s2 I = some r → AtJ E xX1_add (Zr E none r L G D S) ((S).length, jm_sl S) 2 87 [(0, .ref (E.1 + t)), (1, .int l1), (2, .int l2), (6, .int l6)] [.int s0, .int s1, .int s2, .ref (E.1 + (t + 3))] I L G D S := by
  intro l1 l2 l6 s0 s1 s2 I  h
  unfold fX1_add_87 at h
  refine j_iadd 88 dX1_add_87 rfl ?_
  obtain ⟨hg, h⟩ := j_gs h
  refine j_iast 89 dX1_add_88 rfl (ly1_2 hL ht).2 (j_inv hg) ?_
  refine j_aload_n 90 dX1_add_89 rfl rfl 0 rfl ?_
  refine j_getG 93 dX1_add_90 rfl ht cl1 (k := 1) (by decide) flX1_15 rfl (ly1_1 hL ht).1 ?_
  refine j_iload_n 94 dX1_add_93 rfl rfl 1 rfl ?_
  refine j_aload_n 95 dX1_add_94 rfl rfl 0 rfl ?_
  refine j_getG 98 dX1_add_95 rfl ht cl1 (k := 1) (by decide) flX1_15 rfl (ly1_1 hL ht).1 ?_
  refine j_iload_n 99 dX1_add_98 rfl rfl 1 rfl ?_
  obtain ⟨hg, h⟩ := j_gs h
  refine j_iald 100 dX1_add_99 rfl (ly1_1 hL ht).2 (j_inv hg) ?_
  refine j_iload_n 101 dX1_add_100 rfl rfl 2 rfl ?_
  refine j_iload 103 dX1_add_101 rfl 3 rfl ?_
  obtain ⟨q1, hq1, h⟩ := j_bs h
  refine j_callSN (rest := [.int l1, .ref (E.1 + (t + 2))]) (As := [.int ((j_up I (t + 3) s2.toNatClampNeg (s1 + s0)) (t + 2) l1.toNatClampNeg), .int l2, .int l6]) 106 dX1_add_103 rfl jyX11_withBit (tcX11_withBit   hq1) flX1_24 wm653 (by decide) rfl rfl (Nat.le_of_ble_eq_true rfl) ?_
  obtain ⟨hg, h⟩ := j_gs h
  refine j_iast 107 dX1_add_106 rfl (ly1_1 hL ht).2 (j_inv hg) ?_
  cases h
  exact j_vret dX1_add_107 rfl
def fX1_add_61 (t : Nat) (l1 : Int32) (l2 : Int32) (l5 : Int32) (s0 : Int32) (I : JI) : Option (JI) :=
  if l5 = s0 then (some (I)) else (j_g (j_in l2 16) (if s0 = 0 then (fX1_add_87 t l1 l2 s0 (-1 : Int32) (I (t + 3) l2.toNatClampNeg) l2 I) else (fX1_add_87 t l1 l2 s0 (1 : Int32) (I (t + 3) l2.toNatClampNeg) l2 I)))
set_option maxHeartbeats 4000000 in
set_option maxRecDepth 100000 in
theorem kX1_add_61 {E : JE} {t : Nat} {r : JI} {L : JL} {G : JG} {D : JG} {S : JS} (hL : Lay G S) (ht : S[t]? = some (1, 4)) : ∀ (l1 : Int32) (l2 : Int32) (l5 : Int32) (s0 : Int32) (I : JI), fX1_add_61 t l1 l2 l5 s0 I = some r → AtJ E xX1_add (Zr E none r L G D S) ((S).length, jm_sl S) 2 61 [(0, .ref (E.1 + t)), (1, .int l1), (2, .int l2), (5, .int l5)] [.int s0] I L G D S := by
  intro l1 l2 l5 s0 I  h
  unfold fX1_add_61 at h
  refine j_istore (lv' := [(6, .int s0), (0, .ref (E.1 + t)), (1, .int l1), (2, .int l2), (5, .int l5)]) 63 dX1_add_61 rfl (by decide) rfl ?_
  refine j_iload 65 dX1_add_63 rfl 4 rfl ?_
  refine j_iload 67 dX1_add_65 rfl 0 rfl ?_
  refine j_icmp_eq 107 70 dX1_add_67 (by decide) rfl (fun hc => ?_) (fun hc => ?_)
  · replace h := j_pos hc h
    cases h
    exact j_vret dX1_add_107 rfl
  · replace h := j_neg hc h
    refine j_aload_n 71 dX1_add_70 rfl rfl 1 rfl ?_
    refine j_getG 74 dX1_add_71 rfl ht cl1 (k := 2) (by decide) flX1_18 rfl (ly1_2 hL ht).1 ?_
    refine j_iload_n 75 dX1_add_74 rfl rfl 3 rfl ?_
    refine j_dup2_11 76 dX1_add_75 rfl rfl rfl ?_
    obtain ⟨hg, h⟩ := j_gs h
    refine j_iald 77 dX1_add_76 rfl (ly1_2 hL ht).2 (j_inv hg) ?_
    refine j_iload 79 dX1_add_77 rfl 0 rfl ?_
    refine j_if_eq 86 82 dX1_add_79 (by decide) rfl (fun hc => ?_) (fun hc => ?_)
    · replace h := j_pos hc h
      refine j_iconst (v := (-1 : Int32)) 87 dX1_add_86 rfl (by decide) ?_
      refine j_sub [1, 2, 3, 0] rfl ?_
      exact kX1_add_87 hL  ht  _ _ _ _ _ _ _  h
    · replace h := j_neg hc h
      refine j_iconst (v := (1 : Int32)) 83 dX1_add_82 rfl (by decide) ?_
      refine j_goto 87 dX1_add_83 (by decide) ?_
      refine j_sub [1, 2, 3, 0] rfl ?_
      exact kX1_add_87 hL  ht  _ _ _ _ _ _ _  h
def fX1_add_23 (t : Nat) (l1 : Int32) (l2 : Int32) (l3 : Int32) (l4 : Int32) (s0 : Int32) (I : JI) : Option (JI) :=
  j_g (j_in l4 192) (j_g (j_in l4 192) (j_g (j_in l2 16) (j_g (j_in l2 16) (j_g (j_in l4 192) (if ((j_up (j_up I (t + 1) l4.toNatClampNeg ((I (t + 1) l4.toNatClampNeg) + l3)) (t + 4) l2.toNatClampNeg (((j_up I (t + 1) l4.toNatClampNeg ((I (t + 1) l4.toNatClampNeg) + l3)) (t + 4) l2.toNatClampNeg) + l3)) (t + 1) l4.toNatClampNeg) = 0 then (fX1_add_61 t l1 l2 s0 (0 : Int32) (j_up (j_up I (t + 1) l4.toNatClampNeg ((I (t + 1) l4.toNatClampNeg) + l3)) (t + 4) l2.toNatClampNeg (((j_up I (t + 1) l4.toNatClampNeg ((I (t + 1) l4.toNatClampNeg) + l3)) (t + 4) l2.toNatClampNeg) + l3))) else (fX1_add_61 t l1 l2 s0 (1 : Int32) (j_up (j_up I (t + 1) l4.toNatClampNeg ((I (t + 1) l4.toNatClampNeg) + l3)) (t + 4) l2.toNatClampNeg (((j_up I (t + 1) l4.toNatClampNeg ((I (t + 1) l4.toNatClampNeg) + l3)) (t + 4) l2.toNatClampNeg) + l3))))))))
set_option maxHeartbeats 4000000 in
set_option maxRecDepth 100000 in
theorem kX1_add_23 {E : JE} {t : Nat} {r : JI} {L : JL} {G : JG} {D : JG} {S : JS} (hL : Lay G S) (ht : S[t]? = some (1, 4)) : ∀ (l1 : Int32) (l2 : Int32) (l3 : Int32) (l4 : Int32) (s0 : Int32) (I : JI), fX1_add_23 t l1 l2 l3 l4 s0 I = some r → AtJ E xX1_add (Zr E none r L G D S) ((S).length, jm_sl S) 2 23 [(0, .ref (E.1 + t)), (1, .int l1), (2, .int l2), (3, .int l3), (4, .int l4)] [.int s0] I L G D S := by
  intro l1 l2 l3 l4 s0 I  h
  unfold fX1_add_23 at h
  refine j_istore (lv' := [(5, .int s0), (0, .ref (E.1 + t)), (1, .int l1), (2, .int l2), (3, .int l3), (4, .int l4)]) 25 dX1_add_23 rfl (by decide) rfl ?_
  refine j_aload_n 26 dX1_add_25 rfl rfl 1 rfl ?_
  refine j_getG 29 dX1_add_26 rfl ht cl1 (k := 0) (by decide) flX1_9 rfl (ly1_0 hL ht).1 ?_
  refine j_iload 31 dX1_add_29 rfl 5 rfl ?_
  refine j_dup2_11 32 dX1_add_31 rfl rfl rfl ?_
  obtain ⟨hg, h⟩ := j_gs h
  refine j_iald 33 dX1_add_32 rfl (ly1_0 hL ht).2 (j_inv hg) ?_
  refine j_iload_n 34 dX1_add_33 rfl rfl 4 rfl ?_
  refine j_iadd 35 dX1_add_34 rfl ?_
  obtain ⟨hg, h⟩ := j_gs h
  refine j_iast 36 dX1_add_35 rfl (ly1_0 hL ht).2 (j_inv hg) ?_
  refine j_aload_n 37 dX1_add_36 rfl rfl 1 rfl ?_
  refine j_getG 40 dX1_add_37 rfl ht cl1 (k := 3) (by decide) flX1_21 rfl (ly1_3 hL ht).1 ?_
  refine j_iload_n 41 dX1_add_40 rfl rfl 3 rfl ?_
  refine j_dup2_11 42 dX1_add_41 rfl rfl rfl ?_
  obtain ⟨hg, h⟩ := j_gs h
  refine j_iald 43 dX1_add_42 rfl (ly1_3 hL ht).2 (j_inv hg) ?_
  refine j_iload_n 44 dX1_add_43 rfl rfl 4 rfl ?_
  refine j_iadd 45 dX1_add_44 rfl ?_
  obtain ⟨hg, h⟩ := j_gs h
  refine j_iast 46 dX1_add_45 rfl (ly1_3 hL ht).2 (j_inv hg) ?_
  refine j_aload_n 47 dX1_add_46 rfl rfl 1 rfl ?_
  refine j_getG 50 dX1_add_47 rfl ht cl1 (k := 0) (by decide) flX1_9 rfl (ly1_0 hL ht).1 ?_
  refine j_iload 52 dX1_add_50 rfl 5 rfl ?_
  obtain ⟨hg, h⟩ := j_gs h
  refine j_iald 53 dX1_add_52 rfl (ly1_0 hL ht).2 (j_inv hg) ?_
  refine j_if_eq 60 56 dX1_add_53 (by decide) rfl (fun hc => ?_) (fun hc => ?_)
  · replace h := j_pos hc h
    refine j_iconst (v := (0 : Int32)) 61 dX1_add_60 rfl (by decide) ?_
    refine j_sub [1, 2, 3, 0] rfl ?_
    exact kX1_add_61 hL  ht  _ _ _ _ _  h
  · replace h := j_neg hc h
    refine j_iconst (v := (1 : Int32)) 57 dX1_add_56 rfl (by decide) ?_
    refine j_goto 61 dX1_add_57 (by decide) ?_
    refine j_sub [1, 2, 3, 0] rfl ?_
    exact kX1_add_61 hL  ht  _ _ _ _ _  h
def fX1_add (t : Nat) (l1 : Int32) (l2 : Int32) (l3 : Int32) (I : JI) : Option (JI) :=
  j_g (j_in ((l1 * (16 : Int32)) + l2) 192) (if (I (t + 1) ((l1 * (16 : Int32)) + l2).toNatClampNeg) = 0 then (fX1_add_23 t l1 l2 l3 ((l1 * (16 : Int32)) + l2) (0 : Int32) I) else (fX1_add_23 t l1 l2 l3 ((l1 * (16 : Int32)) + l2) (1 : Int32) I))
set_option maxHeartbeats 4000000 in
set_option maxRecDepth 100000 in
theorem tcX1_add {E : JE} {t : Nat} {l1 : Int32} {l2 : Int32} {l3 : Int32} {r : JI} {I : JI} {L : JL} {G D : JG} {S : JS} (hL : Lay G S) (ht : S[t]? = some (1, 4)) (h : fX1_add t l1 l2 l3 I = some r) : CallJ E xX1_add 2 [.ref (E.1 + t), .int l1, .int l2, .int l3] I L G D S none r L G D S := by
  unfold fX1_add at h
  refine j_entry (by decide) (Nat.le_of_ble_eq_true rfl) ?_
  show AtJ E xX1_add (Zr E none r L G D S) ((S).length, jm_sl S) 2 0 [(0, .ref (E.1 + t)), (1, .int l1), (2, .int l2), (3, .int l3)] [] I L G D S
  refine j_iload_n 1 dX1_add_0 rfl rfl 1 rfl ?_
  refine j_bipush (v := (16 : Int32)) 3 dX1_add_1 rfl (by decide) ?_
  refine j_imul 4 dX1_add_3 rfl ?_
  refine j_iload_n 5 dX1_add_4 rfl rfl 2 rfl ?_
  refine j_iadd 6 dX1_add_5 rfl ?_
  refine j_istore (lv' := [(4, .int ((l1 * (16 : Int32)) + l2)), (0, .ref (E.1 + t)), (1, .int l1), (2, .int l2), (3, .int l3)]) 8 dX1_add_6 rfl (by decide) rfl ?_
  refine j_aload_n 9 dX1_add_8 rfl rfl 1 rfl ?_
  refine j_getG 12 dX1_add_9 rfl ht cl1 (k := 0) (by decide) flX1_9 rfl (ly1_0 hL ht).1 ?_
  refine j_iload 14 dX1_add_12 rfl 0 rfl ?_
  obtain ⟨hg, h⟩ := j_gs h
  refine j_iald 15 dX1_add_14 rfl (ly1_0 hL ht).2 (j_inv hg) ?_
  refine j_if_eq 22 18 dX1_add_15 (by decide) rfl (fun hc => ?_) (fun hc => ?_)
  · replace h := j_pos hc h
    refine j_iconst (v := (0 : Int32)) 23 dX1_add_22 rfl (by decide) ?_
    refine j_sub [1, 2, 3, 4, 0] rfl ?_
    exact kX1_add_23 hL  ht  _ _ _ _ _ _  h
  · replace h := j_neg hc h
    refine j_iconst (v := (1 : Int32)) 19 dX1_add_18 rfl (by decide) ?_
    refine j_goto 23 dX1_add_19 (by decide) ?_
    refine j_sub [1, 2, 3, 4, 0] rfl ?_
    exact kX1_add_23 hL  ht  _ _ _ _ _ _  h
def fX1_move (t : Nat) (l1 : Int32) (l2 : Int32) (l3 : Int32) (l4 : Int32) (I : JI) : Option (JI) :=
  (fX1_add t l1 l2 (-l4) I).bind (fun q1 => (fX1_add t l1 l3 l4 q1).bind (fun q2 => some (q2)))
set_option maxHeartbeats 4000000 in
set_option maxRecDepth 100000 in
theorem tcX1_move {E : JE} {t : Nat} {l1 : Int32} {l2 : Int32} {l3 : Int32} {l4 : Int32} {r : JI} {I : JI} {L : JL} {G D : JG} {S : JS} (hL : Lay G S) (ht : S[t]? = some (1, 4)) (h : fX1_move t l1 l2 l3 l4 I = some r) : CallJ E xX1_move 3 [.ref (E.1 + t), .int l1, .int l2, .int l3, .int l4] I L G D S none r L G D S := by
  unfold fX1_move at h
  refine j_entry (by decide) (Nat.le_of_ble_eq_true rfl) ?_
  show AtJ E xX1_move (Zr E none r L G D S) ((S).length, jm_sl S) 3 0 [(0, .ref (E.1 + t)), (1, .int l1), (2, .int l2), (3, .int l3), (4, .int l4)] [] I L G D S
  refine j_aload_n 1 dX1_move_0 rfl rfl 0 rfl ?_
  refine j_iload_n 2 dX1_move_1 rfl rfl 1 rfl ?_
  refine j_iload_n 3 dX1_move_2 rfl rfl 2 rfl ?_
  refine j_iload 5 dX1_move_3 rfl 4 rfl ?_
  refine j_ineg 6 dX1_move_5 rfl ?_
  obtain ⟨q1, hq1, h⟩ := j_bs h
  refine j_callV (rest := []) (As := [.int l1, .int l2, .int (-l4)]) 9 dX1_move_6 rfl jyX1_add (tcX1_add hL ht hq1) ht cl1 flX1_28 wm649 wm650 (by decide) rfl rfl (Nat.le_of_ble_eq_true rfl) ?_
  refine j_aload_n 10 dX1_move_9 rfl rfl 0 rfl ?_
  refine j_iload_n 11 dX1_move_10 rfl rfl 1 rfl ?_
  refine j_iload_n 12 dX1_move_11 rfl rfl 3 rfl ?_
  refine j_iload 14 dX1_move_12 rfl 4 rfl ?_
  obtain ⟨q2, hq2, h⟩ := j_bs h
  refine j_callV (rest := []) (As := [.int l1, .int l3, .int l4]) 17 dX1_move_14 rfl jyX1_add (tcX1_add hL ht hq2) ht cl1 flX1_28 wm649 wm650 (by decide) rfl rfl (Nat.le_of_ble_eq_true rfl) ?_
  cases h
  exact j_vret dX1_move_17 rfl
def fX1_copyAll (t : Nat) (l1 : Nat) (I : JI) : Option (JI) :=
  j_g (decide (¬ (l1 + 1) = (t + 1))) (j_g (decide (¬ (0 : Int32) < 0 ∧ ¬ (0 : Int32) < 0 ∧ ¬ (192 : Int32) < 0 ∧ (0 : Int32).toNatClampNeg + (192 : Int32).toNatClampNeg ≤ 192 ∧ (0 : Int32).toNatClampNeg + (192 : Int32).toNatClampNeg ≤ 192)) (j_g (decide (¬ (l1 + 2) = (t + 2))) (j_g (decide (¬ (0 : Int32) < 0 ∧ ¬ (0 : Int32) < 0 ∧ ¬ (12 : Int32) < 0 ∧ (0 : Int32).toNatClampNeg + (12 : Int32).toNatClampNeg ≤ 12 ∧ (0 : Int32).toNatClampNeg + (12 : Int32).toNatClampNeg ≤ 12)) (j_g (decide (¬ (l1 + 3) = (t + 3))) (j_g (decide (¬ (0 : Int32) < 0 ∧ ¬ (0 : Int32) < 0 ∧ ¬ (16 : Int32) < 0 ∧ (0 : Int32).toNatClampNeg + (16 : Int32).toNatClampNeg ≤ 16 ∧ (0 : Int32).toNatClampNeg + (16 : Int32).toNatClampNeg ≤ 16)) (j_g (decide (¬ (l1 + 4) = (t + 4))) (j_g (decide (¬ (0 : Int32) < 0 ∧ ¬ (0 : Int32) < 0 ∧ ¬ (16 : Int32) < 0 ∧ (0 : Int32).toNatClampNeg + (16 : Int32).toNatClampNeg ≤ 16 ∧ (0 : Int32).toNatClampNeg + (16 : Int32).toNatClampNeg ≤ 16)) (some ((j_cpy (j_cpy (j_cpy (j_cpy I (l1 + 1) (0 : Int32).toNatClampNeg (t + 1) (0 : Int32).toNatClampNeg (192 : Int32).toNatClampNeg) (l1 + 2) (0 : Int32).toNatClampNeg (t + 2) (0 : Int32).toNatClampNeg (12 : Int32).toNatClampNeg) (l1 + 3) (0 : Int32).toNatClampNeg (t + 3) (0 : Int32).toNatClampNeg (16 : Int32).toNatClampNeg) (l1 + 4) (0 : Int32).toNatClampNeg (t + 4) (0 : Int32).toNatClampNeg (16 : Int32).toNatClampNeg))))))))))
set_option maxHeartbeats 4000000 in
set_option maxRecDepth 100000 in
theorem tcX1_copyAll {E : JE} {t : Nat} {l1 : Nat} {r : JI} {I : JI} {L : JL} {G D : JG} {S : JS} (hL : Lay G S) (ht : S[t]? = some (1, 4)) (h1 : S[l1]? = some (1, 4)) (h : fX1_copyAll t l1 I = some r) : CallJ E xX1_copyAll 2 [.ref (E.1 + t), .ref (E.1 + l1)] I L G D S none r L G D S := by
  unfold fX1_copyAll at h
  refine j_entry (by decide) (Nat.le_of_ble_eq_true rfl) ?_
  show AtJ E xX1_copyAll (Zr E none r L G D S) ((S).length, jm_sl S) 2 0 [(0, .ref (E.1 + t)), (1, .ref (E.1 + l1))] [] I L G D S
  refine j_aload_n 1 dX1_copyAll_0 rfl rfl 1 rfl ?_
  refine j_getG 4 dX1_copyAll_1 rfl h1 cl1 (k := 0) (by decide) flX1_9 rfl (ly1_0 hL h1).1 ?_
  refine j_iconst (v := (0 : Int32)) 5 dX1_copyAll_4 rfl (by decide) ?_
  refine j_aload_n 6 dX1_copyAll_5 rfl rfl 0 rfl ?_
  refine j_getG 9 dX1_copyAll_6 rfl ht cl1 (k := 0) (by decide) flX1_9 rfl (ly1_0 hL ht).1 ?_
  refine j_iconst (v := (0 : Int32)) 10 dX1_copyAll_9 rfl (by decide) ?_
  refine j_sipush (v := (192 : Int32)) 13 dX1_copyAll_10 rfl (by decide) ?_
  obtain ⟨hne, h⟩ := j_gs h
  obtain ⟨hcp, h⟩ := j_gs h
  have hcp := of_decide_eq_true hcp
  refine j_copy 16 dX1_copyAll_13 rfl (ly1_0 hL h1).2 (ly1_0 hL ht).2 (of_decide_eq_true hne) flX1_32 wm1101 wm1100 wm108 hcp.1 hcp.2.1 hcp.2.2.1 hcp.2.2.2.1 hcp.2.2.2.2 (by decide) (Nat.le_of_ble_eq_true rfl) (by decide) ?_
  refine j_aload_n 17 dX1_copyAll_16 rfl rfl 1 rfl ?_
  refine j_getG 20 dX1_copyAll_17 rfl h1 cl1 (k := 1) (by decide) flX1_15 rfl (ly1_1 hL h1).1 ?_
  refine j_iconst (v := (0 : Int32)) 21 dX1_copyAll_20 rfl (by decide) ?_
  refine j_aload_n 22 dX1_copyAll_21 rfl rfl 0 rfl ?_
  refine j_getG 25 dX1_copyAll_22 rfl ht cl1 (k := 1) (by decide) flX1_15 rfl (ly1_1 hL ht).1 ?_
  refine j_iconst (v := (0 : Int32)) 26 dX1_copyAll_25 rfl (by decide) ?_
  refine j_bipush (v := (12 : Int32)) 28 dX1_copyAll_26 rfl (by decide) ?_
  obtain ⟨hne, h⟩ := j_gs h
  obtain ⟨hcp, h⟩ := j_gs h
  have hcp := of_decide_eq_true hcp
  refine j_copy 31 dX1_copyAll_28 rfl (ly1_1 hL h1).2 (ly1_1 hL ht).2 (of_decide_eq_true hne) flX1_32 wm1101 wm1100 wm108 hcp.1 hcp.2.1 hcp.2.2.1 hcp.2.2.2.1 hcp.2.2.2.2 (by decide) (Nat.le_of_ble_eq_true rfl) (by decide) ?_
  refine j_aload_n 32 dX1_copyAll_31 rfl rfl 1 rfl ?_
  refine j_getG 35 dX1_copyAll_32 rfl h1 cl1 (k := 2) (by decide) flX1_18 rfl (ly1_2 hL h1).1 ?_
  refine j_iconst (v := (0 : Int32)) 36 dX1_copyAll_35 rfl (by decide) ?_
  refine j_aload_n 37 dX1_copyAll_36 rfl rfl 0 rfl ?_
  refine j_getG 40 dX1_copyAll_37 rfl ht cl1 (k := 2) (by decide) flX1_18 rfl (ly1_2 hL ht).1 ?_
  refine j_iconst (v := (0 : Int32)) 41 dX1_copyAll_40 rfl (by decide) ?_
  refine j_bipush (v := (16 : Int32)) 43 dX1_copyAll_41 rfl (by decide) ?_
  obtain ⟨hne, h⟩ := j_gs h
  obtain ⟨hcp, h⟩ := j_gs h
  have hcp := of_decide_eq_true hcp
  refine j_copy 46 dX1_copyAll_43 rfl (ly1_2 hL h1).2 (ly1_2 hL ht).2 (of_decide_eq_true hne) flX1_32 wm1101 wm1100 wm108 hcp.1 hcp.2.1 hcp.2.2.1 hcp.2.2.2.1 hcp.2.2.2.2 (by decide) (Nat.le_of_ble_eq_true rfl) (by decide) ?_
  refine j_aload_n 47 dX1_copyAll_46 rfl rfl 1 rfl ?_
  refine j_getG 50 dX1_copyAll_47 rfl h1 cl1 (k := 3) (by decide) flX1_21 rfl (ly1_3 hL h1).1 ?_
  refine j_iconst (v := (0 : Int32)) 51 dX1_copyAll_50 rfl (by decide) ?_
  refine j_aload_n 52 dX1_copyAll_51 rfl rfl 0 rfl ?_
  refine j_getG 55 dX1_copyAll_52 rfl ht cl1 (k := 3) (by decide) flX1_21 rfl (ly1_3 hL ht).1 ?_
  refine j_iconst (v := (0 : Int32)) 56 dX1_copyAll_55 rfl (by decide) ?_
  refine j_bipush (v := (16 : Int32)) 58 dX1_copyAll_56 rfl (by decide) ?_
  obtain ⟨hne, h⟩ := j_gs h
  obtain ⟨hcp, h⟩ := j_gs h
  have hcp := of_decide_eq_true hcp
  refine j_copy 61 dX1_copyAll_58 rfl (ly1_3 hL h1).2 (ly1_3 hL ht).2 (of_decide_eq_true hne) flX1_32 wm1101 wm1100 wm108 hcp.1 hcp.2.1 hcp.2.2.1 hcp.2.2.2.1 hcp.2.2.2.2 (by decide) (Nat.le_of_ble_eq_true rfl) (by decide) ?_
  cases h
  exact j_vret dX1_copyAll_61 rfl
def fX1_copyParcel_2 (t : Nat) (l1 : Nat) : Nat → Int32 → Int32 → JI → Option (JI)
  | 0, _, _, _ => none
  | n + 1, l2, l3, I =>
    if (16 : Int32) ≤ l3 then (some (I)) else ((fX1_of l1 l2 l3 I).bind (fun q1 => (fX1_of t l2 l3 I).bind (fun q2 => (fX1_add t l2 l3 (q1 - q2) I).bind (fun q3 => (fX1_copyParcel_2 t l1 n) l2 (l3 + (1 : Int32)) q3))))
set_option maxHeartbeats 4000000 in
set_option maxRecDepth 100000 in
theorem kX1_copyParcel_2 {E : JE} {t : Nat} {l1 : Nat} {r : JI} {L : JL} {G : JG} {D : JG} {S : JS} (hL : Lay G S) (ht : S[t]? = some (1, 4)) (h1 : S[l1]? = some (1, 4)) : ∀ (n : Nat) (l2 : Int32) (l3 : Int32) (I : JI), fX1_copyParcel_2 t l1 n l2 l3 I = some r → AtJ E xX1_copyParcel (Zr E none r L G D S) ((S).length, jm_sl S) 3 2 [(0, .ref (E.1 + t)), (1, .ref (E.1 + l1)), (2, .int l2), (3, .int l3)] [] I L G D S := by
  intro n
  induction n with
  | zero => intro l2 l3 I  h; simp [fX1_copyParcel_2] at h
  | succ n ih =>
    intro l2 l3 I  h
    rw [fX1_copyParcel_2] at h
    refine j_iload_n 3 dX1_copyParcel_2 rfl rfl 3 rfl ?_
    refine j_bipush (v := (16 : Int32)) 5 dX1_copyParcel_3 rfl (by decide) ?_
    refine j_icmp_ge 33 8 dX1_copyParcel_5 (by decide) rfl (fun hc => ?_) (fun hc => ?_)
    · replace h := j_pos hc h
      cases h
      exact j_vret dX1_copyParcel_33 rfl
    · replace h := j_neg hc h
      refine j_aload_n 9 dX1_copyParcel_8 rfl rfl 0 rfl ?_
      refine j_iload_n 10 dX1_copyParcel_9 rfl rfl 2 rfl ?_
      refine j_iload_n 11 dX1_copyParcel_10 rfl rfl 3 rfl ?_
      refine j_aload_n 12 dX1_copyParcel_11 rfl rfl 1 rfl ?_
      refine j_iload_n 13 dX1_copyParcel_12 rfl rfl 2 rfl ?_
      refine j_iload_n 14 dX1_copyParcel_13 rfl rfl 3 rfl ?_
      obtain ⟨q1, hq1, h⟩ := j_bs h
      refine j_callV (rest := [.int l3, .int l2, .ref (E.1 + t)]) (As := [.int l2, .int l3]) 17 dX1_copyParcel_14 rfl jyX1_of (tcX1_of hL h1 hq1) h1 cl1 flX1_38 wm663 wm664 (by decide) rfl rfl (Nat.le_of_ble_eq_true rfl) ?_
      refine j_aload_n 18 dX1_copyParcel_17 rfl rfl 0 rfl ?_
      refine j_iload_n 19 dX1_copyParcel_18 rfl rfl 2 rfl ?_
      refine j_iload_n 20 dX1_copyParcel_19 rfl rfl 3 rfl ?_
      obtain ⟨q2, hq2, h⟩ := j_bs h
      refine j_callV (rest := [.int q1, .int l3, .int l2, .ref (E.1 + t)]) (As := [.int l2, .int l3]) 23 dX1_copyParcel_20 rfl jyX1_of (tcX1_of hL ht hq2) ht cl1 flX1_38 wm663 wm664 (by decide) rfl rfl (Nat.le_of_ble_eq_true rfl) ?_
      refine j_isub 24 dX1_copyParcel_23 rfl ?_
      obtain ⟨q3, hq3, h⟩ := j_bs h
      refine j_callV (rest := []) (As := [.int l2, .int l3, .int (q1 - q2)]) 27 dX1_copyParcel_24 rfl jyX1_add (tcX1_add hL ht hq3) ht cl1 flX1_28 wm649 wm650 (by decide) rfl rfl (Nat.le_of_ble_eq_true rfl) ?_
      refine j_iinc (v := (l3 + (1 : Int32))) (lv' := [(3, .int (l3 + (1 : Int32))), (0, .ref (E.1 + t)), (1, .ref (E.1 + l1)), (2, .int l2)]) (q := 3) 30 dX1_copyParcel_27 rfl rfl rfl (by decide) rfl ?_
      refine j_goto 2 dX1_copyParcel_30 (by decide) ?_
      refine j_sub [1, 2, 3, 0] rfl ?_
      exact ih _ _ _  h
def fX1_copyParcel (t : Nat) (l1 : Nat) (l2 : Int32) (I : JI) : Option (JI) :=
  fX1_copyParcel_2 t l1 100000 l2 (0 : Int32) I
set_option maxHeartbeats 4000000 in
set_option maxRecDepth 100000 in
theorem tcX1_copyParcel {E : JE} {t : Nat} {l1 : Nat} {l2 : Int32} {r : JI} {I : JI} {L : JL} {G D : JG} {S : JS} (hL : Lay G S) (ht : S[t]? = some (1, 4)) (h1 : S[l1]? = some (1, 4)) (h : fX1_copyParcel t l1 l2 I = some r) : CallJ E xX1_copyParcel 3 [.ref (E.1 + t), .ref (E.1 + l1), .int l2] I L G D S none r L G D S := by
  unfold fX1_copyParcel at h
  refine j_entry (by decide) (Nat.le_of_ble_eq_true rfl) ?_
  show AtJ E xX1_copyParcel (Zr E none r L G D S) ((S).length, jm_sl S) 3 0 [(0, .ref (E.1 + t)), (1, .ref (E.1 + l1)), (2, .int l2)] [] I L G D S
  refine j_iconst (v := (0 : Int32)) 1 dX1_copyParcel_0 rfl (by decide) ?_
  refine j_istore_n (lv' := [(3, .int (0 : Int32)), (0, .ref (E.1 + t)), (1, .ref (E.1 + l1)), (2, .int l2)]) 2 dX1_copyParcel_1 rfl rfl (by decide) rfl ?_
  refine j_sub [1, 2, 3, 0] rfl ?_
  exact kX1_copyParcel_2 hL  ht h1  100000 _ _ _  h
def fX1_holdersOf_4 (t : Nat) : Nat → Int32 → Int32 → Int32 → JI → Option (Int32)
  | 0, _, _, _, _ => none
  | n + 1, l1, l2, l3, I =>
    if (12 : Int32) ≤ l3 then (some (l2)) else (if (l1 >>> (l3 &&& 31)) = 0 then (some (l2)) else (if ((l1 >>> (l3 &&& 31)) &&& (1 : Int32)) = 0 then ((fX1_holdersOf_4 t n) l1 l2 (l3 + (1 : Int32)) I) else (j_g (j_in l3 12) ((fX1_holdersOf_4 t n) l1 (l2 ||| (I (t + 2) l3.toNatClampNeg)) (l3 + (1 : Int32)) I))))
set_option maxHeartbeats 4000000 in
set_option maxRecDepth 100000 in
theorem kX1_holdersOf_4 {E : JE} {t : Nat} {r : Int32} {L : JL} {G : JG} {D : JG} {S : JS} (hL : Lay G S) (ht : S[t]? = some (1, 4)) : ∀ (n : Nat) (l1 : Int32) (l2 : Int32) (l3 : Int32) (I : JI), fX1_holdersOf_4 t n l1 l2 l3 I = some r → AtJ E xX1_holdersOf (Zr E (some (.int r)) I L G D S) ((S).length, jm_sl S) 1 4 [(0, .ref (E.1 + t)), (1, .int l1), (2, .int l2), (3, .int l3)] [] I L G D S := by
  intro n
  induction n with
  | zero => intro l1 l2 l3 I  h; simp [fX1_holdersOf_4] at h
  | succ n ih =>
    intro l1 l2 l3 I  h
    rw [fX1_holdersOf_4] at h
    refine j_iload_n 5 dX1_holdersOf_4 rfl rfl 3 rfl ?_
    refine j_bipush (v := (12 : Int32)) 7 dX1_holdersOf_5 rfl (by decide) ?_
    refine j_icmp_ge 39 10 dX1_holdersOf_7 (by decide) rfl (fun hc => ?_) (fun hc => ?_)
    · replace h := j_pos hc h
      refine j_iload_n 40 dX1_holdersOf_39 rfl rfl 2 rfl ?_
      cases h
      exact j_iret dX1_holdersOf_40 rfl
    · replace h := j_neg hc h
      refine j_iload_n 11 dX1_holdersOf_10 rfl rfl 1 rfl ?_
      refine j_iload_n 12 dX1_holdersOf_11 rfl rfl 3 rfl ?_
      refine j_ishr 13 dX1_holdersOf_12 rfl ?_
      refine j_if_eq 39 16 dX1_holdersOf_13 (by decide) rfl (fun hc => ?_) (fun hc => ?_)
      · replace h := j_pos hc h
        refine j_iload_n 40 dX1_holdersOf_39 rfl rfl 2 rfl ?_
        cases h
        exact j_iret dX1_holdersOf_40 rfl
      · replace h := j_neg hc h
        refine j_iload_n 17 dX1_holdersOf_16 rfl rfl 1 rfl ?_
        refine j_iload_n 18 dX1_holdersOf_17 rfl rfl 3 rfl ?_
        refine j_ishr 19 dX1_holdersOf_18 rfl ?_
        refine j_iconst (v := (1 : Int32)) 20 dX1_holdersOf_19 rfl (by decide) ?_
        refine j_iand 21 dX1_holdersOf_20 rfl ?_
        refine j_if_eq 33 24 dX1_holdersOf_21 (by decide) rfl (fun hc => ?_) (fun hc => ?_)
        · replace h := j_pos hc h
          refine j_iinc (v := (l3 + (1 : Int32))) (lv' := [(3, .int (l3 + (1 : Int32))), (0, .ref (E.1 + t)), (1, .int l1), (2, .int l2)]) (q := 3) 36 dX1_holdersOf_33 rfl rfl rfl (by decide) rfl ?_
          refine j_goto 4 dX1_holdersOf_36 (by decide) ?_
          refine j_sub [1, 2, 3, 0] rfl ?_
          exact ih _ _ _ _  h
        · replace h := j_neg hc h
          refine j_iload_n 25 dX1_holdersOf_24 rfl rfl 2 rfl ?_
          refine j_aload_n 26 dX1_holdersOf_25 rfl rfl 0 rfl ?_
          refine j_getG 29 dX1_holdersOf_26 rfl ht cl1 (k := 1) (by decide) flX1_15 rfl (ly1_1 hL ht).1 ?_
          refine j_iload_n 30 dX1_holdersOf_29 rfl rfl 3 rfl ?_
          obtain ⟨hg, h⟩ := j_gs h
          refine j_iald 31 dX1_holdersOf_30 rfl (ly1_1 hL ht).2 (j_inv hg) ?_
          refine j_ior 32 dX1_holdersOf_31 rfl ?_
          refine j_istore_n (lv' := [(2, .int (l2 ||| (I (t + 2) l3.toNatClampNeg))), (0, .ref (E.1 + t)), (1, .int l1), (3, .int l3)]) 33 dX1_holdersOf_32 rfl rfl (by decide) rfl ?_
          refine j_iinc (v := (l3 + (1 : Int32))) (lv' := [(3, .int (l3 + (1 : Int32))), (2, .int (l2 ||| (I (t + 2) l3.toNatClampNeg))), (0, .ref (E.1 + t)), (1, .int l1)]) (q := 3) 36 dX1_holdersOf_33 rfl rfl rfl (by decide) rfl ?_
          refine j_goto 4 dX1_holdersOf_36 (by decide) ?_
          refine j_sub [2, 3, 1, 0] rfl ?_
          exact ih _ _ _ _  h
def fX1_holdersOf (t : Nat) (l1 : Int32) (I : JI) : Option (Int32) :=
  fX1_holdersOf_4 t 100000 l1 (0 : Int32) (0 : Int32) I
set_option maxHeartbeats 4000000 in
set_option maxRecDepth 100000 in
theorem tcX1_holdersOf {E : JE} {t : Nat} {l1 : Int32} {r : Int32} {I : JI} {L : JL} {G D : JG} {S : JS} (hL : Lay G S) (ht : S[t]? = some (1, 4)) (h : fX1_holdersOf t l1 I = some r) : CallJ E xX1_holdersOf 1 [.ref (E.1 + t), .int l1] I L G D S (some (.int r)) I L G D S := by
  unfold fX1_holdersOf at h
  refine j_entry (by decide) (Nat.le_of_ble_eq_true rfl) ?_
  show AtJ E xX1_holdersOf (Zr E (some (.int r)) I L G D S) ((S).length, jm_sl S) 1 0 [(0, .ref (E.1 + t)), (1, .int l1)] [] I L G D S
  refine j_iconst (v := (0 : Int32)) 1 dX1_holdersOf_0 rfl (by decide) ?_
  refine j_istore_n (lv' := [(2, .int (0 : Int32)), (0, .ref (E.1 + t)), (1, .int l1)]) 2 dX1_holdersOf_1 rfl rfl (by decide) rfl ?_
  refine j_iconst (v := (0 : Int32)) 3 dX1_holdersOf_2 rfl (by decide) ?_
  refine j_istore_n (lv' := [(3, .int (0 : Int32)), (2, .int (0 : Int32)), (0, .ref (E.1 + t)), (1, .int l1)]) 4 dX1_holdersOf_3 rfl rfl (by decide) rfl ?_
  refine j_sub [2, 3, 1, 0] rfl ?_
  exact kX1_holdersOf_4 hL  ht  100000 _ _ _ _  h
def fX1_sumOf_5 (t : Nat) : Nat → Int32 → Int32 → Int32 → Int32 → JI → Option (Int32)
  | 0, _, _, _, _, _ => none
  | n + 1, l1, l2, l3, l4, I =>
    if (12 : Int32) ≤ l4 then (some (l3)) else (if ((l1 >>> (l4 &&& 31)) &&& (1 : Int32)) = 0 then ((fX1_sumOf_5 t n) l1 l2 l3 (l4 + (1 : Int32)) I) else ((fX1_of t l4 l2 I).bind (fun q1 => (fX1_sumOf_5 t n) l1 l2 (l3 + q1) (l4 + (1 : Int32)) I)))
set_option maxHeartbeats 4000000 in
set_option maxRecDepth 100000 in
theorem kX1_sumOf_5 {E : JE} {t : Nat} {r : Int32} {L : JL} {G : JG} {D : JG} {S : JS} (hL : Lay G S) (ht : S[t]? = some (1, 4)) : ∀ (n : Nat) (l1 : Int32) (l2 : Int32) (l3 : Int32) (l4 : Int32) (I : JI), fX1_sumOf_5 t n l1 l2 l3 l4 I = some r → AtJ E xX1_sumOf (Zr E (some (.int r)) I L G D S) ((S).length, jm_sl S) 2 5 [(0, .ref (E.1 + t)), (1, .int l1), (2, .int l2), (3, .int l3), (4, .int l4)] [] I L G D S := by
  intro n
  induction n with
  | zero => intro l1 l2 l3 l4 I  h; simp [fX1_sumOf_5] at h
  | succ n ih =>
    intro l1 l2 l3 l4 I  h
    rw [fX1_sumOf_5] at h
    refine j_iload 7 dX1_sumOf_5 rfl 4 rfl ?_
    refine j_bipush (v := (12 : Int32)) 9 dX1_sumOf_7 rfl (by decide) ?_
    refine j_icmp_ge 37 12 dX1_sumOf_9 (by decide) rfl (fun hc => ?_) (fun hc => ?_)
    · replace h := j_pos hc h
      refine j_iload_n 38 dX1_sumOf_37 rfl rfl 3 rfl ?_
      cases h
      exact j_iret dX1_sumOf_38 rfl
    · replace h := j_neg hc h
      refine j_iload_n 13 dX1_sumOf_12 rfl rfl 1 rfl ?_
      refine j_iload 15 dX1_sumOf_13 rfl 4 rfl ?_
      refine j_ishr 16 dX1_sumOf_15 rfl ?_
      refine j_iconst (v := (1 : Int32)) 17 dX1_sumOf_16 rfl (by decide) ?_
      refine j_iand 18 dX1_sumOf_17 rfl ?_
      refine j_if_eq 31 21 dX1_sumOf_18 (by decide) rfl (fun hc => ?_) (fun hc => ?_)
      · replace h := j_pos hc h
        refine j_iinc (v := (l4 + (1 : Int32))) (lv' := [(4, .int (l4 + (1 : Int32))), (0, .ref (E.1 + t)), (1, .int l1), (2, .int l2), (3, .int l3)]) (q := 4) 34 dX1_sumOf_31 rfl rfl rfl (by decide) rfl ?_
        refine j_goto 5 dX1_sumOf_34 (by decide) ?_
        refine j_sub [1, 2, 3, 4, 0] rfl ?_
        exact ih _ _ _ _ _  h
      · replace h := j_neg hc h
        refine j_iload_n 22 dX1_sumOf_21 rfl rfl 3 rfl ?_
        refine j_aload_n 23 dX1_sumOf_22 rfl rfl 0 rfl ?_
        refine j_iload 25 dX1_sumOf_23 rfl 4 rfl ?_
        refine j_iload_n 26 dX1_sumOf_25 rfl rfl 2 rfl ?_
        obtain ⟨q1, hq1, h⟩ := j_bs h
        refine j_callV (rest := [.int l3]) (As := [.int l4, .int l2]) 29 dX1_sumOf_26 rfl jyX1_of (tcX1_of hL ht hq1) ht cl1 flX1_38 wm663 wm664 (by decide) rfl rfl (Nat.le_of_ble_eq_true rfl) ?_
        refine j_iadd 30 dX1_sumOf_29 rfl ?_
        refine j_istore_n (lv' := [(3, .int (l3 + q1)), (0, .ref (E.1 + t)), (1, .int l1), (2, .int l2), (4, .int l4)]) 31 dX1_sumOf_30 rfl rfl (by decide) rfl ?_
        refine j_iinc (v := (l4 + (1 : Int32))) (lv' := [(4, .int (l4 + (1 : Int32))), (3, .int (l3 + q1)), (0, .ref (E.1 + t)), (1, .int l1), (2, .int l2)]) (q := 4) 34 dX1_sumOf_31 rfl rfl rfl (by decide) rfl ?_
        refine j_goto 5 dX1_sumOf_34 (by decide) ?_
        refine j_sub [2, 3, 4, 1, 0] rfl ?_
        exact ih _ _ _ _ _  h
def fX1_sumOf (t : Nat) (l1 : Int32) (l2 : Int32) (I : JI) : Option (Int32) :=
  fX1_sumOf_5 t 100000 l1 l2 (0 : Int32) (0 : Int32) I
set_option maxHeartbeats 4000000 in
set_option maxRecDepth 100000 in
theorem tcX1_sumOf {E : JE} {t : Nat} {l1 : Int32} {l2 : Int32} {r : Int32} {I : JI} {L : JL} {G D : JG} {S : JS} (hL : Lay G S) (ht : S[t]? = some (1, 4)) (h : fX1_sumOf t l1 l2 I = some r) : CallJ E xX1_sumOf 2 [.ref (E.1 + t), .int l1, .int l2] I L G D S (some (.int r)) I L G D S := by
  unfold fX1_sumOf at h
  refine j_entry (by decide) (Nat.le_of_ble_eq_true rfl) ?_
  show AtJ E xX1_sumOf (Zr E (some (.int r)) I L G D S) ((S).length, jm_sl S) 2 0 [(0, .ref (E.1 + t)), (1, .int l1), (2, .int l2)] [] I L G D S
  refine j_iconst (v := (0 : Int32)) 1 dX1_sumOf_0 rfl (by decide) ?_
  refine j_istore_n (lv' := [(3, .int (0 : Int32)), (0, .ref (E.1 + t)), (1, .int l1), (2, .int l2)]) 2 dX1_sumOf_1 rfl rfl (by decide) rfl ?_
  refine j_iconst (v := (0 : Int32)) 3 dX1_sumOf_2 rfl (by decide) ?_
  refine j_istore (lv' := [(4, .int (0 : Int32)), (3, .int (0 : Int32)), (0, .ref (E.1 + t)), (1, .int l1), (2, .int l2)]) 5 dX1_sumOf_3 rfl (by decide) rfl ?_
  refine j_sub [2, 3, 4, 1, 0] rfl ?_
  exact kX1_sumOf_5 hL  ht  100000 _ _ _ _ _  h
def fJ6_bitCount_0f7a4 (l0 : Int32)  : Option (Int32) :=
  some (((((((((l0 - ((l0.toUInt32 >>> ((1 : Int32).toUInt32 &&& Int32.toUInt32 31)).toInt32 &&& (1431655765 : Int32))) &&& (858993459 : Int32)) + (((l0 - ((l0.toUInt32 >>> ((1 : Int32).toUInt32 &&& Int32.toUInt32 31)).toInt32 &&& (1431655765 : Int32))).toUInt32 >>> ((2 : Int32).toUInt32 &&& Int32.toUInt32 31)).toInt32 &&& (858993459 : Int32))) + ((((l0 - ((l0.toUInt32 >>> ((1 : Int32).toUInt32 &&& Int32.toUInt32 31)).toInt32 &&& (1431655765 : Int32))) &&& (858993459 : Int32)) + (((l0 - ((l0.toUInt32 >>> ((1 : Int32).toUInt32 &&& Int32.toUInt32 31)).toInt32 &&& (1431655765 : Int32))).toUInt32 >>> ((2 : Int32).toUInt32 &&& Int32.toUInt32 31)).toInt32 &&& (858993459 : Int32))).toUInt32 >>> ((4 : Int32).toUInt32 &&& Int32.toUInt32 31)).toInt32) &&& (252645135 : Int32)) + ((((((l0 - ((l0.toUInt32 >>> ((1 : Int32).toUInt32 &&& Int32.toUInt32 31)).toInt32 &&& (1431655765 : Int32))) &&& (858993459 : Int32)) + (((l0 - ((l0.toUInt32 >>> ((1 : Int32).toUInt32 &&& Int32.toUInt32 31)).toInt32 &&& (1431655765 : Int32))).toUInt32 >>> ((2 : Int32).toUInt32 &&& Int32.toUInt32 31)).toInt32 &&& (858993459 : Int32))) + ((((l0 - ((l0.toUInt32 >>> ((1 : Int32).toUInt32 &&& Int32.toUInt32 31)).toInt32 &&& (1431655765 : Int32))) &&& (858993459 : Int32)) + (((l0 - ((l0.toUInt32 >>> ((1 : Int32).toUInt32 &&& Int32.toUInt32 31)).toInt32 &&& (1431655765 : Int32))).toUInt32 >>> ((2 : Int32).toUInt32 &&& Int32.toUInt32 31)).toInt32 &&& (858993459 : Int32))).toUInt32 >>> ((4 : Int32).toUInt32 &&& Int32.toUInt32 31)).toInt32) &&& (252645135 : Int32)).toUInt32 >>> ((8 : Int32).toUInt32 &&& Int32.toUInt32 31)).toInt32) + (((((((l0 - ((l0.toUInt32 >>> ((1 : Int32).toUInt32 &&& Int32.toUInt32 31)).toInt32 &&& (1431655765 : Int32))) &&& (858993459 : Int32)) + (((l0 - ((l0.toUInt32 >>> ((1 : Int32).toUInt32 &&& Int32.toUInt32 31)).toInt32 &&& (1431655765 : Int32))).toUInt32 >>> ((2 : Int32).toUInt32 &&& Int32.toUInt32 31)).toInt32 &&& (858993459 : Int32))) + ((((l0 - ((l0.toUInt32 >>> ((1 : Int32).toUInt32 &&& Int32.toUInt32 31)).toInt32 &&& (1431655765 : Int32))) &&& (858993459 : Int32)) + (((l0 - ((l0.toUInt32 >>> ((1 : Int32).toUInt32 &&& Int32.toUInt32 31)).toInt32 &&& (1431655765 : Int32))).toUInt32 >>> ((2 : Int32).toUInt32 &&& Int32.toUInt32 31)).toInt32 &&& (858993459 : Int32))).toUInt32 >>> ((4 : Int32).toUInt32 &&& Int32.toUInt32 31)).toInt32) &&& (252645135 : Int32)) + ((((((l0 - ((l0.toUInt32 >>> ((1 : Int32).toUInt32 &&& Int32.toUInt32 31)).toInt32 &&& (1431655765 : Int32))) &&& (858993459 : Int32)) + (((l0 - ((l0.toUInt32 >>> ((1 : Int32).toUInt32 &&& Int32.toUInt32 31)).toInt32 &&& (1431655765 : Int32))).toUInt32 >>> ((2 : Int32).toUInt32 &&& Int32.toUInt32 31)).toInt32 &&& (858993459 : Int32))) + ((((l0 - ((l0.toUInt32 >>> ((1 : Int32).toUInt32 &&& Int32.toUInt32 31)).toInt32 &&& (1431655765 : Int32))) &&& (858993459 : Int32)) + (((l0 - ((l0.toUInt32 >>> ((1 : Int32).toUInt32 &&& Int32.toUInt32 31)).toInt32 &&& (1431655765 : Int32))).toUInt32 >>> ((2 : Int32).toUInt32 &&& Int32.toUInt32 31)).toInt32 &&& (858993459 : Int32))).toUInt32 >>> ((4 : Int32).toUInt32 &&& Int32.toUInt32 31)).toInt32) &&& (252645135 : Int32)).toUInt32 >>> ((8 : Int32).toUInt32 &&& Int32.toUInt32 31)).toInt32).toUInt32 >>> ((16 : Int32).toUInt32 &&& Int32.toUInt32 31)).toInt32) &&& (63 : Int32)))
set_option maxHeartbeats 4000000 in
set_option maxRecDepth 100000 in
theorem tcJ6_bitCount_0f7a4 {E : JE} {l0 : Int32} {r : Int32} {I : JI} {L : JL} {G D : JG} {S : JS} (h : fJ6_bitCount_0f7a4 l0 = some r) : CallJ E xJ6_bitCount_0f7a4 1 [.int l0] I L G D S (some (.int r)) I L G D S := by
  unfold fJ6_bitCount_0f7a4 at h
  refine j_entry (by decide) (Nat.le_of_ble_eq_true rfl) ?_
  show AtJ E xJ6_bitCount_0f7a4 (Zr E (some (.int r)) I L G D S) ((S).length, jm_sl S) 1 0 [(0, .int l0)] [] I L G D S
  refine j_iload_n 1 dJ6_bitCount_0f7a4_0 rfl rfl 0 rfl ?_
  refine j_iload_n 2 dJ6_bitCount_0f7a4_1 rfl rfl 0 rfl ?_
  refine j_iconst (v := (1 : Int32)) 3 dJ6_bitCount_0f7a4_2 rfl (by decide) ?_
  refine j_iushr 4 dJ6_bitCount_0f7a4_3 rfl ?_
  refine j_ldcw (v := (1431655765 : Int32)) 7 dJ6_bitCount_0f7a4_4 rfl wm1178 ?_
  refine j_iand 8 dJ6_bitCount_0f7a4_7 rfl ?_
  refine j_isub 9 dJ6_bitCount_0f7a4_8 rfl ?_
  refine j_istore_n (lv' := [(0, .int (l0 - ((l0.toUInt32 >>> ((1 : Int32).toUInt32 &&& Int32.toUInt32 31)).toInt32 &&& (1431655765 : Int32))))]) 10 dJ6_bitCount_0f7a4_9 rfl rfl (by decide) rfl ?_
  refine j_iload_n 11 dJ6_bitCount_0f7a4_10 rfl rfl 0 rfl ?_
  refine j_ldcw (v := (858993459 : Int32)) 14 dJ6_bitCount_0f7a4_11 rfl wm1179 ?_
  refine j_iand 15 dJ6_bitCount_0f7a4_14 rfl ?_
  refine j_iload_n 16 dJ6_bitCount_0f7a4_15 rfl rfl 0 rfl ?_
  refine j_iconst (v := (2 : Int32)) 17 dJ6_bitCount_0f7a4_16 rfl (by decide) ?_
  refine j_iushr 18 dJ6_bitCount_0f7a4_17 rfl ?_
  refine j_ldcw (v := (858993459 : Int32)) 21 dJ6_bitCount_0f7a4_18 rfl wm1179 ?_
  refine j_iand 22 dJ6_bitCount_0f7a4_21 rfl ?_
  refine j_iadd 23 dJ6_bitCount_0f7a4_22 rfl ?_
  refine j_istore_n (lv' := [(0, .int (((l0 - ((l0.toUInt32 >>> ((1 : Int32).toUInt32 &&& Int32.toUInt32 31)).toInt32 &&& (1431655765 : Int32))) &&& (858993459 : Int32)) + (((l0 - ((l0.toUInt32 >>> ((1 : Int32).toUInt32 &&& Int32.toUInt32 31)).toInt32 &&& (1431655765 : Int32))).toUInt32 >>> ((2 : Int32).toUInt32 &&& Int32.toUInt32 31)).toInt32 &&& (858993459 : Int32))))]) 24 dJ6_bitCount_0f7a4_23 rfl rfl (by decide) rfl ?_
  refine j_iload_n 25 dJ6_bitCount_0f7a4_24 rfl rfl 0 rfl ?_
  refine j_iload_n 26 dJ6_bitCount_0f7a4_25 rfl rfl 0 rfl ?_
  refine j_iconst (v := (4 : Int32)) 27 dJ6_bitCount_0f7a4_26 rfl (by decide) ?_
  refine j_iushr 28 dJ6_bitCount_0f7a4_27 rfl ?_
  refine j_iadd 29 dJ6_bitCount_0f7a4_28 rfl ?_
  refine j_ldcw (v := (252645135 : Int32)) 32 dJ6_bitCount_0f7a4_29 rfl wm1180 ?_
  refine j_iand 33 dJ6_bitCount_0f7a4_32 rfl ?_
  refine j_istore_n (lv' := [(0, .int (((((l0 - ((l0.toUInt32 >>> ((1 : Int32).toUInt32 &&& Int32.toUInt32 31)).toInt32 &&& (1431655765 : Int32))) &&& (858993459 : Int32)) + (((l0 - ((l0.toUInt32 >>> ((1 : Int32).toUInt32 &&& Int32.toUInt32 31)).toInt32 &&& (1431655765 : Int32))).toUInt32 >>> ((2 : Int32).toUInt32 &&& Int32.toUInt32 31)).toInt32 &&& (858993459 : Int32))) + ((((l0 - ((l0.toUInt32 >>> ((1 : Int32).toUInt32 &&& Int32.toUInt32 31)).toInt32 &&& (1431655765 : Int32))) &&& (858993459 : Int32)) + (((l0 - ((l0.toUInt32 >>> ((1 : Int32).toUInt32 &&& Int32.toUInt32 31)).toInt32 &&& (1431655765 : Int32))).toUInt32 >>> ((2 : Int32).toUInt32 &&& Int32.toUInt32 31)).toInt32 &&& (858993459 : Int32))).toUInt32 >>> ((4 : Int32).toUInt32 &&& Int32.toUInt32 31)).toInt32) &&& (252645135 : Int32)))]) 34 dJ6_bitCount_0f7a4_33 rfl rfl (by decide) rfl ?_
  refine j_iload_n 35 dJ6_bitCount_0f7a4_34 rfl rfl 0 rfl ?_
  refine j_iload_n 36 dJ6_bitCount_0f7a4_35 rfl rfl 0 rfl ?_
  refine j_bipush (v := (8 : Int32)) 38 dJ6_bitCount_0f7a4_36 rfl (by decide) ?_
  refine j_iushr 39 dJ6_bitCount_0f7a4_38 rfl ?_
  refine j_iadd 40 dJ6_bitCount_0f7a4_39 rfl ?_
  refine j_istore_n (lv' := [(0, .int ((((((l0 - ((l0.toUInt32 >>> ((1 : Int32).toUInt32 &&& Int32.toUInt32 31)).toInt32 &&& (1431655765 : Int32))) &&& (858993459 : Int32)) + (((l0 - ((l0.toUInt32 >>> ((1 : Int32).toUInt32 &&& Int32.toUInt32 31)).toInt32 &&& (1431655765 : Int32))).toUInt32 >>> ((2 : Int32).toUInt32 &&& Int32.toUInt32 31)).toInt32 &&& (858993459 : Int32))) + ((((l0 - ((l0.toUInt32 >>> ((1 : Int32).toUInt32 &&& Int32.toUInt32 31)).toInt32 &&& (1431655765 : Int32))) &&& (858993459 : Int32)) + (((l0 - ((l0.toUInt32 >>> ((1 : Int32).toUInt32 &&& Int32.toUInt32 31)).toInt32 &&& (1431655765 : Int32))).toUInt32 >>> ((2 : Int32).toUInt32 &&& Int32.toUInt32 31)).toInt32 &&& (858993459 : Int32))).toUInt32 >>> ((4 : Int32).toUInt32 &&& Int32.toUInt32 31)).toInt32) &&& (252645135 : Int32)) + ((((((l0 - ((l0.toUInt32 >>> ((1 : Int32).toUInt32 &&& Int32.toUInt32 31)).toInt32 &&& (1431655765 : Int32))) &&& (858993459 : Int32)) + (((l0 - ((l0.toUInt32 >>> ((1 : Int32).toUInt32 &&& Int32.toUInt32 31)).toInt32 &&& (1431655765 : Int32))).toUInt32 >>> ((2 : Int32).toUInt32 &&& Int32.toUInt32 31)).toInt32 &&& (858993459 : Int32))) + ((((l0 - ((l0.toUInt32 >>> ((1 : Int32).toUInt32 &&& Int32.toUInt32 31)).toInt32 &&& (1431655765 : Int32))) &&& (858993459 : Int32)) + (((l0 - ((l0.toUInt32 >>> ((1 : Int32).toUInt32 &&& Int32.toUInt32 31)).toInt32 &&& (1431655765 : Int32))).toUInt32 >>> ((2 : Int32).toUInt32 &&& Int32.toUInt32 31)).toInt32 &&& (858993459 : Int32))).toUInt32 >>> ((4 : Int32).toUInt32 &&& Int32.toUInt32 31)).toInt32) &&& (252645135 : Int32)).toUInt32 >>> ((8 : Int32).toUInt32 &&& Int32.toUInt32 31)).toInt32))]) 41 dJ6_bitCount_0f7a4_40 rfl rfl (by decide) rfl ?_
  refine j_iload_n 42 dJ6_bitCount_0f7a4_41 rfl rfl 0 rfl ?_
  refine j_iload_n 43 dJ6_bitCount_0f7a4_42 rfl rfl 0 rfl ?_
  refine j_bipush (v := (16 : Int32)) 45 dJ6_bitCount_0f7a4_43 rfl (by decide) ?_
  refine j_iushr 46 dJ6_bitCount_0f7a4_45 rfl ?_
  refine j_iadd 47 dJ6_bitCount_0f7a4_46 rfl ?_
  refine j_istore_n (lv' := [(0, .int (((((((l0 - ((l0.toUInt32 >>> ((1 : Int32).toUInt32 &&& Int32.toUInt32 31)).toInt32 &&& (1431655765 : Int32))) &&& (858993459 : Int32)) + (((l0 - ((l0.toUInt32 >>> ((1 : Int32).toUInt32 &&& Int32.toUInt32 31)).toInt32 &&& (1431655765 : Int32))).toUInt32 >>> ((2 : Int32).toUInt32 &&& Int32.toUInt32 31)).toInt32 &&& (858993459 : Int32))) + ((((l0 - ((l0.toUInt32 >>> ((1 : Int32).toUInt32 &&& Int32.toUInt32 31)).toInt32 &&& (1431655765 : Int32))) &&& (858993459 : Int32)) + (((l0 - ((l0.toUInt32 >>> ((1 : Int32).toUInt32 &&& Int32.toUInt32 31)).toInt32 &&& (1431655765 : Int32))).toUInt32 >>> ((2 : Int32).toUInt32 &&& Int32.toUInt32 31)).toInt32 &&& (858993459 : Int32))).toUInt32 >>> ((4 : Int32).toUInt32 &&& Int32.toUInt32 31)).toInt32) &&& (252645135 : Int32)) + ((((((l0 - ((l0.toUInt32 >>> ((1 : Int32).toUInt32 &&& Int32.toUInt32 31)).toInt32 &&& (1431655765 : Int32))) &&& (858993459 : Int32)) + (((l0 - ((l0.toUInt32 >>> ((1 : Int32).toUInt32 &&& Int32.toUInt32 31)).toInt32 &&& (1431655765 : Int32))).toUInt32 >>> ((2 : Int32).toUInt32 &&& Int32.toUInt32 31)).toInt32 &&& (858993459 : Int32))) + ((((l0 - ((l0.toUInt32 >>> ((1 : Int32).toUInt32 &&& Int32.toUInt32 31)).toInt32 &&& (1431655765 : Int32))) &&& (858993459 : Int32)) + (((l0 - ((l0.toUInt32 >>> ((1 : Int32).toUInt32 &&& Int32.toUInt32 31)).toInt32 &&& (1431655765 : Int32))).toUInt32 >>> ((2 : Int32).toUInt32 &&& Int32.toUInt32 31)).toInt32 &&& (858993459 : Int32))).toUInt32 >>> ((4 : Int32).toUInt32 &&& Int32.toUInt32 31)).toInt32) &&& (252645135 : Int32)).toUInt32 >>> ((8 : Int32).toUInt32 &&& Int32.toUInt32 31)).toInt32) + (((((((l0 - ((l0.toUInt32 >>> ((1 : Int32).toUInt32 &&& Int32.toUInt32 31)).toInt32 &&& (1431655765 : Int32))) &&& (858993459 : Int32)) + (((l0 - ((l0.toUInt32 >>> ((1 : Int32).toUInt32 &&& Int32.toUInt32 31)).toInt32 &&& (1431655765 : Int32))).toUInt32 >>> ((2 : Int32).toUInt32 &&& Int32.toUInt32 31)).toInt32 &&& (858993459 : Int32))) + ((((l0 - ((l0.toUInt32 >>> ((1 : Int32).toUInt32 &&& Int32.toUInt32 31)).toInt32 &&& (1431655765 : Int32))) &&& (858993459 : Int32)) + (((l0 - ((l0.toUInt32 >>> ((1 : Int32).toUInt32 &&& Int32.toUInt32 31)).toInt32 &&& (1431655765 : Int32))).toUInt32 >>> ((2 : Int32).toUInt32 &&& Int32.toUInt32 31)).toInt32 &&& (858993459 : Int32))).toUInt32 >>> ((4 : Int32).toUInt32 &&& Int32.toUInt32 31)).toInt32) &&& (252645135 : Int32)) + ((((((l0 - ((l0.toUInt32 >>> ((1 : Int32).toUInt32 &&& Int32.toUInt32 31)).toInt32 &&& (1431655765 : Int32))) &&& (858993459 : Int32)) + (((l0 - ((l0.toUInt32 >>> ((1 : Int32).toUInt32 &&& Int32.toUInt32 31)).toInt32 &&& (1431655765 : Int32))).toUInt32 >>> ((2 : Int32).toUInt32 &&& Int32.toUInt32 31)).toInt32 &&& (858993459 : Int32))) + ((((l0 - ((l0.toUInt32 >>> ((1 : Int32).toUInt32 &&& Int32.toUInt32 31)).toInt32 &&& (1431655765 : Int32))) &&& (858993459 : Int32)) + (((l0 - ((l0.toUInt32 >>> ((1 : Int32).toUInt32 &&& Int32.toUInt32 31)).toInt32 &&& (1431655765 : Int32))).toUInt32 >>> ((2 : Int32).toUInt32 &&& Int32.toUInt32 31)).toInt32 &&& (858993459 : Int32))).toUInt32 >>> ((4 : Int32).toUInt32 &&& Int32.toUInt32 31)).toInt32) &&& (252645135 : Int32)).toUInt32 >>> ((8 : Int32).toUInt32 &&& Int32.toUInt32 31)).toInt32).toUInt32 >>> ((16 : Int32).toUInt32 &&& Int32.toUInt32 31)).toInt32))]) 48 dJ6_bitCount_0f7a4_47 rfl rfl (by decide) rfl ?_
  refine j_iload_n 49 dJ6_bitCount_0f7a4_48 rfl rfl 0 rfl ?_
  refine j_bipush (v := (63 : Int32)) 51 dJ6_bitCount_0f7a4_49 rfl (by decide) ?_
  refine j_iand 52 dJ6_bitCount_0f7a4_51 rfl ?_
  cases h
  exact j_iret dJ6_bitCount_0f7a4_52 rfl
def fJ6_numberOfTrailingZeros_0f7a4_62 (l0 : Int32) (l1 : Int32)  : Option (Int32) :=
  if l0 ≤ (4 : Int32) then (some ((l1 + (l0.toUInt32 >>> ((1 : Int32).toUInt32 &&& Int32.toUInt32 31)).toInt32))) else (some (((l1 + (2 : Int32)) + ((l0.toUInt32 >>> ((2 : Int32).toUInt32 &&& Int32.toUInt32 31)).toInt32.toUInt32 >>> ((1 : Int32).toUInt32 &&& Int32.toUInt32 31)).toInt32)))
set_option maxHeartbeats 4000000 in
set_option maxRecDepth 100000 in
theorem kJ6_numberOfTrailingZeros_0f7a4_62 {E : JE} {r : Int32} {I : JI} {L : JL} {G : JG} {D : JG} {S : JS}  : ∀ (l0 : Int32) (l1 : Int32), fJ6_numberOfTrailingZeros_0f7a4_62 l0 l1 = some r → AtJ E xJ6_numberOfTrailingZeros_0f7a4 (Zr E (some (.int r)) I L G D S) ((S).length, jm_sl S) 1 62 [(0, .int l0), (1, .int l1)] [] I L G D S := by
  intro l0 l1  h
  unfold fJ6_numberOfTrailingZeros_0f7a4_62 at h
  refine j_iload_n 63 dJ6_numberOfTrailingZeros_0f7a4_62 rfl rfl 0 rfl ?_
  refine j_iconst (v := (4 : Int32)) 64 dJ6_numberOfTrailingZeros_0f7a4_63 rfl (by decide) ?_
  refine j_icmp_le 74 67 dJ6_numberOfTrailingZeros_0f7a4_64 (by decide) rfl (fun hc => ?_) (fun hc => ?_)
  · replace h := j_pos hc h
    refine j_iload_n 75 dJ6_numberOfTrailingZeros_0f7a4_74 rfl rfl 1 rfl ?_
    refine j_iload_n 76 dJ6_numberOfTrailingZeros_0f7a4_75 rfl rfl 0 rfl ?_
    refine j_iconst (v := (1 : Int32)) 77 dJ6_numberOfTrailingZeros_0f7a4_76 rfl (by decide) ?_
    refine j_iushr 78 dJ6_numberOfTrailingZeros_0f7a4_77 rfl ?_
    refine j_iadd 79 dJ6_numberOfTrailingZeros_0f7a4_78 rfl ?_
    cases h
    exact j_iret dJ6_numberOfTrailingZeros_0f7a4_79 rfl
  · replace h := j_neg hc h
    refine j_iinc (v := (l1 + (2 : Int32))) (lv' := [(1, .int (l1 + (2 : Int32))), (0, .int l0)]) (q := 1) 70 dJ6_numberOfTrailingZeros_0f7a4_67 rfl rfl rfl (by decide) rfl ?_
    refine j_iload_n 71 dJ6_numberOfTrailingZeros_0f7a4_70 rfl rfl 1 rfl ?_
    refine j_iconst (v := (2 : Int32)) 72 dJ6_numberOfTrailingZeros_0f7a4_71 rfl (by decide) ?_
    refine j_iushr 73 dJ6_numberOfTrailingZeros_0f7a4_72 rfl ?_
    refine j_istore_n (lv' := [(0, .int (l0.toUInt32 >>> ((2 : Int32).toUInt32 &&& Int32.toUInt32 31)).toInt32), (1, .int (l1 + (2 : Int32)))]) 74 dJ6_numberOfTrailingZeros_0f7a4_73 rfl rfl (by decide) rfl ?_
    refine j_iload_n 75 dJ6_numberOfTrailingZeros_0f7a4_74 rfl rfl 1 rfl ?_
    refine j_iload_n 76 dJ6_numberOfTrailingZeros_0f7a4_75 rfl rfl 0 rfl ?_
    refine j_iconst (v := (1 : Int32)) 77 dJ6_numberOfTrailingZeros_0f7a4_76 rfl (by decide) ?_
    refine j_iushr 78 dJ6_numberOfTrailingZeros_0f7a4_77 rfl ?_
    refine j_iadd 79 dJ6_numberOfTrailingZeros_0f7a4_78 rfl ?_
    cases h
    exact j_iret dJ6_numberOfTrailingZeros_0f7a4_79 rfl
def fJ6_numberOfTrailingZeros_0f7a4_34 (l0 : Int32) (l1 : Int32)  : Option (Int32) :=
  if l0 ≤ (256 : Int32) then (if l0 ≤ (16 : Int32) then (fJ6_numberOfTrailingZeros_0f7a4_62 l0 l1) else (fJ6_numberOfTrailingZeros_0f7a4_62 (l0.toUInt32 >>> ((4 : Int32).toUInt32 &&& Int32.toUInt32 31)).toInt32 (l1 + (4 : Int32)))) else (if (l0.toUInt32 >>> ((8 : Int32).toUInt32 &&& Int32.toUInt32 31)).toInt32 ≤ (16 : Int32) then (fJ6_numberOfTrailingZeros_0f7a4_62 (l0.toUInt32 >>> ((8 : Int32).toUInt32 &&& Int32.toUInt32 31)).toInt32 (l1 + (8 : Int32))) else (fJ6_numberOfTrailingZeros_0f7a4_62 ((l0.toUInt32 >>> ((8 : Int32).toUInt32 &&& Int32.toUInt32 31)).toInt32.toUInt32 >>> ((4 : Int32).toUInt32 &&& Int32.toUInt32 31)).toInt32 ((l1 + (8 : Int32)) + (4 : Int32))))
set_option maxHeartbeats 4000000 in
set_option maxRecDepth 100000 in
theorem kJ6_numberOfTrailingZeros_0f7a4_34 {E : JE} {r : Int32} {I : JI} {L : JL} {G : JG} {D : JG} {S : JS}  : ∀ (l0 : Int32) (l1 : Int32), fJ6_numberOfTrailingZeros_0f7a4_34 l0 l1 = some r → AtJ E xJ6_numberOfTrailingZeros_0f7a4 (Zr E (some (.int r)) I L G D S) ((S).length, jm_sl S) 1 34 [(0, .int l0), (1, .int l1)] [] I L G D S := by
  intro l0 l1  h
  unfold fJ6_numberOfTrailingZeros_0f7a4_34 at h
  refine j_iload_n 35 dJ6_numberOfTrailingZeros_0f7a4_34 rfl rfl 0 rfl ?_
  refine j_sipush (v := (256 : Int32)) 38 dJ6_numberOfTrailingZeros_0f7a4_35 rfl (by decide) ?_
  refine j_icmp_le 49 41 dJ6_numberOfTrailingZeros_0f7a4_38 (by decide) rfl (fun hc => ?_) (fun hc => ?_)
  · replace h := j_pos hc h
    refine j_iload_n 50 dJ6_numberOfTrailingZeros_0f7a4_49 rfl rfl 0 rfl ?_
    refine j_bipush (v := (16 : Int32)) 52 dJ6_numberOfTrailingZeros_0f7a4_50 rfl (by decide) ?_
    refine j_icmp_le 62 55 dJ6_numberOfTrailingZeros_0f7a4_52 (by decide) rfl (fun hc => ?_) (fun hc => ?_)
    · replace h := j_pos hc h
      exact kJ6_numberOfTrailingZeros_0f7a4_62     _ _  h
    · replace h := j_neg hc h
      refine j_iinc (v := (l1 + (4 : Int32))) (lv' := [(1, .int (l1 + (4 : Int32))), (0, .int l0)]) (q := 1) 58 dJ6_numberOfTrailingZeros_0f7a4_55 rfl rfl rfl (by decide) rfl ?_
      refine j_iload_n 59 dJ6_numberOfTrailingZeros_0f7a4_58 rfl rfl 1 rfl ?_
      refine j_iconst (v := (4 : Int32)) 60 dJ6_numberOfTrailingZeros_0f7a4_59 rfl (by decide) ?_
      refine j_iushr 61 dJ6_numberOfTrailingZeros_0f7a4_60 rfl ?_
      refine j_istore_n (lv' := [(0, .int (l0.toUInt32 >>> ((4 : Int32).toUInt32 &&& Int32.toUInt32 31)).toInt32), (1, .int (l1 + (4 : Int32)))]) 62 dJ6_numberOfTrailingZeros_0f7a4_61 rfl rfl (by decide) rfl ?_
      exact kJ6_numberOfTrailingZeros_0f7a4_62     _ _  h
  · replace h := j_neg hc h
    refine j_iinc (v := (l1 + (8 : Int32))) (lv' := [(1, .int (l1 + (8 : Int32))), (0, .int l0)]) (q := 1) 44 dJ6_numberOfTrailingZeros_0f7a4_41 rfl rfl rfl (by decide) rfl ?_
    refine j_iload_n 45 dJ6_numberOfTrailingZeros_0f7a4_44 rfl rfl 1 rfl ?_
    refine j_bipush (v := (8 : Int32)) 47 dJ6_numberOfTrailingZeros_0f7a4_45 rfl (by decide) ?_
    refine j_iushr 48 dJ6_numberOfTrailingZeros_0f7a4_47 rfl ?_
    refine j_istore_n (lv' := [(0, .int (l0.toUInt32 >>> ((8 : Int32).toUInt32 &&& Int32.toUInt32 31)).toInt32), (1, .int (l1 + (8 : Int32)))]) 49 dJ6_numberOfTrailingZeros_0f7a4_48 rfl rfl (by decide) rfl ?_
    refine j_iload_n 50 dJ6_numberOfTrailingZeros_0f7a4_49 rfl rfl 0 rfl ?_
    refine j_bipush (v := (16 : Int32)) 52 dJ6_numberOfTrailingZeros_0f7a4_50 rfl (by decide) ?_
    refine j_icmp_le 62 55 dJ6_numberOfTrailingZeros_0f7a4_52 (by decide) rfl (fun hc => ?_) (fun hc => ?_)
    · replace h := j_pos hc h
      exact kJ6_numberOfTrailingZeros_0f7a4_62     _ _  h
    · replace h := j_neg hc h
      refine j_iinc (v := ((l1 + (8 : Int32)) + (4 : Int32))) (lv' := [(1, .int ((l1 + (8 : Int32)) + (4 : Int32))), (0, .int (l0.toUInt32 >>> ((8 : Int32).toUInt32 &&& Int32.toUInt32 31)).toInt32)]) (q := 1) 58 dJ6_numberOfTrailingZeros_0f7a4_55 rfl rfl rfl (by decide) rfl ?_
      refine j_iload_n 59 dJ6_numberOfTrailingZeros_0f7a4_58 rfl rfl 1 rfl ?_
      refine j_iconst (v := (4 : Int32)) 60 dJ6_numberOfTrailingZeros_0f7a4_59 rfl (by decide) ?_
      refine j_iushr 61 dJ6_numberOfTrailingZeros_0f7a4_60 rfl ?_
      refine j_istore_n (lv' := [(0, .int ((l0.toUInt32 >>> ((8 : Int32).toUInt32 &&& Int32.toUInt32 31)).toInt32.toUInt32 >>> ((4 : Int32).toUInt32 &&& Int32.toUInt32 31)).toInt32), (1, .int ((l1 + (8 : Int32)) + (4 : Int32)))]) 62 dJ6_numberOfTrailingZeros_0f7a4_61 rfl rfl (by decide) rfl ?_
      exact kJ6_numberOfTrailingZeros_0f7a4_62     _ _  h
def fJ6_numberOfTrailingZeros_0f7a4 (l0 : Int32)  : Option (Int32) :=
  if 0 < ((l0 ^^^ (-1 : Int32)) &&& (l0 - (1 : Int32))) then (if ((l0 ^^^ (-1 : Int32)) &&& (l0 - (1 : Int32))) ≤ (65536 : Int32) then (fJ6_numberOfTrailingZeros_0f7a4_34 ((l0 ^^^ (-1 : Int32)) &&& (l0 - (1 : Int32))) (1 : Int32)) else (fJ6_numberOfTrailingZeros_0f7a4_34 (((l0 ^^^ (-1 : Int32)) &&& (l0 - (1 : Int32))).toUInt32 >>> ((16 : Int32).toUInt32 &&& Int32.toUInt32 31)).toInt32 ((1 : Int32) + (16 : Int32)))) else (some ((((l0 ^^^ (-1 : Int32)) &&& (l0 - (1 : Int32))) &&& (32 : Int32))))
set_option maxHeartbeats 4000000 in
set_option maxRecDepth 100000 in
theorem tcJ6_numberOfTrailingZeros_0f7a4 {E : JE} {l0 : Int32} {r : Int32} {I : JI} {L : JL} {G D : JG} {S : JS} (h : fJ6_numberOfTrailingZeros_0f7a4 l0 = some r) : CallJ E xJ6_numberOfTrailingZeros_0f7a4 1 [.int l0] I L G D S (some (.int r)) I L G D S := by
  unfold fJ6_numberOfTrailingZeros_0f7a4 at h
  refine j_entry (by decide) (Nat.le_of_ble_eq_true rfl) ?_
  show AtJ E xJ6_numberOfTrailingZeros_0f7a4 (Zr E (some (.int r)) I L G D S) ((S).length, jm_sl S) 1 0 [(0, .int l0)] [] I L G D S
  refine j_iload_n 1 dJ6_numberOfTrailingZeros_0f7a4_0 rfl rfl 0 rfl ?_
  refine j_iconst (v := (-1 : Int32)) 2 dJ6_numberOfTrailingZeros_0f7a4_1 rfl (by decide) ?_
  refine j_ixor 3 dJ6_numberOfTrailingZeros_0f7a4_2 rfl ?_
  refine j_iload_n 4 dJ6_numberOfTrailingZeros_0f7a4_3 rfl rfl 0 rfl ?_
  refine j_iconst (v := (1 : Int32)) 5 dJ6_numberOfTrailingZeros_0f7a4_4 rfl (by decide) ?_
  refine j_isub 6 dJ6_numberOfTrailingZeros_0f7a4_5 rfl ?_
  refine j_iand 7 dJ6_numberOfTrailingZeros_0f7a4_6 rfl ?_
  refine j_istore_n (lv' := [(0, .int ((l0 ^^^ (-1 : Int32)) &&& (l0 - (1 : Int32))))]) 8 dJ6_numberOfTrailingZeros_0f7a4_7 rfl rfl (by decide) rfl ?_
  refine j_iload_n 9 dJ6_numberOfTrailingZeros_0f7a4_8 rfl rfl 0 rfl ?_
  refine j_if_gt 17 12 dJ6_numberOfTrailingZeros_0f7a4_9 (by decide) rfl (fun hc => ?_) (fun hc => ?_)
  · replace h := j_pos hc h
    refine j_iconst (v := (1 : Int32)) 18 dJ6_numberOfTrailingZeros_0f7a4_17 rfl (by decide) ?_
    refine j_istore_n (lv' := [(1, .int (1 : Int32)), (0, .int ((l0 ^^^ (-1 : Int32)) &&& (l0 - (1 : Int32))))]) 19 dJ6_numberOfTrailingZeros_0f7a4_18 rfl rfl (by decide) rfl ?_
    refine j_iload_n 20 dJ6_numberOfTrailingZeros_0f7a4_19 rfl rfl 1 rfl ?_
    refine j_ldcw (v := (65536 : Int32)) 23 dJ6_numberOfTrailingZeros_0f7a4_20 rfl wm1184 ?_
    refine j_icmp_le 34 26 dJ6_numberOfTrailingZeros_0f7a4_23 (by decide) rfl (fun hc => ?_) (fun hc => ?_)
    · replace h := j_pos hc h
      refine j_sub [1, 0] rfl ?_
      exact kJ6_numberOfTrailingZeros_0f7a4_34     _ _  h
    · replace h := j_neg hc h
      refine j_iinc (v := ((1 : Int32) + (16 : Int32))) (lv' := [(1, .int ((1 : Int32) + (16 : Int32))), (0, .int ((l0 ^^^ (-1 : Int32)) &&& (l0 - (1 : Int32))))]) (q := 0) 29 dJ6_numberOfTrailingZeros_0f7a4_26 rfl rfl rfl (by decide) rfl ?_
      refine j_iload_n 30 dJ6_numberOfTrailingZeros_0f7a4_29 rfl rfl 1 rfl ?_
      refine j_bipush (v := (16 : Int32)) 32 dJ6_numberOfTrailingZeros_0f7a4_30 rfl (by decide) ?_
      refine j_iushr 33 dJ6_numberOfTrailingZeros_0f7a4_32 rfl ?_
      refine j_istore_n (lv' := [(0, .int (((l0 ^^^ (-1 : Int32)) &&& (l0 - (1 : Int32))).toUInt32 >>> ((16 : Int32).toUInt32 &&& Int32.toUInt32 31)).toInt32), (1, .int ((1 : Int32) + (16 : Int32)))]) 34 dJ6_numberOfTrailingZeros_0f7a4_33 rfl rfl (by decide) rfl ?_
      exact kJ6_numberOfTrailingZeros_0f7a4_34     _ _  h
  · replace h := j_neg hc h
    refine j_iload_n 13 dJ6_numberOfTrailingZeros_0f7a4_12 rfl rfl 0 rfl ?_
    refine j_bipush (v := (32 : Int32)) 15 dJ6_numberOfTrailingZeros_0f7a4_13 rfl (by decide) ?_
    refine j_iand 16 dJ6_numberOfTrailingZeros_0f7a4_15 rfl ?_
    cases h
    exact j_iret dJ6_numberOfTrailingZeros_0f7a4_16 rfl
def fX1_onlyHolder (t : Nat) (l1 : Int32) (I : JI) : Option (Int32) :=
  j_g (j_in l1 12) ((fJ6_bitCount_0f7a4 (I (t + 2) l1.toNatClampNeg)).bind (fun q1 => if q1 = (1 : Int32) then ((fJ6_numberOfTrailingZeros_0f7a4 (I (t + 2) l1.toNatClampNeg)).bind (fun q2 => some (q2))) else (some ((-1 : Int32)))))
set_option maxHeartbeats 4000000 in
set_option maxRecDepth 100000 in
theorem tcX1_onlyHolder {E : JE} {t : Nat} {l1 : Int32} {r : Int32} {I : JI} {L : JL} {G D : JG} {S : JS} (hL : Lay G S) (ht : S[t]? = some (1, 4)) (h : fX1_onlyHolder t l1 I = some r) : CallJ E xX1_onlyHolder 2 [.ref (E.1 + t), .int l1] I L G D S (some (.int r)) I L G D S := by
  unfold fX1_onlyHolder at h
  refine j_entry (by decide) (Nat.le_of_ble_eq_true rfl) ?_
  show AtJ E xX1_onlyHolder (Zr E (some (.int r)) I L G D S) ((S).length, jm_sl S) 2 0 [(0, .ref (E.1 + t)), (1, .int l1)] [] I L G D S
  refine j_aload_n 1 dX1_onlyHolder_0 rfl rfl 0 rfl ?_
  refine j_getG 4 dX1_onlyHolder_1 rfl ht cl1 (k := 1) (by decide) flX1_15 rfl (ly1_1 hL ht).1 ?_
  refine j_iload_n 5 dX1_onlyHolder_4 rfl rfl 1 rfl ?_
  obtain ⟨hg, h⟩ := j_gs h
  refine j_iald 6 dX1_onlyHolder_5 rfl (ly1_1 hL ht).2 (j_inv hg) ?_
  refine j_istore_n (lv' := [(2, .int (I (t + 2) l1.toNatClampNeg)), (0, .ref (E.1 + t)), (1, .int l1)]) 7 dX1_onlyHolder_6 rfl rfl (by decide) rfl ?_
  refine j_iload_n 8 dX1_onlyHolder_7 rfl rfl 0 rfl ?_
  obtain ⟨q1, hq1, h⟩ := j_bs h
  refine j_callS (rest := []) (As := [.int (I (t + 2) l1.toNatClampNeg)]) 11 dX1_onlyHolder_8 rfl jyJ6_bitCount_0f7a4 (tcJ6_bitCount_0f7a4   hq1) flX1_42 wm1176 (by decide) rfl rfl (Nat.le_of_ble_eq_true rfl) ?_
  refine j_iconst (v := (1 : Int32)) 12 dX1_onlyHolder_11 rfl (by decide) ?_
  refine j_icmp_ne 22 15 dX1_onlyHolder_12 (by decide) rfl (fun hc => ?_) (fun hc => ?_)
  · replace h := j_neg hc h
    refine j_iconst (v := (-1 : Int32)) 23 dX1_onlyHolder_22 rfl (by decide) ?_
    cases h
    exact j_iret dX1_onlyHolder_23 rfl
  · replace h := j_pos hc h
    refine j_iload_n 16 dX1_onlyHolder_15 rfl rfl 0 rfl ?_
    obtain ⟨q2, hq2, h⟩ := j_bs h
    refine j_callS (rest := []) (As := [.int (I (t + 2) l1.toNatClampNeg)]) 19 dX1_onlyHolder_16 rfl jyJ6_numberOfTrailingZeros_0f7a4 (tcJ6_numberOfTrailingZeros_0f7a4   hq2) flX1_48 wm1182 (by decide) rfl rfl (Nat.le_of_ble_eq_true rfl) ?_
    refine j_goto 23 dX1_onlyHolder_19 (by decide) ?_
    cases h
    exact j_iret dX1_onlyHolder_23 rfl
def fX2_init (t : Nat) (l1 : Nat) (l2 : Nat) (l3 : Nat) (I : JI) (L : JL) (G : JG) (D : JG) (S : JS) : Option (JI × JL × JG × JG × JS) :=
  (fX1_init (S).length (j_clr I (S).length 0) (j_clr G (S).length none) (S ++ [(1, 4)])).bind (fun q1 => j_g (decide (q1.2.2[t]? = some (2, 15))) (j_g (decide (q1.2.2[l1]? = some (9, 10))) (j_g (decide (q1.2.2[l2]? = some (1, 4))) (j_g (decide (q1.2.2[l3]? = some (3, 10))) (j_g (decide (q1.2.2[(S).length]? = some (1, 4))) ((fX0_init (q1.2.2).length).bind (fun q7 => some ((j_up (j_clr (j_clr q1.1 (q1.2.2).length 0) ((q1.2.2 ++ [(0, 7)])).length 0) t 14 (-1 : Int32)), (j_clr (j_clr (j_clr L (S).length 0) (q1.2.2).length 0) (((q1.2.2 ++ [(0, 7)]) ++ [(20, 12)])).length 0), (j_up (j_up (j_up (j_up (j_up (j_up (j_clr (j_up q1.2.1 t 3 (some (S).length)) (q1.2.2).length none) t 4 (some (q1.2.2).length)) t 5 (some ((q1.2.2 ++ [(0, 7)])).length)) t 6 (some (((q1.2.2 ++ [(0, 7)]) ++ [(20, 12)])).length)) t 0 (some l1)) t 1 (some l2)) t 2 (some l3)), (j_clr (j_clr D (S).length none) (q1.2.2).length none), (((q1.2.2 ++ [(0, 7)]) ++ [(20, 12)]) ++ [(23, 64)])))))))))
set_option maxHeartbeats 4000000 in
set_option maxRecDepth 100000 in
theorem tcX2_init {E : JE} {t : Nat} {l1 : Nat} {l2 : Nat} {l3 : Nat} {r : JI × JL × JG × JG × JS} {I : JI} {L : JL} {G D : JG} {S : JS} (ht : S[t]? = some (2, 15)) (h : fX2_init t l1 l2 l3 I L G D S = some r) : CallJ E xX2_init 2 [.ref (E.1 + t), .ref (E.1 + l1), .ref (E.1 + l2), .ref (E.1 + l3)] I L G D S none r.1 r.2.1 r.2.2.1 r.2.2.2.1 r.2.2.2.2 := by
  unfold fX2_init at h
  refine j_entry (by decide) (Nat.le_of_ble_eq_true rfl) ?_
  show AtJ E xX2_init (Zr E none r.1 r.2.1 r.2.2.1 r.2.2.2.1 r.2.2.2.2) ((r.2.2.2.2).length, jm_sl r.2.2.2.2) 2 0 [(0, .ref (E.1 + t)), (1, .ref (E.1 + l1)), (2, .ref (E.1 + l2)), (3, .ref (E.1 + l3))] [] I L G D S
  refine j_aload_n 1 dX2_init_0 rfl rfl 0 rfl ?_
  refine j_obj 4 dX2_init_1 rfl flX2_3 wm117 wm118 (by decide) (Nat.le_of_ble_eq_true rfl) ?_
  refine j_aload_n 5 dX2_init_4 rfl rfl 0 rfl ?_
  refine j_nwO 8 dX2_init_5 rfl cl1 flX2_9 wm172 wm90 (by decide) ?_
  refine j_dup 9 dX2_init_8 rfl rfl ?_
  obtain ⟨q1, hq1, h⟩ := j_bs h
  refine j_callIN (y := yX1_init) (cy := cX1_init) (my := 1) (rest := [.ref (E.1 + (S).length), .ref (E.1 + t)]) (As := []) 12 dX2_init_9 rfl jyX1_init (tcX1_init  jm_last hq1) flX2_11 wm174 rfl (by decide) rfl rfl (Nat.le_of_ble_eq_true rfl) ?_
  obtain ⟨hgs2, h⟩ := j_gs h
  obtain ⟨hgs3, h⟩ := j_gs h
  obtain ⟨hgs4, h⟩ := j_gs h
  obtain ⟨hgs5, h⟩ := j_gs h
  obtain ⟨hgs6, h⟩ := j_gs h
  refine j_putF 15 dX2_init_12 rfl (of_decide_eq_true hgs2) cl2 (k := 3) (by decide) flX2_12 rfl rfl rfl rfl (fun _ => rfl) (fun _ => rfl) ?_
  refine j_aload_n 16 dX2_init_15 rfl rfl 0 rfl ?_
  refine j_nwO 19 dX2_init_16 rfl cl0 flX2_18 wm234 wm92 (by decide) ?_
  refine j_dup 20 dX2_init_19 rfl rfl ?_
  obtain ⟨q7, hq7, h⟩ := j_bs h
  refine j_callIN (y := yX0_init) (cy := cX0_init) (my := 1) (rest := [.ref (E.1 + (q1.2.2).length), .ref (E.1 + t)]) (As := []) 23 dX2_init_20 rfl jyX0_init (tcX0_init  jm_last hq7) flX2_20 wm236 rfl (by decide) rfl rfl (Nat.le_of_ble_eq_true rfl) ?_
  refine j_putF 26 dX2_init_23 rfl (jm_pre (of_decide_eq_true hgs2)) cl2 (k := 4) (by decide) flX2_21 rfl rfl rfl rfl (fun _ => rfl) (fun _ => rfl) ?_
  refine j_aload_n 27 dX2_init_26 rfl rfl 0 rfl ?_
  refine j_bipush (v := (12 : Int32)) 29 dX2_init_27 rfl (by decide) ?_
  refine j_nwI (N := 12) 31 dX2_init_29 rfl wm170 (by decide) (by decide) (by decide) ?_
  refine j_putF 34 dX2_init_31 rfl (jm_pre (jm_pre (of_decide_eq_true hgs2))) cl2 (k := 5) (by decide) flX2_25 rfl rfl rfl rfl (fun _ => rfl) (fun _ => rfl) ?_
  refine j_aload_n 35 dX2_init_34 rfl rfl 0 rfl ?_
  refine j_bipush (v := (64 : Int32)) 37 dX2_init_35 rfl (by decide) ?_
  refine j_nwL (N := 64) 39 dX2_init_37 rfl wm448 (by decide) (by decide) (by decide) ?_
  refine j_putF 42 dX2_init_39 rfl (jm_pre (jm_pre (jm_pre (of_decide_eq_true hgs2)))) cl2 (k := 6) (by decide) flX2_29 rfl rfl rfl rfl (fun _ => rfl) (fun _ => rfl) ?_
  refine j_aload_n 43 dX2_init_42 rfl rfl 0 rfl ?_
  refine j_iconst (v := (-1 : Int32)) 44 dX2_init_43 rfl (by decide) ?_
  refine j_putI 47 dX2_init_44 rfl (jm_pre (jm_pre (jm_pre (of_decide_eq_true hgs2)))) cl2 (k := 14) (by decide) flX2_33 rfl rfl rfl ?_
  refine j_aload_n 48 dX2_init_47 rfl rfl 0 rfl ?_
  refine j_aload_n 49 dX2_init_48 rfl rfl 1 rfl ?_
  refine j_putF 52 dX2_init_49 rfl (jm_pre (jm_pre (jm_pre (of_decide_eq_true hgs2)))) cl2 (k := 0) (by decide) flX2_37 rfl rfl rfl rfl (fun _ => rfl) (fun _ => rfl) ?_
  refine j_aload_n 53 dX2_init_52 rfl rfl 0 rfl ?_
  refine j_aload_n 54 dX2_init_53 rfl rfl 2 rfl ?_
  refine j_putF 57 dX2_init_54 rfl (jm_pre (jm_pre (jm_pre (of_decide_eq_true hgs2)))) cl2 (k := 1) (by decide) flX2_41 rfl rfl rfl rfl (fun _ => rfl) (fun _ => rfl) ?_
  refine j_aload_n 58 dX2_init_57 rfl rfl 0 rfl ?_
  refine j_aload_n 59 dX2_init_58 rfl rfl 3 rfl ?_
  refine j_putF 62 dX2_init_59 rfl (jm_pre (jm_pre (jm_pre (of_decide_eq_true hgs2)))) cl2 (k := 2) (by decide) flX2_44 rfl rfl rfl rfl (fun _ => rfl) (fun _ => rfl) ?_
  cases h
  exact j_vret dX2_init_62 rfl
def fX2_begin_112 (I : JI) (L : JL) : Option (JI × JL) :=
  (fX1_copyAll 34 7 I).bind (fun q2 => some ((j_up q2 33 7 (0 : Int32)), L))
set_option maxHeartbeats 4000000 in
set_option maxRecDepth 100000 in
theorem kX2_begin_112 {E : JE} {r : JI × JL} {G : JG} {D : JG} {S : JS} (hL : Lay G S) : ∀ (I : JI) (L : JL), fX2_begin_112 I L = some r → AtJ E xX2_begin (Zr E none r.1 r.2 G D S) ((S).length, jm_sl S) 3 112 [(0, .ref (E.1 + 33))] [] I L G D S := by
  intro I L  h
  unfold fX2_begin_112 at h
  refine j_aload_n 113 dX2_begin_112 rfl rfl 0 rfl ?_
  refine j_getG 116 dX2_begin_113 rfl (sh_33 hL) cl2 (k := 3) (by decide) flX2_12 rfl (gs_33_3 hL) ?_
  refine j_aload_n 117 dX2_begin_116 rfl rfl 0 rfl ?_
  refine j_getG 120 dX2_begin_117 rfl (sh_33 hL) cl2 (k := 1) (by decide) flX2_41 rfl (gs_33_1 hL) ?_
  obtain ⟨q2, hq2, h⟩ := j_bs h
  refine j_callV (rest := []) (As := [.ref (E.1 + 7)]) 123 dX2_begin_120 rfl jyX1_copyAll (tcX1_copyAll hL (sh_34 hL) (sh_7 hL) hq2) (sh_34 hL) cl1 flX2_78 wm1096 wm1097 (by decide) rfl rfl (Nat.le_of_ble_eq_true rfl) ?_
  refine j_aload_n 124 dX2_begin_123 rfl rfl 0 rfl ?_
  refine j_iconst (v := (0 : Int32)) 125 dX2_begin_124 rfl (by decide) ?_
  refine j_putI 128 dX2_begin_125 rfl (sh_33 hL) cl2 (k := 7) (by decide) flX2_82 rfl rfl rfl ?_
  cases h
  exact j_vret dX2_begin_128 rfl
def fX2_begin_90 : Nat → Int32 → JI → JL → Option (JI × JL)
  | 0, _, _, _ => none
  | n + 1, l1, I, L =>
    if (64 : Int32) ≤ l1 then (fX2_begin_112 I L) else (j_g (j_in l1 64) ((fX2_begin_90 n) (l1 + (1 : Int32)) I (j_up L 41 l1.toNatClampNeg (0 : Int64))))
set_option maxHeartbeats 4000000 in
set_option maxRecDepth 100000 in
theorem kX2_begin_90 {E : JE} {r : JI × JL} {G : JG} {D : JG} {S : JS} (hL : Lay G S) : ∀ (n : Nat) (l1 : Int32) (I : JI) (L : JL), fX2_begin_90 n l1 I L = some r → AtJ E xX2_begin (Zr E none r.1 r.2 G D S) ((S).length, jm_sl S) 3 90 [(0, .ref (E.1 + 33)), (1, .int l1)] [] I L G D S := by
  intro n
  induction n with
  | zero => intro l1 I L  h; simp [fX2_begin_90] at h
  | succ n ih =>
    intro l1 I L  h
    rw [fX2_begin_90] at h
    refine j_iload_n 91 dX2_begin_90 rfl rfl 1 rfl ?_
    refine j_aload_n 92 dX2_begin_91 rfl rfl 0 rfl ?_
    refine j_getG 95 dX2_begin_92 rfl (sh_33 hL) cl2 (k := 6) (by decide) flX2_29 rfl (gs_33_6 hL) ?_
    refine j_alen (v := (64 : Int32)) (i0 := 3) 96 dX2_begin_95 rfl (sh_41 hL) (by decide) (by decide) rfl rfl ?_
    refine j_icmp_ge 112 99 dX2_begin_96 (by decide) rfl (fun hc => ?_) (fun hc => ?_)
    · replace h := j_pos hc h
      refine j_sub [0] rfl ?_
      exact kX2_begin_112 hL    _ _  h
    · replace h := j_neg hc h
      refine j_aload_n 100 dX2_begin_99 rfl rfl 0 rfl ?_
      refine j_getG 103 dX2_begin_100 rfl (sh_33 hL) cl2 (k := 6) (by decide) flX2_29 rfl (gs_33_6 hL) ?_
      refine j_iload_n 104 dX2_begin_103 rfl rfl 1 rfl ?_
      refine j_lconst (v := (0 : Int64)) 105 dX2_begin_104 rfl (by decide) ?_
      obtain ⟨hg, h⟩ := j_gs h
      refine j_last 106 dX2_begin_105 rfl (sh_41 hL) (j_inv hg) ?_
      refine j_iinc (v := (l1 + (1 : Int32))) (lv' := [(1, .int (l1 + (1 : Int32))), (0, .ref (E.1 + 33))]) (q := 1) 109 dX2_begin_106 rfl rfl rfl (by decide) rfl ?_
      refine j_goto 90 dX2_begin_109 (by decide) ?_
      refine j_sub [1, 0] rfl ?_
      exact ih _ _ _  h
def fX2_begin_88 (I : JI) (L : JL) : Option (JI × JL) :=
  fX2_begin_90 100000 (0 : Int32) I L
set_option maxHeartbeats 4000000 in
set_option maxRecDepth 100000 in
theorem kX2_begin_88 {E : JE} {r : JI × JL} {G : JG} {D : JG} {S : JS} (hL : Lay G S) : ∀ (I : JI) (L : JL), fX2_begin_88 I L = some r → AtJ E xX2_begin (Zr E none r.1 r.2 G D S) ((S).length, jm_sl S) 3 88 [(0, .ref (E.1 + 33))] [] I L G D S := by
  intro I L  h
  unfold fX2_begin_88 at h
  refine j_iconst (v := (0 : Int32)) 89 dX2_begin_88 rfl (by decide) ?_
  refine j_istore_n (lv' := [(1, .int (0 : Int32)), (0, .ref (E.1 + 33))]) 90 dX2_begin_89 rfl rfl (by decide) rfl ?_
  refine j_sub [1, 0] rfl ?_
  exact kX2_begin_90 hL    100000 _ _ _  h
def fX2_begin_12 : Nat → Int32 → JI → JL → Option (JI × JL)
  | 0, _, _, _ => none
  | n + 1, l1, I, L =>
    if (12 : Int32) ≤ l1 then (fX2_begin_88 I L) else ((fX1_onlyHolder 7 l1 I).bind (fun q1 => j_g (j_in l1 12) (j_g (j_in l1 12) (if ((j_up I 40 l1.toNatClampNeg q1) 40 l1.toNatClampNeg) = ((j_up I 40 l1.toNatClampNeg q1) 33 11) then ((fX2_begin_12 n) (l1 + (1 : Int32)) (j_up (j_up I 40 l1.toNatClampNeg q1) 33 8 (((j_up I 40 l1.toNatClampNeg q1) 33 8) ||| ((1 : Int32) <<< (l1 &&& 31)))) L) else (j_g (j_in l1 12) (if ((j_up I 40 l1.toNatClampNeg q1) 40 l1.toNatClampNeg) = (-1 : Int32) then ((fX2_begin_12 n) (l1 + (1 : Int32)) (j_up I 40 l1.toNatClampNeg q1) L) else ((fX2_begin_12 n) (l1 + (1 : Int32)) (j_up (j_up I 40 l1.toNatClampNeg q1) 33 9 (((j_up I 40 l1.toNatClampNeg q1) 33 9) ||| ((1 : Int32) <<< (l1 &&& 31)))) L)))))))
set_option maxHeartbeats 4000000 in
set_option maxRecDepth 100000 in
theorem kX2_begin_12 {E : JE} {r : JI × JL} {G : JG} {D : JG} {S : JS} (hL : Lay G S) : ∀ (n : Nat) (l1 : Int32) (I : JI) (L : JL), fX2_begin_12 n l1 I L = some r → AtJ E xX2_begin (Zr E none r.1 r.2 G D S) ((S).length, jm_sl S) 3 12 [(0, .ref (E.1 + 33)), (1, .int l1)] [] I L G D S := by
  intro n
  induction n with
  | zero => intro l1 I L  h; simp [fX2_begin_12] at h
  | succ n ih =>
    intro l1 I L  h
    rw [fX2_begin_12] at h
    refine j_iload_n 13 dX2_begin_12 rfl rfl 1 rfl ?_
    refine j_bipush (v := (12 : Int32)) 15 dX2_begin_13 rfl (by decide) ?_
    refine j_icmp_ge 88 18 dX2_begin_15 (by decide) rfl (fun hc => ?_) (fun hc => ?_)
    · replace h := j_pos hc h
      refine j_sub [0] rfl ?_
      exact kX2_begin_88 hL    _ _  h
    · replace h := j_neg hc h
      refine j_aload_n 19 dX2_begin_18 rfl rfl 0 rfl ?_
      refine j_getG 22 dX2_begin_19 rfl (sh_33 hL) cl2 (k := 5) (by decide) flX2_25 rfl (gs_33_5 hL) ?_
      refine j_iload_n 23 dX2_begin_22 rfl rfl 1 rfl ?_
      refine j_aload_n 24 dX2_begin_23 rfl rfl 0 rfl ?_
      refine j_getG 27 dX2_begin_24 rfl (sh_33 hL) cl2 (k := 1) (by decide) flX2_41 rfl (gs_33_1 hL) ?_
      refine j_iload_n 28 dX2_begin_27 rfl rfl 1 rfl ?_
      obtain ⟨q1, hq1, h⟩ := j_bs h
      refine j_callV (rest := [.int l1, .ref (E.1 + 40)]) (As := [.int l1]) 31 dX2_begin_28 rfl jyX1_onlyHolder (tcX1_onlyHolder hL (sh_7 hL) hq1) (sh_7 hL) cl1 flX2_74 wm1172 wm1173 (by decide) rfl rfl (Nat.le_of_ble_eq_true rfl) ?_
      obtain ⟨hg, h⟩ := j_gs h
      refine j_iast 32 dX2_begin_31 rfl (sh_40 hL) (j_inv hg) ?_
      refine j_aload_n 33 dX2_begin_32 rfl rfl 0 rfl ?_
      refine j_getG 36 dX2_begin_33 rfl (sh_33 hL) cl2 (k := 5) (by decide) flX2_25 rfl (gs_33_5 hL) ?_
      refine j_iload_n 37 dX2_begin_36 rfl rfl 1 rfl ?_
      obtain ⟨hg, h⟩ := j_gs h
      refine j_iald 38 dX2_begin_37 rfl (sh_40 hL) (j_inv hg) ?_
      refine j_aload_n 39 dX2_begin_38 rfl rfl 0 rfl ?_
      refine j_getI 42 dX2_begin_39 rfl (sh_33 hL) cl2 (k := 11) (by decide) flX2_48 rfl ?_
      refine j_icmp_ne 60 45 dX2_begin_42 (by decide) rfl (fun hc => ?_) (fun hc => ?_)
      · replace h := j_neg hc h
        refine j_aload_n 61 dX2_begin_60 rfl rfl 0 rfl ?_
        refine j_getG 64 dX2_begin_61 rfl (sh_33 hL) cl2 (k := 5) (by decide) flX2_25 rfl (gs_33_5 hL) ?_
        refine j_iload_n 65 dX2_begin_64 rfl rfl 1 rfl ?_
        obtain ⟨hg, h⟩ := j_gs h
        refine j_iald 66 dX2_begin_65 rfl (sh_40 hL) (j_inv hg) ?_
        refine j_iconst (v := (-1 : Int32)) 67 dX2_begin_66 rfl (by decide) ?_
        refine j_icmp_eq 82 70 dX2_begin_67 (by decide) rfl (fun hc => ?_) (fun hc => ?_)
        · replace h := j_pos hc h
          refine j_iinc (v := (l1 + (1 : Int32))) (lv' := [(1, .int (l1 + (1 : Int32))), (0, .ref (E.1 + 33))]) (q := 1) 85 dX2_begin_82 rfl rfl rfl (by decide) rfl ?_
          refine j_goto 12 dX2_begin_85 (by decide) ?_
          refine j_sub [1, 0] rfl ?_
          exact ih _ _ _  h
        · replace h := j_neg hc h
          refine j_aload_n 71 dX2_begin_70 rfl rfl 0 rfl ?_
          refine j_dup 72 dX2_begin_71 rfl rfl ?_
          refine j_getI 75 dX2_begin_72 rfl (sh_33 hL) cl2 (k := 9) (by decide) flX2_71 rfl ?_
          refine j_iconst (v := (1 : Int32)) 76 dX2_begin_75 rfl (by decide) ?_
          refine j_iload_n 77 dX2_begin_76 rfl rfl 1 rfl ?_
          refine j_ishl 78 dX2_begin_77 rfl ?_
          refine j_ior 79 dX2_begin_78 rfl ?_
          refine j_putI 82 dX2_begin_79 rfl (sh_33 hL) cl2 (k := 9) (by decide) flX2_71 rfl rfl rfl ?_
          refine j_iinc (v := (l1 + (1 : Int32))) (lv' := [(1, .int (l1 + (1 : Int32))), (0, .ref (E.1 + 33))]) (q := 1) 85 dX2_begin_82 rfl rfl rfl (by decide) rfl ?_
          refine j_goto 12 dX2_begin_85 (by decide) ?_
          refine j_sub [1, 0] rfl ?_
          exact ih _ _ _  h
      · replace h := j_pos hc h
        refine j_aload_n 46 dX2_begin_45 rfl rfl 0 rfl ?_
        refine j_dup 47 dX2_begin_46 rfl rfl ?_
        refine j_getI 50 dX2_begin_47 rfl (sh_33 hL) cl2 (k := 8) (by decide) flX2_68 rfl ?_
        refine j_iconst (v := (1 : Int32)) 51 dX2_begin_50 rfl (by decide) ?_
        refine j_iload_n 52 dX2_begin_51 rfl rfl 1 rfl ?_
        refine j_ishl 53 dX2_begin_52 rfl ?_
        refine j_ior 54 dX2_begin_53 rfl ?_
        refine j_putI 57 dX2_begin_54 rfl (sh_33 hL) cl2 (k := 8) (by decide) flX2_68 rfl rfl rfl ?_
        refine j_goto 82 dX2_begin_57 (by decide) ?_
        refine j_iinc (v := (l1 + (1 : Int32))) (lv' := [(1, .int (l1 + (1 : Int32))), (0, .ref (E.1 + 33))]) (q := 1) 85 dX2_begin_82 rfl rfl rfl (by decide) rfl ?_
        refine j_goto 12 dX2_begin_85 (by decide) ?_
        refine j_sub [1, 0] rfl ?_
        exact ih _ _ _  h
def fX2_begin (I : JI) (L : JL) : Option (JI × JL) :=
  fX2_begin_12 100000 (0 : Int32) (j_up (j_up I 33 8 (0 : Int32)) 33 9 (0 : Int32)) L
set_option maxHeartbeats 4000000 in
set_option maxRecDepth 100000 in
theorem tcX2_begin {E : JE} {r : JI × JL} {I : JI} {L : JL} {G D : JG} {S : JS} (hL : Lay G S) (h : fX2_begin I L = some r) : CallJ E xX2_begin 3 [.ref (E.1 + 33)] I L G D S none r.1 r.2 G D S := by
  unfold fX2_begin at h
  refine j_entry (by decide) (Nat.le_of_ble_eq_true rfl) ?_
  show AtJ E xX2_begin (Zr E none r.1 r.2 G D S) ((S).length, jm_sl S) 3 0 [(0, .ref (E.1 + 33))] [] I L G D S
  refine j_aload_n 1 dX2_begin_0 rfl rfl 0 rfl ?_
  refine j_iconst (v := (0 : Int32)) 2 dX2_begin_1 rfl (by decide) ?_
  refine j_putI 5 dX2_begin_2 rfl (sh_33 hL) cl2 (k := 8) (by decide) flX2_68 rfl rfl rfl ?_
  refine j_aload_n 6 dX2_begin_5 rfl rfl 0 rfl ?_
  refine j_iconst (v := (0 : Int32)) 7 dX2_begin_6 rfl (by decide) ?_
  refine j_putI 10 dX2_begin_7 rfl (sh_33 hL) cl2 (k := 9) (by decide) flX2_71 rfl rfl rfl ?_
  refine j_iconst (v := (0 : Int32)) 11 dX2_begin_10 rfl (by decide) ?_
  refine j_istore_n (lv' := [(1, .int (0 : Int32)), (0, .ref (E.1 + 33))]) 12 dX2_begin_11 rfl rfl (by decide) rfl ?_
  refine j_sub [1, 0] rfl ?_
  exact kX2_begin_12 hL    100000 _ _ _  h
def fX2_place_42 (k9 : Int32 → Int32 → Int32 → JI → Option (JI)) (l1 : Int32) (l2 : Int32) (l3 : Int32) (s0 : Int32) (I : JI) : Option (JI) :=
  j_g (j_in l3 12) (if s0 = 0 then ((fX1_move 34 l3 (I 40 l3.toNatClampNeg) (I 33 11) (-12 : Int32) I).bind (fun q1 => k9 l1 l2 (l3 + (1 : Int32)) q1)) else ((fX1_move 34 l3 (I 40 l3.toNatClampNeg) (I 33 11) (12 : Int32) I).bind (fun q2 => k9 l1 l2 (l3 + (1 : Int32)) q2)))
set_option maxHeartbeats 4000000 in
set_option maxRecDepth 100000 in
theorem kX2_place_42 {E : JE} {k9 : Int32 → Int32 → Int32 → JI → Option (JI)} {r : JI} {L : JL} {G : JG} {D : JG} {S : JS} (hL : Lay G S) (H9 : ∀ (l1 : Int32) (l2 : Int32) (l3 : Int32) (I : JI), k9 l1 l2 l3 I = some r → AtJ E xX2_place (Zr E none r L G D S) ((S).length, jm_sl S) 4 9 [(0, .ref (E.1 + 33)), (1, .int l1), (2, .int l2), (3, .int l3)] [] I L G D S) : ∀ (l1 : Int32) (l2 : Int32) (l3 : Int32) (s0 : Int32) (I : JI), fX2_place_42 k9 l1 l2 l3 s0 I = some r → AtJ E xX2_place (Zr E none r L G D S) ((S).length, jm_sl S) 4 42 [(0, .ref (E.1 + 33)), (1, .int l1), (2, .int l2), (3, .int l3)] [.int s0] I L G D S := by
  intro l1 l2 l3 s0 I  h
  unfold fX2_place_42 at h
  refine j_istore (lv' := [(4, .int s0), (0, .ref (E.1 + 33)), (1, .int l1), (2, .int l2), (3, .int l3)]) 44 dX2_place_42 rfl (by decide) rfl ?_
  refine j_aload_n 45 dX2_place_44 rfl rfl 1 rfl ?_
  refine j_getG 48 dX2_place_45 rfl (sh_33 hL) cl2 (k := 3) (by decide) flX2_12 rfl (gs_33_3 hL) ?_
  refine j_iload_n 49 dX2_place_48 rfl rfl 4 rfl ?_
  refine j_aload_n 50 dX2_place_49 rfl rfl 1 rfl ?_
  refine j_getG 53 dX2_place_50 rfl (sh_33 hL) cl2 (k := 5) (by decide) flX2_25 rfl (gs_33_5 hL) ?_
  refine j_iload_n 54 dX2_place_53 rfl rfl 4 rfl ?_
  obtain ⟨hg, h⟩ := j_gs h
  refine j_iald 55 dX2_place_54 rfl (sh_40 hL) (j_inv hg) ?_
  refine j_aload_n 56 dX2_place_55 rfl rfl 1 rfl ?_
  refine j_getI 59 dX2_place_56 rfl (sh_33 hL) cl2 (k := 11) (by decide) flX2_48 rfl ?_
  refine j_iload 61 dX2_place_59 rfl 0 rfl ?_
  refine j_if_eq 69 64 dX2_place_61 (by decide) rfl (fun hc => ?_) (fun hc => ?_)
  · replace h := j_pos hc h
    refine j_bipush (v := (-12 : Int32)) 71 dX2_place_69 rfl (by decide) ?_
    obtain ⟨q1, hq1, h⟩ := j_bs h
    refine j_callV (rest := []) (As := [.int l3, .int (I 40 l3.toNatClampNeg), .int (I 33 11), .int (-12 : Int32)]) 74 dX2_place_71 rfl jyX1_move (tcX1_move hL (sh_34 hL) hq1) (sh_34 hL) cl1 flX2_104 wm667 wm668 (by decide) rfl rfl (Nat.le_of_ble_eq_true rfl) ?_
    refine j_iinc (v := (l3 + (1 : Int32))) (lv' := [(3, .int (l3 + (1 : Int32))), (4, .int s0), (0, .ref (E.1 + 33)), (1, .int l1), (2, .int l2)]) (q := 4) 77 dX2_place_74 rfl rfl rfl (by decide) rfl ?_
    refine j_goto 9 dX2_place_77 (by decide) ?_
    refine j_sub [2, 3, 4, 0] rfl ?_
    exact H9 _ _ _ _  h
  · replace h := j_neg hc h
    refine j_bipush (v := (12 : Int32)) 66 dX2_place_64 rfl (by decide) ?_
    refine j_goto 71 dX2_place_66 (by decide) ?_
    obtain ⟨q2, hq2, h⟩ := j_bs h
    refine j_callV (rest := []) (As := [.int l3, .int (I 40 l3.toNatClampNeg), .int (I 33 11), .int (12 : Int32)]) 74 dX2_place_71 rfl jyX1_move (tcX1_move hL (sh_34 hL) hq2) (sh_34 hL) cl1 flX2_104 wm667 wm668 (by decide) rfl rfl (Nat.le_of_ble_eq_true rfl) ?_
    refine j_iinc (v := (l3 + (1 : Int32))) (lv' := [(3, .int (l3 + (1 : Int32))), (4, .int s0), (0, .ref (E.1 + 33)), (1, .int l1), (2, .int l2)]) (q := 4) 77 dX2_place_74 rfl rfl rfl (by decide) rfl ?_
    refine j_goto 9 dX2_place_77 (by decide) ?_
    refine j_sub [2, 3, 4, 0] rfl ?_
    exact H9 _ _ _ _  h
def fX2_place_9 : Nat → Int32 → Int32 → Int32 → JI → Option (JI)
  | 0, _, _, _, _ => none
  | n + 1, l1, l2, l3, I =>
    if (12 : Int32) ≤ l3 then (some ((j_up I 33 7 l1))) else (if (l2 >>> (l3 &&& 31)) = 0 then (some ((j_up I 33 7 l1))) else (if ((l2 >>> (l3 &&& 31)) &&& (1 : Int32)) = 0 then ((fX2_place_9 n) l1 l2 (l3 + (1 : Int32)) I) else (if ((l1 >>> (l3 &&& 31)) &&& (1 : Int32)) = 0 then (fX2_place_42 (fX2_place_9 n) l1 l2 l3 (0 : Int32) I) else (fX2_place_42 (fX2_place_9 n) l1 l2 l3 (1 : Int32) I))))
set_option maxHeartbeats 4000000 in
set_option maxRecDepth 100000 in
theorem kX2_place_9 {E : JE} {r : JI} {L : JL} {G : JG} {D : JG} {S : JS} (hL : Lay G S) : ∀ (n : Nat) (l1 : Int32) (l2 : Int32) (l3 : Int32) (I : JI), fX2_place_9 n l1 l2 l3 I = some r → AtJ E xX2_place (Zr E none r L G D S) ((S).length, jm_sl S) 4 9 [(0, .ref (E.1 + 33)), (1, .int l1), (2, .int l2), (3, .int l3)] [] I L G D S := by
  intro n
  induction n with
  | zero => intro l1 l2 l3 I  h; simp [fX2_place_9] at h
  | succ n ih =>
    intro l1 l2 l3 I  h
    rw [fX2_place_9] at h
    refine j_iload_n 10 dX2_place_9 rfl rfl 3 rfl ?_
    refine j_bipush (v := (12 : Int32)) 12 dX2_place_10 rfl (by decide) ?_
    refine j_icmp_ge 80 15 dX2_place_12 (by decide) rfl (fun hc => ?_) (fun hc => ?_)
    · replace h := j_pos hc h
      refine j_aload_n 81 dX2_place_80 rfl rfl 0 rfl ?_
      refine j_iload_n 82 dX2_place_81 rfl rfl 1 rfl ?_
      refine j_putI 85 dX2_place_82 rfl (sh_33 hL) cl2 (k := 7) (by decide) flX2_82 rfl rfl rfl ?_
      cases h
      exact j_vret dX2_place_85 rfl
    · replace h := j_neg hc h
      refine j_iload_n 16 dX2_place_15 rfl rfl 2 rfl ?_
      refine j_iload_n 17 dX2_place_16 rfl rfl 3 rfl ?_
      refine j_ishr 18 dX2_place_17 rfl ?_
      refine j_if_eq 80 21 dX2_place_18 (by decide) rfl (fun hc => ?_) (fun hc => ?_)
      · replace h := j_pos hc h
        refine j_aload_n 81 dX2_place_80 rfl rfl 0 rfl ?_
        refine j_iload_n 82 dX2_place_81 rfl rfl 1 rfl ?_
        refine j_putI 85 dX2_place_82 rfl (sh_33 hL) cl2 (k := 7) (by decide) flX2_82 rfl rfl rfl ?_
        cases h
        exact j_vret dX2_place_85 rfl
      · replace h := j_neg hc h
        refine j_iload_n 22 dX2_place_21 rfl rfl 2 rfl ?_
        refine j_iload_n 23 dX2_place_22 rfl rfl 3 rfl ?_
        refine j_ishr 24 dX2_place_23 rfl ?_
        refine j_iconst (v := (1 : Int32)) 25 dX2_place_24 rfl (by decide) ?_
        refine j_iand 26 dX2_place_25 rfl ?_
        refine j_if_eq 74 29 dX2_place_26 (by decide) rfl (fun hc => ?_) (fun hc => ?_)
        · replace h := j_pos hc h
          refine j_iinc (v := (l3 + (1 : Int32))) (lv' := [(3, .int (l3 + (1 : Int32))), (0, .ref (E.1 + 33)), (1, .int l1), (2, .int l2)]) (q := 3) 77 dX2_place_74 rfl rfl rfl (by decide) rfl ?_
          refine j_goto 9 dX2_place_77 (by decide) ?_
          refine j_sub [1, 2, 3, 0] rfl ?_
          exact ih _ _ _ _  h
        · replace h := j_neg hc h
          refine j_iload_n 30 dX2_place_29 rfl rfl 1 rfl ?_
          refine j_iload_n 31 dX2_place_30 rfl rfl 3 rfl ?_
          refine j_ishr 32 dX2_place_31 rfl ?_
          refine j_iconst (v := (1 : Int32)) 33 dX2_place_32 rfl (by decide) ?_
          refine j_iand 34 dX2_place_33 rfl ?_
          refine j_if_eq 41 37 dX2_place_34 (by decide) rfl (fun hc => ?_) (fun hc => ?_)
          · replace h := j_pos hc h
            refine j_iconst (v := (0 : Int32)) 42 dX2_place_41 rfl (by decide) ?_
            exact kX2_place_42 hL   ih _ _ _ _ _  h
          · replace h := j_neg hc h
            refine j_iconst (v := (1 : Int32)) 38 dX2_place_37 rfl (by decide) ?_
            refine j_goto 42 dX2_place_38 (by decide) ?_
            exact kX2_place_42 hL   ih _ _ _ _ _  h
def fX2_place (l1 : Int32) (I : JI) : Option (JI) :=
  fX2_place_9 100000 l1 ((I 33 7) ^^^ l1) (0 : Int32) I
set_option maxHeartbeats 4000000 in
set_option maxRecDepth 100000 in
theorem tcX2_place {E : JE} {l1 : Int32} {r : JI} {I : JI} {L : JL} {G D : JG} {S : JS} (hL : Lay G S) (h : fX2_place l1 I = some r) : CallJ E xX2_place 4 [.ref (E.1 + 33), .int l1] I L G D S none r L G D S := by
  unfold fX2_place at h
  refine j_entry (by decide) (Nat.le_of_ble_eq_true rfl) ?_
  show AtJ E xX2_place (Zr E none r L G D S) ((S).length, jm_sl S) 4 0 [(0, .ref (E.1 + 33)), (1, .int l1)] [] I L G D S
  refine j_aload_n 1 dX2_place_0 rfl rfl 0 rfl ?_
  refine j_getI 4 dX2_place_1 rfl (sh_33 hL) cl2 (k := 7) (by decide) flX2_82 rfl ?_
  refine j_iload_n 5 dX2_place_4 rfl rfl 1 rfl ?_
  refine j_ixor 6 dX2_place_5 rfl ?_
  refine j_istore_n (lv' := [(2, .int ((I 33 7) ^^^ l1)), (0, .ref (E.1 + 33)), (1, .int l1)]) 7 dX2_place_6 rfl rfl (by decide) rfl ?_
  refine j_iconst (v := (0 : Int32)) 8 dX2_place_7 rfl (by decide) ?_
  refine j_istore_n (lv' := [(3, .int (0 : Int32)), (2, .int ((I 33 7) ^^^ l1)), (0, .ref (E.1 + 33)), (1, .int l1)]) 9 dX2_place_8 rfl rfl (by decide) rfl ?_
  refine j_sub [2, 3, 1, 0] rfl ?_
  exact kX2_place_9 hL    100000 _ _ _ _  h
def fX9_standing (l1 : Int32) (l2 : Nat) (l3 : Int32) (l4 : Int32) (I : JI) : Option (Int32) :=
  if l1 = (0 : Int32) then (j_g (j_in l4 16) (some ((I 6 l4.toNatClampNeg)))) else (if l1 = (1 : Int32) then (j_g (j_in l3 12) (some ((I (l2 + 2) l3.toNatClampNeg)))) else (if l1 = (2 : Int32) then (j_g (j_in l3 12) ((fX1_holdersOf l2 (I 3 l3.toNatClampNeg) I).bind (fun q1 => some (q1)))) else (if l1 = (3 : Int32) then (j_g (j_in l3 12) ((fX1_holdersOf l2 (I 4 l3.toNatClampNeg) I).bind (fun q2 => some (q2)))) else (some ((0 : Int32))))))
set_option maxHeartbeats 4000000 in
set_option maxRecDepth 100000 in
theorem tcX9_standing {E : JE} {l1 : Int32} {l2 : Nat} {l3 : Int32} {l4 : Int32} {r : Int32} {I : JI} {L : JL} {G D : JG} {S : JS} (hL : Lay G S) (h2 : S[l2]? = some (1, 4)) (h : fX9_standing l1 l2 l3 l4 I = some r) : CallJ E xX9_standing 2 [.ref (E.1 + 1), .int l1, .ref (E.1 + l2), .int l3, .int l4] I L G D S (some (.int r)) I L G D S := by
  unfold fX9_standing at h
  refine j_entry (by decide) (Nat.le_of_ble_eq_true rfl) ?_
  show AtJ E xX9_standing (Zr E (some (.int r)) I L G D S) ((S).length, jm_sl S) 2 0 [(0, .ref (E.1 + 1)), (1, .int l1), (2, .ref (E.1 + l2)), (3, .int l3), (4, .int l4)] [] I L G D S
  refine j_iload_n 1 dX9_standing_0 rfl rfl 1 rfl ?_
  by_cases hc0 : l1 = (0 : Int32)
  · replace h := j_pos hc0 h
    refine j_tableIn (off := 31) 32 dX9_standing_1 (by decide) (by rw [hc0]; decide) (by rw [hc0]; decide) (by rw [hc0]; rfl) ?_
    refine j_aload_n 33 dX9_standing_32 rfl rfl 0 rfl ?_
    refine j_getG 36 dX9_standing_33 rfl (sh_1 hL) cl9 (k := 4) (by decide) flX9_24 rfl (gs_1_4 hL) ?_
    refine j_iload 38 dX9_standing_36 rfl 4 rfl ?_
    obtain ⟨hg, h⟩ := j_gs h
    refine j_iald 39 dX9_standing_38 rfl (sh_6 hL) (j_inv hg) ?_
    cases h
    exact j_iret dX9_standing_39 rfl
  replace h := j_neg hc0 h
  by_cases hc1 : l1 = (1 : Int32)
  · replace h := j_pos hc1 h
    refine j_tableIn (off := 39) 40 dX9_standing_1 (by decide) (by rw [hc1]; decide) (by rw [hc1]; decide) (by rw [hc1]; rfl) ?_
    refine j_aload_n 41 dX9_standing_40 rfl rfl 2 rfl ?_
    refine j_getGN 44 dX9_standing_41 rfl h2 cl1 (k := 1) (by decide) flX9_43 rfl (ly1_1 hL h2).1 ?_
    refine j_iload_n 45 dX9_standing_44 rfl rfl 3 rfl ?_
    obtain ⟨hg, h⟩ := j_gs h
    refine j_iald 46 dX9_standing_45 rfl (ly1_1 hL h2).2 (j_inv hg) ?_
    cases h
    exact j_iret dX9_standing_46 rfl
  replace h := j_neg hc1 h
  by_cases hc2 : l1 = (2 : Int32)
  · replace h := j_pos hc2 h
    refine j_tableIn (off := 46) 47 dX9_standing_1 (by decide) (by rw [hc2]; decide) (by rw [hc2]; decide) (by rw [hc2]; rfl) ?_
    refine j_aload_n 48 dX9_standing_47 rfl rfl 2 rfl ?_
    refine j_aload_n 49 dX9_standing_48 rfl rfl 0 rfl ?_
    refine j_getG 52 dX9_standing_49 rfl (sh_1 hL) cl9 (k := 1) (by decide) flX9_15 rfl (gs_1_1 hL) ?_
    refine j_iload_n 53 dX9_standing_52 rfl rfl 3 rfl ?_
    obtain ⟨hg, h⟩ := j_gs h
    refine j_iald 54 dX9_standing_53 rfl (sh_3 hL) (j_inv hg) ?_
    obtain ⟨q1, hq1, h⟩ := j_bs h
    refine j_callV (rest := []) (As := [.int (I 3 l3.toNatClampNeg)]) 57 dX9_standing_54 rfl jyX1_holdersOf (tcX1_holdersOf hL h2 hq1) h2 cl1 flX9_48 wm867 wm868 (by decide) rfl rfl (Nat.le_of_ble_eq_true rfl) ?_
    cases h
    exact j_iret dX9_standing_57 rfl
  replace h := j_neg hc2 h
  by_cases hc3 : l1 = (3 : Int32)
  · replace h := j_pos hc3 h
    refine j_tableIn (off := 57) 58 dX9_standing_1 (by decide) (by rw [hc3]; decide) (by rw [hc3]; decide) (by rw [hc3]; rfl) ?_
    refine j_aload_n 59 dX9_standing_58 rfl rfl 2 rfl ?_
    refine j_aload_n 60 dX9_standing_59 rfl rfl 0 rfl ?_
    refine j_getG 63 dX9_standing_60 rfl (sh_1 hL) cl9 (k := 2) (by decide) flX9_18 rfl (gs_1_2 hL) ?_
    refine j_iload_n 64 dX9_standing_63 rfl rfl 3 rfl ?_
    obtain ⟨hg, h⟩ := j_gs h
    refine j_iald 65 dX9_standing_64 rfl (sh_4 hL) (j_inv hg) ?_
    obtain ⟨q2, hq2, h⟩ := j_bs h
    refine j_callV (rest := []) (As := [.int (I 4 l3.toNatClampNeg)]) 68 dX9_standing_65 rfl jyX1_holdersOf (tcX1_holdersOf hL h2 hq2) h2 cl1 flX9_48 wm867 wm868 (by decide) rfl rfl (Nat.le_of_ble_eq_true rfl) ?_
    cases h
    exact j_iret dX9_standing_68 rfl
  replace h := j_neg hc3 h
  refine j_tableOut 69 dX9_standing_1 (by decide) (j_out4 hc0 hc1 hc2 hc3) ?_
  refine j_iconst (v := (0 : Int32)) 70 dX9_standing_69 rfl (by decide) ?_
  cases h
  exact j_iret dX9_standing_70 rfl
def fX3_settle_8 (l1 : Nat) : Nat → Int32 → Int32 → Int32 → JI → JG → JS → Option (JI × JG)
  | 0, _, _, _, _, _, _ => none
  | n + 1, l2, l3, l4, I, D, S =>
    if (4 : Int32) ≤ l4 then (some (I, D)) else (j_opt (D 15 6) (none) (fun b1 => j_g (decide (S[b1]? = some (1, 4))) ((fX9_standing l4 b1 l2 l3 I).bind (fun q2 => j_g (j_in l4 4) ((fX3_settle_8 l1 n) l2 l3 (l4 + (1 : Int32)) (j_up I 18 l4.toNatClampNeg q2) D S)))))
set_option maxHeartbeats 4000000 in
set_option maxRecDepth 100000 in
theorem kX3_settle_8 {E : JE} {l1 : Nat} {r : JI × JG} {L : JL} {G : JG} {S : JS} (hL : Lay G S) (h1 : S[l1]? = some (1, 4)) : ∀ (n : Nat) (l2 : Int32) (l3 : Int32) (l4 : Int32) (I : JI) (D : JG), fX3_settle_8 l1 n l2 l3 l4 I D S = some r → AtJ E xX3_settle (Zr E none r.1 L G r.2 S) ((S).length, jm_sl S) 3 8 [(0, .ref (E.1 + 15)), (2, .int l2), (3, .int l3), (4, .int l4)] [] I L G D S := by
  intro n
  induction n with
  | zero => intro l2 l3 l4 I D  h; simp [fX3_settle_8] at h
  | succ n ih =>
    intro l2 l3 l4 I D  h
    rw [fX3_settle_8] at h
    refine j_iload 10 dX3_settle_8 rfl 3 rfl ?_
    refine j_iconst (v := (4 : Int32)) 11 dX3_settle_10 rfl (by decide) ?_
    refine j_icmp_ge 42 14 dX3_settle_11 (by decide) rfl (fun hc => ?_) (fun hc => ?_)
    · replace h := j_pos hc h
      cases h
      exact j_vret dX3_settle_42 rfl
    · replace h := j_neg hc h
      refine j_aload_n 15 dX3_settle_14 rfl rfl 0 rfl ?_
      refine j_getG 18 dX3_settle_15 rfl (sh_15 hL) cl3 (k := 3) (by decide) flX3_18 rfl (gs_15_3 hL) ?_
      refine j_iload 20 dX3_settle_18 rfl 3 rfl ?_
      refine j_aload_n 21 dX3_settle_20 rfl rfl 0 rfl ?_
      refine j_getG 24 dX3_settle_21 rfl (sh_15 hL) cl3 (k := 0) (by decide) flX3_24 rfl (gs_15_0 hL) ?_
      refine j_iload 26 dX3_settle_24 rfl 3 rfl ?_
      refine j_aload_n 27 dX3_settle_26 rfl rfl 0 rfl ?_
      rcases j_os h with ⟨hb, h⟩ | ⟨b1, hb, h⟩
      · refine j_getDn 30 dX3_settle_27 rfl (sh_15 hL) cl3 (k := 6) (by decide) flX3_28 rfl hb ?_
        refine j_iload_n 31 dX3_settle_30 rfl rfl 1 rfl ?_
        refine j_iload_n 32 dX3_settle_31 rfl rfl 2 rfl ?_
        cases h
      obtain ⟨hsb1, h⟩ := j_gs h
      replace hsb1 := of_decide_eq_true hsb1
      refine j_getD 30 dX3_settle_27 rfl (sh_15 hL) cl3 (k := 6) (by decide) flX3_28 rfl hb ?_
      refine j_iload_n 31 dX3_settle_30 rfl rfl 1 rfl ?_
      refine j_iload_n 32 dX3_settle_31 rfl rfl 2 rfl ?_
      obtain ⟨q2, hq2, h⟩ := j_bs h
      refine j_callV (rest := [.int l4, .ref (E.1 + 18)]) (As := [.int l4, .ref (E.1 + b1), .int l2, .int l3]) 35 dX3_settle_32 rfl jyX9_standing (tcX9_standing hL hsb1 hq2) (sh_1 hL) cl9 flX3_32 wm863 wm864 (by decide) rfl rfl (Nat.le_of_ble_eq_true rfl) ?_
      obtain ⟨hg, h⟩ := j_gs h
      refine j_iast 36 dX3_settle_35 rfl (sh_18 hL) (j_inv hg) ?_
      refine j_iinc (v := (l4 + (1 : Int32))) (lv' := [(4, .int (l4 + (1 : Int32))), (0, .ref (E.1 + 15)), (2, .int l2), (3, .int l3)]) (q := 3) 39 dX3_settle_36 rfl rfl rfl (by decide) rfl ?_
      refine j_goto 8 dX3_settle_39 (by decide) ?_
      refine j_sub [1, 2, 3, 0] rfl ?_
      exact ih _ _ _ _ _  h
def fX3_settle (l1 : Nat) (l2 : Int32) (l3 : Int32) (I : JI) (D : JG) (S : JS) : Option (JI × JG) :=
  fX3_settle_8 l1 100000 l2 l3 (0 : Int32) I (j_up D 15 6 (some l1)) S
set_option maxHeartbeats 4000000 in
set_option maxRecDepth 100000 in
theorem tcX3_settle {E : JE} {l1 : Nat} {l2 : Int32} {l3 : Int32} {r : JI × JG} {I : JI} {L : JL} {G D : JG} {S : JS} (hL : Lay G S) (h1 : S[l1]? = some (1, 4)) (h : fX3_settle l1 l2 l3 I D S = some r) : CallJ E xX3_settle 3 [.ref (E.1 + 15), .ref (E.1 + l1), .int l2, .int l3] I L G D S none r.1 L G r.2 S := by
  unfold fX3_settle at h
  refine j_entry (by decide) (Nat.le_of_ble_eq_true rfl) ?_
  show AtJ E xX3_settle (Zr E none r.1 L G r.2 S) ((S).length, jm_sl S) 3 0 [(0, .ref (E.1 + 15)), (1, .ref (E.1 + l1)), (2, .int l2), (3, .int l3)] [] I L G D S
  refine j_aload_n 1 dX3_settle_0 rfl rfl 0 rfl ?_
  refine j_aload_n 2 dX3_settle_1 rfl rfl 1 rfl ?_
  refine j_putD 5 dX3_settle_2 rfl (sh_15 hL) cl3 (k := 6) (by decide) flX3_28 rfl rfl (fun _ => rfl) (fun _ => rfl) ?_
  refine j_iconst (v := (0 : Int32)) 6 dX3_settle_5 rfl (by decide) ?_
  refine j_istore (lv' := [(4, .int (0 : Int32)), (0, .ref (E.1 + 15)), (1, .ref (E.1 + l1)), (2, .int l2), (3, .int l3)]) 8 dX3_settle_6 rfl (by decide) rfl ?_
  refine j_sub [1, 3, 4, 0] rfl ?_
  exact kX3_settle_8 hL  h1  100000 _ _ _ _ _  h
def fX3_ask_167 (l1 : Nat) (I : JI) (D : JG) (S : JS) : Option (JI × JG) :=
  j_g (j_in (13 : Int32) 14) (some ((j_up I 16 (13 : Int32).toNatClampNeg (I 1 8)), D))
set_option maxHeartbeats 4000000 in
set_option maxRecDepth 100000 in
theorem kX3_ask_167 {E : JE} {l1 : Nat} {r : JI × JG} {L : JL} {G : JG} {S : JS} (hL : Lay G S) (h1 : S[l1]? = some (0, 7)) : ∀ (I : JI) (D : JG), fX3_ask_167 l1 I D S = some r → AtJ E xX3_ask (Zr E none r.1 L G r.2 S) ((S).length, jm_sl S) 2 167 [(0, .ref (E.1 + 15))] [] I L G D S := by
  intro I D  h
  unfold fX3_ask_167 at h
  refine j_aload_n 168 dX3_ask_167 rfl rfl 0 rfl ?_
  refine j_getG 171 dX3_ask_168 rfl (sh_15 hL) cl3 (k := 1) (by decide) flX3_9 rfl (gs_15_1 hL) ?_
  refine j_bipush (v := (13 : Int32)) 173 dX3_ask_171 rfl (by decide) ?_
  refine j_aload_n 174 dX3_ask_173 rfl rfl 0 rfl ?_
  refine j_getG 177 dX3_ask_174 rfl (sh_15 hL) cl3 (k := 0) (by decide) flX3_24 rfl (gs_15_0 hL) ?_
  refine j_getIN 180 dX3_ask_177 rfl (sh_1 hL) cl9 (k := 8) (by decide) flX3_77 rfl ?_
  obtain ⟨hg, h⟩ := j_gs h
  refine j_iast 181 dX3_ask_180 rfl (sh_16 hL) (j_inv hg) ?_
  cases h
  exact j_vret dX3_ask_181 rfl
def fX3_ask_131 (l1 : Nat) : Nat → Int32 → JI → JG → JS → Option (JI × JG)
  | 0, _, _, _, _ => none
  | n + 1, l2, I, D, S =>
    if (3 : Int32) ≤ l2 then (fX3_ask_167 l1 I D S) else (j_opt (D 15 7) (none) (fun b16 => j_g (decide (S[b16]? = some (0, 7))) (if l2 = (I b16 4) then (j_g (j_in ((6 : Int32) + l2) 14) ((fX3_ask_131 l1 n) (l2 + (1 : Int32)) (j_up I 16 ((6 : Int32) + l2).toNatClampNeg (1 : Int32)) D S)) else (j_g (j_in ((6 : Int32) + l2) 14) ((fX3_ask_131 l1 n) (l2 + (1 : Int32)) (j_up I 16 ((6 : Int32) + l2).toNatClampNeg (0 : Int32)) D S)))))
set_option maxHeartbeats 4000000 in
set_option maxRecDepth 100000 in
theorem kX3_ask_131 {E : JE} {l1 : Nat} {r : JI × JG} {L : JL} {G : JG} {S : JS} (hL : Lay G S) (h1 : S[l1]? = some (0, 7)) : ∀ (n : Nat) (l2 : Int32) (I : JI) (D : JG), fX3_ask_131 l1 n l2 I D S = some r → AtJ E xX3_ask (Zr E none r.1 L G r.2 S) ((S).length, jm_sl S) 2 131 [(0, .ref (E.1 + 15)), (2, .int l2)] [] I L G D S := by
  intro n
  induction n with
  | zero => intro l2 I D  h; simp [fX3_ask_131] at h
  | succ n ih =>
    intro l2 I D  h
    rw [fX3_ask_131] at h
    refine j_iload_n 132 dX3_ask_131 rfl rfl 1 rfl ?_
    refine j_iconst (v := (3 : Int32)) 133 dX3_ask_132 rfl (by decide) ?_
    refine j_icmp_ge 167 136 dX3_ask_133 (by decide) rfl (fun hc => ?_) (fun hc => ?_)
    · replace h := j_pos hc h
      refine j_sub [0] rfl ?_
      exact kX3_ask_167 hL  h1  _ _  h
    · replace h := j_neg hc h
      refine j_aload_n 137 dX3_ask_136 rfl rfl 0 rfl ?_
      refine j_getG 140 dX3_ask_137 rfl (sh_15 hL) cl3 (k := 1) (by decide) flX3_9 rfl (gs_15_1 hL) ?_
      refine j_bipush (v := (6 : Int32)) 142 dX3_ask_140 rfl (by decide) ?_
      refine j_iload_n 143 dX3_ask_142 rfl rfl 1 rfl ?_
      refine j_iadd 144 dX3_ask_143 rfl ?_
      refine j_iload_n 145 dX3_ask_144 rfl rfl 1 rfl ?_
      refine j_aload_n 146 dX3_ask_145 rfl rfl 0 rfl ?_
      rcases j_os h with ⟨hb, h⟩ | ⟨b16, hb, h⟩
      · refine j_getDn 149 dX3_ask_146 rfl (sh_15 hL) cl3 (k := 7) (by decide) flX3_37 rfl hb ?_
        cases h
      obtain ⟨hsb16, h⟩ := j_gs h
      replace hsb16 := of_decide_eq_true hsb16
      refine j_getD 149 dX3_ask_146 rfl (sh_15 hL) cl3 (k := 7) (by decide) flX3_37 rfl hb ?_
      refine j_getIN 152 dX3_ask_149 rfl hsb16 cl0 (k := 4) (by decide) flX3_74 rfl ?_
      refine j_icmp_ne 159 155 dX3_ask_152 (by decide) rfl (fun hc => ?_) (fun hc => ?_)
      · replace h := j_neg hc h
        refine j_iconst (v := (0 : Int32)) 160 dX3_ask_159 rfl (by decide) ?_
        obtain ⟨hg, h⟩ := j_gs h
        refine j_iast 161 dX3_ask_160 rfl (sh_16 hL) (j_inv hg) ?_
        refine j_iinc (v := (l2 + (1 : Int32))) (lv' := [(2, .int (l2 + (1 : Int32))), (0, .ref (E.1 + 15))]) (q := 1) 164 dX3_ask_161 rfl rfl rfl (by decide) rfl ?_
        refine j_goto 131 dX3_ask_164 (by decide) ?_
        refine j_sub [1, 0] rfl ?_
        exact ih _ _ _  h
      · replace h := j_pos hc h
        refine j_iconst (v := (1 : Int32)) 156 dX3_ask_155 rfl (by decide) ?_
        refine j_goto 160 dX3_ask_156 (by decide) ?_
        obtain ⟨hg, h⟩ := j_gs h
        refine j_iast 161 dX3_ask_160 rfl (sh_16 hL) (j_inv hg) ?_
        refine j_iinc (v := (l2 + (1 : Int32))) (lv' := [(2, .int (l2 + (1 : Int32))), (0, .ref (E.1 + 15))]) (q := 1) 164 dX3_ask_161 rfl rfl rfl (by decide) rfl ?_
        refine j_goto 131 dX3_ask_164 (by decide) ?_
        refine j_sub [1, 0] rfl ?_
        exact ih _ _ _  h
def fX3_ask (l1 : Nat) (I : JI) (D : JG) (S : JS) : Option (JI × JG) :=
  j_opt ((j_up D 15 7 (some l1)) 15 7) (none) (fun b1 => j_g (decide (S[b1]? = some (0, 7))) (j_g (j_in (0 : Int32) 14) (j_opt ((j_up D 15 7 (some l1)) 15 7) (none) (fun b2 => j_g (decide (S[b2]? = some (0, 7))) (j_g (j_in (1 : Int32) 14) (j_opt ((j_up D 15 7 (some l1)) 15 7) (none) (fun b3 => j_g (decide (S[b3]? = some (0, 7))) (j_g (j_in (2 : Int32) 14) (j_opt ((j_up D 15 7 (some l1)) 15 6) (j_opt ((j_up D 15 7 (some l1)) 15 7) (none) (fun b5 => j_g (decide (S[b5]? = some (0, 7))) (j_opt ((j_up D 15 7 (some l1)) 15 7) (none) (fun b6 => j_g (decide (S[b6]? = some (0, 7))) (none))))) (fun b4 => j_g (decide (S[b4]? = some (1, 4))) (j_opt ((j_up D 15 7 (some l1)) 15 7) (none) (fun b7 => j_g (decide (S[b7]? = some (0, 7))) (j_opt ((j_up D 15 7 (some l1)) 15 7) (none) (fun b8 => j_g (decide (S[b8]? = some (0, 7))) ((fX1_of b4 ((j_up (j_up (j_up I 16 (0 : Int32).toNatClampNeg (I b1 3)) 16 (1 : Int32).toNatClampNeg ((j_up I 16 (0 : Int32).toNatClampNeg (I b1 3)) b2 5)) 16 (2 : Int32).toNatClampNeg ((j_up (j_up I 16 (0 : Int32).toNatClampNeg (I b1 3)) 16 (1 : Int32).toNatClampNeg ((j_up I 16 (0 : Int32).toNatClampNeg (I b1 3)) b2 5)) b3 6)) b7 0) ((j_up (j_up (j_up I 16 (0 : Int32).toNatClampNeg (I b1 3)) 16 (1 : Int32).toNatClampNeg ((j_up I 16 (0 : Int32).toNatClampNeg (I b1 3)) b2 5)) 16 (2 : Int32).toNatClampNeg ((j_up (j_up I 16 (0 : Int32).toNatClampNeg (I b1 3)) 16 (1 : Int32).toNatClampNeg ((j_up I 16 (0 : Int32).toNatClampNeg (I b1 3)) b2 5)) b3 6)) b8 1) (j_up (j_up (j_up I 16 (0 : Int32).toNatClampNeg (I b1 3)) 16 (1 : Int32).toNatClampNeg ((j_up I 16 (0 : Int32).toNatClampNeg (I b1 3)) b2 5)) 16 (2 : Int32).toNatClampNeg ((j_up (j_up I 16 (0 : Int32).toNatClampNeg (I b1 3)) 16 (1 : Int32).toNatClampNeg ((j_up I 16 (0 : Int32).toNatClampNeg (I b1 3)) b2 5)) b3 6))).bind (fun q9 => j_opt ((j_up D 15 7 (some l1)) 15 7) (none) (fun b10 => j_g (decide (S[b10]? = some (0, 7))) (j_g (j_in (3 : Int32) 14) (j_opt ((j_up D 15 7 (some l1)) 15 6) (none) (fun b11 => j_g (decide (S[b11]? = some (1, 4))) (j_opt ((j_up D 15 7 (some l1)) 15 7) (none) (fun b12 => j_g (decide (S[b12]? = some (0, 7))) (j_g (j_in ((j_up (j_up (j_up (j_up I 16 (0 : Int32).toNatClampNeg (I b1 3)) 16 (1 : Int32).toNatClampNeg ((j_up I 16 (0 : Int32).toNatClampNeg (I b1 3)) b2 5)) 16 (2 : Int32).toNatClampNeg ((j_up (j_up I 16 (0 : Int32).toNatClampNeg (I b1 3)) 16 (1 : Int32).toNatClampNeg ((j_up I 16 (0 : Int32).toNatClampNeg (I b1 3)) b2 5)) b3 6)) 16 (3 : Int32).toNatClampNeg (q9 - ((j_up (j_up (j_up I 16 (0 : Int32).toNatClampNeg (I b1 3)) 16 (1 : Int32).toNatClampNeg ((j_up I 16 (0 : Int32).toNatClampNeg (I b1 3)) b2 5)) 16 (2 : Int32).toNatClampNeg ((j_up (j_up I 16 (0 : Int32).toNatClampNeg (I b1 3)) 16 (1 : Int32).toNatClampNeg ((j_up I 16 (0 : Int32).toNatClampNeg (I b1 3)) b2 5)) b3 6)) b10 3))) b12 1) 16) (j_opt ((j_up D 15 7 (some l1)) 15 7) (none) (fun b13 => j_g (decide (S[b13]? = some (0, 7))) (j_g (j_in (4 : Int32) 14) (j_opt ((j_up D 15 7 (some l1)) 15 6) (none) (fun b14 => j_g (decide (S[b14]? = some (1, 4))) (j_opt ((j_up D 15 7 (some l1)) 15 7) (none) (fun b15 => j_g (decide (S[b15]? = some (0, 7))) (j_g (j_in ((j_up (j_up (j_up (j_up (j_up I 16 (0 : Int32).toNatClampNeg (I b1 3)) 16 (1 : Int32).toNatClampNeg ((j_up I 16 (0 : Int32).toNatClampNeg (I b1 3)) b2 5)) 16 (2 : Int32).toNatClampNeg ((j_up (j_up I 16 (0 : Int32).toNatClampNeg (I b1 3)) 16 (1 : Int32).toNatClampNeg ((j_up I 16 (0 : Int32).toNatClampNeg (I b1 3)) b2 5)) b3 6)) 16 (3 : Int32).toNatClampNeg (q9 - ((j_up (j_up (j_up I 16 (0 : Int32).toNatClampNeg (I b1 3)) 16 (1 : Int32).toNatClampNeg ((j_up I 16 (0 : Int32).toNatClampNeg (I b1 3)) b2 5)) 16 (2 : Int32).toNatClampNeg ((j_up (j_up I 16 (0 : Int32).toNatClampNeg (I b1 3)) 16 (1 : Int32).toNatClampNeg ((j_up I 16 (0 : Int32).toNatClampNeg (I b1 3)) b2 5)) b3 6)) b10 3))) 16 (4 : Int32).toNatClampNeg (((j_up (j_up (j_up (j_up I 16 (0 : Int32).toNatClampNeg (I b1 3)) 16 (1 : Int32).toNatClampNeg ((j_up I 16 (0 : Int32).toNatClampNeg (I b1 3)) b2 5)) 16 (2 : Int32).toNatClampNeg ((j_up (j_up I 16 (0 : Int32).toNatClampNeg (I b1 3)) 16 (1 : Int32).toNatClampNeg ((j_up I 16 (0 : Int32).toNatClampNeg (I b1 3)) b2 5)) b3 6)) 16 (3 : Int32).toNatClampNeg (q9 - ((j_up (j_up (j_up I 16 (0 : Int32).toNatClampNeg (I b1 3)) 16 (1 : Int32).toNatClampNeg ((j_up I 16 (0 : Int32).toNatClampNeg (I b1 3)) b2 5)) 16 (2 : Int32).toNatClampNeg ((j_up (j_up I 16 (0 : Int32).toNatClampNeg (I b1 3)) 16 (1 : Int32).toNatClampNeg ((j_up I 16 (0 : Int32).toNatClampNeg (I b1 3)) b2 5)) b3 6)) b10 3))) (b11 + 4) ((j_up (j_up (j_up (j_up I 16 (0 : Int32).toNatClampNeg (I b1 3)) 16 (1 : Int32).toNatClampNeg ((j_up I 16 (0 : Int32).toNatClampNeg (I b1 3)) b2 5)) 16 (2 : Int32).toNatClampNeg ((j_up (j_up I 16 (0 : Int32).toNatClampNeg (I b1 3)) 16 (1 : Int32).toNatClampNeg ((j_up I 16 (0 : Int32).toNatClampNeg (I b1 3)) b2 5)) b3 6)) 16 (3 : Int32).toNatClampNeg (q9 - ((j_up (j_up (j_up I 16 (0 : Int32).toNatClampNeg (I b1 3)) 16 (1 : Int32).toNatClampNeg ((j_up I 16 (0 : Int32).toNatClampNeg (I b1 3)) b2 5)) 16 (2 : Int32).toNatClampNeg ((j_up (j_up I 16 (0 : Int32).toNatClampNeg (I b1 3)) 16 (1 : Int32).toNatClampNeg ((j_up I 16 (0 : Int32).toNatClampNeg (I b1 3)) b2 5)) b3 6)) b10 3))) b12 1).toNatClampNeg) - ((j_up (j_up (j_up (j_up I 16 (0 : Int32).toNatClampNeg (I b1 3)) 16 (1 : Int32).toNatClampNeg ((j_up I 16 (0 : Int32).toNatClampNeg (I b1 3)) b2 5)) 16 (2 : Int32).toNatClampNeg ((j_up (j_up I 16 (0 : Int32).toNatClampNeg (I b1 3)) 16 (1 : Int32).toNatClampNeg ((j_up I 16 (0 : Int32).toNatClampNeg (I b1 3)) b2 5)) b3 6)) 16 (3 : Int32).toNatClampNeg (q9 - ((j_up (j_up (j_up I 16 (0 : Int32).toNatClampNeg (I b1 3)) 16 (1 : Int32).toNatClampNeg ((j_up I 16 (0 : Int32).toNatClampNeg (I b1 3)) b2 5)) 16 (2 : Int32).toNatClampNeg ((j_up (j_up I 16 (0 : Int32).toNatClampNeg (I b1 3)) 16 (1 : Int32).toNatClampNeg ((j_up I 16 (0 : Int32).toNatClampNeg (I b1 3)) b2 5)) b3 6)) b10 3))) b13 3))) b15 2) 16) (j_g (j_in (5 : Int32) 14) (fX3_ask_131 l1 100000 (0 : Int32) (j_up (j_up (j_up (j_up (j_up (j_up I 16 (0 : Int32).toNatClampNeg (I b1 3)) 16 (1 : Int32).toNatClampNeg ((j_up I 16 (0 : Int32).toNatClampNeg (I b1 3)) b2 5)) 16 (2 : Int32).toNatClampNeg ((j_up (j_up I 16 (0 : Int32).toNatClampNeg (I b1 3)) 16 (1 : Int32).toNatClampNeg ((j_up I 16 (0 : Int32).toNatClampNeg (I b1 3)) b2 5)) b3 6)) 16 (3 : Int32).toNatClampNeg (q9 - ((j_up (j_up (j_up I 16 (0 : Int32).toNatClampNeg (I b1 3)) 16 (1 : Int32).toNatClampNeg ((j_up I 16 (0 : Int32).toNatClampNeg (I b1 3)) b2 5)) 16 (2 : Int32).toNatClampNeg ((j_up (j_up I 16 (0 : Int32).toNatClampNeg (I b1 3)) 16 (1 : Int32).toNatClampNeg ((j_up I 16 (0 : Int32).toNatClampNeg (I b1 3)) b2 5)) b3 6)) b10 3))) 16 (4 : Int32).toNatClampNeg (((j_up (j_up (j_up (j_up I 16 (0 : Int32).toNatClampNeg (I b1 3)) 16 (1 : Int32).toNatClampNeg ((j_up I 16 (0 : Int32).toNatClampNeg (I b1 3)) b2 5)) 16 (2 : Int32).toNatClampNeg ((j_up (j_up I 16 (0 : Int32).toNatClampNeg (I b1 3)) 16 (1 : Int32).toNatClampNeg ((j_up I 16 (0 : Int32).toNatClampNeg (I b1 3)) b2 5)) b3 6)) 16 (3 : Int32).toNatClampNeg (q9 - ((j_up (j_up (j_up I 16 (0 : Int32).toNatClampNeg (I b1 3)) 16 (1 : Int32).toNatClampNeg ((j_up I 16 (0 : Int32).toNatClampNeg (I b1 3)) b2 5)) 16 (2 : Int32).toNatClampNeg ((j_up (j_up I 16 (0 : Int32).toNatClampNeg (I b1 3)) 16 (1 : Int32).toNatClampNeg ((j_up I 16 (0 : Int32).toNatClampNeg (I b1 3)) b2 5)) b3 6)) b10 3))) (b11 + 4) ((j_up (j_up (j_up (j_up I 16 (0 : Int32).toNatClampNeg (I b1 3)) 16 (1 : Int32).toNatClampNeg ((j_up I 16 (0 : Int32).toNatClampNeg (I b1 3)) b2 5)) 16 (2 : Int32).toNatClampNeg ((j_up (j_up I 16 (0 : Int32).toNatClampNeg (I b1 3)) 16 (1 : Int32).toNatClampNeg ((j_up I 16 (0 : Int32).toNatClampNeg (I b1 3)) b2 5)) b3 6)) 16 (3 : Int32).toNatClampNeg (q9 - ((j_up (j_up (j_up I 16 (0 : Int32).toNatClampNeg (I b1 3)) 16 (1 : Int32).toNatClampNeg ((j_up I 16 (0 : Int32).toNatClampNeg (I b1 3)) b2 5)) 16 (2 : Int32).toNatClampNeg ((j_up (j_up I 16 (0 : Int32).toNatClampNeg (I b1 3)) 16 (1 : Int32).toNatClampNeg ((j_up I 16 (0 : Int32).toNatClampNeg (I b1 3)) b2 5)) b3 6)) b10 3))) b12 1).toNatClampNeg) - ((j_up (j_up (j_up (j_up I 16 (0 : Int32).toNatClampNeg (I b1 3)) 16 (1 : Int32).toNatClampNeg ((j_up I 16 (0 : Int32).toNatClampNeg (I b1 3)) b2 5)) 16 (2 : Int32).toNatClampNeg ((j_up (j_up I 16 (0 : Int32).toNatClampNeg (I b1 3)) 16 (1 : Int32).toNatClampNeg ((j_up I 16 (0 : Int32).toNatClampNeg (I b1 3)) b2 5)) b3 6)) 16 (3 : Int32).toNatClampNeg (q9 - ((j_up (j_up (j_up I 16 (0 : Int32).toNatClampNeg (I b1 3)) 16 (1 : Int32).toNatClampNeg ((j_up I 16 (0 : Int32).toNatClampNeg (I b1 3)) b2 5)) 16 (2 : Int32).toNatClampNeg ((j_up (j_up I 16 (0 : Int32).toNatClampNeg (I b1 3)) 16 (1 : Int32).toNatClampNeg ((j_up I 16 (0 : Int32).toNatClampNeg (I b1 3)) b2 5)) b3 6)) b10 3))) b13 3))) 16 (5 : Int32).toNatClampNeg ((j_up (j_up (j_up (j_up (j_up I 16 (0 : Int32).toNatClampNeg (I b1 3)) 16 (1 : Int32).toNatClampNeg ((j_up I 16 (0 : Int32).toNatClampNeg (I b1 3)) b2 5)) 16 (2 : Int32).toNatClampNeg ((j_up (j_up I 16 (0 : Int32).toNatClampNeg (I b1 3)) 16 (1 : Int32).toNatClampNeg ((j_up I 16 (0 : Int32).toNatClampNeg (I b1 3)) b2 5)) b3 6)) 16 (3 : Int32).toNatClampNeg (q9 - ((j_up (j_up (j_up I 16 (0 : Int32).toNatClampNeg (I b1 3)) 16 (1 : Int32).toNatClampNeg ((j_up I 16 (0 : Int32).toNatClampNeg (I b1 3)) b2 5)) 16 (2 : Int32).toNatClampNeg ((j_up (j_up I 16 (0 : Int32).toNatClampNeg (I b1 3)) 16 (1 : Int32).toNatClampNeg ((j_up I 16 (0 : Int32).toNatClampNeg (I b1 3)) b2 5)) b3 6)) b10 3))) 16 (4 : Int32).toNatClampNeg (((j_up (j_up (j_up (j_up I 16 (0 : Int32).toNatClampNeg (I b1 3)) 16 (1 : Int32).toNatClampNeg ((j_up I 16 (0 : Int32).toNatClampNeg (I b1 3)) b2 5)) 16 (2 : Int32).toNatClampNeg ((j_up (j_up I 16 (0 : Int32).toNatClampNeg (I b1 3)) 16 (1 : Int32).toNatClampNeg ((j_up I 16 (0 : Int32).toNatClampNeg (I b1 3)) b2 5)) b3 6)) 16 (3 : Int32).toNatClampNeg (q9 - ((j_up (j_up (j_up I 16 (0 : Int32).toNatClampNeg (I b1 3)) 16 (1 : Int32).toNatClampNeg ((j_up I 16 (0 : Int32).toNatClampNeg (I b1 3)) b2 5)) 16 (2 : Int32).toNatClampNeg ((j_up (j_up I 16 (0 : Int32).toNatClampNeg (I b1 3)) 16 (1 : Int32).toNatClampNeg ((j_up I 16 (0 : Int32).toNatClampNeg (I b1 3)) b2 5)) b3 6)) b10 3))) (b11 + 4) ((j_up (j_up (j_up (j_up I 16 (0 : Int32).toNatClampNeg (I b1 3)) 16 (1 : Int32).toNatClampNeg ((j_up I 16 (0 : Int32).toNatClampNeg (I b1 3)) b2 5)) 16 (2 : Int32).toNatClampNeg ((j_up (j_up I 16 (0 : Int32).toNatClampNeg (I b1 3)) 16 (1 : Int32).toNatClampNeg ((j_up I 16 (0 : Int32).toNatClampNeg (I b1 3)) b2 5)) b3 6)) 16 (3 : Int32).toNatClampNeg (q9 - ((j_up (j_up (j_up I 16 (0 : Int32).toNatClampNeg (I b1 3)) 16 (1 : Int32).toNatClampNeg ((j_up I 16 (0 : Int32).toNatClampNeg (I b1 3)) b2 5)) 16 (2 : Int32).toNatClampNeg ((j_up (j_up I 16 (0 : Int32).toNatClampNeg (I b1 3)) 16 (1 : Int32).toNatClampNeg ((j_up I 16 (0 : Int32).toNatClampNeg (I b1 3)) b2 5)) b3 6)) b10 3))) b12 1).toNatClampNeg) - ((j_up (j_up (j_up (j_up I 16 (0 : Int32).toNatClampNeg (I b1 3)) 16 (1 : Int32).toNatClampNeg ((j_up I 16 (0 : Int32).toNatClampNeg (I b1 3)) b2 5)) 16 (2 : Int32).toNatClampNeg ((j_up (j_up I 16 (0 : Int32).toNatClampNeg (I b1 3)) 16 (1 : Int32).toNatClampNeg ((j_up I 16 (0 : Int32).toNatClampNeg (I b1 3)) b2 5)) b3 6)) 16 (3 : Int32).toNatClampNeg (q9 - ((j_up (j_up (j_up I 16 (0 : Int32).toNatClampNeg (I b1 3)) 16 (1 : Int32).toNatClampNeg ((j_up I 16 (0 : Int32).toNatClampNeg (I b1 3)) b2 5)) 16 (2 : Int32).toNatClampNeg ((j_up (j_up I 16 (0 : Int32).toNatClampNeg (I b1 3)) 16 (1 : Int32).toNatClampNeg ((j_up I 16 (0 : Int32).toNatClampNeg (I b1 3)) b2 5)) b3 6)) b10 3))) b13 3))) (b14 + 3) ((j_up (j_up (j_up (j_up (j_up I 16 (0 : Int32).toNatClampNeg (I b1 3)) 16 (1 : Int32).toNatClampNeg ((j_up I 16 (0 : Int32).toNatClampNeg (I b1 3)) b2 5)) 16 (2 : Int32).toNatClampNeg ((j_up (j_up I 16 (0 : Int32).toNatClampNeg (I b1 3)) 16 (1 : Int32).toNatClampNeg ((j_up I 16 (0 : Int32).toNatClampNeg (I b1 3)) b2 5)) b3 6)) 16 (3 : Int32).toNatClampNeg (q9 - ((j_up (j_up (j_up I 16 (0 : Int32).toNatClampNeg (I b1 3)) 16 (1 : Int32).toNatClampNeg ((j_up I 16 (0 : Int32).toNatClampNeg (I b1 3)) b2 5)) 16 (2 : Int32).toNatClampNeg ((j_up (j_up I 16 (0 : Int32).toNatClampNeg (I b1 3)) 16 (1 : Int32).toNatClampNeg ((j_up I 16 (0 : Int32).toNatClampNeg (I b1 3)) b2 5)) b3 6)) b10 3))) 16 (4 : Int32).toNatClampNeg (((j_up (j_up (j_up (j_up I 16 (0 : Int32).toNatClampNeg (I b1 3)) 16 (1 : Int32).toNatClampNeg ((j_up I 16 (0 : Int32).toNatClampNeg (I b1 3)) b2 5)) 16 (2 : Int32).toNatClampNeg ((j_up (j_up I 16 (0 : Int32).toNatClampNeg (I b1 3)) 16 (1 : Int32).toNatClampNeg ((j_up I 16 (0 : Int32).toNatClampNeg (I b1 3)) b2 5)) b3 6)) 16 (3 : Int32).toNatClampNeg (q9 - ((j_up (j_up (j_up I 16 (0 : Int32).toNatClampNeg (I b1 3)) 16 (1 : Int32).toNatClampNeg ((j_up I 16 (0 : Int32).toNatClampNeg (I b1 3)) b2 5)) 16 (2 : Int32).toNatClampNeg ((j_up (j_up I 16 (0 : Int32).toNatClampNeg (I b1 3)) 16 (1 : Int32).toNatClampNeg ((j_up I 16 (0 : Int32).toNatClampNeg (I b1 3)) b2 5)) b3 6)) b10 3))) (b11 + 4) ((j_up (j_up (j_up (j_up I 16 (0 : Int32).toNatClampNeg (I b1 3)) 16 (1 : Int32).toNatClampNeg ((j_up I 16 (0 : Int32).toNatClampNeg (I b1 3)) b2 5)) 16 (2 : Int32).toNatClampNeg ((j_up (j_up I 16 (0 : Int32).toNatClampNeg (I b1 3)) 16 (1 : Int32).toNatClampNeg ((j_up I 16 (0 : Int32).toNatClampNeg (I b1 3)) b2 5)) b3 6)) 16 (3 : Int32).toNatClampNeg (q9 - ((j_up (j_up (j_up I 16 (0 : Int32).toNatClampNeg (I b1 3)) 16 (1 : Int32).toNatClampNeg ((j_up I 16 (0 : Int32).toNatClampNeg (I b1 3)) b2 5)) 16 (2 : Int32).toNatClampNeg ((j_up (j_up I 16 (0 : Int32).toNatClampNeg (I b1 3)) 16 (1 : Int32).toNatClampNeg ((j_up I 16 (0 : Int32).toNatClampNeg (I b1 3)) b2 5)) b3 6)) b10 3))) b12 1).toNatClampNeg) - ((j_up (j_up (j_up (j_up I 16 (0 : Int32).toNatClampNeg (I b1 3)) 16 (1 : Int32).toNatClampNeg ((j_up I 16 (0 : Int32).toNatClampNeg (I b1 3)) b2 5)) 16 (2 : Int32).toNatClampNeg ((j_up (j_up I 16 (0 : Int32).toNatClampNeg (I b1 3)) 16 (1 : Int32).toNatClampNeg ((j_up I 16 (0 : Int32).toNatClampNeg (I b1 3)) b2 5)) b3 6)) 16 (3 : Int32).toNatClampNeg (q9 - ((j_up (j_up (j_up I 16 (0 : Int32).toNatClampNeg (I b1 3)) 16 (1 : Int32).toNatClampNeg ((j_up I 16 (0 : Int32).toNatClampNeg (I b1 3)) b2 5)) 16 (2 : Int32).toNatClampNeg ((j_up (j_up I 16 (0 : Int32).toNatClampNeg (I b1 3)) 16 (1 : Int32).toNatClampNeg ((j_up I 16 (0 : Int32).toNatClampNeg (I b1 3)) b2 5)) b3 6)) b10 3))) b13 3))) b15 2).toNatClampNeg)) (j_up D 15 7 (some l1)) S)))))))))))))))))))))))))))))))))
set_option maxHeartbeats 4000000 in
set_option maxRecDepth 100000 in
theorem tcX3_ask {E : JE} {l1 : Nat} {r : JI × JG} {I : JI} {L : JL} {G D : JG} {S : JS} (hL : Lay G S) (h1 : S[l1]? = some (0, 7)) (h : fX3_ask l1 I D S = some r) : CallJ E xX3_ask 2 [.ref (E.1 + 15), .ref (E.1 + l1)] I L G D S none r.1 L G r.2 S := by
  unfold fX3_ask at h
  refine j_entry (by decide) (Nat.le_of_ble_eq_true rfl) ?_
  show AtJ E xX3_ask (Zr E none r.1 L G r.2 S) ((S).length, jm_sl S) 2 0 [(0, .ref (E.1 + 15)), (1, .ref (E.1 + l1))] [] I L G D S
  refine j_aload_n 1 dX3_ask_0 rfl rfl 0 rfl ?_
  refine j_aload_n 2 dX3_ask_1 rfl rfl 1 rfl ?_
  refine j_putD 5 dX3_ask_2 rfl (sh_15 hL) cl3 (k := 7) (by decide) flX3_37 rfl rfl (fun _ => rfl) (fun _ => rfl) ?_
  refine j_aload_n 6 dX3_ask_5 rfl rfl 0 rfl ?_
  refine j_getG 9 dX3_ask_6 rfl (sh_15 hL) cl3 (k := 1) (by decide) flX3_9 rfl (gs_15_1 hL) ?_
  refine j_iconst (v := (0 : Int32)) 10 dX3_ask_9 rfl (by decide) ?_
  refine j_aload_n 11 dX3_ask_10 rfl rfl 0 rfl ?_
  rcases j_os h with ⟨hb, h⟩ | ⟨b1, hb, h⟩
  · refine j_getDn 14 dX3_ask_11 rfl (sh_15 hL) cl3 (k := 7) (by decide) flX3_37 rfl hb ?_
    cases h
  obtain ⟨hsb1, h⟩ := j_gs h
  replace hsb1 := of_decide_eq_true hsb1
  refine j_getD 14 dX3_ask_11 rfl (sh_15 hL) cl3 (k := 7) (by decide) flX3_37 rfl hb ?_
  refine j_getIN 17 dX3_ask_14 rfl hsb1 cl0 (k := 3) (by decide) flX3_41 rfl ?_
  obtain ⟨hg, h⟩ := j_gs h
  refine j_iast 18 dX3_ask_17 rfl (sh_16 hL) (j_inv hg) ?_
  refine j_aload_n 19 dX3_ask_18 rfl rfl 0 rfl ?_
  refine j_getG 22 dX3_ask_19 rfl (sh_15 hL) cl3 (k := 1) (by decide) flX3_9 rfl (gs_15_1 hL) ?_
  refine j_iconst (v := (1 : Int32)) 23 dX3_ask_22 rfl (by decide) ?_
  refine j_aload_n 24 dX3_ask_23 rfl rfl 0 rfl ?_
  rcases j_os h with ⟨hb, h⟩ | ⟨b2, hb, h⟩
  · refine j_getDn 27 dX3_ask_24 rfl (sh_15 hL) cl3 (k := 7) (by decide) flX3_37 rfl hb ?_
    cases h
  obtain ⟨hsb2, h⟩ := j_gs h
  replace hsb2 := of_decide_eq_true hsb2
  refine j_getD 27 dX3_ask_24 rfl (sh_15 hL) cl3 (k := 7) (by decide) flX3_37 rfl hb ?_
  refine j_getIN 30 dX3_ask_27 rfl hsb2 cl0 (k := 5) (by decide) flX3_47 rfl ?_
  obtain ⟨hg, h⟩ := j_gs h
  refine j_iast 31 dX3_ask_30 rfl (sh_16 hL) (j_inv hg) ?_
  refine j_aload_n 32 dX3_ask_31 rfl rfl 0 rfl ?_
  refine j_getG 35 dX3_ask_32 rfl (sh_15 hL) cl3 (k := 1) (by decide) flX3_9 rfl (gs_15_1 hL) ?_
  refine j_iconst (v := (2 : Int32)) 36 dX3_ask_35 rfl (by decide) ?_
  refine j_aload_n 37 dX3_ask_36 rfl rfl 0 rfl ?_
  rcases j_os h with ⟨hb, h⟩ | ⟨b3, hb, h⟩
  · refine j_getDn 40 dX3_ask_37 rfl (sh_15 hL) cl3 (k := 7) (by decide) flX3_37 rfl hb ?_
    cases h
  obtain ⟨hsb3, h⟩ := j_gs h
  replace hsb3 := of_decide_eq_true hsb3
  refine j_getD 40 dX3_ask_37 rfl (sh_15 hL) cl3 (k := 7) (by decide) flX3_37 rfl hb ?_
  refine j_getIN 43 dX3_ask_40 rfl hsb3 cl0 (k := 6) (by decide) flX3_50 rfl ?_
  obtain ⟨hg, h⟩ := j_gs h
  refine j_iast 44 dX3_ask_43 rfl (sh_16 hL) (j_inv hg) ?_
  refine j_aload_n 45 dX3_ask_44 rfl rfl 0 rfl ?_
  refine j_getG 48 dX3_ask_45 rfl (sh_15 hL) cl3 (k := 1) (by decide) flX3_9 rfl (gs_15_1 hL) ?_
  refine j_iconst (v := (3 : Int32)) 49 dX3_ask_48 rfl (by decide) ?_
  refine j_aload_n 50 dX3_ask_49 rfl rfl 0 rfl ?_
  rcases j_os h with ⟨hb, h⟩ | ⟨b4, hb, h⟩
  · refine j_getDn 53 dX3_ask_50 rfl (sh_15 hL) cl3 (k := 6) (by decide) flX3_28 rfl hb ?_
    refine j_aload_n 54 dX3_ask_53 rfl rfl 0 rfl ?_
    rcases j_os h with ⟨hb, h⟩ | ⟨b5, hb, h⟩
    · refine j_getDn 57 dX3_ask_54 rfl (sh_15 hL) cl3 (k := 7) (by decide) flX3_37 rfl hb ?_
      cases h
    obtain ⟨hsb5, h⟩ := j_gs h
    replace hsb5 := of_decide_eq_true hsb5
    refine j_getD 57 dX3_ask_54 rfl (sh_15 hL) cl3 (k := 7) (by decide) flX3_37 rfl hb ?_
    refine j_getIN 60 dX3_ask_57 rfl hsb5 cl0 (k := 0) (by decide) flX3_53 rfl ?_
    refine j_aload_n 61 dX3_ask_60 rfl rfl 0 rfl ?_
    rcases j_os h with ⟨hb, h⟩ | ⟨b6, hb, h⟩
    · refine j_getDn 64 dX3_ask_61 rfl (sh_15 hL) cl3 (k := 7) (by decide) flX3_37 rfl hb ?_
      cases h
    obtain ⟨hsb6, h⟩ := j_gs h
    replace hsb6 := of_decide_eq_true hsb6
    refine j_getD 64 dX3_ask_61 rfl (sh_15 hL) cl3 (k := 7) (by decide) flX3_37 rfl hb ?_
    refine j_getIN 67 dX3_ask_64 rfl hsb6 cl0 (k := 1) (by decide) flX3_56 rfl ?_
    cases h
  obtain ⟨hsb4, h⟩ := j_gs h
  replace hsb4 := of_decide_eq_true hsb4
  refine j_getD 53 dX3_ask_50 rfl (sh_15 hL) cl3 (k := 6) (by decide) flX3_28 rfl hb ?_
  refine j_aload_n 54 dX3_ask_53 rfl rfl 0 rfl ?_
  rcases j_os h with ⟨hb, h⟩ | ⟨b7, hb, h⟩
  · refine j_getDn 57 dX3_ask_54 rfl (sh_15 hL) cl3 (k := 7) (by decide) flX3_37 rfl hb ?_
    cases h
  obtain ⟨hsb7, h⟩ := j_gs h
  replace hsb7 := of_decide_eq_true hsb7
  refine j_getD 57 dX3_ask_54 rfl (sh_15 hL) cl3 (k := 7) (by decide) flX3_37 rfl hb ?_
  refine j_getIN 60 dX3_ask_57 rfl hsb7 cl0 (k := 0) (by decide) flX3_53 rfl ?_
  refine j_aload_n 61 dX3_ask_60 rfl rfl 0 rfl ?_
  rcases j_os h with ⟨hb, h⟩ | ⟨b8, hb, h⟩
  · refine j_getDn 64 dX3_ask_61 rfl (sh_15 hL) cl3 (k := 7) (by decide) flX3_37 rfl hb ?_
    cases h
  obtain ⟨hsb8, h⟩ := j_gs h
  replace hsb8 := of_decide_eq_true hsb8
  refine j_getD 64 dX3_ask_61 rfl (sh_15 hL) cl3 (k := 7) (by decide) flX3_37 rfl hb ?_
  refine j_getIN 67 dX3_ask_64 rfl hsb8 cl0 (k := 1) (by decide) flX3_56 rfl ?_
  obtain ⟨q9, hq9, h⟩ := j_bs h
  refine j_callV (rest := [.int (3 : Int32), .ref (E.1 + 16)]) (As := [.int ((j_up (j_up (j_up I 16 (0 : Int32).toNatClampNeg (I b1 3)) 16 (1 : Int32).toNatClampNeg ((j_up I 16 (0 : Int32).toNatClampNeg (I b1 3)) b2 5)) 16 (2 : Int32).toNatClampNeg ((j_up (j_up I 16 (0 : Int32).toNatClampNeg (I b1 3)) 16 (1 : Int32).toNatClampNeg ((j_up I 16 (0 : Int32).toNatClampNeg (I b1 3)) b2 5)) b3 6)) b7 0), .int ((j_up (j_up (j_up I 16 (0 : Int32).toNatClampNeg (I b1 3)) 16 (1 : Int32).toNatClampNeg ((j_up I 16 (0 : Int32).toNatClampNeg (I b1 3)) b2 5)) 16 (2 : Int32).toNatClampNeg ((j_up (j_up I 16 (0 : Int32).toNatClampNeg (I b1 3)) 16 (1 : Int32).toNatClampNeg ((j_up I 16 (0 : Int32).toNatClampNeg (I b1 3)) b2 5)) b3 6)) b8 1)]) 70 dX3_ask_67 rfl jyX1_of (tcX1_of hL hsb4 hq9) hsb4 cl1 flX3_59 wm663 wm664 (by decide) rfl rfl (Nat.le_of_ble_eq_true rfl) ?_
  refine j_aload_n 71 dX3_ask_70 rfl rfl 0 rfl ?_
  rcases j_os h with ⟨hb, h⟩ | ⟨b10, hb, h⟩
  · refine j_getDn 74 dX3_ask_71 rfl (sh_15 hL) cl3 (k := 7) (by decide) flX3_37 rfl hb ?_
    cases h
  obtain ⟨hsb10, h⟩ := j_gs h
  replace hsb10 := of_decide_eq_true hsb10
  refine j_getD 74 dX3_ask_71 rfl (sh_15 hL) cl3 (k := 7) (by decide) flX3_37 rfl hb ?_
  refine j_getIN 77 dX3_ask_74 rfl hsb10 cl0 (k := 3) (by decide) flX3_41 rfl ?_
  refine j_isub 78 dX3_ask_77 rfl ?_
  obtain ⟨hg, h⟩ := j_gs h
  refine j_iast 79 dX3_ask_78 rfl (sh_16 hL) (j_inv hg) ?_
  refine j_aload_n 80 dX3_ask_79 rfl rfl 0 rfl ?_
  refine j_getG 83 dX3_ask_80 rfl (sh_15 hL) cl3 (k := 1) (by decide) flX3_9 rfl (gs_15_1 hL) ?_
  refine j_iconst (v := (4 : Int32)) 84 dX3_ask_83 rfl (by decide) ?_
  refine j_aload_n 85 dX3_ask_84 rfl rfl 0 rfl ?_
  rcases j_os h with ⟨hb, h⟩ | ⟨b11, hb, h⟩
  · refine j_getDn 88 dX3_ask_85 rfl (sh_15 hL) cl3 (k := 6) (by decide) flX3_28 rfl hb ?_
    cases h
  obtain ⟨hsb11, h⟩ := j_gs h
  replace hsb11 := of_decide_eq_true hsb11
  refine j_getD 88 dX3_ask_85 rfl (sh_15 hL) cl3 (k := 6) (by decide) flX3_28 rfl hb ?_
  refine j_getGN 91 dX3_ask_88 rfl hsb11 cl1 (k := 3) (by decide) flX3_65 rfl (ly1_3 hL hsb11).1 ?_
  refine j_aload_n 92 dX3_ask_91 rfl rfl 0 rfl ?_
  rcases j_os h with ⟨hb, h⟩ | ⟨b12, hb, h⟩
  · refine j_getDn 95 dX3_ask_92 rfl (sh_15 hL) cl3 (k := 7) (by decide) flX3_37 rfl hb ?_
    cases h
  obtain ⟨hsb12, h⟩ := j_gs h
  replace hsb12 := of_decide_eq_true hsb12
  refine j_getD 95 dX3_ask_92 rfl (sh_15 hL) cl3 (k := 7) (by decide) flX3_37 rfl hb ?_
  refine j_getIN 98 dX3_ask_95 rfl hsb12 cl0 (k := 1) (by decide) flX3_56 rfl ?_
  obtain ⟨hg, h⟩ := j_gs h
  refine j_iald 99 dX3_ask_98 rfl (ly1_3 hL hsb11).2 (j_inv hg) ?_
  refine j_aload_n 100 dX3_ask_99 rfl rfl 0 rfl ?_
  rcases j_os h with ⟨hb, h⟩ | ⟨b13, hb, h⟩
  · refine j_getDn 103 dX3_ask_100 rfl (sh_15 hL) cl3 (k := 7) (by decide) flX3_37 rfl hb ?_
    cases h
  obtain ⟨hsb13, h⟩ := j_gs h
  replace hsb13 := of_decide_eq_true hsb13
  refine j_getD 103 dX3_ask_100 rfl (sh_15 hL) cl3 (k := 7) (by decide) flX3_37 rfl hb ?_
  refine j_getIN 106 dX3_ask_103 rfl hsb13 cl0 (k := 3) (by decide) flX3_41 rfl ?_
  refine j_isub 107 dX3_ask_106 rfl ?_
  obtain ⟨hg, h⟩ := j_gs h
  refine j_iast 108 dX3_ask_107 rfl (sh_16 hL) (j_inv hg) ?_
  refine j_aload_n 109 dX3_ask_108 rfl rfl 0 rfl ?_
  refine j_getG 112 dX3_ask_109 rfl (sh_15 hL) cl3 (k := 1) (by decide) flX3_9 rfl (gs_15_1 hL) ?_
  refine j_iconst (v := (5 : Int32)) 113 dX3_ask_112 rfl (by decide) ?_
  refine j_aload_n 114 dX3_ask_113 rfl rfl 0 rfl ?_
  rcases j_os h with ⟨hb, h⟩ | ⟨b14, hb, h⟩
  · refine j_getDn 117 dX3_ask_114 rfl (sh_15 hL) cl3 (k := 6) (by decide) flX3_28 rfl hb ?_
    cases h
  obtain ⟨hsb14, h⟩ := j_gs h
  replace hsb14 := of_decide_eq_true hsb14
  refine j_getD 117 dX3_ask_114 rfl (sh_15 hL) cl3 (k := 6) (by decide) flX3_28 rfl hb ?_
  refine j_getGN 120 dX3_ask_117 rfl hsb14 cl1 (k := 2) (by decide) flX3_68 rfl (ly1_2 hL hsb14).1 ?_
  refine j_aload_n 121 dX3_ask_120 rfl rfl 0 rfl ?_
  rcases j_os h with ⟨hb, h⟩ | ⟨b15, hb, h⟩
  · refine j_getDn 124 dX3_ask_121 rfl (sh_15 hL) cl3 (k := 7) (by decide) flX3_37 rfl hb ?_
    cases h
  obtain ⟨hsb15, h⟩ := j_gs h
  replace hsb15 := of_decide_eq_true hsb15
  refine j_getD 124 dX3_ask_121 rfl (sh_15 hL) cl3 (k := 7) (by decide) flX3_37 rfl hb ?_
  refine j_getIN 127 dX3_ask_124 rfl hsb15 cl0 (k := 2) (by decide) flX3_71 rfl ?_
  obtain ⟨hg, h⟩ := j_gs h
  refine j_iald 128 dX3_ask_127 rfl (ly1_2 hL hsb14).2 (j_inv hg) ?_
  obtain ⟨hg, h⟩ := j_gs h
  refine j_iast 129 dX3_ask_128 rfl (sh_16 hL) (j_inv hg) ?_
  refine j_iconst (v := (0 : Int32)) 130 dX3_ask_129 rfl (by decide) ?_
  refine j_istore_n (lv' := [(2, .int (0 : Int32)), (0, .ref (E.1 + 15)), (1, .ref (E.1 + l1))]) 131 dX3_ask_130 rfl rfl (by decide) rfl ?_
  refine j_sub [1, 0] rfl ?_
  exact kX3_ask_131 hL  h1  100000 _ _ _  h
def fX4_isFirstOn (t : Nat) (l1 : Int32) (l2 : Int32) (I : JI) : Option (Int32) :=
  j_g (j_in l1 18) (if (jm_b01 (I (t + 1) l1.toNatClampNeg)) = 0 then (some ((0 : Int32))) else (j_g (j_in l1 18) (if (((I (t + 5) l1.toNatClampNeg) >>> (l2 &&& 31)) &&& (1 : Int32)) = 0 then (some ((0 : Int32))) else (some ((1 : Int32))))))
set_option maxHeartbeats 4000000 in
set_option maxRecDepth 100000 in
theorem tcX4_isFirstOn {E : JE} {t : Nat} {l1 : Int32} {l2 : Int32} {r : Int32} {I : JI} {L : JL} {G D : JG} {S : JS} (hL : Lay G S) (ht : S[t]? = some (4, 17)) (h : fX4_isFirstOn t l1 l2 I = some r) : CallJ E xX4_isFirstOn 1 [.ref (E.1 + t), .int l1, .int l2] I L G D S (some (.int r)) I L G D S := by
  unfold fX4_isFirstOn at h
  refine j_entry (by decide) (Nat.le_of_ble_eq_true rfl) ?_
  show AtJ E xX4_isFirstOn (Zr E (some (.int r)) I L G D S) ((S).length, jm_sl S) 1 0 [(0, .ref (E.1 + t)), (1, .int l1), (2, .int l2)] [] I L G D S
  refine j_aload_n 1 dX4_isFirstOn_0 rfl rfl 0 rfl ?_
  refine j_getG 4 dX4_isFirstOn_1 rfl ht cl4 (k := 0) (by decide) flX4_9 rfl (ly4_0 hL ht).1 ?_
  refine j_iload_n 5 dX4_isFirstOn_4 rfl rfl 1 rfl ?_
  obtain ⟨hg, h⟩ := j_gs h
  refine j_zald 6 dX4_isFirstOn_5 rfl (ly4_0 hL ht).2 (j_inv hg) ?_
  refine j_if_eq 26 9 dX4_isFirstOn_6 (by decide) rfl (fun hc => ?_) (fun hc => ?_)
  · replace h := j_pos hc h
    refine j_iconst (v := (0 : Int32)) 27 dX4_isFirstOn_26 rfl (by decide) ?_
    cases h
    exact j_zret dX4_isFirstOn_27 rfl j_b01_0
  · replace h := j_neg hc h
    refine j_aload_n 10 dX4_isFirstOn_9 rfl rfl 0 rfl ?_
    refine j_getG 13 dX4_isFirstOn_10 rfl ht cl4 (k := 4) (by decide) flX4_26 rfl (ly4_4 hL ht).1 ?_
    refine j_iload_n 14 dX4_isFirstOn_13 rfl rfl 1 rfl ?_
    obtain ⟨hg, h⟩ := j_gs h
    refine j_iald 15 dX4_isFirstOn_14 rfl (ly4_4 hL ht).2 (j_inv hg) ?_
    refine j_iload_n 16 dX4_isFirstOn_15 rfl rfl 2 rfl ?_
    refine j_ishr 17 dX4_isFirstOn_16 rfl ?_
    refine j_iconst (v := (1 : Int32)) 18 dX4_isFirstOn_17 rfl (by decide) ?_
    refine j_iand 19 dX4_isFirstOn_18 rfl ?_
    refine j_if_eq 26 22 dX4_isFirstOn_19 (by decide) rfl (fun hc => ?_) (fun hc => ?_)
    · replace h := j_pos hc h
      refine j_iconst (v := (0 : Int32)) 27 dX4_isFirstOn_26 rfl (by decide) ?_
      cases h
      exact j_zret dX4_isFirstOn_27 rfl j_b01_0
    · replace h := j_neg hc h
      refine j_iconst (v := (1 : Int32)) 23 dX4_isFirstOn_22 rfl (by decide) ?_
      refine j_goto 27 dX4_isFirstOn_23 (by decide) ?_
      cases h
      exact j_zret dX4_isFirstOn_27 rfl j_b01_1
def fX3_value_283 (k5 : Int32 → Int32 → Int32 → JI → JG → JS → Option (Int32 × JI)) (l2 : Int32) (l3 : Int32) (l4 : Int32) (s0 : Int32) (I : JI) (D : JG) (S : JS) : Option (Int32 × JI) :=
  j_g (j_in (l3 - (1 : Int32)) 64) (k5 l2 l3 (l4 + (1 : Int32)) (j_up I 17 (l3 - (1 : Int32)).toNatClampNeg s0) D S)
set_option maxHeartbeats 4000000 in
set_option maxRecDepth 100000 in
theorem kX3_value_283 {E : JE} {k5 : Int32 → Int32 → Int32 → JI → JG → JS → Option (Int32 × JI)} {r : Int32 × JI} {L : JL} {G : JG} {S : JS} (hL : Lay G S) (H5 : ∀ (l2 : Int32) (l3 : Int32) (l4 : Int32) (I : JI) (D : JG), k5 l2 l3 l4 I D S = some r → AtJ E xX3_value (Zr E (some (.int r.1)) r.2 L G D S) ((S).length, jm_sl S) 1 5 [(0, .ref (E.1 + 15)), (2, .int l2), (3, .int l3), (4, .int l4)] [] I L G D S) : ∀ (l2 : Int32) (l3 : Int32) (l4 : Int32) (s0 : Int32) (I : JI) (D : JG), fX3_value_283 k5 l2 l3 l4 s0 I D S = some r → AtJ E xX3_value (Zr E (some (.int r.1)) r.2 L G D S) ((S).length, jm_sl S) 1 283 [(0, .ref (E.1 + 15)), (2, .int l2), (3, .int l3), (4, .int l4)] [.int s0] I L G D S := by
  intro l2 l3 l4 s0 I D  h
  unfold fX3_value_283 at h
  refine j_istore (lv' := [(6, .int s0), (0, .ref (E.1 + 15)), (2, .int l2), (3, .int l3), (4, .int l4)]) 285 dX3_value_283 rfl (by decide) rfl ?_
  refine j_goto 305 dX3_value_285 (by decide) ?_
  refine j_aload_n 306 dX3_value_305 rfl rfl 1 rfl ?_
  refine j_getG 309 dX3_value_306 rfl (sh_15 hL) cl3 (k := 2) (by decide) flX3_15 rfl (gs_15_2 hL) ?_
  refine j_iload_n 310 dX3_value_309 rfl rfl 3 rfl ?_
  refine j_iconst (v := (1 : Int32)) 311 dX3_value_310 rfl (by decide) ?_
  refine j_isub 312 dX3_value_311 rfl ?_
  refine j_iload 314 dX3_value_312 rfl 0 rfl ?_
  obtain ⟨hg, h⟩ := j_gs h
  refine j_iast 315 dX3_value_314 rfl (sh_17 hL) (j_inv hg) ?_
  refine j_iinc (v := (l4 + (1 : Int32))) (lv' := [(4, .int (l4 + (1 : Int32))), (6, .int s0), (0, .ref (E.1 + 15)), (2, .int l2), (3, .int l3)]) (q := 4) 318 dX3_value_315 rfl rfl rfl (by decide) rfl ?_
  refine j_goto 5 dX3_value_318 (by decide) ?_
  refine j_sub [2, 3, 4, 0] rfl ?_
  exact H5 _ _ _ _ _  h
def fX3_value_246 (k5 : Int32 → Int32 → Int32 → JI → JG → JS → Option (Int32 × JI)) (l2 : Int32) (l3 : Int32) (l4 : Int32) (s0 : Int32) (I : JI) (D : JG) (S : JS) : Option (Int32 × JI) :=
  j_g (j_in (l3 - (1 : Int32)) 64) (k5 l2 l3 (l4 + (1 : Int32)) (j_up I 17 (l3 - (1 : Int32)).toNatClampNeg s0) D S)
set_option maxHeartbeats 4000000 in
set_option maxRecDepth 100000 in
theorem kX3_value_246 {E : JE} {k5 : Int32 → Int32 → Int32 → JI → JG → JS → Option (Int32 × JI)} {r : Int32 × JI} {L : JL} {G : JG} {S : JS} (hL : Lay G S) (H5 : ∀ (l2 : Int32) (l3 : Int32) (l4 : Int32) (I : JI) (D : JG), k5 l2 l3 l4 I D S = some r → AtJ E xX3_value (Zr E (some (.int r.1)) r.2 L G D S) ((S).length, jm_sl S) 1 5 [(0, .ref (E.1 + 15)), (2, .int l2), (3, .int l3), (4, .int l4)] [] I L G D S) : ∀ (l2 : Int32) (l3 : Int32) (l4 : Int32) (s0 : Int32) (I : JI) (D : JG), fX3_value_246 k5 l2 l3 l4 s0 I D S = some r → AtJ E xX3_value (Zr E (some (.int r.1)) r.2 L G D S) ((S).length, jm_sl S) 1 246 [(0, .ref (E.1 + 15)), (2, .int l2), (3, .int l3), (4, .int l4)] [.int s0] I L G D S := by
  intro l2 l3 l4 s0 I D  h
  unfold fX3_value_246 at h
  refine j_istore (lv' := [(6, .int s0), (0, .ref (E.1 + 15)), (2, .int l2), (3, .int l3), (4, .int l4)]) 248 dX3_value_246 rfl (by decide) rfl ?_
  refine j_goto 305 dX3_value_248 (by decide) ?_
  refine j_aload_n 306 dX3_value_305 rfl rfl 1 rfl ?_
  refine j_getG 309 dX3_value_306 rfl (sh_15 hL) cl3 (k := 2) (by decide) flX3_15 rfl (gs_15_2 hL) ?_
  refine j_iload_n 310 dX3_value_309 rfl rfl 3 rfl ?_
  refine j_iconst (v := (1 : Int32)) 311 dX3_value_310 rfl (by decide) ?_
  refine j_isub 312 dX3_value_311 rfl ?_
  refine j_iload 314 dX3_value_312 rfl 0 rfl ?_
  obtain ⟨hg, h⟩ := j_gs h
  refine j_iast 315 dX3_value_314 rfl (sh_17 hL) (j_inv hg) ?_
  refine j_iinc (v := (l4 + (1 : Int32))) (lv' := [(4, .int (l4 + (1 : Int32))), (6, .int s0), (0, .ref (E.1 + 15)), (2, .int l2), (3, .int l3)]) (q := 4) 318 dX3_value_315 rfl rfl rfl (by decide) rfl ?_
  refine j_goto 5 dX3_value_318 (by decide) ?_
  refine j_sub [2, 3, 4, 0] rfl ?_
  exact H5 _ _ _ _ _  h
def fX3_value_263 (k5 : Int32 → Int32 → Int32 → JI → JG → JS → Option (Int32 × JI)) (l2 : Int32) (l3 : Int32) (l4 : Int32) (s0 : Int32) (I : JI) (D : JG) (S : JS) : Option (Int32 × JI) :=
  j_g (j_in (l3 - (1 : Int32)) 64) (k5 l2 l3 (l4 + (1 : Int32)) (j_up I 17 (l3 - (1 : Int32)).toNatClampNeg s0) D S)
set_option maxHeartbeats 4000000 in
set_option maxRecDepth 100000 in
theorem kX3_value_263 {E : JE} {k5 : Int32 → Int32 → Int32 → JI → JG → JS → Option (Int32 × JI)} {r : Int32 × JI} {L : JL} {G : JG} {S : JS} (hL : Lay G S) (H5 : ∀ (l2 : Int32) (l3 : Int32) (l4 : Int32) (I : JI) (D : JG), k5 l2 l3 l4 I D S = some r → AtJ E xX3_value (Zr E (some (.int r.1)) r.2 L G D S) ((S).length, jm_sl S) 1 5 [(0, .ref (E.1 + 15)), (2, .int l2), (3, .int l3), (4, .int l4)] [] I L G D S) : ∀ (l2 : Int32) (l3 : Int32) (l4 : Int32) (s0 : Int32) (I : JI) (D : JG), fX3_value_263 k5 l2 l3 l4 s0 I D S = some r → AtJ E xX3_value (Zr E (some (.int r.1)) r.2 L G D S) ((S).length, jm_sl S) 1 263 [(0, .ref (E.1 + 15)), (2, .int l2), (3, .int l3), (4, .int l4)] [.int s0] I L G D S := by
  intro l2 l3 l4 s0 I D  h
  unfold fX3_value_263 at h
  refine j_istore (lv' := [(6, .int s0), (0, .ref (E.1 + 15)), (2, .int l2), (3, .int l3), (4, .int l4)]) 265 dX3_value_263 rfl (by decide) rfl ?_
  refine j_goto 305 dX3_value_265 (by decide) ?_
  refine j_aload_n 306 dX3_value_305 rfl rfl 1 rfl ?_
  refine j_getG 309 dX3_value_306 rfl (sh_15 hL) cl3 (k := 2) (by decide) flX3_15 rfl (gs_15_2 hL) ?_
  refine j_iload_n 310 dX3_value_309 rfl rfl 3 rfl ?_
  refine j_iconst (v := (1 : Int32)) 311 dX3_value_310 rfl (by decide) ?_
  refine j_isub 312 dX3_value_311 rfl ?_
  refine j_iload 314 dX3_value_312 rfl 0 rfl ?_
  obtain ⟨hg, h⟩ := j_gs h
  refine j_iast 315 dX3_value_314 rfl (sh_17 hL) (j_inv hg) ?_
  refine j_iinc (v := (l4 + (1 : Int32))) (lv' := [(4, .int (l4 + (1 : Int32))), (6, .int s0), (0, .ref (E.1 + 15)), (2, .int l2), (3, .int l3)]) (q := 4) 318 dX3_value_315 rfl rfl rfl (by decide) rfl ?_
  refine j_goto 5 dX3_value_318 (by decide) ?_
  refine j_sub [2, 3, 4, 0] rfl ?_
  exact H5 _ _ _ _ _  h
def fX3_value_303 (k5 : Int32 → Int32 → Int32 → JI → JG → JS → Option (Int32 × JI)) (l2 : Int32) (l3 : Int32) (l4 : Int32) (s0 : Int32) (I : JI) (D : JG) (S : JS) : Option (Int32 × JI) :=
  j_g (j_in (l3 - (1 : Int32)) 64) (k5 l2 l3 (l4 + (1 : Int32)) (j_up I 17 (l3 - (1 : Int32)).toNatClampNeg s0) D S)
set_option maxHeartbeats 4000000 in
set_option maxRecDepth 100000 in
theorem kX3_value_303 {E : JE} {k5 : Int32 → Int32 → Int32 → JI → JG → JS → Option (Int32 × JI)} {r : Int32 × JI} {L : JL} {G : JG} {S : JS} (hL : Lay G S) (H5 : ∀ (l2 : Int32) (l3 : Int32) (l4 : Int32) (I : JI) (D : JG), k5 l2 l3 l4 I D S = some r → AtJ E xX3_value (Zr E (some (.int r.1)) r.2 L G D S) ((S).length, jm_sl S) 1 5 [(0, .ref (E.1 + 15)), (2, .int l2), (3, .int l3), (4, .int l4)] [] I L G D S) : ∀ (l2 : Int32) (l3 : Int32) (l4 : Int32) (s0 : Int32) (I : JI) (D : JG), fX3_value_303 k5 l2 l3 l4 s0 I D S = some r → AtJ E xX3_value (Zr E (some (.int r.1)) r.2 L G D S) ((S).length, jm_sl S) 1 303 [(0, .ref (E.1 + 15)), (2, .int l2), (3, .int l3), (4, .int l4)] [.int s0] I L G D S := by
  intro l2 l3 l4 s0 I D  h
  unfold fX3_value_303 at h
  refine j_istore (lv' := [(6, .int s0), (0, .ref (E.1 + 15)), (2, .int l2), (3, .int l3), (4, .int l4)]) 305 dX3_value_303 rfl (by decide) rfl ?_
  refine j_aload_n 306 dX3_value_305 rfl rfl 1 rfl ?_
  refine j_getG 309 dX3_value_306 rfl (sh_15 hL) cl3 (k := 2) (by decide) flX3_15 rfl (gs_15_2 hL) ?_
  refine j_iload_n 310 dX3_value_309 rfl rfl 3 rfl ?_
  refine j_iconst (v := (1 : Int32)) 311 dX3_value_310 rfl (by decide) ?_
  refine j_isub 312 dX3_value_311 rfl ?_
  refine j_iload 314 dX3_value_312 rfl 0 rfl ?_
  obtain ⟨hg, h⟩ := j_gs h
  refine j_iast 315 dX3_value_314 rfl (sh_17 hL) (j_inv hg) ?_
  refine j_iinc (v := (l4 + (1 : Int32))) (lv' := [(4, .int (l4 + (1 : Int32))), (6, .int s0), (0, .ref (E.1 + 15)), (2, .int l2), (3, .int l3)]) (q := 4) 318 dX3_value_315 rfl rfl rfl (by decide) rfl ?_
  refine j_goto 5 dX3_value_318 (by decide) ?_
  refine j_sub [2, 3, 4, 0] rfl ?_
  exact H5 _ _ _ _ _  h
def fX3_value_113 (k5 : Int32 → Int32 → Int32 → JI → JG → JS → Option (Int32 × JI)) (l2 : Int32) (l3 : Int32) (l4 : Int32) (l5 : Int32) (I : JI) (D : JG) (S : JS) : Option (Int32 × JI) :=
  if l3 < (2 : Int32) then (k5 l2 l3 (l4 + (1 : Int32)) I D S) else (j_g (j_in ((l3 + (-1 : Int32)) - (1 : Int32)) 64) (j_g (j_in (l3 + (-1 : Int32)) 64) (if (l5 - (20000 : Int32)) = (28 : Int32) then (if (I 17 ((l3 + (-1 : Int32)) - (1 : Int32)).toNatClampNeg) = 0 then (fX3_value_283 k5 l2 (l3 + (-1 : Int32)) l4 (0 : Int32) I D S) else (if (I 17 (l3 + (-1 : Int32)).toNatClampNeg) = 0 then (fX3_value_283 k5 l2 (l3 + (-1 : Int32)) l4 (0 : Int32) I D S) else (fX3_value_283 k5 l2 (l3 + (-1 : Int32)) l4 (1 : Int32) I D S))) else (if (l5 - (20000 : Int32)) = (42 : Int32) then (j_g (j_in ((l3 + (-1 : Int32)) - (1 : Int32)) 64) (k5 l2 (l3 + (-1 : Int32)) (l4 + (1 : Int32)) (j_up I 17 ((l3 + (-1 : Int32)) - (1 : Int32)).toNatClampNeg ((I 17 ((l3 + (-1 : Int32)) - (1 : Int32)).toNatClampNeg) * (I 17 (l3 + (-1 : Int32)).toNatClampNeg))) D S)) else (if (l5 - (20000 : Int32)) = (43 : Int32) then (j_g (j_in ((l3 + (-1 : Int32)) - (1 : Int32)) 64) (k5 l2 (l3 + (-1 : Int32)) (l4 + (1 : Int32)) (j_up I 17 ((l3 + (-1 : Int32)) - (1 : Int32)).toNatClampNeg ((I 17 ((l3 + (-1 : Int32)) - (1 : Int32)).toNatClampNeg) + (I 17 (l3 + (-1 : Int32)).toNatClampNeg))) D S)) else (if (l5 - (20000 : Int32)) = (45 : Int32) then (j_g (j_in ((l3 + (-1 : Int32)) - (1 : Int32)) 64) (k5 l2 (l3 + (-1 : Int32)) (l4 + (1 : Int32)) (j_up I 17 ((l3 + (-1 : Int32)) - (1 : Int32)).toNatClampNeg ((I 17 ((l3 + (-1 : Int32)) - (1 : Int32)).toNatClampNeg) - (I 17 (l3 + (-1 : Int32)).toNatClampNeg))) D S)) else (if (l5 - (20000 : Int32)) = (60 : Int32) then (if (I 17 (l3 + (-1 : Int32)).toNatClampNeg) ≤ (I 17 ((l3 + (-1 : Int32)) - (1 : Int32)).toNatClampNeg) then (fX3_value_246 k5 l2 (l3 + (-1 : Int32)) l4 (0 : Int32) I D S) else (fX3_value_246 k5 l2 (l3 + (-1 : Int32)) l4 (1 : Int32) I D S)) else (if (l5 - (20000 : Int32)) = (61 : Int32) then (if (I 17 ((l3 + (-1 : Int32)) - (1 : Int32)).toNatClampNeg) = (I 17 (l3 + (-1 : Int32)).toNatClampNeg) then (fX3_value_263 k5 l2 (l3 + (-1 : Int32)) l4 (1 : Int32) I D S) else (fX3_value_263 k5 l2 (l3 + (-1 : Int32)) l4 (0 : Int32) I D S)) else (if (I 17 ((l3 + (-1 : Int32)) - (1 : Int32)).toNatClampNeg) = 0 then (if (I 17 (l3 + (-1 : Int32)).toNatClampNeg) = 0 then (fX3_value_303 k5 l2 (l3 + (-1 : Int32)) l4 (0 : Int32) I D S) else (fX3_value_303 k5 l2 (l3 + (-1 : Int32)) l4 (1 : Int32) I D S)) else (fX3_value_303 k5 l2 (l3 + (-1 : Int32)) l4 (1 : Int32) I D S))))))))))
set_option maxHeartbeats 4000000 in
set_option maxRecDepth 100000 in
theorem kX3_value_113 {E : JE} {k5 : Int32 → Int32 → Int32 → JI → JG → JS → Option (Int32 × JI)} {r : Int32 × JI} {L : JL} {G : JG} {S : JS} (hL : Lay G S) (H5 : ∀ (l2 : Int32) (l3 : Int32) (l4 : Int32) (I : JI) (D : JG), k5 l2 l3 l4 I D S = some r → AtJ E xX3_value (Zr E (some (.int r.1)) r.2 L G D S) ((S).length, jm_sl S) 1 5 [(0, .ref (E.1 + 15)), (2, .int l2), (3, .int l3), (4, .int l4)] [] I L G D S) : ∀ (l2 : Int32) (l3 : Int32) (l4 : Int32) (l5 : Int32) (I : JI) (D : JG), fX3_value_113 k5 l2 l3 l4 l5 I D S = some r → AtJ E xX3_value (Zr E (some (.int r.1)) r.2 L G D S) ((S).length, jm_sl S) 1 113 [(0, .ref (E.1 + 15)), (2, .int l2), (3, .int l3), (4, .int l4), (5, .int l5)] [] I L G D S := by
  intro l2 l3 l4 l5 I D  h
  unfold fX3_value_113 at h
  refine j_iload_n 114 dX3_value_113 rfl rfl 2 rfl ?_
  refine j_iconst (v := (2 : Int32)) 115 dX3_value_114 rfl (by decide) ?_
  refine j_icmp_lt 315 118 dX3_value_115 (by decide) rfl (fun hc => ?_) (fun hc => ?_)
  · replace h := j_pos hc h
    refine j_iinc (v := (l4 + (1 : Int32))) (lv' := [(4, .int (l4 + (1 : Int32))), (0, .ref (E.1 + 15)), (2, .int l2), (3, .int l3), (5, .int l5)]) (q := 3) 318 dX3_value_315 rfl rfl rfl (by decide) rfl ?_
    refine j_goto 5 dX3_value_318 (by decide) ?_
    refine j_sub [1, 2, 3, 0] rfl ?_
    exact H5 _ _ _ _ _  h
  · replace h := j_neg hc h
    refine j_iinc (v := (l3 + (-1 : Int32))) (lv' := [(3, .int (l3 + (-1 : Int32))), (0, .ref (E.1 + 15)), (2, .int l2), (4, .int l4), (5, .int l5)]) (q := 2) 121 dX3_value_118 rfl rfl rfl (by decide) rfl ?_
    refine j_aload_n 122 dX3_value_121 rfl rfl 1 rfl ?_
    refine j_getG 125 dX3_value_122 rfl (sh_15 hL) cl3 (k := 2) (by decide) flX3_15 rfl (gs_15_2 hL) ?_
    refine j_iload_n 126 dX3_value_125 rfl rfl 0 rfl ?_
    refine j_iconst (v := (1 : Int32)) 127 dX3_value_126 rfl (by decide) ?_
    refine j_isub 128 dX3_value_127 rfl ?_
    obtain ⟨hg, h⟩ := j_gs h
    refine j_iald 129 dX3_value_128 rfl (sh_17 hL) (j_inv hg) ?_
    refine j_istore (lv' := [(6, .int (I 17 ((l3 + (-1 : Int32)) - (1 : Int32)).toNatClampNeg)), (3, .int (l3 + (-1 : Int32))), (0, .ref (E.1 + 15)), (2, .int l2), (4, .int l4), (5, .int l5)]) 131 dX3_value_129 rfl (by decide) rfl ?_
    refine j_aload_n 132 dX3_value_131 rfl rfl 2 rfl ?_
    refine j_getG 135 dX3_value_132 rfl (sh_15 hL) cl3 (k := 2) (by decide) flX3_15 rfl (gs_15_2 hL) ?_
    refine j_iload_n 136 dX3_value_135 rfl rfl 1 rfl ?_
    obtain ⟨hg, h⟩ := j_gs h
    refine j_iald 137 dX3_value_136 rfl (sh_17 hL) (j_inv hg) ?_
    refine j_istore (lv' := [(7, .int (I 17 (l3 + (-1 : Int32)).toNatClampNeg)), (6, .int (I 17 ((l3 + (-1 : Int32)) - (1 : Int32)).toNatClampNeg)), (3, .int (l3 + (-1 : Int32))), (0, .ref (E.1 + 15)), (2, .int l2), (4, .int l4), (5, .int l5)]) 139 dX3_value_137 rfl (by decide) rfl ?_
    refine j_iload 141 dX3_value_139 rfl 6 rfl ?_
    refine j_sipush (v := (20000 : Int32)) 144 dX3_value_141 rfl (by decide) ?_
    refine j_isub 145 dX3_value_144 rfl ?_
    by_cases hc0 : (l5 - (20000 : Int32)) = (28 : Int32)
    · replace h := j_pos hc0 h
      refine j_lookup (off := 123) 268 dX3_value_145 (by decide) (by decide) (by rw [hc0]; decide) ?_
      refine j_iload 270 dX3_value_268 rfl 1 rfl ?_
      refine j_if_eq 282 273 dX3_value_270 (by decide) rfl (fun hc => ?_) (fun hc => ?_)
      · replace h := j_pos hc h
        refine j_iconst (v := (0 : Int32)) 283 dX3_value_282 rfl (by decide) ?_
        refine j_sub [3, 4, 2, 5] rfl ?_
        exact kX3_value_283 hL   H5 _ _ _ _ _ _  h
      · replace h := j_neg hc h
        refine j_iload 275 dX3_value_273 rfl 0 rfl ?_
        refine j_if_eq 282 278 dX3_value_275 (by decide) rfl (fun hc => ?_) (fun hc => ?_)
        · replace h := j_pos hc h
          refine j_iconst (v := (0 : Int32)) 283 dX3_value_282 rfl (by decide) ?_
          refine j_sub [3, 4, 2, 5] rfl ?_
          exact kX3_value_283 hL   H5 _ _ _ _ _ _  h
        · replace h := j_neg hc h
          refine j_iconst (v := (1 : Int32)) 279 dX3_value_278 rfl (by decide) ?_
          refine j_goto 283 dX3_value_279 (by decide) ?_
          refine j_sub [3, 4, 2, 5] rfl ?_
          exact kX3_value_283 hL   H5 _ _ _ _ _ _  h
    replace h := j_neg hc0 h
    by_cases hc1 : (l5 - (20000 : Int32)) = (42 : Int32)
    · replace h := j_pos hc1 h
      refine j_lookup (off := 79) 224 dX3_value_145 (by decide) (by decide) (by rw [hc1]; decide) ?_
      refine j_iload 226 dX3_value_224 rfl 1 rfl ?_
      refine j_iload 228 dX3_value_226 rfl 0 rfl ?_
      refine j_imul 229 dX3_value_228 rfl ?_
      refine j_istore (lv' := [(6, .int ((I 17 ((l3 + (-1 : Int32)) - (1 : Int32)).toNatClampNeg) * (I 17 (l3 + (-1 : Int32)).toNatClampNeg))), (7, .int (I 17 (l3 + (-1 : Int32)).toNatClampNeg)), (3, .int (l3 + (-1 : Int32))), (0, .ref (E.1 + 15)), (2, .int l2), (4, .int l4), (5, .int l5)]) 231 dX3_value_229 rfl (by decide) rfl ?_
      refine j_goto 305 dX3_value_231 (by decide) ?_
      refine j_aload_n 306 dX3_value_305 rfl rfl 3 rfl ?_
      refine j_getG 309 dX3_value_306 rfl (sh_15 hL) cl3 (k := 2) (by decide) flX3_15 rfl (gs_15_2 hL) ?_
      refine j_iload_n 310 dX3_value_309 rfl rfl 2 rfl ?_
      refine j_iconst (v := (1 : Int32)) 311 dX3_value_310 rfl (by decide) ?_
      refine j_isub 312 dX3_value_311 rfl ?_
      refine j_iload 314 dX3_value_312 rfl 0 rfl ?_
      obtain ⟨hg, h⟩ := j_gs h
      refine j_iast 315 dX3_value_314 rfl (sh_17 hL) (j_inv hg) ?_
      refine j_iinc (v := (l4 + (1 : Int32))) (lv' := [(4, .int (l4 + (1 : Int32))), (6, .int ((I 17 ((l3 + (-1 : Int32)) - (1 : Int32)).toNatClampNeg) * (I 17 (l3 + (-1 : Int32)).toNatClampNeg))), (7, .int (I 17 (l3 + (-1 : Int32)).toNatClampNeg)), (3, .int (l3 + (-1 : Int32))), (0, .ref (E.1 + 15)), (2, .int l2), (5, .int l5)]) (q := 5) 318 dX3_value_315 rfl rfl rfl (by decide) rfl ?_
      refine j_goto 5 dX3_value_318 (by decide) ?_
      refine j_sub [4, 5, 3, 0] rfl ?_
      exact H5 _ _ _ _ _  h
    replace h := j_neg hc1 h
    by_cases hc2 : (l5 - (20000 : Int32)) = (43 : Int32)
    · replace h := j_pos hc2 h
      refine j_lookup (off := 59) 204 dX3_value_145 (by decide) (by decide) (by rw [hc2]; decide) ?_
      refine j_iload 206 dX3_value_204 rfl 1 rfl ?_
      refine j_iload 208 dX3_value_206 rfl 0 rfl ?_
      refine j_iadd 209 dX3_value_208 rfl ?_
      refine j_istore (lv' := [(6, .int ((I 17 ((l3 + (-1 : Int32)) - (1 : Int32)).toNatClampNeg) + (I 17 (l3 + (-1 : Int32)).toNatClampNeg))), (7, .int (I 17 (l3 + (-1 : Int32)).toNatClampNeg)), (3, .int (l3 + (-1 : Int32))), (0, .ref (E.1 + 15)), (2, .int l2), (4, .int l4), (5, .int l5)]) 211 dX3_value_209 rfl (by decide) rfl ?_
      refine j_goto 305 dX3_value_211 (by decide) ?_
      refine j_aload_n 306 dX3_value_305 rfl rfl 3 rfl ?_
      refine j_getG 309 dX3_value_306 rfl (sh_15 hL) cl3 (k := 2) (by decide) flX3_15 rfl (gs_15_2 hL) ?_
      refine j_iload_n 310 dX3_value_309 rfl rfl 2 rfl ?_
      refine j_iconst (v := (1 : Int32)) 311 dX3_value_310 rfl (by decide) ?_
      refine j_isub 312 dX3_value_311 rfl ?_
      refine j_iload 314 dX3_value_312 rfl 0 rfl ?_
      obtain ⟨hg, h⟩ := j_gs h
      refine j_iast 315 dX3_value_314 rfl (sh_17 hL) (j_inv hg) ?_
      refine j_iinc (v := (l4 + (1 : Int32))) (lv' := [(4, .int (l4 + (1 : Int32))), (6, .int ((I 17 ((l3 + (-1 : Int32)) - (1 : Int32)).toNatClampNeg) + (I 17 (l3 + (-1 : Int32)).toNatClampNeg))), (7, .int (I 17 (l3 + (-1 : Int32)).toNatClampNeg)), (3, .int (l3 + (-1 : Int32))), (0, .ref (E.1 + 15)), (2, .int l2), (5, .int l5)]) (q := 5) 318 dX3_value_315 rfl rfl rfl (by decide) rfl ?_
      refine j_goto 5 dX3_value_318 (by decide) ?_
      refine j_sub [4, 5, 3, 0] rfl ?_
      exact H5 _ _ _ _ _  h
    replace h := j_neg hc2 h
    by_cases hc3 : (l5 - (20000 : Int32)) = (45 : Int32)
    · replace h := j_pos hc3 h
      refine j_lookup (off := 69) 214 dX3_value_145 (by decide) (by decide) (by rw [hc3]; decide) ?_
      refine j_iload 216 dX3_value_214 rfl 1 rfl ?_
      refine j_iload 218 dX3_value_216 rfl 0 rfl ?_
      refine j_isub 219 dX3_value_218 rfl ?_
      refine j_istore (lv' := [(6, .int ((I 17 ((l3 + (-1 : Int32)) - (1 : Int32)).toNatClampNeg) - (I 17 (l3 + (-1 : Int32)).toNatClampNeg))), (7, .int (I 17 (l3 + (-1 : Int32)).toNatClampNeg)), (3, .int (l3 + (-1 : Int32))), (0, .ref (E.1 + 15)), (2, .int l2), (4, .int l4), (5, .int l5)]) 221 dX3_value_219 rfl (by decide) rfl ?_
      refine j_goto 305 dX3_value_221 (by decide) ?_
      refine j_aload_n 306 dX3_value_305 rfl rfl 3 rfl ?_
      refine j_getG 309 dX3_value_306 rfl (sh_15 hL) cl3 (k := 2) (by decide) flX3_15 rfl (gs_15_2 hL) ?_
      refine j_iload_n 310 dX3_value_309 rfl rfl 2 rfl ?_
      refine j_iconst (v := (1 : Int32)) 311 dX3_value_310 rfl (by decide) ?_
      refine j_isub 312 dX3_value_311 rfl ?_
      refine j_iload 314 dX3_value_312 rfl 0 rfl ?_
      obtain ⟨hg, h⟩ := j_gs h
      refine j_iast 315 dX3_value_314 rfl (sh_17 hL) (j_inv hg) ?_
      refine j_iinc (v := (l4 + (1 : Int32))) (lv' := [(4, .int (l4 + (1 : Int32))), (6, .int ((I 17 ((l3 + (-1 : Int32)) - (1 : Int32)).toNatClampNeg) - (I 17 (l3 + (-1 : Int32)).toNatClampNeg))), (7, .int (I 17 (l3 + (-1 : Int32)).toNatClampNeg)), (3, .int (l3 + (-1 : Int32))), (0, .ref (E.1 + 15)), (2, .int l2), (5, .int l5)]) (q := 5) 318 dX3_value_315 rfl rfl rfl (by decide) rfl ?_
      refine j_goto 5 dX3_value_318 (by decide) ?_
      refine j_sub [4, 5, 3, 0] rfl ?_
      exact H5 _ _ _ _ _  h
    replace h := j_neg hc3 h
    by_cases hc4 : (l5 - (20000 : Int32)) = (60 : Int32)
    · replace h := j_pos hc4 h
      refine j_lookup (off := 89) 234 dX3_value_145 (by decide) (by decide) (by rw [hc4]; decide) ?_
      refine j_iload 236 dX3_value_234 rfl 1 rfl ?_
      refine j_iload 238 dX3_value_236 rfl 0 rfl ?_
      refine j_icmp_ge 245 241 dX3_value_238 (by decide) rfl (fun hc => ?_) (fun hc => ?_)
      · replace h := j_pos hc h
        refine j_iconst (v := (0 : Int32)) 246 dX3_value_245 rfl (by decide) ?_
        refine j_sub [3, 4, 2, 5] rfl ?_
        exact kX3_value_246 hL   H5 _ _ _ _ _ _  h
      · replace h := j_neg hc h
        refine j_iconst (v := (1 : Int32)) 242 dX3_value_241 rfl (by decide) ?_
        refine j_goto 246 dX3_value_242 (by decide) ?_
        refine j_sub [3, 4, 2, 5] rfl ?_
        exact kX3_value_246 hL   H5 _ _ _ _ _ _  h
    replace h := j_neg hc4 h
    by_cases hc5 : (l5 - (20000 : Int32)) = (61 : Int32)
    · replace h := j_pos hc5 h
      refine j_lookup (off := 106) 251 dX3_value_145 (by decide) (by decide) (by rw [hc5]; decide) ?_
      refine j_iload 253 dX3_value_251 rfl 1 rfl ?_
      refine j_iload 255 dX3_value_253 rfl 0 rfl ?_
      refine j_icmp_ne 262 258 dX3_value_255 (by decide) rfl (fun hc => ?_) (fun hc => ?_)
      · replace h := j_neg hc h
        refine j_iconst (v := (0 : Int32)) 263 dX3_value_262 rfl (by decide) ?_
        refine j_sub [3, 4, 2, 5] rfl ?_
        exact kX3_value_263 hL   H5 _ _ _ _ _ _  h
      · replace h := j_pos hc h
        refine j_iconst (v := (1 : Int32)) 259 dX3_value_258 rfl (by decide) ?_
        refine j_goto 263 dX3_value_259 (by decide) ?_
        refine j_sub [3, 4, 2, 5] rfl ?_
        exact kX3_value_263 hL   H5 _ _ _ _ _ _  h
    replace h := j_neg hc5 h
    refine j_lookup (off := 143) 288 dX3_value_145 (by decide) (by decide) (by have g0 := j_nei (n := 28) hc0 (by decide); have g1 := j_nei (n := 42) hc1 (by decide); have g2 := j_nei (n := 43) hc2 (by decide); have g3 := j_nei (n := 45) hc3 (by decide); have g4 := j_nei (n := 60) hc4 (by decide); have g5 := j_nei (n := 61) hc5 (by decide); generalize (l5 - (20000 : Int32)).toInt = z at g0 g1 g2 g3 g4 g5 ⊢; simp [Op.lookupswitch.offset, g0, Ne.symm g0, g1, Ne.symm g1, g2, Ne.symm g2, g3, Ne.symm g3, g4, Ne.symm g4, g5, Ne.symm g5]) ?_
    refine j_iload 290 dX3_value_288 rfl 1 rfl ?_
    refine j_if_ne 298 293 dX3_value_290 (by decide) rfl (fun hc => ?_) (fun hc => ?_)
    · replace h := j_neg hc h
      refine j_iconst (v := (1 : Int32)) 299 dX3_value_298 rfl (by decide) ?_
      refine j_goto 303 dX3_value_299 (by decide) ?_
      refine j_sub [3, 4, 2, 5] rfl ?_
      exact kX3_value_303 hL   H5 _ _ _ _ _ _  h
    · replace h := j_pos hc h
      refine j_iload 295 dX3_value_293 rfl 0 rfl ?_
      refine j_if_eq 302 298 dX3_value_295 (by decide) rfl (fun hc => ?_) (fun hc => ?_)
      · replace h := j_pos hc h
        refine j_iconst (v := (0 : Int32)) 303 dX3_value_302 rfl (by decide) ?_
        refine j_sub [3, 4, 2, 5] rfl ?_
        exact kX3_value_303 hL   H5 _ _ _ _ _ _  h
      · replace h := j_neg hc h
        refine j_iconst (v := (1 : Int32)) 299 dX3_value_298 rfl (by decide) ?_
        refine j_goto 303 dX3_value_299 (by decide) ?_
        refine j_sub [3, 4, 2, 5] rfl ?_
        exact kX3_value_303 hL   H5 _ _ _ _ _ _  h
def fX3_value_73 (k5 : Int32 → Int32 → Int32 → JI → JG → JS → Option (Int32 × JI)) (l2 : Int32) (l3 : Int32) (l4 : Int32) (l5 : Int32) (I : JI) (D : JG) (S : JS) : Option (Int32 × JI) :=
  if l5 = (20030 : Int32) then (if l3 < (1 : Int32) then (fX3_value_113 k5 l2 l3 l4 l5 I D S) else (j_g (j_in (l3 - (1 : Int32)) 64) (if (I 17 (l3 - (1 : Int32)).toNatClampNeg) = 0 then (j_g (j_in (l3 - (1 : Int32)) 64) (k5 l2 l3 (l4 + (1 : Int32)) (j_up I 17 (l3 - (1 : Int32)).toNatClampNeg (1 : Int32)) D S)) else (j_g (j_in (l3 - (1 : Int32)) 64) (k5 l2 l3 (l4 + (1 : Int32)) (j_up I 17 (l3 - (1 : Int32)).toNatClampNeg (0 : Int32)) D S))))) else (fX3_value_113 k5 l2 l3 l4 l5 I D S)
set_option maxHeartbeats 4000000 in
set_option maxRecDepth 100000 in
theorem kX3_value_73 {E : JE} {k5 : Int32 → Int32 → Int32 → JI → JG → JS → Option (Int32 × JI)} {r : Int32 × JI} {L : JL} {G : JG} {S : JS} (hL : Lay G S) (H5 : ∀ (l2 : Int32) (l3 : Int32) (l4 : Int32) (I : JI) (D : JG), k5 l2 l3 l4 I D S = some r → AtJ E xX3_value (Zr E (some (.int r.1)) r.2 L G D S) ((S).length, jm_sl S) 1 5 [(0, .ref (E.1 + 15)), (2, .int l2), (3, .int l3), (4, .int l4)] [] I L G D S) : ∀ (l2 : Int32) (l3 : Int32) (l4 : Int32) (l5 : Int32) (I : JI) (D : JG), fX3_value_73 k5 l2 l3 l4 l5 I D S = some r → AtJ E xX3_value (Zr E (some (.int r.1)) r.2 L G D S) ((S).length, jm_sl S) 1 73 [(0, .ref (E.1 + 15)), (2, .int l2), (3, .int l3), (4, .int l4), (5, .int l5)] [] I L G D S := by
  intro l2 l3 l4 l5 I D  h
  unfold fX3_value_73 at h
  refine j_iload 75 dX3_value_73 rfl 4 rfl ?_
  refine j_sipush (v := (20030 : Int32)) 78 dX3_value_75 rfl (by decide) ?_
  refine j_icmp_ne 113 81 dX3_value_78 (by decide) rfl (fun hc => ?_) (fun hc => ?_)
  · replace h := j_neg hc h
    exact kX3_value_113 hL   H5 _ _ _ _ _ _  h
  · replace h := j_pos hc h
    refine j_iload_n 82 dX3_value_81 rfl rfl 2 rfl ?_
    refine j_iconst (v := (1 : Int32)) 83 dX3_value_82 rfl (by decide) ?_
    refine j_icmp_lt 113 86 dX3_value_83 (by decide) rfl (fun hc => ?_) (fun hc => ?_)
    · replace h := j_pos hc h
      exact kX3_value_113 hL   H5 _ _ _ _ _ _  h
    · replace h := j_neg hc h
      refine j_aload_n 87 dX3_value_86 rfl rfl 0 rfl ?_
      refine j_getG 90 dX3_value_87 rfl (sh_15 hL) cl3 (k := 2) (by decide) flX3_15 rfl (gs_15_2 hL) ?_
      refine j_iload_n 91 dX3_value_90 rfl rfl 2 rfl ?_
      refine j_iconst (v := (1 : Int32)) 92 dX3_value_91 rfl (by decide) ?_
      refine j_isub 93 dX3_value_92 rfl ?_
      refine j_aload_n 94 dX3_value_93 rfl rfl 0 rfl ?_
      refine j_getG 97 dX3_value_94 rfl (sh_15 hL) cl3 (k := 2) (by decide) flX3_15 rfl (gs_15_2 hL) ?_
      refine j_iload_n 98 dX3_value_97 rfl rfl 2 rfl ?_
      refine j_iconst (v := (1 : Int32)) 99 dX3_value_98 rfl (by decide) ?_
      refine j_isub 100 dX3_value_99 rfl ?_
      obtain ⟨hg, h⟩ := j_gs h
      refine j_iald 101 dX3_value_100 rfl (sh_17 hL) (j_inv hg) ?_
      refine j_if_ne 108 104 dX3_value_101 (by decide) rfl (fun hc => ?_) (fun hc => ?_)
      · replace h := j_neg hc h
        refine j_iconst (v := (0 : Int32)) 109 dX3_value_108 rfl (by decide) ?_
        obtain ⟨hg, h⟩ := j_gs h
        refine j_iast 110 dX3_value_109 rfl (sh_17 hL) (j_inv hg) ?_
        refine j_goto 315 dX3_value_110 (by decide) ?_
        refine j_iinc (v := (l4 + (1 : Int32))) (lv' := [(4, .int (l4 + (1 : Int32))), (0, .ref (E.1 + 15)), (2, .int l2), (3, .int l3), (5, .int l5)]) (q := 3) 318 dX3_value_315 rfl rfl rfl (by decide) rfl ?_
        refine j_goto 5 dX3_value_318 (by decide) ?_
        refine j_sub [1, 2, 3, 0] rfl ?_
        exact H5 _ _ _ _ _  h
      · replace h := j_pos hc h
        refine j_iconst (v := (1 : Int32)) 105 dX3_value_104 rfl (by decide) ?_
        refine j_goto 109 dX3_value_105 (by decide) ?_
        obtain ⟨hg, h⟩ := j_gs h
        refine j_iast 110 dX3_value_109 rfl (sh_17 hL) (j_inv hg) ?_
        refine j_goto 315 dX3_value_110 (by decide) ?_
        refine j_iinc (v := (l4 + (1 : Int32))) (lv' := [(4, .int (l4 + (1 : Int32))), (0, .ref (E.1 + 15)), (2, .int l2), (3, .int l3), (5, .int l5)]) (q := 3) 318 dX3_value_315 rfl rfl rfl (by decide) rfl ?_
        refine j_goto 5 dX3_value_318 (by decide) ?_
        refine j_sub [1, 2, 3, 0] rfl ?_
        exact H5 _ _ _ _ _  h
def fX3_value_5 : Nat → Int32 → Int32 → Int32 → JI → JG → JS → Option (Int32 × JI)
  | 0, _, _, _, _, _, _ => none
  | n + 1, l2, l3, l4, I, D, S =>
    if l2 ≤ l4 then (j_g (j_in (0 : Int32) 64) (some ((I 17 (0 : Int32).toNatClampNeg), I))) else (j_opt (D 15 5) (none) (fun b1 => j_g (decide (S[b1]? = some (4, 17))) (j_g (j_in l4 1000) (if (20000 : Int32) ≤ (I (b1 + 10) l4.toNatClampNeg) then (fX3_value_73 (fX3_value_5 n) l2 l3 l4 (I (b1 + 10) l4.toNatClampNeg) I D S) else (if (64 : Int32) ≤ l3 then (fX3_value_73 (fX3_value_5 n) l2 l3 l4 (I (b1 + 10) l4.toNatClampNeg) I D S) else (if (10000 : Int32) ≤ (I (b1 + 10) l4.toNatClampNeg) then (j_g (j_in ((I (b1 + 10) l4.toNatClampNeg) - (10000 : Int32)) 14) (j_g (j_in l3 64) ((fX3_value_5 n) l2 (l3 + (1 : Int32)) (l4 + (1 : Int32)) (j_up I 17 l3.toNatClampNeg (I 16 ((I (b1 + 10) l4.toNatClampNeg) - (10000 : Int32)).toNatClampNeg)) D S))) else (j_g (j_in l3 64) ((fX3_value_5 n) l2 (l3 + (1 : Int32)) (l4 + (1 : Int32)) (j_up I 17 l3.toNatClampNeg (I (b1 + 10) l4.toNatClampNeg)) D S))))))))
set_option maxHeartbeats 4000000 in
set_option maxRecDepth 100000 in
theorem kX3_value_5 {E : JE} {r : Int32 × JI} {L : JL} {G : JG} {S : JS} (hL : Lay G S) : ∀ (n : Nat) (l2 : Int32) (l3 : Int32) (l4 : Int32) (I : JI) (D : JG), fX3_value_5 n l2 l3 l4 I D S = some r → AtJ E xX3_value (Zr E (some (.int r.1)) r.2 L G D S) ((S).length, jm_sl S) 1 5 [(0, .ref (E.1 + 15)), (2, .int l2), (3, .int l3), (4, .int l4)] [] I L G D S := by
  intro n
  induction n with
  | zero => intro l2 l3 l4 I D  h; simp [fX3_value_5] at h
  | succ n ih =>
    intro l2 l3 l4 I D  h
    rw [fX3_value_5] at h
    refine j_iload 7 dX3_value_5 rfl 3 rfl ?_
    refine j_iload_n 8 dX3_value_7 rfl rfl 1 rfl ?_
    refine j_icmp_ge 321 11 dX3_value_8 (by decide) rfl (fun hc => ?_) (fun hc => ?_)
    · replace h := j_pos hc h
      refine j_aload_n 322 dX3_value_321 rfl rfl 0 rfl ?_
      refine j_getG 325 dX3_value_322 rfl (sh_15 hL) cl3 (k := 2) (by decide) flX3_15 rfl (gs_15_2 hL) ?_
      refine j_iconst (v := (0 : Int32)) 326 dX3_value_325 rfl (by decide) ?_
      obtain ⟨hg, h⟩ := j_gs h
      refine j_iald 327 dX3_value_326 rfl (sh_17 hL) (j_inv hg) ?_
      cases h
      exact j_iret dX3_value_327 rfl
    · replace h := j_neg hc h
      refine j_aload_n 12 dX3_value_11 rfl rfl 0 rfl ?_
      rcases j_os h with ⟨hb, h⟩ | ⟨b1, hb, h⟩
      · refine j_getDn 15 dX3_value_12 rfl (sh_15 hL) cl3 (k := 5) (by decide) flX3_89 rfl hb ?_
        cases h
      obtain ⟨hsb1, h⟩ := j_gs h
      replace hsb1 := of_decide_eq_true hsb1
      refine j_getD 15 dX3_value_12 rfl (sh_15 hL) cl3 (k := 5) (by decide) flX3_89 rfl hb ?_
      refine j_getGN 18 dX3_value_15 rfl hsb1 cl4 (k := 9) (by decide) flX3_112 rfl (ly4_9 hL hsb1).1 ?_
      refine j_iload 20 dX3_value_18 rfl 3 rfl ?_
      obtain ⟨hg, h⟩ := j_gs h
      refine j_iald 21 dX3_value_20 rfl (ly4_9 hL hsb1).2 (j_inv hg) ?_
      refine j_istore (lv' := [(5, .int (I (b1 + 10) l4.toNatClampNeg)), (0, .ref (E.1 + 15)), (2, .int l2), (3, .int l3), (4, .int l4)]) 23 dX3_value_21 rfl (by decide) rfl ?_
      refine j_iload 25 dX3_value_23 rfl 0 rfl ?_
      refine j_sipush (v := (20000 : Int32)) 28 dX3_value_25 rfl (by decide) ?_
      refine j_icmp_ge 73 31 dX3_value_28 (by decide) rfl (fun hc => ?_) (fun hc => ?_)
      · replace h := j_pos hc h
        refine j_sub [1, 2, 3, 4, 0] rfl ?_
        exact kX3_value_73 hL   ih _ _ _ _ _ _  h
      · replace h := j_neg hc h
        refine j_iload_n 32 dX3_value_31 rfl rfl 3 rfl ?_
        refine j_bipush (v := (64 : Int32)) 34 dX3_value_32 rfl (by decide) ?_
        refine j_icmp_ge 73 37 dX3_value_34 (by decide) rfl (fun hc => ?_) (fun hc => ?_)
        · replace h := j_pos hc h
          refine j_sub [1, 2, 3, 4, 0] rfl ?_
          exact kX3_value_73 hL   ih _ _ _ _ _ _  h
        · replace h := j_neg hc h
          refine j_aload_n 38 dX3_value_37 rfl rfl 1 rfl ?_
          refine j_getG 41 dX3_value_38 rfl (sh_15 hL) cl3 (k := 2) (by decide) flX3_15 rfl (gs_15_2 hL) ?_
          refine j_iload_n 42 dX3_value_41 rfl rfl 3 rfl ?_
          refine j_iload 44 dX3_value_42 rfl 0 rfl ?_
          refine j_sipush (v := (10000 : Int32)) 47 dX3_value_44 rfl (by decide) ?_
          refine j_icmp_ge 55 50 dX3_value_47 (by decide) rfl (fun hc => ?_) (fun hc => ?_)
          · replace h := j_pos hc h
            refine j_aload_n 56 dX3_value_55 rfl rfl 1 rfl ?_
            refine j_getG 59 dX3_value_56 rfl (sh_15 hL) cl3 (k := 1) (by decide) flX3_9 rfl (gs_15_1 hL) ?_
            refine j_iload 61 dX3_value_59 rfl 0 rfl ?_
            refine j_sipush (v := (10000 : Int32)) 64 dX3_value_61 rfl (by decide) ?_
            refine j_isub 65 dX3_value_64 rfl ?_
            obtain ⟨hg, h⟩ := j_gs h
            refine j_iald 66 dX3_value_65 rfl (sh_16 hL) (j_inv hg) ?_
            obtain ⟨hg, h⟩ := j_gs h
            refine j_iast 67 dX3_value_66 rfl (sh_17 hL) (j_inv hg) ?_
            refine j_iinc (v := (l3 + (1 : Int32))) (lv' := [(3, .int (l3 + (1 : Int32))), (5, .int (I (b1 + 10) l4.toNatClampNeg)), (0, .ref (E.1 + 15)), (2, .int l2), (4, .int l4)]) (q := 3) 70 dX3_value_67 rfl rfl rfl (by decide) rfl ?_
            refine j_goto 315 dX3_value_70 (by decide) ?_
            refine j_iinc (v := (l4 + (1 : Int32))) (lv' := [(4, .int (l4 + (1 : Int32))), (3, .int (l3 + (1 : Int32))), (5, .int (I (b1 + 10) l4.toNatClampNeg)), (0, .ref (E.1 + 15)), (2, .int l2)]) (q := 4) 318 dX3_value_315 rfl rfl rfl (by decide) rfl ?_
            refine j_goto 5 dX3_value_318 (by decide) ?_
            refine j_sub [3, 4, 1, 0] rfl ?_
            exact ih _ _ _ _ _  h
          · replace h := j_neg hc h
            refine j_iload 52 dX3_value_50 rfl 0 rfl ?_
            refine j_goto 66 dX3_value_52 (by decide) ?_
            obtain ⟨hg, h⟩ := j_gs h
            refine j_iast 67 dX3_value_66 rfl (sh_17 hL) (j_inv hg) ?_
            refine j_iinc (v := (l3 + (1 : Int32))) (lv' := [(3, .int (l3 + (1 : Int32))), (5, .int (I (b1 + 10) l4.toNatClampNeg)), (0, .ref (E.1 + 15)), (2, .int l2), (4, .int l4)]) (q := 3) 70 dX3_value_67 rfl rfl rfl (by decide) rfl ?_
            refine j_goto 315 dX3_value_70 (by decide) ?_
            refine j_iinc (v := (l4 + (1 : Int32))) (lv' := [(4, .int (l4 + (1 : Int32))), (3, .int (l3 + (1 : Int32))), (5, .int (I (b1 + 10) l4.toNatClampNeg)), (0, .ref (E.1 + 15)), (2, .int l2)]) (q := 4) 318 dX3_value_315 rfl rfl rfl (by decide) rfl ?_
            refine j_goto 5 dX3_value_318 (by decide) ?_
            refine j_sub [3, 4, 1, 0] rfl ?_
            exact ih _ _ _ _ _  h
def fX3_value (l1 : Int32) (l2 : Int32) (I : JI) (D : JG) (S : JS) : Option (Int32 × JI) :=
  fX3_value_5 100000 l2 (0 : Int32) l1 I D S
set_option maxHeartbeats 4000000 in
set_option maxRecDepth 100000 in
theorem tcX3_value {E : JE} {l1 : Int32} {l2 : Int32} {r : Int32 × JI} {I : JI} {L : JL} {G D : JG} {S : JS} (hL : Lay G S) (h : fX3_value l1 l2 I D S = some r) : CallJ E xX3_value 1 [.ref (E.1 + 15), .int l1, .int l2] I L G D S (some (.int r.1)) r.2 L G D S := by
  unfold fX3_value at h
  refine j_entry (by decide) (Nat.le_of_ble_eq_true rfl) ?_
  show AtJ E xX3_value (Zr E (some (.int r.1)) r.2 L G D S) ((S).length, jm_sl S) 1 0 [(0, .ref (E.1 + 15)), (1, .int l1), (2, .int l2)] [] I L G D S
  refine j_iconst (v := (0 : Int32)) 1 dX3_value_0 rfl (by decide) ?_
  refine j_istore_n (lv' := [(3, .int (0 : Int32)), (0, .ref (E.1 + 15)), (1, .int l1), (2, .int l2)]) 2 dX3_value_1 rfl rfl (by decide) rfl ?_
  refine j_iload_n 3 dX3_value_2 rfl rfl 2 rfl ?_
  refine j_istore (lv' := [(4, .int l1), (3, .int (0 : Int32)), (0, .ref (E.1 + 15)), (1, .int l1), (2, .int l2)]) 5 dX3_value_3 rfl (by decide) rfl ?_
  refine j_sub [2, 4, 1, 0] rfl ?_
  exact kX3_value_5 hL    100000 _ _ _ _ _  h
