def fX11_stands_33 : Nat → Int32 → Int32 → Int32 → Int32 → Int32 → JI → Option (Int32)
  | 0, _, _, _, _, _, _ => none
  | n + 1, l1, l2, l3, l4, l5, I =>
    if (4 : Int32) ≤ l5 then (some (l4)) else ((fX9_standing l5 7 l1 l2 I).bind (fun q4 => (fX11_stands_33 n) l1 l2 l3 (l4 ||| (((q4 >>> (l3 &&& 31)) &&& (1 : Int32)) <<< (l5 &&& 31))) (l5 + (1 : Int32)) I))
set_option maxHeartbeats 4000000 in
set_option maxRecDepth 100000 in
theorem kX11_stands_33 {E : JE} {r : Int32} {L : JL} {G : JG} {D : JG} {S : JS} (hL : Lay G S) : ∀ (n : Nat) (l1 : Int32) (l2 : Int32) (l3 : Int32) (l4 : Int32) (l5 : Int32) (I : JI), fX11_stands_33 n l1 l2 l3 l4 l5 I = some r → AtJ E xX11_stands (Zr E (some (.int r)) I L G D S) ((S).length, jm_sl S) 3 33 [(0, .ref (E.1 + 0)), (1, .int l1), (2, .int l2), (3, .int l3), (4, .int l4), (5, .int l5)] [] I L G D S := by
  intro n
  induction n with
  | zero => intro l1 l2 l3 l4 l5 I  h; simp [fX11_stands_33] at h
  | succ n ih =>
    intro l1 l2 l3 l4 l5 I  h
    rw [fX11_stands_33] at h
    refine j_iload 35 dX11_stands_33 rfl 5 rfl ?_
    refine j_iconst (v := (4 : Int32)) 36 dX11_stands_35 rfl (by decide) ?_
    refine j_icmp_ge 72 39 dX11_stands_36 (by decide) rfl (fun hc => ?_) (fun hc => ?_)
    · replace h := j_pos hc h
      refine j_iload 74 dX11_stands_72 rfl 4 rfl ?_
      cases h
      exact j_iret dX11_stands_74 rfl
    · replace h := j_neg hc h
      refine j_iload 41 dX11_stands_39 rfl 4 rfl ?_
      refine j_aload_n 42 dX11_stands_41 rfl rfl 0 rfl ?_
      refine j_getG 45 dX11_stands_42 rfl (sh_0 hL) cl11 (k := 0) (by decide) flX11_10 rfl (gs_0_0 hL) ?_
      refine j_iload 47 dX11_stands_45 rfl 5 rfl ?_
      refine j_aload_n 48 dX11_stands_47 rfl rfl 0 rfl ?_
      refine j_getG 51 dX11_stands_48 rfl (sh_0 hL) cl11 (k := 1) (by decide) flX11_19 rfl (gs_0_1 hL) ?_
      refine j_iload_n 52 dX11_stands_51 rfl rfl 1 rfl ?_
      refine j_iload_n 53 dX11_stands_52 rfl rfl 2 rfl ?_
      obtain ⟨q4, hq4, h⟩ := j_bs h
      refine j_callV (rest := [.int l4]) (As := [.int l5, .ref (E.1 + 7), .int l1, .int l2]) 56 dX11_stands_53 rfl jyX9_standing (tcX9_standing hL (sh_7 hL) hq4) (sh_1 hL) cl9 flX11_166 wm863 wm864 (by decide) rfl rfl (Nat.le_of_ble_eq_true rfl) ?_
      refine j_iload_n 57 dX11_stands_56 rfl rfl 3 rfl ?_
      refine j_ishr 58 dX11_stands_57 rfl ?_
      refine j_iconst (v := (1 : Int32)) 59 dX11_stands_58 rfl (by decide) ?_
      refine j_iand 60 dX11_stands_59 rfl ?_
      refine j_iload 62 dX11_stands_60 rfl 5 rfl ?_
      refine j_ishl 63 dX11_stands_62 rfl ?_
      refine j_ior 64 dX11_stands_63 rfl ?_
      refine j_istore (lv' := [(4, .int (l4 ||| (((q4 >>> (l3 &&& 31)) &&& (1 : Int32)) <<< (l5 &&& 31)))), (0, .ref (E.1 + 0)), (1, .int l1), (2, .int l2), (3, .int l3), (5, .int l5)]) 66 dX11_stands_64 rfl (by decide) rfl ?_
      refine j_iinc (v := (l5 + (1 : Int32))) (lv' := [(5, .int (l5 + (1 : Int32))), (4, .int (l4 ||| (((q4 >>> (l3 &&& 31)) &&& (1 : Int32)) <<< (l5 &&& 31)))), (0, .ref (E.1 + 0)), (1, .int l1), (2, .int l2), (3, .int l3)]) (q := 5) 69 dX11_stands_66 rfl rfl rfl (by decide) rfl ?_
      refine j_goto 33 dX11_stands_69 (by decide) ?_
      refine j_sub [2, 3, 4, 5, 1, 0] rfl ?_
      exact ih _ _ _ _ _ _  h
def fX11_stands (l1 : Int32) (l2 : Int32) (l3 : Int32) (I : JI) : Option (Int32) :=
  (fX9_isTold l1 I).bind (fun q1 => if q1 = 0 then (some ((-1 : Int32))) else ((fX11_isPerson l2).bind (fun q2 => if q2 = 0 then (some ((-1 : Int32))) else ((fX11_isPerson l3).bind (fun q3 => if q3 = 0 then (some ((-1 : Int32))) else (fX11_stands_33 100000 l1 l2 l3 (0 : Int32) (0 : Int32) I))))))
set_option maxHeartbeats 4000000 in
set_option maxRecDepth 100000 in
theorem tcX11_stands {E : JE} {l1 : Int32} {l2 : Int32} {l3 : Int32} {r : Int32} {I : JI} {L : JL} {G D : JG} {S : JS} (hL : Lay G S) (h : fX11_stands l1 l2 l3 I = some r) : CallJ E xX11_stands 3 [.ref (E.1 + 0), .int l1, .int l2, .int l3] I L G D S (some (.int r)) I L G D S := by
  unfold fX11_stands at h
  refine j_entry (by decide) (Nat.le_of_ble_eq_true rfl) ?_
  show AtJ E xX11_stands (Zr E (some (.int r)) I L G D S) ((S).length, jm_sl S) 3 0 [(0, .ref (E.1 + 0)), (1, .int l1), (2, .int l2), (3, .int l3)] [] I L G D S
  refine j_aload_n 1 dX11_stands_0 rfl rfl 0 rfl ?_
  refine j_getG 4 dX11_stands_1 rfl (sh_0 hL) cl11 (k := 0) (by decide) flX11_10 rfl (gs_0_0 hL) ?_
  refine j_iload_n 5 dX11_stands_4 rfl rfl 1 rfl ?_
  obtain ⟨q1, hq1, h⟩ := j_bs h
  refine j_callV (rest := []) (As := [.int l1]) 8 dX11_stands_5 rfl jyX9_isTold (tcX9_isTold hL  hq1) (sh_1 hL) cl9 flX11_100 wm645 wm646 (by decide) rfl rfl (Nat.le_of_ble_eq_true rfl) ?_
  refine j_if_eq 25 11 dX11_stands_8 (by decide) rfl (fun hc => ?_) (fun hc => ?_)
  · replace h := j_pos hc h
    refine j_iconst (v := (-1 : Int32)) 26 dX11_stands_25 rfl (by decide) ?_
    cases h
    exact j_iret dX11_stands_26 rfl
  · replace h := j_neg hc h
    refine j_iload_n 12 dX11_stands_11 rfl rfl 2 rfl ?_
    obtain ⟨q2, hq2, h⟩ := j_bs h
    refine j_callS (rest := []) (As := [.int l2]) 15 dX11_stands_12 rfl jyX11_isPerson (tcX11_isPerson   hq2) flX11_96 wm642 (by decide) rfl rfl (Nat.le_of_ble_eq_true rfl) ?_
    refine j_if_eq 25 18 dX11_stands_15 (by decide) rfl (fun hc => ?_) (fun hc => ?_)
    · replace h := j_pos hc h
      refine j_iconst (v := (-1 : Int32)) 26 dX11_stands_25 rfl (by decide) ?_
      cases h
      exact j_iret dX11_stands_26 rfl
    · replace h := j_neg hc h
      refine j_iload_n 19 dX11_stands_18 rfl rfl 3 rfl ?_
      obtain ⟨q3, hq3, h⟩ := j_bs h
      refine j_callS (rest := []) (As := [.int l3]) 22 dX11_stands_19 rfl jyX11_isPerson (tcX11_isPerson   hq3) flX11_96 wm642 (by decide) rfl rfl (Nat.le_of_ble_eq_true rfl) ?_
      refine j_if_ne 27 25 dX11_stands_22 (by decide) rfl (fun hc => ?_) (fun hc => ?_)
      · replace h := j_neg hc h
        refine j_iconst (v := (0 : Int32)) 28 dX11_stands_27 rfl (by decide) ?_
        refine j_istore (lv' := [(4, .int (0 : Int32)), (0, .ref (E.1 + 0)), (1, .int l1), (2, .int l2), (3, .int l3)]) 30 dX11_stands_28 rfl (by decide) rfl ?_
        refine j_iconst (v := (0 : Int32)) 31 dX11_stands_30 rfl (by decide) ?_
        refine j_istore (lv' := [(5, .int (0 : Int32)), (4, .int (0 : Int32)), (0, .ref (E.1 + 0)), (1, .int l1), (2, .int l2), (3, .int l3)]) 33 dX11_stands_31 rfl (by decide) rfl ?_
        refine j_sub [2, 3, 4, 5, 1, 0] rfl ?_
        exact kX11_stands_33 hL    100000 _ _ _ _ _ _  h
      · replace h := j_pos hc h
        refine j_iconst (v := (-1 : Int32)) 26 dX11_stands_25 rfl (by decide) ?_
        cases h
        exact j_iret dX11_stands_26 rfl
def fX11_would (l1 : Int32) (l2 : Int32) (l3 : Int32) (l4 : Int32) (l5 : Int32) (l6 : Int32) (l7 : Int32) (I : JI) (L : JL) (D : JG) (S : JS) : Option (Int32 × JI × JG) :=
  (fX0_tell 14 l1 l2 l3 l4 l5 l6 l7 I).bind (fun q1 => (fX0_canBe 14 7 q1).bind (fun q2 => if q2 = 0 then (some ((-1 : Int32), q1, D)) else ((fX3_judgeAll 7 14 q1 L D S).bind (fun q3 => some ((q3.1 15 9), q3.1, q3.2)))))
set_option maxHeartbeats 4000000 in
set_option maxRecDepth 100000 in
theorem tcX11_would {E : JE} {l1 : Int32} {l2 : Int32} {l3 : Int32} {l4 : Int32} {l5 : Int32} {l6 : Int32} {l7 : Int32} {r : Int32 × JI × JG} {I : JI} {L : JL} {G D : JG} {S : JS} (hL : Lay G S) (h : fX11_would l1 l2 l3 l4 l5 l6 l7 I L D S = some r) : CallJ E xX11_would 5 [.ref (E.1 + 0), .int l1, .int l2, .int l3, .int l4, .int l5, .int l6, .int l7] I L G D S (some (.int r.1)) r.2.1 L G r.2.2 S := by
  unfold fX11_would at h
  refine j_entry (by decide) (Nat.le_of_ble_eq_true rfl) ?_
  show AtJ E xX11_would (Zr E (some (.int r.1)) r.2.1 L G r.2.2 S) ((S).length, jm_sl S) 5 0 [(0, .ref (E.1 + 0)), (1, .int l1), (2, .int l2), (3, .int l3), (4, .int l4), (5, .int l5), (6, .int l6), (7, .int l7)] [] I L G D S
  refine j_aload_n 1 dX11_would_0 rfl rfl 0 rfl ?_
  refine j_getG 4 dX11_would_1 rfl (sh_0 hL) cl11 (k := 3) (by decide) flX11_33 rfl (gs_0_3 hL) ?_
  refine j_iload_n 5 dX11_would_4 rfl rfl 1 rfl ?_
  refine j_iload_n 6 dX11_would_5 rfl rfl 2 rfl ?_
  refine j_iload_n 7 dX11_would_6 rfl rfl 3 rfl ?_
  refine j_iload 9 dX11_would_7 rfl 4 rfl ?_
  refine j_iload 11 dX11_would_9 rfl 5 rfl ?_
  refine j_iload 13 dX11_would_11 rfl 6 rfl ?_
  refine j_iload 15 dX11_would_13 rfl 7 rfl ?_
  obtain ⟨q1, hq1, h⟩ := j_bs h
  refine j_callV (rest := []) (As := [.int l1, .int l2, .int l3, .int l4, .int l5, .int l6, .int l7]) 18 dX11_would_15 rfl jyX0_tell (tcX0_tell hL (sh_14 hL) hq1) (sh_14 hL) cl0 flX11_170 wm875 wm876 (by decide) rfl rfl (Nat.le_of_ble_eq_true rfl) ?_
  refine j_aload_n 19 dX11_would_18 rfl rfl 0 rfl ?_
  refine j_getG 22 dX11_would_19 rfl (sh_0 hL) cl11 (k := 3) (by decide) flX11_33 rfl (gs_0_3 hL) ?_
  refine j_aload_n 23 dX11_would_22 rfl rfl 0 rfl ?_
  refine j_getG 26 dX11_would_23 rfl (sh_0 hL) cl11 (k := 0) (by decide) flX11_10 rfl (gs_0_0 hL) ?_
  refine j_aload_n 27 dX11_would_26 rfl rfl 0 rfl ?_
  refine j_getG 30 dX11_would_27 rfl (sh_0 hL) cl11 (k := 1) (by decide) flX11_19 rfl (gs_0_1 hL) ?_
  obtain ⟨q2, hq2, h⟩ := j_bs h
  refine j_callV (rest := []) (As := [.ref (E.1 + 1), .ref (E.1 + 7)]) 33 dX11_would_30 rfl jyX0_canBe (tcX0_canBe hL (sh_14 hL) (sh_7 hL) hq2) (sh_14 hL) cl0 flX11_174 wm879 wm880 (by decide) rfl rfl (Nat.le_of_ble_eq_true rfl) ?_
  refine j_if_ne 38 36 dX11_would_33 (by decide) rfl (fun hc => ?_) (fun hc => ?_)
  · replace h := j_neg hc h
    refine j_aload_n 39 dX11_would_38 rfl rfl 0 rfl ?_
    refine j_getG 42 dX11_would_39 rfl (sh_0 hL) cl11 (k := 4) (by decide) flX11_42 rfl (gs_0_4 hL) ?_
    refine j_aload_n 43 dX11_would_42 rfl rfl 0 rfl ?_
    refine j_getG 46 dX11_would_43 rfl (sh_0 hL) cl11 (k := 1) (by decide) flX11_19 rfl (gs_0_1 hL) ?_
    refine j_aload_n 47 dX11_would_46 rfl rfl 0 rfl ?_
    refine j_getG 50 dX11_would_47 rfl (sh_0 hL) cl11 (k := 3) (by decide) flX11_33 rfl (gs_0_3 hL) ?_
    obtain ⟨q3, hq3, h⟩ := j_bs h
    refine j_callV (rest := []) (As := [.ref (E.1 + 7), .ref (E.1 + 14)]) 53 dX11_would_50 rfl jyX3_judgeAll (tcX3_judgeAll hL (sh_7 hL) (sh_14 hL) hq3) (sh_15 hL) cl3 flX11_182 wm934 wm935 (by decide) rfl rfl (Nat.le_of_ble_eq_true rfl) ?_
    refine j_aload_n 54 dX11_would_53 rfl rfl 0 rfl ?_
    refine j_getG 57 dX11_would_54 rfl (sh_0 hL) cl11 (k := 4) (by decide) flX11_42 rfl (gs_0_4 hL) ?_
    refine j_getIN 60 dX11_would_57 rfl (sh_15 hL) cl3 (k := 9) (by decide) flX11_190 rfl ?_
    cases h
    exact j_iret dX11_would_60 rfl
  · replace h := j_pos hc h
    refine j_iconst (v := (-1 : Int32)) 37 dX11_would_36 rfl (by decide) ?_
    cases h
    exact j_iret dX11_would_37 rfl
def fX11_passingAt (l1 : Int32) (I : JI) (D : JG) (S : JS) : Option (Option Nat) :=
  if l1 < 0 then (some (none)) else (if (I 0 12) ≤ l1 then (some (none)) else (if l1 < (40 : Int32) then (j_g (j_in l1 40) (j_opt (D 42 l1.toNatClampNeg) (some (none)) (fun b1 => j_g (decide (S[b1]? = some (7, 9))) (some (some b1))))) else (some (none))))
set_option maxHeartbeats 4000000 in
set_option maxRecDepth 100000 in
theorem tcX11_passingAt {E : JE} {l1 : Int32} {r : Option Nat} {I : JI} {L : JL} {G D : JG} {S : JS} (hL : Lay G S) (h : fX11_passingAt l1 I D S = some r) : CallJ E xX11_passingAt 1 [.ref (E.1 + 0), .int l1] I L G D S (some (va_rf ((r).map (E.1 + ·)))) I L G D S := by
  unfold fX11_passingAt at h
  refine j_entry (by decide) (Nat.le_of_ble_eq_true rfl) ?_
  show AtJ E xX11_passingAt (Zr E (some (va_rf ((r).map (E.1 + ·)))) I L G D S) ((S).length, jm_sl S) 1 0 [(0, .ref (E.1 + 0)), (1, .int l1)] [] I L G D S
  refine j_iload_n 1 dX11_passingAt_0 rfl rfl 1 rfl ?_
  refine j_if_lt 18 4 dX11_passingAt_1 (by decide) rfl (fun hc => ?_) (fun hc => ?_)
  · replace h := j_pos hc h
    refine j_null 19 dX11_passingAt_18 rfl ?_
    refine j_goto 28 dX11_passingAt_19 (by decide) ?_
    cases h
    exact j_aret dX11_passingAt_28 rfl (Or.inl rfl)
  · replace h := j_neg hc h
    refine j_iload_n 5 dX11_passingAt_4 rfl rfl 1 rfl ?_
    refine j_aload_n 6 dX11_passingAt_5 rfl rfl 0 rfl ?_
    refine j_getI 9 dX11_passingAt_6 rfl (sh_0 hL) cl11 (k := 12) (by decide) flX11_178 rfl ?_
    refine j_icmp_ge 18 12 dX11_passingAt_9 (by decide) rfl (fun hc => ?_) (fun hc => ?_)
    · replace h := j_pos hc h
      refine j_null 19 dX11_passingAt_18 rfl ?_
      refine j_goto 28 dX11_passingAt_19 (by decide) ?_
      cases h
      exact j_aret dX11_passingAt_28 rfl (Or.inl rfl)
    · replace h := j_neg hc h
      refine j_iload_n 13 dX11_passingAt_12 rfl rfl 1 rfl ?_
      refine j_bipush (v := (40 : Int32)) 15 dX11_passingAt_13 rfl (by decide) ?_
      refine j_icmp_lt 22 18 dX11_passingAt_15 (by decide) rfl (fun hc => ?_) (fun hc => ?_)
      · replace h := j_pos hc h
        refine j_aload_n 23 dX11_passingAt_22 rfl rfl 0 rfl ?_
        refine j_getG 26 dX11_passingAt_23 rfl (sh_0 hL) cl11 (k := 8) (by decide) flX11_73 rfl (gs_0_8 hL) ?_
        refine j_iload_n 27 dX11_passingAt_26 rfl rfl 1 rfl ?_
        obtain ⟨hg, h⟩ := j_gs h
        rcases j_os h with ⟨hb, h⟩ | ⟨b1, hb, h⟩
        · refine j_aaldN 28 dX11_passingAt_27 rfl (sh_42 hL) (by decide) (by decide) (fun _ => rfl) (i0 := 6) rfl (j_inv hg) hb ?_
          cases h
          exact j_aret dX11_passingAt_28 rfl (Or.inl rfl)
        obtain ⟨hsb1, h⟩ := j_gs h
        replace hsb1 := of_decide_eq_true hsb1
        refine j_aald 28 dX11_passingAt_27 rfl (sh_42 hL) (by decide) (by decide) (fun _ => rfl) (i0 := 6) rfl (j_inv hg) hb ?_
        cases h
        exact j_aret dX11_passingAt_28 rfl (Or.inr ⟨_, rfl⟩)
      · replace h := j_neg hc h
        refine j_null 19 dX11_passingAt_18 rfl ?_
        refine j_goto 28 dX11_passingAt_19 (by decide) ?_
        cases h
        exact j_aret dX11_passingAt_28 rfl (Or.inl rfl)
def fX11_may (l1 : Int32) (l2 : Int32) (I : JI) (D : JG) (S : JS) : Option (Int32) :=
  (fX11_passingAt l1 I D S).bind (fun q1 => j_opt q1 (some ((-1 : Int32))) (fun b2 => j_g (decide (S[b2]? = some (7, 9))) ((fX11_isPerson l2).bind (fun q3 => if q3 = 0 then (some ((-1 : Int32))) else (j_g (j_in l2 16) (some ((I (b2 + 2) l2.toNatClampNeg))))))))
set_option maxHeartbeats 4000000 in
set_option maxRecDepth 100000 in
theorem tcX11_may {E : JE} {l1 : Int32} {l2 : Int32} {r : Int32} {I : JI} {L : JL} {G D : JG} {S : JS} (hL : Lay G S) (h : fX11_may l1 l2 I D S = some r) : CallJ E xX11_may 2 [.ref (E.1 + 0), .int l1, .int l2] I L G D S (some (.int r)) I L G D S := by
  unfold fX11_may at h
  refine j_entry (by decide) (Nat.le_of_ble_eq_true rfl) ?_
  show AtJ E xX11_may (Zr E (some (.int r)) I L G D S) ((S).length, jm_sl S) 2 0 [(0, .ref (E.1 + 0)), (1, .int l1), (2, .int l2)] [] I L G D S
  refine j_aload_n 1 dX11_may_0 rfl rfl 0 rfl ?_
  refine j_iload_n 2 dX11_may_1 rfl rfl 1 rfl ?_
  obtain ⟨q1, hq1, h⟩ := j_bs h
  refine j_callV (rest := []) (As := [.int l1]) 5 dX11_may_2 rfl jyX11_passingAt (tcX11_passingAt hL  hq1) (sh_0 hL) cl11 flX11_193 wm1005 wm19 (by decide) rfl rfl (Nat.le_of_ble_eq_true rfl) ?_
  rcases j_os h with ⟨hb, h⟩ | ⟨b2, hb, h⟩
  · rw [hb]
    refine j_astore_nN (lv' := [(3, .null), (0, .ref (E.1 + 0)), (1, .int l1), (2, .int l2)]) 6 dX11_may_5 rfl rfl (by decide) rfl ?_
    refine j_aload_nN 7 dX11_may_6 rfl rfl 0 rfl ?_
    refine j_ifnullN 17 dX11_may_7 (by decide) ?_
    refine j_iconst (v := (-1 : Int32)) 18 dX11_may_17 rfl (by decide) ?_
    cases h
    exact j_iret dX11_may_18 rfl
  obtain ⟨hsb2, h⟩ := j_gs h
  replace hsb2 := of_decide_eq_true hsb2
  rw [hb]
  refine j_astore_n (lv' := [(3, .ref (E.1 + b2)), (0, .ref (E.1 + 0)), (1, .int l1), (2, .int l2)]) 6 dX11_may_5 rfl rfl (by decide) rfl ?_
  refine j_aload_n 7 dX11_may_6 rfl rfl 0 rfl ?_
  refine j_ifnull 10 dX11_may_7 rfl ?_
  refine j_iload_n 11 dX11_may_10 rfl rfl 3 rfl ?_
  obtain ⟨q3, hq3, h⟩ := j_bs h
  refine j_callS (rest := []) (As := [.int l2]) 14 dX11_may_11 rfl jyX11_isPerson (tcX11_isPerson   hq3) flX11_96 wm642 (by decide) rfl rfl (Nat.le_of_ble_eq_true rfl) ?_
  refine j_if_ne 19 17 dX11_may_14 (by decide) rfl (fun hc => ?_) (fun hc => ?_)
  · replace h := j_neg hc h
    refine j_aload_n 20 dX11_may_19 rfl rfl 0 rfl ?_
    refine j_getGN 23 dX11_may_20 rfl hsb2 cl7 (k := 1) (by decide) flX11_204 rfl (ly7_1 hL hsb2).1 ?_
    refine j_iload_n 24 dX11_may_23 rfl rfl 3 rfl ?_
    obtain ⟨hg, h⟩ := j_gs h
    refine j_iald 25 dX11_may_24 rfl (ly7_1 hL hsb2).2 (j_inv hg) ?_
    cases h
    exact j_iret dX11_may_25 rfl
  · replace h := j_pos hc h
    refine j_iconst (v := (-1 : Int32)) 18 dX11_may_17 rfl (by decide) ?_
    cases h
    exact j_iret dX11_may_18 rfl
def fX11_order (l1 : Int32) (l2 : Int32) (I : JI) (D : JG) (S : JS) : Option (Int32) :=
  (fX11_passingAt l1 I D S).bind (fun q1 => j_opt q1 (some ((-1 : Int32))) (fun b2 => j_g (decide (S[b2]? = some (7, 9))) (if 0 ≤ l2 then ((fX7_comerAt b2 l2 I).bind (fun q3 => some (q3))) else (some ((-1 : Int32))))))
set_option maxHeartbeats 4000000 in
set_option maxRecDepth 100000 in
theorem tcX11_order {E : JE} {l1 : Int32} {l2 : Int32} {r : Int32} {I : JI} {L : JL} {G D : JG} {S : JS} (hL : Lay G S) (h : fX11_order l1 l2 I D S = some r) : CallJ E xX11_order 2 [.ref (E.1 + 0), .int l1, .int l2] I L G D S (some (.int r)) I L G D S := by
  unfold fX11_order at h
  refine j_entry (by decide) (Nat.le_of_ble_eq_true rfl) ?_
  show AtJ E xX11_order (Zr E (some (.int r)) I L G D S) ((S).length, jm_sl S) 2 0 [(0, .ref (E.1 + 0)), (1, .int l1), (2, .int l2)] [] I L G D S
  refine j_aload_n 1 dX11_order_0 rfl rfl 0 rfl ?_
  refine j_iload_n 2 dX11_order_1 rfl rfl 1 rfl ?_
  obtain ⟨q1, hq1, h⟩ := j_bs h
  refine j_callV (rest := []) (As := [.int l1]) 5 dX11_order_2 rfl jyX11_passingAt (tcX11_passingAt hL  hq1) (sh_0 hL) cl11 flX11_193 wm1005 wm19 (by decide) rfl rfl (Nat.le_of_ble_eq_true rfl) ?_
  rcases j_os h with ⟨hb, h⟩ | ⟨b2, hb, h⟩
  · rw [hb]
    refine j_astore_nN (lv' := [(3, .null), (0, .ref (E.1 + 0)), (1, .int l1), (2, .int l2)]) 6 dX11_order_5 rfl rfl (by decide) rfl ?_
    refine j_aload_nN 7 dX11_order_6 rfl rfl 0 rfl ?_
    refine j_ifnullN 14 dX11_order_7 (by decide) ?_
    refine j_iconst (v := (-1 : Int32)) 15 dX11_order_14 rfl (by decide) ?_
    cases h
    exact j_iret dX11_order_15 rfl
  obtain ⟨hsb2, h⟩ := j_gs h
  replace hsb2 := of_decide_eq_true hsb2
  rw [hb]
  refine j_astore_n (lv' := [(3, .ref (E.1 + b2)), (0, .ref (E.1 + 0)), (1, .int l1), (2, .int l2)]) 6 dX11_order_5 rfl rfl (by decide) rfl ?_
  refine j_aload_n 7 dX11_order_6 rfl rfl 0 rfl ?_
  refine j_ifnull 10 dX11_order_7 rfl ?_
  refine j_iload_n 11 dX11_order_10 rfl rfl 3 rfl ?_
  refine j_if_ge 16 14 dX11_order_11 (by decide) rfl (fun hc => ?_) (fun hc => ?_)
  · replace h := j_pos hc h
    refine j_aload_n 17 dX11_order_16 rfl rfl 0 rfl ?_
    refine j_iload_n 18 dX11_order_17 rfl rfl 3 rfl ?_
    obtain ⟨q3, hq3, h⟩ := j_bs h
    refine j_callV (rest := []) (As := [.int l2]) 21 dX11_order_18 rfl jyX7_comerAt (tcX7_comerAt hL hsb2 hq3) hsb2 cl7 flX11_207 wm1012 wm1013 (by decide) rfl rfl (Nat.le_of_ble_eq_true rfl) ?_
    cases h
    exact j_iret dX11_order_21 rfl
  · replace h := j_neg hc h
    refine j_iconst (v := (-1 : Int32)) 15 dX11_order_14 rfl (by decide) ?_
    cases h
    exact j_iret dX11_order_15 rfl
def fX11_hears (l1 : Int32) (l2 : Int32) (l3 : Int32) (I : JI) (D : JG) (S : JS) : Option (Int32 × JI) :=
  (fX11_passingAt l1 I D S).bind (fun q1 => j_opt q1 (some ((0 : Int32), I)) (fun b2 => j_g (decide (S[b2]? = some (7, 9))) ((fX11_isPerson l2).bind (fun q3 => if q3 = 0 then (some ((0 : Int32), I)) else (if l3 < (I b2 5) then (some ((0 : Int32), I)) else (if l3 ≤ (I 1 8) then (j_g (j_in l2 19) (if (I (b2 + 5) l2.toNatClampNeg) = (-1 : Int32) then (j_g (j_in l2 19) (some ((1 : Int32), (j_up I (b2 + 5) l2.toNatClampNeg l3)))) else (some ((0 : Int32), I)))) else (some ((0 : Int32), I))))))))
set_option maxHeartbeats 4000000 in
set_option maxRecDepth 100000 in
theorem tcX11_hears {E : JE} {l1 : Int32} {l2 : Int32} {l3 : Int32} {r : Int32 × JI} {I : JI} {L : JL} {G D : JG} {S : JS} (hL : Lay G S) (h : fX11_hears l1 l2 l3 I D S = some r) : CallJ E xX11_hears 2 [.ref (E.1 + 0), .int l1, .int l2, .int l3] I L G D S (some (.int r.1)) r.2 L G D S := by
  unfold fX11_hears at h
  refine j_entry (by decide) (Nat.le_of_ble_eq_true rfl) ?_
  show AtJ E xX11_hears (Zr E (some (.int r.1)) r.2 L G D S) ((S).length, jm_sl S) 2 0 [(0, .ref (E.1 + 0)), (1, .int l1), (2, .int l2), (3, .int l3)] [] I L G D S
  refine j_aload_n 1 dX11_hears_0 rfl rfl 0 rfl ?_
  refine j_iload_n 2 dX11_hears_1 rfl rfl 1 rfl ?_
  obtain ⟨q1, hq1, h⟩ := j_bs h
  refine j_callV (rest := []) (As := [.int l1]) 5 dX11_hears_2 rfl jyX11_passingAt (tcX11_passingAt hL  hq1) (sh_0 hL) cl11 flX11_193 wm1005 wm19 (by decide) rfl rfl (Nat.le_of_ble_eq_true rfl) ?_
  rcases j_os h with ⟨hb, h⟩ | ⟨b2, hb, h⟩
  · rw [hb]
    refine j_astoreN (lv' := [(4, .null), (0, .ref (E.1 + 0)), (1, .int l1), (2, .int l2), (3, .int l3)]) 7 dX11_hears_5 rfl (by decide) rfl ?_
    refine j_aloadN 9 dX11_hears_7 rfl 0 rfl ?_
    refine j_ifnullN 39 dX11_hears_9 (by decide) ?_
    refine j_iconst (v := (0 : Int32)) 40 dX11_hears_39 rfl (by decide) ?_
    cases h
    exact j_zret dX11_hears_40 rfl j_b01_0
  obtain ⟨hsb2, h⟩ := j_gs h
  replace hsb2 := of_decide_eq_true hsb2
  rw [hb]
  refine j_astore (lv' := [(4, .ref (E.1 + b2)), (0, .ref (E.1 + 0)), (1, .int l1), (2, .int l2), (3, .int l3)]) 7 dX11_hears_5 rfl (by decide) rfl ?_
  refine j_aload 9 dX11_hears_7 rfl 0 rfl ?_
  refine j_ifnull 12 dX11_hears_9 rfl ?_
  refine j_iload_n 13 dX11_hears_12 rfl rfl 3 rfl ?_
  obtain ⟨q3, hq3, h⟩ := j_bs h
  refine j_callS (rest := []) (As := [.int l2]) 16 dX11_hears_13 rfl jyX11_isPerson (tcX11_isPerson   hq3) flX11_96 wm642 (by decide) rfl rfl (Nat.le_of_ble_eq_true rfl) ?_
  refine j_if_eq 39 19 dX11_hears_16 (by decide) rfl (fun hc => ?_) (fun hc => ?_)
  · replace h := j_pos hc h
    refine j_iconst (v := (0 : Int32)) 40 dX11_hears_39 rfl (by decide) ?_
    cases h
    exact j_zret dX11_hears_40 rfl j_b01_0
  · replace h := j_neg hc h
    refine j_iload_n 20 dX11_hears_19 rfl rfl 4 rfl ?_
    refine j_aload 22 dX11_hears_20 rfl 0 rfl ?_
    refine j_getIN 25 dX11_hears_22 rfl hsb2 cl7 (k := 5) (by decide) flX11_210 rfl ?_
    refine j_icmp_lt 39 28 dX11_hears_25 (by decide) rfl (fun hc => ?_) (fun hc => ?_)
    · replace h := j_pos hc h
      refine j_iconst (v := (0 : Int32)) 40 dX11_hears_39 rfl (by decide) ?_
      cases h
      exact j_zret dX11_hears_40 rfl j_b01_0
    · replace h := j_neg hc h
      refine j_iload_n 29 dX11_hears_28 rfl rfl 4 rfl ?_
      refine j_aload_n 30 dX11_hears_29 rfl rfl 1 rfl ?_
      refine j_getG 33 dX11_hears_30 rfl (sh_0 hL) cl11 (k := 0) (by decide) flX11_10 rfl (gs_0_0 hL) ?_
      refine j_getIN 36 dX11_hears_33 rfl (sh_1 hL) cl9 (k := 8) (by decide) flX11_152 rfl ?_
      refine j_icmp_le 41 39 dX11_hears_36 (by decide) rfl (fun hc => ?_) (fun hc => ?_)
      · replace h := j_pos hc h
        refine j_aload 43 dX11_hears_41 rfl 0 rfl ?_
        refine j_getGN 46 dX11_hears_43 rfl hsb2 cl7 (k := 4) (by decide) flX11_213 rfl (ly7_4 hL hsb2).1 ?_
        refine j_iload_n 47 dX11_hears_46 rfl rfl 3 rfl ?_
        obtain ⟨hg, h⟩ := j_gs h
        refine j_iald 48 dX11_hears_47 rfl (ly7_4 hL hsb2).2 (j_inv hg) ?_
        refine j_iconst (v := (-1 : Int32)) 49 dX11_hears_48 rfl (by decide) ?_
        refine j_icmp_eq 54 52 dX11_hears_49 (by decide) rfl (fun hc => ?_) (fun hc => ?_)
        · replace h := j_pos hc h
          refine j_aload 56 dX11_hears_54 rfl 0 rfl ?_
          refine j_getGN 59 dX11_hears_56 rfl hsb2 cl7 (k := 4) (by decide) flX11_213 rfl (ly7_4 hL hsb2).1 ?_
          refine j_iload_n 60 dX11_hears_59 rfl rfl 3 rfl ?_
          refine j_iload_n 61 dX11_hears_60 rfl rfl 4 rfl ?_
          obtain ⟨hg, h⟩ := j_gs h
          refine j_iast 62 dX11_hears_61 rfl (ly7_4 hL hsb2).2 (j_inv hg) ?_
          refine j_iconst (v := (1 : Int32)) 63 dX11_hears_62 rfl (by decide) ?_
          cases h
          exact j_zret dX11_hears_63 rfl j_b01_1
        · replace h := j_neg hc h
          refine j_iconst (v := (0 : Int32)) 53 dX11_hears_52 rfl (by decide) ?_
          cases h
          exact j_zret dX11_hears_53 rfl j_b01_0
      · replace h := j_neg hc h
        refine j_iconst (v := (0 : Int32)) 40 dX11_hears_39 rfl (by decide) ?_
        cases h
        exact j_zret dX11_hears_40 rfl j_b01_0
def fX11_till (l1 : Int32) (l2 : Int32) (I : JI) (D : JG) (S : JS) : Option (Int32) :=
  (fX11_passingAt l1 I D S).bind (fun q1 => j_opt q1 (some ((-1 : Int32))) (fun b2 => j_g (decide (S[b2]? = some (7, 9))) ((fX11_isPerson l2).bind (fun q3 => if q3 = 0 then (some ((-1 : Int32))) else (j_g (j_in l2 16) (if (I (b2 + 2) l2.toNatClampNeg) = (-1 : Int32) then (some ((-1 : Int32))) else (j_g (j_in l2 19) (if (I (b2 + 5) l2.toNatClampNeg) = (-1 : Int32) then (some ((-1 : Int32))) else (j_g (j_in l2 19) (j_g (j_in l2 16) (some (((I (b2 + 5) l2.toNatClampNeg) + (I (b2 + 3) l2.toNatClampNeg))))))))))))))
set_option maxHeartbeats 4000000 in
set_option maxRecDepth 100000 in
theorem tcX11_till {E : JE} {l1 : Int32} {l2 : Int32} {r : Int32} {I : JI} {L : JL} {G D : JG} {S : JS} (hL : Lay G S) (h : fX11_till l1 l2 I D S = some r) : CallJ E xX11_till 2 [.ref (E.1 + 0), .int l1, .int l2] I L G D S (some (.int r)) I L G D S := by
  unfold fX11_till at h
  refine j_entry (by decide) (Nat.le_of_ble_eq_true rfl) ?_
  show AtJ E xX11_till (Zr E (some (.int r)) I L G D S) ((S).length, jm_sl S) 2 0 [(0, .ref (E.1 + 0)), (1, .int l1), (2, .int l2)] [] I L G D S
  refine j_aload_n 1 dX11_till_0 rfl rfl 0 rfl ?_
  refine j_iload_n 2 dX11_till_1 rfl rfl 1 rfl ?_
  obtain ⟨q1, hq1, h⟩ := j_bs h
  refine j_callV (rest := []) (As := [.int l1]) 5 dX11_till_2 rfl jyX11_passingAt (tcX11_passingAt hL  hq1) (sh_0 hL) cl11 flX11_193 wm1005 wm19 (by decide) rfl rfl (Nat.le_of_ble_eq_true rfl) ?_
  rcases j_os h with ⟨hb, h⟩ | ⟨b2, hb, h⟩
  · rw [hb]
    refine j_astore_nN (lv' := [(3, .null), (0, .ref (E.1 + 0)), (1, .int l1), (2, .int l2)]) 6 dX11_till_5 rfl rfl (by decide) rfl ?_
    refine j_aload_nN 7 dX11_till_6 rfl rfl 0 rfl ?_
    refine j_ifnullN 37 dX11_till_7 (by decide) ?_
    refine j_iconst (v := (-1 : Int32)) 38 dX11_till_37 rfl (by decide) ?_
    cases h
    exact j_iret dX11_till_38 rfl
  obtain ⟨hsb2, h⟩ := j_gs h
  replace hsb2 := of_decide_eq_true hsb2
  rw [hb]
  refine j_astore_n (lv' := [(3, .ref (E.1 + b2)), (0, .ref (E.1 + 0)), (1, .int l1), (2, .int l2)]) 6 dX11_till_5 rfl rfl (by decide) rfl ?_
  refine j_aload_n 7 dX11_till_6 rfl rfl 0 rfl ?_
  refine j_ifnull 10 dX11_till_7 rfl ?_
  refine j_iload_n 11 dX11_till_10 rfl rfl 3 rfl ?_
  obtain ⟨q3, hq3, h⟩ := j_bs h
  refine j_callS (rest := []) (As := [.int l2]) 14 dX11_till_11 rfl jyX11_isPerson (tcX11_isPerson   hq3) flX11_96 wm642 (by decide) rfl rfl (Nat.le_of_ble_eq_true rfl) ?_
  refine j_if_eq 37 17 dX11_till_14 (by decide) rfl (fun hc => ?_) (fun hc => ?_)
  · replace h := j_pos hc h
    refine j_iconst (v := (-1 : Int32)) 38 dX11_till_37 rfl (by decide) ?_
    cases h
    exact j_iret dX11_till_38 rfl
  · replace h := j_neg hc h
    refine j_aload_n 18 dX11_till_17 rfl rfl 0 rfl ?_
    refine j_getGN 21 dX11_till_18 rfl hsb2 cl7 (k := 1) (by decide) flX11_204 rfl (ly7_1 hL hsb2).1 ?_
    refine j_iload_n 22 dX11_till_21 rfl rfl 3 rfl ?_
    obtain ⟨hg, h⟩ := j_gs h
    refine j_iald 23 dX11_till_22 rfl (ly7_1 hL hsb2).2 (j_inv hg) ?_
    refine j_iconst (v := (-1 : Int32)) 24 dX11_till_23 rfl (by decide) ?_
    refine j_icmp_eq 37 27 dX11_till_24 (by decide) rfl (fun hc => ?_) (fun hc => ?_)
    · replace h := j_pos hc h
      refine j_iconst (v := (-1 : Int32)) 38 dX11_till_37 rfl (by decide) ?_
      cases h
      exact j_iret dX11_till_38 rfl
    · replace h := j_neg hc h
      refine j_aload_n 28 dX11_till_27 rfl rfl 0 rfl ?_
      refine j_getGN 31 dX11_till_28 rfl hsb2 cl7 (k := 4) (by decide) flX11_213 rfl (ly7_4 hL hsb2).1 ?_
      refine j_iload_n 32 dX11_till_31 rfl rfl 3 rfl ?_
      obtain ⟨hg, h⟩ := j_gs h
      refine j_iald 33 dX11_till_32 rfl (ly7_4 hL hsb2).2 (j_inv hg) ?_
      refine j_iconst (v := (-1 : Int32)) 34 dX11_till_33 rfl (by decide) ?_
      refine j_icmp_ne 39 37 dX11_till_34 (by decide) rfl (fun hc => ?_) (fun hc => ?_)
      · replace h := j_neg hc h
        refine j_aload_n 40 dX11_till_39 rfl rfl 0 rfl ?_
        refine j_getGN 43 dX11_till_40 rfl hsb2 cl7 (k := 4) (by decide) flX11_213 rfl (ly7_4 hL hsb2).1 ?_
        refine j_iload_n 44 dX11_till_43 rfl rfl 3 rfl ?_
        obtain ⟨hg, h⟩ := j_gs h
        refine j_iald 45 dX11_till_44 rfl (ly7_4 hL hsb2).2 (j_inv hg) ?_
        refine j_aload_n 46 dX11_till_45 rfl rfl 0 rfl ?_
        refine j_getGN 49 dX11_till_46 rfl hsb2 cl7 (k := 2) (by decide) flX11_216 rfl (ly7_2 hL hsb2).1 ?_
        refine j_iload_n 50 dX11_till_49 rfl rfl 3 rfl ?_
        obtain ⟨hg, h⟩ := j_gs h
        refine j_iald 51 dX11_till_50 rfl (ly7_2 hL hsb2).2 (j_inv hg) ?_
        refine j_iadd 52 dX11_till_51 rfl ?_
        cases h
        exact j_iret dX11_till_52 rfl
      · replace h := j_pos hc h
        refine j_iconst (v := (-1 : Int32)) 38 dX11_till_37 rfl (by decide) ?_
        cases h
        exact j_iret dX11_till_38 rfl
def fX11_waive (l1 : Int32) (l2 : Int32) (I : JI) (D : JG) (S : JS) : Option (Int32 × JI) :=
  (fX11_passingAt l1 I D S).bind (fun q1 => j_opt q1 (some ((0 : Int32), I)) (fun b2 => j_g (decide (S[b2]? = some (7, 9))) ((fX11_isPerson l2).bind (fun q3 => if q3 = 0 then (some ((0 : Int32), I)) else (j_g (j_in l2 16) (if (I (b2 + 2) l2.toNatClampNeg) = (-1 : Int32) then (some ((0 : Int32), I)) else ((fX7_isWaived b2 l2 I).bind (fun q4 => if q4 = 0 then (j_g (j_in (16 : Int32) 19) (j_g (j_in (16 : Int32) 19) (some ((1 : Int32), (j_up I (b2 + 5) (16 : Int32).toNatClampNeg ((I (b2 + 5) (16 : Int32).toNatClampNeg) ||| ((1 : Int32) <<< (l2 &&& 31)))))))) else (some ((0 : Int32), I))))))))))
set_option maxHeartbeats 4000000 in
set_option maxRecDepth 100000 in
theorem tcX11_waive {E : JE} {l1 : Int32} {l2 : Int32} {r : Int32 × JI} {I : JI} {L : JL} {G D : JG} {S : JS} (hL : Lay G S) (h : fX11_waive l1 l2 I D S = some r) : CallJ E xX11_waive 2 [.ref (E.1 + 0), .int l1, .int l2] I L G D S (some (.int r.1)) r.2 L G D S := by
  unfold fX11_waive at h
  refine j_entry (by decide) (Nat.le_of_ble_eq_true rfl) ?_
  show AtJ E xX11_waive (Zr E (some (.int r.1)) r.2 L G D S) ((S).length, jm_sl S) 2 0 [(0, .ref (E.1 + 0)), (1, .int l1), (2, .int l2)] [] I L G D S
  refine j_aload_n 1 dX11_waive_0 rfl rfl 0 rfl ?_
  refine j_iload_n 2 dX11_waive_1 rfl rfl 1 rfl ?_
  obtain ⟨q1, hq1, h⟩ := j_bs h
  refine j_callV (rest := []) (As := [.int l1]) 5 dX11_waive_2 rfl jyX11_passingAt (tcX11_passingAt hL  hq1) (sh_0 hL) cl11 flX11_193 wm1005 wm19 (by decide) rfl rfl (Nat.le_of_ble_eq_true rfl) ?_
  rcases j_os h with ⟨hb, h⟩ | ⟨b2, hb, h⟩
  · rw [hb]
    refine j_astore_nN (lv' := [(3, .null), (0, .ref (E.1 + 0)), (1, .int l1), (2, .int l2)]) 6 dX11_waive_5 rfl rfl (by decide) rfl ?_
    refine j_aload_nN 7 dX11_waive_6 rfl rfl 0 rfl ?_
    refine j_ifnullN 35 dX11_waive_7 (by decide) ?_
    refine j_iconst (v := (0 : Int32)) 36 dX11_waive_35 rfl (by decide) ?_
    cases h
    exact j_zret dX11_waive_36 rfl j_b01_0
  obtain ⟨hsb2, h⟩ := j_gs h
  replace hsb2 := of_decide_eq_true hsb2
  rw [hb]
  refine j_astore_n (lv' := [(3, .ref (E.1 + b2)), (0, .ref (E.1 + 0)), (1, .int l1), (2, .int l2)]) 6 dX11_waive_5 rfl rfl (by decide) rfl ?_
  refine j_aload_n 7 dX11_waive_6 rfl rfl 0 rfl ?_
  refine j_ifnull 10 dX11_waive_7 rfl ?_
  refine j_iload_n 11 dX11_waive_10 rfl rfl 3 rfl ?_
  obtain ⟨q3, hq3, h⟩ := j_bs h
  refine j_callS (rest := []) (As := [.int l2]) 14 dX11_waive_11 rfl jyX11_isPerson (tcX11_isPerson   hq3) flX11_96 wm642 (by decide) rfl rfl (Nat.le_of_ble_eq_true rfl) ?_
  refine j_if_eq 35 17 dX11_waive_14 (by decide) rfl (fun hc => ?_) (fun hc => ?_)
  · replace h := j_pos hc h
    refine j_iconst (v := (0 : Int32)) 36 dX11_waive_35 rfl (by decide) ?_
    cases h
    exact j_zret dX11_waive_36 rfl j_b01_0
  · replace h := j_neg hc h
    refine j_aload_n 18 dX11_waive_17 rfl rfl 0 rfl ?_
    refine j_getGN 21 dX11_waive_18 rfl hsb2 cl7 (k := 1) (by decide) flX11_204 rfl (ly7_1 hL hsb2).1 ?_
    refine j_iload_n 22 dX11_waive_21 rfl rfl 3 rfl ?_
    obtain ⟨hg, h⟩ := j_gs h
    refine j_iald 23 dX11_waive_22 rfl (ly7_1 hL hsb2).2 (j_inv hg) ?_
    refine j_iconst (v := (-1 : Int32)) 24 dX11_waive_23 rfl (by decide) ?_
    refine j_icmp_eq 35 27 dX11_waive_24 (by decide) rfl (fun hc => ?_) (fun hc => ?_)
    · replace h := j_pos hc h
      refine j_iconst (v := (0 : Int32)) 36 dX11_waive_35 rfl (by decide) ?_
      cases h
      exact j_zret dX11_waive_36 rfl j_b01_0
    · replace h := j_neg hc h
      refine j_aload_n 28 dX11_waive_27 rfl rfl 0 rfl ?_
      refine j_iload_n 29 dX11_waive_28 rfl rfl 3 rfl ?_
      obtain ⟨q4, hq4, h⟩ := j_bs h
      refine j_callV (rest := []) (As := [.int l2]) 32 dX11_waive_29 rfl jyX7_isWaived (tcX7_isWaived hL hsb2 hq4) hsb2 cl7 flX11_219 wm1028 wm1029 (by decide) rfl rfl (Nat.le_of_ble_eq_true rfl) ?_
      refine j_if_eq 37 35 dX11_waive_32 (by decide) rfl (fun hc => ?_) (fun hc => ?_)
      · replace h := j_pos hc h
        refine j_aload_n 38 dX11_waive_37 rfl rfl 0 rfl ?_
        refine j_getGN 41 dX11_waive_38 rfl hsb2 cl7 (k := 4) (by decide) flX11_213 rfl (ly7_4 hL hsb2).1 ?_
        refine j_bipush (v := (16 : Int32)) 43 dX11_waive_41 rfl (by decide) ?_
        refine j_dup2_11 44 dX11_waive_43 rfl rfl rfl ?_
        obtain ⟨hg, h⟩ := j_gs h
        refine j_iald 45 dX11_waive_44 rfl (ly7_4 hL hsb2).2 (j_inv hg) ?_
        refine j_iconst (v := (1 : Int32)) 46 dX11_waive_45 rfl (by decide) ?_
        refine j_iload_n 47 dX11_waive_46 rfl rfl 3 rfl ?_
        refine j_ishl 48 dX11_waive_47 rfl ?_
        refine j_ior 49 dX11_waive_48 rfl ?_
        obtain ⟨hg, h⟩ := j_gs h
        refine j_iast 50 dX11_waive_49 rfl (ly7_4 hL hsb2).2 (j_inv hg) ?_
        refine j_iconst (v := (1 : Int32)) 51 dX11_waive_50 rfl (by decide) ?_
        cases h
        exact j_zret dX11_waive_51 rfl j_b01_1
      · replace h := j_neg hc h
        refine j_iconst (v := (0 : Int32)) 36 dX11_waive_35 rfl (by decide) ?_
        cases h
        exact j_zret dX11_waive_36 rfl j_b01_0
def fX11_truly (l1 : Int32) (l2 : Int32) (I : JI) (D : JG) (S : JS) : Option (Int32 × JI) :=
  (fX11_passingAt l1 I D S).bind (fun q1 => j_opt q1 (some ((0 : Int32), I)) (fun b2 => j_g (decide (S[b2]? = some (7, 9))) ((fX11_isPrice l2).bind (fun q3 => if q3 = 0 then (some ((0 : Int32), I)) else (if (I (b2 + 1) 4) = (1 : Int32) then (some ((0 : Int32), I)) else ((fX7_isTaken b2 I).bind (fun q4 => if q4 = 0 then (j_g (j_in (18 : Int32) 19) (some ((1 : Int32), (j_up I (b2 + 5) (18 : Int32).toNatClampNeg l2)))) else (some ((0 : Int32), I)))))))))
set_option maxHeartbeats 4000000 in
set_option maxRecDepth 100000 in
theorem tcX11_truly {E : JE} {l1 : Int32} {l2 : Int32} {r : Int32 × JI} {I : JI} {L : JL} {G D : JG} {S : JS} (hL : Lay G S) (h : fX11_truly l1 l2 I D S = some r) : CallJ E xX11_truly 2 [.ref (E.1 + 0), .int l1, .int l2] I L G D S (some (.int r.1)) r.2 L G D S := by
  unfold fX11_truly at h
  refine j_entry (by decide) (Nat.le_of_ble_eq_true rfl) ?_
  show AtJ E xX11_truly (Zr E (some (.int r.1)) r.2 L G D S) ((S).length, jm_sl S) 2 0 [(0, .ref (E.1 + 0)), (1, .int l1), (2, .int l2)] [] I L G D S
  refine j_aload_n 1 dX11_truly_0 rfl rfl 0 rfl ?_
  refine j_iload_n 2 dX11_truly_1 rfl rfl 1 rfl ?_
  obtain ⟨q1, hq1, h⟩ := j_bs h
  refine j_callV (rest := []) (As := [.int l1]) 5 dX11_truly_2 rfl jyX11_passingAt (tcX11_passingAt hL  hq1) (sh_0 hL) cl11 flX11_193 wm1005 wm19 (by decide) rfl rfl (Nat.le_of_ble_eq_true rfl) ?_
  rcases j_os h with ⟨hb, h⟩ | ⟨b2, hb, h⟩
  · rw [hb]
    refine j_astore_nN (lv' := [(3, .null), (0, .ref (E.1 + 0)), (1, .int l1), (2, .int l2)]) 6 dX11_truly_5 rfl rfl (by decide) rfl ?_
    refine j_aload_nN 7 dX11_truly_6 rfl rfl 0 rfl ?_
    refine j_ifnullN 35 dX11_truly_7 (by decide) ?_
    refine j_iconst (v := (0 : Int32)) 36 dX11_truly_35 rfl (by decide) ?_
    cases h
    exact j_zret dX11_truly_36 rfl j_b01_0
  obtain ⟨hsb2, h⟩ := j_gs h
  replace hsb2 := of_decide_eq_true hsb2
  rw [hb]
  refine j_astore_n (lv' := [(3, .ref (E.1 + b2)), (0, .ref (E.1 + 0)), (1, .int l1), (2, .int l2)]) 6 dX11_truly_5 rfl rfl (by decide) rfl ?_
  refine j_aload_n 7 dX11_truly_6 rfl rfl 0 rfl ?_
  refine j_ifnull 10 dX11_truly_7 rfl ?_
  refine j_iload_n 11 dX11_truly_10 rfl rfl 3 rfl ?_
  obtain ⟨q3, hq3, h⟩ := j_bs h
  refine j_callS (rest := []) (As := [.int l2]) 14 dX11_truly_11 rfl jyX11_isPrice (tcX11_isPrice   hq3) flX11_222 wm889 (by decide) rfl rfl (Nat.le_of_ble_eq_true rfl) ?_
  refine j_if_eq 35 17 dX11_truly_14 (by decide) rfl (fun hc => ?_) (fun hc => ?_)
  · replace h := j_pos hc h
    refine j_iconst (v := (0 : Int32)) 36 dX11_truly_35 rfl (by decide) ?_
    cases h
    exact j_zret dX11_truly_36 rfl j_b01_0
  · replace h := j_neg hc h
    refine j_aload_n 18 dX11_truly_17 rfl rfl 0 rfl ?_
    refine j_getGN 21 dX11_truly_18 rfl hsb2 cl7 (k := 0) (by decide) flX11_225 rfl (ly7_0 hL hsb2).1 ?_
    refine j_getIN 24 dX11_truly_21 rfl (ly7_0 hL hsb2).2 cl0 (k := 4) (by decide) flX11_228 rfl ?_
    refine j_iconst (v := (1 : Int32)) 25 dX11_truly_24 rfl (by decide) ?_
    refine j_icmp_eq 35 28 dX11_truly_25 (by decide) rfl (fun hc => ?_) (fun hc => ?_)
    · replace h := j_pos hc h
      refine j_iconst (v := (0 : Int32)) 36 dX11_truly_35 rfl (by decide) ?_
      cases h
      exact j_zret dX11_truly_36 rfl j_b01_0
    · replace h := j_neg hc h
      refine j_aload_n 29 dX11_truly_28 rfl rfl 0 rfl ?_
      obtain ⟨q4, hq4, h⟩ := j_bs h
      refine j_callV (rest := []) (As := []) 32 dX11_truly_29 rfl jyX7_isTaken (tcX7_isTaken hL hsb2 hq4) hsb2 cl7 flX11_231 wm1037 wm1038 (by decide) rfl rfl (Nat.le_of_ble_eq_true rfl) ?_
      refine j_if_eq 37 35 dX11_truly_32 (by decide) rfl (fun hc => ?_) (fun hc => ?_)
      · replace h := j_pos hc h
        refine j_aload_n 38 dX11_truly_37 rfl rfl 0 rfl ?_
        refine j_getGN 41 dX11_truly_38 rfl hsb2 cl7 (k := 4) (by decide) flX11_213 rfl (ly7_4 hL hsb2).1 ?_
        refine j_bipush (v := (18 : Int32)) 43 dX11_truly_41 rfl (by decide) ?_
        refine j_iload_n 44 dX11_truly_43 rfl rfl 3 rfl ?_
        obtain ⟨hg, h⟩ := j_gs h
        refine j_iast 45 dX11_truly_44 rfl (ly7_4 hL hsb2).2 (j_inv hg) ?_
        refine j_iconst (v := (1 : Int32)) 46 dX11_truly_45 rfl (by decide) ?_
        cases h
        exact j_zret dX11_truly_46 rfl j_b01_1
      · replace h := j_neg hc h
        refine j_iconst (v := (0 : Int32)) 36 dX11_truly_35 rfl (by decide) ?_
        cases h
        exact j_zret dX11_truly_36 rfl j_b01_0
def fX11_claim (l1 : Int32) (l2 : Int32) (l3 : Int32) (I : JI) (D : JG) (S : JS) : Option (Int32 × JI) :=
  (fX11_passingAt l1 I D S).bind (fun q1 => j_opt q1 (some ((-1 : Int32), I)) (fun b2 => j_g (decide (S[b2]? = some (7, 9))) ((fX11_isPerson l2).bind (fun q3 => if q3 = 0 then (some ((-1 : Int32), I)) else (if 0 ≤ l3 then ((fX7_judgeClaim b2 l2 l3 (I 1 8) 7 I).bind (fun q4 => if q4 = 0 then ((fX1_move 7 ((j_up I 1 9 ((I 1 9) + (1 : Int32))) (b2 + 1) 0) ((j_up I 1 9 ((I 1 9) + (1 : Int32))) (b2 + 1) 2) l2 ((j_up I 1 9 ((I 1 9) + (1 : Int32))) (b2 + 1) 3) (j_up I 1 9 ((I 1 9) + (1 : Int32)))).bind (fun q5 => j_g (j_in (17 : Int32) 19) (some (q4, (j_up q5 (b2 + 5) (17 : Int32).toNatClampNeg l2))))) else (some (q4, I)))) else (some ((-1 : Int32), I)))))))
set_option maxHeartbeats 4000000 in
set_option maxRecDepth 100000 in
theorem tcX11_claim {E : JE} {l1 : Int32} {l2 : Int32} {l3 : Int32} {r : Int32 × JI} {I : JI} {L : JL} {G D : JG} {S : JS} (hL : Lay G S) (h : fX11_claim l1 l2 l3 I D S = some r) : CallJ E xX11_claim 4 [.ref (E.1 + 0), .int l1, .int l2, .int l3] I L G D S (some (.int r.1)) r.2 L G D S := by
  unfold fX11_claim at h
  refine j_entry (by decide) (Nat.le_of_ble_eq_true rfl) ?_
  show AtJ E xX11_claim (Zr E (some (.int r.1)) r.2 L G D S) ((S).length, jm_sl S) 4 0 [(0, .ref (E.1 + 0)), (1, .int l1), (2, .int l2), (3, .int l3)] [] I L G D S
  refine j_aload_n 1 dX11_claim_0 rfl rfl 0 rfl ?_
  refine j_iload_n 2 dX11_claim_1 rfl rfl 1 rfl ?_
  obtain ⟨q1, hq1, h⟩ := j_bs h
  refine j_callV (rest := []) (As := [.int l1]) 5 dX11_claim_2 rfl jyX11_passingAt (tcX11_passingAt hL  hq1) (sh_0 hL) cl11 flX11_193 wm1005 wm19 (by decide) rfl rfl (Nat.le_of_ble_eq_true rfl) ?_
  rcases j_os h with ⟨hb, h⟩ | ⟨b2, hb, h⟩
  · rw [hb]
    refine j_astoreN (lv' := [(4, .null), (0, .ref (E.1 + 0)), (1, .int l1), (2, .int l2), (3, .int l3)]) 7 dX11_claim_5 rfl (by decide) rfl ?_
    refine j_aloadN 9 dX11_claim_7 rfl 0 rfl ?_
    refine j_ifnullN 23 dX11_claim_9 (by decide) ?_
    refine j_iconst (v := (-1 : Int32)) 24 dX11_claim_23 rfl (by decide) ?_
    cases h
    exact j_iret dX11_claim_24 rfl
  obtain ⟨hsb2, h⟩ := j_gs h
  replace hsb2 := of_decide_eq_true hsb2
  rw [hb]
  refine j_astore (lv' := [(4, .ref (E.1 + b2)), (0, .ref (E.1 + 0)), (1, .int l1), (2, .int l2), (3, .int l3)]) 7 dX11_claim_5 rfl (by decide) rfl ?_
  refine j_aload 9 dX11_claim_7 rfl 0 rfl ?_
  refine j_ifnull 12 dX11_claim_9 rfl ?_
  refine j_iload_n 13 dX11_claim_12 rfl rfl 3 rfl ?_
  obtain ⟨q3, hq3, h⟩ := j_bs h
  refine j_callS (rest := []) (As := [.int l2]) 16 dX11_claim_13 rfl jyX11_isPerson (tcX11_isPerson   hq3) flX11_96 wm642 (by decide) rfl rfl (Nat.le_of_ble_eq_true rfl) ?_
  refine j_if_eq 23 19 dX11_claim_16 (by decide) rfl (fun hc => ?_) (fun hc => ?_)
  · replace h := j_pos hc h
    refine j_iconst (v := (-1 : Int32)) 24 dX11_claim_23 rfl (by decide) ?_
    cases h
    exact j_iret dX11_claim_24 rfl
  · replace h := j_neg hc h
    refine j_iload_n 20 dX11_claim_19 rfl rfl 4 rfl ?_
    refine j_if_ge 25 23 dX11_claim_20 (by decide) rfl (fun hc => ?_) (fun hc => ?_)
    · replace h := j_pos hc h
      refine j_aload 27 dX11_claim_25 rfl 0 rfl ?_
      refine j_iload_n 28 dX11_claim_27 rfl rfl 3 rfl ?_
      refine j_iload_n 29 dX11_claim_28 rfl rfl 4 rfl ?_
      refine j_aload_n 30 dX11_claim_29 rfl rfl 1 rfl ?_
      refine j_getG 33 dX11_claim_30 rfl (sh_0 hL) cl11 (k := 0) (by decide) flX11_10 rfl (gs_0_0 hL) ?_
      refine j_getIN 36 dX11_claim_33 rfl (sh_1 hL) cl9 (k := 8) (by decide) flX11_152 rfl ?_
      refine j_aload_n 37 dX11_claim_36 rfl rfl 1 rfl ?_
      refine j_getG 40 dX11_claim_37 rfl (sh_0 hL) cl11 (k := 1) (by decide) flX11_19 rfl (gs_0_1 hL) ?_
      obtain ⟨q4, hq4, h⟩ := j_bs h
      refine j_callV (rest := []) (As := [.int l2, .int l3, .int (I 1 8), .ref (E.1 + 7)]) 43 dX11_claim_40 rfl jyX7_judgeClaim (tcX7_judgeClaim hL hsb2 (sh_7 hL) hq4) hsb2 cl7 flX11_235 wm1045 wm1046 (by decide) rfl rfl (Nat.le_of_ble_eq_true rfl) ?_
      refine j_istore (lv' := [(5, .int q4), (4, .ref (E.1 + b2)), (0, .ref (E.1 + 0)), (1, .int l1), (2, .int l2), (3, .int l3)]) 45 dX11_claim_43 rfl (by decide) rfl ?_
      refine j_iload 47 dX11_claim_45 rfl 0 rfl ?_
      refine j_if_ne 104 50 dX11_claim_47 (by decide) rfl (fun hc => ?_) (fun hc => ?_)
      · replace h := j_neg hc h
        refine j_iload 106 dX11_claim_104 rfl 0 rfl ?_
        cases h
        exact j_iret dX11_claim_106 rfl
      · replace h := j_pos hc h
        refine j_aload_n 51 dX11_claim_50 rfl rfl 2 rfl ?_
        refine j_getG 54 dX11_claim_51 rfl (sh_0 hL) cl11 (k := 0) (by decide) flX11_10 rfl (gs_0_0 hL) ?_
        refine j_dup 55 dX11_claim_54 rfl rfl ?_
        refine j_getIN 58 dX11_claim_55 rfl (sh_1 hL) cl9 (k := 9) (by decide) flX11_103 rfl ?_
        refine j_iconst (v := (1 : Int32)) 59 dX11_claim_58 rfl (by decide) ?_
        refine j_iadd 60 dX11_claim_59 rfl ?_
        refine j_putIN 63 dX11_claim_60 rfl (sh_1 hL) cl9 (k := 9) (by decide) flX11_103 rfl rfl rfl ?_
        refine j_aload_n 64 dX11_claim_63 rfl rfl 2 rfl ?_
        refine j_getG 67 dX11_claim_64 rfl (sh_0 hL) cl11 (k := 1) (by decide) flX11_19 rfl (gs_0_1 hL) ?_
        refine j_aload 69 dX11_claim_67 rfl 1 rfl ?_
        refine j_getGN 72 dX11_claim_69 rfl hsb2 cl7 (k := 0) (by decide) flX11_225 rfl (ly7_0 hL hsb2).1 ?_
        refine j_getIN 75 dX11_claim_72 rfl (ly7_0 hL hsb2).2 cl0 (k := 0) (by decide) flX11_239 rfl ?_
        refine j_aload 77 dX11_claim_75 rfl 1 rfl ?_
        refine j_getGN 80 dX11_claim_77 rfl hsb2 cl7 (k := 0) (by decide) flX11_225 rfl (ly7_0 hL hsb2).1 ?_
        refine j_getIN 83 dX11_claim_80 rfl (ly7_0 hL hsb2).2 cl0 (k := 2) (by decide) flX11_242 rfl ?_
        refine j_iload_n 84 dX11_claim_83 rfl rfl 4 rfl ?_
        refine j_aload 86 dX11_claim_84 rfl 1 rfl ?_
        refine j_getGN 89 dX11_claim_86 rfl hsb2 cl7 (k := 0) (by decide) flX11_225 rfl (ly7_0 hL hsb2).1 ?_
        refine j_getIN 92 dX11_claim_89 rfl (ly7_0 hL hsb2).2 cl0 (k := 3) (by decide) flX11_245 rfl ?_
        obtain ⟨q5, hq5, h⟩ := j_bs h
        refine j_callV (rest := []) (As := [.int ((j_up I 1 9 ((I 1 9) + (1 : Int32))) (b2 + 1) 0), .int ((j_up I 1 9 ((I 1 9) + (1 : Int32))) (b2 + 1) 2), .int l2, .int ((j_up I 1 9 ((I 1 9) + (1 : Int32))) (b2 + 1) 3)]) 95 dX11_claim_92 rfl jyX1_move (tcX1_move hL (sh_7 hL) hq5) (sh_7 hL) cl1 flX11_122 wm667 wm668 (by decide) rfl rfl (Nat.le_of_ble_eq_true rfl) ?_
        refine j_aload 97 dX11_claim_95 rfl 1 rfl ?_
        refine j_getGN 100 dX11_claim_97 rfl hsb2 cl7 (k := 4) (by decide) flX11_213 rfl (ly7_4 hL hsb2).1 ?_
        refine j_bipush (v := (17 : Int32)) 102 dX11_claim_100 rfl (by decide) ?_
        refine j_iload_n 103 dX11_claim_102 rfl rfl 4 rfl ?_
        obtain ⟨hg, h⟩ := j_gs h
        refine j_iast 104 dX11_claim_103 rfl (ly7_4 hL hsb2).2 (j_inv hg) ?_
        refine j_iload 106 dX11_claim_104 rfl 0 rfl ?_
        cases h
        exact j_iret dX11_claim_106 rfl
    · replace h := j_neg hc h
      refine j_iconst (v := (-1 : Int32)) 24 dX11_claim_23 rfl (by decide) ?_
      cases h
      exact j_iret dX11_claim_24 rfl
def fX11_parted (l1 : Int32) (l2 : Int32) (I : JI) (D : JG) (S : JS) : Option (Int32) :=
  (fX11_passingAt l1 I D S).bind (fun q1 => j_opt q1 (some ((-1 : Int32))) (fun b2 => j_g (decide (S[b2]? = some (7, 9))) ((fX11_isPerson l2).bind (fun q3 => if q3 = 0 then (some ((-1 : Int32))) else (j_g (j_in l2 16) (if (I (b2 + 2) l2.toNatClampNeg) = (-1 : Int32) then (some ((-1 : Int32))) else ((fX7_portion b2 l2 I).bind (fun q4 => some (q4)))))))))
set_option maxHeartbeats 4000000 in
set_option maxRecDepth 100000 in
theorem tcX11_parted {E : JE} {l1 : Int32} {l2 : Int32} {r : Int32} {I : JI} {L : JL} {G D : JG} {S : JS} (hL : Lay G S) (h : fX11_parted l1 l2 I D S = some r) : CallJ E xX11_parted 3 [.ref (E.1 + 0), .int l1, .int l2] I L G D S (some (.int r)) I L G D S := by
  unfold fX11_parted at h
  refine j_entry (by decide) (Nat.le_of_ble_eq_true rfl) ?_
  show AtJ E xX11_parted (Zr E (some (.int r)) I L G D S) ((S).length, jm_sl S) 3 0 [(0, .ref (E.1 + 0)), (1, .int l1), (2, .int l2)] [] I L G D S
  refine j_aload_n 1 dX11_parted_0 rfl rfl 0 rfl ?_
  refine j_iload_n 2 dX11_parted_1 rfl rfl 1 rfl ?_
  obtain ⟨q1, hq1, h⟩ := j_bs h
  refine j_callV (rest := []) (As := [.int l1]) 5 dX11_parted_2 rfl jyX11_passingAt (tcX11_passingAt hL  hq1) (sh_0 hL) cl11 flX11_193 wm1005 wm19 (by decide) rfl rfl (Nat.le_of_ble_eq_true rfl) ?_
  rcases j_os h with ⟨hb, h⟩ | ⟨b2, hb, h⟩
  · rw [hb]
    refine j_astore_nN (lv' := [(3, .null), (0, .ref (E.1 + 0)), (1, .int l1), (2, .int l2)]) 6 dX11_parted_5 rfl rfl (by decide) rfl ?_
    refine j_aload_nN 7 dX11_parted_6 rfl rfl 0 rfl ?_
    refine j_ifnullN 27 dX11_parted_7 (by decide) ?_
    refine j_iconst (v := (-1 : Int32)) 28 dX11_parted_27 rfl (by decide) ?_
    cases h
    exact j_iret dX11_parted_28 rfl
  obtain ⟨hsb2, h⟩ := j_gs h
  replace hsb2 := of_decide_eq_true hsb2
  rw [hb]
  refine j_astore_n (lv' := [(3, .ref (E.1 + b2)), (0, .ref (E.1 + 0)), (1, .int l1), (2, .int l2)]) 6 dX11_parted_5 rfl rfl (by decide) rfl ?_
  refine j_aload_n 7 dX11_parted_6 rfl rfl 0 rfl ?_
  refine j_ifnull 10 dX11_parted_7 rfl ?_
  refine j_iload_n 11 dX11_parted_10 rfl rfl 3 rfl ?_
  obtain ⟨q3, hq3, h⟩ := j_bs h
  refine j_callS (rest := []) (As := [.int l2]) 14 dX11_parted_11 rfl jyX11_isPerson (tcX11_isPerson   hq3) flX11_96 wm642 (by decide) rfl rfl (Nat.le_of_ble_eq_true rfl) ?_
  refine j_if_eq 27 17 dX11_parted_14 (by decide) rfl (fun hc => ?_) (fun hc => ?_)
  · replace h := j_pos hc h
    refine j_iconst (v := (-1 : Int32)) 28 dX11_parted_27 rfl (by decide) ?_
    cases h
    exact j_iret dX11_parted_28 rfl
  · replace h := j_neg hc h
    refine j_aload_n 18 dX11_parted_17 rfl rfl 0 rfl ?_
    refine j_getGN 21 dX11_parted_18 rfl hsb2 cl7 (k := 1) (by decide) flX11_204 rfl (ly7_1 hL hsb2).1 ?_
    refine j_iload_n 22 dX11_parted_21 rfl rfl 3 rfl ?_
    obtain ⟨hg, h⟩ := j_gs h
    refine j_iald 23 dX11_parted_22 rfl (ly7_1 hL hsb2).2 (j_inv hg) ?_
    refine j_iconst (v := (-1 : Int32)) 24 dX11_parted_23 rfl (by decide) ?_
    refine j_icmp_ne 29 27 dX11_parted_24 (by decide) rfl (fun hc => ?_) (fun hc => ?_)
    · replace h := j_neg hc h
      refine j_aload_n 30 dX11_parted_29 rfl rfl 0 rfl ?_
      refine j_iload_n 31 dX11_parted_30 rfl rfl 3 rfl ?_
      obtain ⟨q4, hq4, h⟩ := j_bs h
      refine j_callV (rest := []) (As := [.int l2]) 34 dX11_parted_31 rfl jyX7_portion (tcX7_portion hL hsb2 hq4) hsb2 cl7 flX11_248 wm1068 wm1069 (by decide) rfl rfl (Nat.le_of_ble_eq_true rfl) ?_
      cases h
      exact j_iret dX11_parted_34 rfl
    · replace h := j_pos hc h
      refine j_iconst (v := (-1 : Int32)) 28 dX11_parted_27 rfl (by decide) ?_
      cases h
      exact j_iret dX11_parted_28 rfl
def fX11_isEach (l0 : Int32)  : Option (Int32) :=
  if l0 < 0 then (some ((0 : Int32))) else (if (800 : Int32) < l0 then (some ((0 : Int32))) else (some ((1 : Int32))))
set_option maxHeartbeats 4000000 in
set_option maxRecDepth 100000 in
theorem tcX11_isEach {E : JE} {l0 : Int32} {r : Int32} {I : JI} {L : JL} {G D : JG} {S : JS} (h : fX11_isEach l0 = some r) : CallJ E xX11_isEach 1 [.int l0] I L G D S (some (.int r)) I L G D S := by
  unfold fX11_isEach at h
  refine j_entry (by decide) (Nat.le_of_ble_eq_true rfl) ?_
  show AtJ E xX11_isEach (Zr E (some (.int r)) I L G D S) ((S).length, jm_sl S) 1 0 [(0, .int l0)] [] I L G D S
  refine j_iload_n 1 dX11_isEach_0 rfl rfl 0 rfl ?_
  refine j_if_lt 15 4 dX11_isEach_1 (by decide) rfl (fun hc => ?_) (fun hc => ?_)
  · replace h := j_pos hc h
    refine j_iconst (v := (0 : Int32)) 16 dX11_isEach_15 rfl (by decide) ?_
    cases h
    exact j_zret dX11_isEach_16 rfl j_b01_0
  · replace h := j_neg hc h
    refine j_iload_n 5 dX11_isEach_4 rfl rfl 0 rfl ?_
    refine j_sipush (v := (800 : Int32)) 8 dX11_isEach_5 rfl (by decide) ?_
    refine j_icmp_gt 15 11 dX11_isEach_8 (by decide) rfl (fun hc => ?_) (fun hc => ?_)
    · replace h := j_pos hc h
      refine j_iconst (v := (0 : Int32)) 16 dX11_isEach_15 rfl (by decide) ?_
      cases h
      exact j_zret dX11_isEach_16 rfl j_b01_0
    · replace h := j_neg hc h
      refine j_iconst (v := (1 : Int32)) 12 dX11_isEach_11 rfl (by decide) ?_
      refine j_goto 16 dX11_isEach_12 (by decide) ?_
      cases h
      exact j_zret dX11_isEach_16 rfl j_b01_1
def fX11_canGoRound (l1 : Int32) (l2 : Int32) (l3 : Int32) (l4 : Int32) (I : JI) : Option (Int32) :=
  (fX9_isTold l1 I).bind (fun q1 => if q1 = 0 then (some ((0 : Int32))) else ((fX11_areTwoPeople l2 l3).bind (fun q2 => if q2 = 0 then (some ((0 : Int32))) else ((fX11_isEach l4).bind (fun q3 => if q3 = 0 then (some ((0 : Int32))) else ((fX1_of 7 l1 l2 I).bind (fun q4 => if q4 ≤ 0 then (some ((0 : Int32))) else (some ((1 : Int32))))))))))
set_option maxHeartbeats 4000000 in
set_option maxRecDepth 100000 in
theorem tcX11_canGoRound {E : JE} {l1 : Int32} {l2 : Int32} {l3 : Int32} {l4 : Int32} {r : Int32} {I : JI} {L : JL} {G D : JG} {S : JS} (hL : Lay G S) (h : fX11_canGoRound l1 l2 l3 l4 I = some r) : CallJ E xX11_canGoRound 3 [.ref (E.1 + 0), .int l1, .int l2, .int l3, .int l4] I L G D S (some (.int r)) I L G D S := by
  unfold fX11_canGoRound at h
  refine j_entry (by decide) (Nat.le_of_ble_eq_true rfl) ?_
  show AtJ E xX11_canGoRound (Zr E (some (.int r)) I L G D S) ((S).length, jm_sl S) 3 0 [(0, .ref (E.1 + 0)), (1, .int l1), (2, .int l2), (3, .int l3), (4, .int l4)] [] I L G D S
  refine j_aload_n 1 dX11_canGoRound_0 rfl rfl 0 rfl ?_
  refine j_getG 4 dX11_canGoRound_1 rfl (sh_0 hL) cl11 (k := 0) (by decide) flX11_10 rfl (gs_0_0 hL) ?_
  refine j_iload_n 5 dX11_canGoRound_4 rfl rfl 1 rfl ?_
  obtain ⟨q1, hq1, h⟩ := j_bs h
  refine j_callV (rest := []) (As := [.int l1]) 8 dX11_canGoRound_5 rfl jyX9_isTold (tcX9_isTold hL  hq1) (sh_1 hL) cl9 flX11_100 wm645 wm646 (by decide) rfl rfl (Nat.le_of_ble_eq_true rfl) ?_
  refine j_if_eq 27 11 dX11_canGoRound_8 (by decide) rfl (fun hc => ?_) (fun hc => ?_)
  · replace h := j_pos hc h
    refine j_iconst (v := (0 : Int32)) 28 dX11_canGoRound_27 rfl (by decide) ?_
    cases h
    exact j_zret dX11_canGoRound_28 rfl j_b01_0
  · replace h := j_neg hc h
    refine j_iload_n 12 dX11_canGoRound_11 rfl rfl 2 rfl ?_
    refine j_iload_n 13 dX11_canGoRound_12 rfl rfl 3 rfl ?_
    obtain ⟨q2, hq2, h⟩ := j_bs h
    refine j_callS (rest := []) (As := [.int l2, .int l3]) 16 dX11_canGoRound_13 rfl jyX11_areTwoPeople (tcX11_areTwoPeople   hq2) flX11_114 wm660 (by decide) rfl rfl (Nat.le_of_ble_eq_true rfl) ?_
    refine j_if_eq 27 19 dX11_canGoRound_16 (by decide) rfl (fun hc => ?_) (fun hc => ?_)
    · replace h := j_pos hc h
      refine j_iconst (v := (0 : Int32)) 28 dX11_canGoRound_27 rfl (by decide) ?_
      cases h
      exact j_zret dX11_canGoRound_28 rfl j_b01_0
    · replace h := j_neg hc h
      refine j_iload 21 dX11_canGoRound_19 rfl 4 rfl ?_
      obtain ⟨q3, hq3, h⟩ := j_bs h
      refine j_callS (rest := []) (As := [.int l4]) 24 dX11_canGoRound_21 rfl jyX11_isEach (tcX11_isEach   hq3) flX11_262 wm1084 (by decide) rfl rfl (Nat.le_of_ble_eq_true rfl) ?_
      refine j_if_ne 29 27 dX11_canGoRound_24 (by decide) rfl (fun hc => ?_) (fun hc => ?_)
      · replace h := j_neg hc h
        refine j_aload_n 30 dX11_canGoRound_29 rfl rfl 0 rfl ?_
        refine j_getG 33 dX11_canGoRound_30 rfl (sh_0 hL) cl11 (k := 1) (by decide) flX11_19 rfl (gs_0_1 hL) ?_
        refine j_iload_n 34 dX11_canGoRound_33 rfl rfl 1 rfl ?_
        refine j_iload_n 35 dX11_canGoRound_34 rfl rfl 2 rfl ?_
        obtain ⟨q4, hq4, h⟩ := j_bs h
        refine j_callV (rest := []) (As := [.int l1, .int l2]) 38 dX11_canGoRound_35 rfl jyX1_of (tcX1_of hL (sh_7 hL) hq4) (sh_7 hL) cl1 flX11_118 wm663 wm664 (by decide) rfl rfl (Nat.le_of_ble_eq_true rfl) ?_
        refine j_if_le 45 41 dX11_canGoRound_38 (by decide) rfl (fun hc => ?_) (fun hc => ?_)
        · replace h := j_pos hc h
          refine j_iconst (v := (0 : Int32)) 46 dX11_canGoRound_45 rfl (by decide) ?_
          cases h
          exact j_zret dX11_canGoRound_46 rfl j_b01_0
        · replace h := j_neg hc h
          refine j_iconst (v := (1 : Int32)) 42 dX11_canGoRound_41 rfl (by decide) ?_
          refine j_goto 46 dX11_canGoRound_42 (by decide) ?_
          cases h
          exact j_zret dX11_canGoRound_46 rfl j_b01_1
      · replace h := j_pos hc h
        refine j_iconst (v := (0 : Int32)) 28 dX11_canGoRound_27 rfl (by decide) ?_
        cases h
        exact j_zret dX11_canGoRound_28 rfl j_b01_0
def fX11_sly (l1 : Int32) (l2 : Int32) (l3 : Int32) (l4 : Int32) (I : JI) (L : JL) (D : JG) (S : JS) : Option (Int32 × JI × JG) :=
  (fX11_canGoRound l1 l2 l3 l4 I).bind (fun q1 => if q1 = 0 then (some ((-1 : Int32), I, D)) else ((fX10_findRow l1 l2 l3 l4 I L D S).bind (fun q2 => some (q2.1, q2.2.1, q2.2.2))))
set_option maxHeartbeats 4000000 in
set_option maxRecDepth 100000 in
theorem tcX11_sly {E : JE} {l1 : Int32} {l2 : Int32} {l3 : Int32} {l4 : Int32} {r : Int32 × JI × JG} {I : JI} {L : JL} {G D : JG} {S : JS} (hL : Lay G S) (h : fX11_sly l1 l2 l3 l4 I L D S = some r) : CallJ E xX11_sly 8 [.ref (E.1 + 0), .int l1, .int l2, .int l3, .int l4] I L G D S (some (.int r.1)) r.2.1 L G r.2.2 S := by
  unfold fX11_sly at h
  refine j_entry (by decide) (Nat.le_of_ble_eq_true rfl) ?_
  show AtJ E xX11_sly (Zr E (some (.int r.1)) r.2.1 L G r.2.2 S) ((S).length, jm_sl S) 8 0 [(0, .ref (E.1 + 0)), (1, .int l1), (2, .int l2), (3, .int l3), (4, .int l4)] [] I L G D S
  refine j_aload_n 1 dX11_sly_0 rfl rfl 0 rfl ?_
  refine j_iload_n 2 dX11_sly_1 rfl rfl 1 rfl ?_
  refine j_iload_n 3 dX11_sly_2 rfl rfl 2 rfl ?_
  refine j_iload_n 4 dX11_sly_3 rfl rfl 3 rfl ?_
  refine j_iload 6 dX11_sly_4 rfl 4 rfl ?_
  obtain ⟨q1, hq1, h⟩ := j_bs h
  refine j_callV (rest := []) (As := [.int l1, .int l2, .int l3, .int l4]) 9 dX11_sly_6 rfl jyX11_canGoRound (tcX11_canGoRound hL  hq1) (sh_0 hL) cl11 flX11_251 wm1081 wm24 (by decide) rfl rfl (Nat.le_of_ble_eq_true rfl) ?_
  refine j_if_ne 14 12 dX11_sly_9 (by decide) rfl (fun hc => ?_) (fun hc => ?_)
  · replace h := j_neg hc h
    refine j_aload_n 15 dX11_sly_14 rfl rfl 0 rfl ?_
    refine j_getG 18 dX11_sly_15 rfl (sh_0 hL) cl11 (k := 5) (by decide) flX11_51 rfl (gs_0_5 hL) ?_
    refine j_iload_n 19 dX11_sly_18 rfl rfl 1 rfl ?_
    refine j_iload_n 20 dX11_sly_19 rfl rfl 2 rfl ?_
    refine j_iload_n 21 dX11_sly_20 rfl rfl 3 rfl ?_
    refine j_iload 23 dX11_sly_21 rfl 4 rfl ?_
    obtain ⟨q2, hq2, h⟩ := j_bs h
    refine j_callV (rest := []) (As := [.int l1, .int l2, .int l3, .int l4]) 26 dX11_sly_23 rfl jyX10_findRow (tcX10_findRow hL  hq2) (sh_20 hL) cl10 flX11_255 wm1087 wm1088 (by decide) rfl rfl (Nat.le_of_ble_eq_true rfl) ?_
    cases h
    exact j_iret dX11_sly_26 rfl
  · replace h := j_pos hc h
    refine j_iconst (v := (-1 : Int32)) 13 dX11_sly_12 rfl (by decide) ?_
    cases h
    exact j_iret dX11_sly_13 rfl
def fX11_slyRow (l1 : Int32) (l2 : Int32) (l3 : Int32) (l4 : Int32) (l5 : Int32) (l6 : Int32) (I : JI) (L : JL) (D : JG) (S : JS) : Option (Int32 × JI × JG) :=
  (fX11_canGoRound l1 l2 l3 l4 I).bind (fun q1 => if q1 = 0 then (some ((-1 : Int32), I, D)) else (if l6 < 0 then (some ((-1 : Int32), I, D)) else (if l6 ≤ (2 : Int32) then ((fX10_findRow l1 l2 l3 l4 I L D S).bind (fun q2 => if l5 < 0 then (some ((-1 : Int32), q2.2.1, q2.2.2)) else (if l5 < q2.1 then ((fX10_stepTells ((q2.1 - (1 : Int32)) - l5) l6 q2.2.1).bind (fun q3 => some (q3, q2.2.1, q2.2.2))) else (some ((-1 : Int32), q2.2.1, q2.2.2))))) else (some ((-1 : Int32), I, D)))))
set_option maxHeartbeats 4000000 in
set_option maxRecDepth 100000 in
theorem tcX11_slyRow {E : JE} {l1 : Int32} {l2 : Int32} {l3 : Int32} {l4 : Int32} {l5 : Int32} {l6 : Int32} {r : Int32 × JI × JG} {I : JI} {L : JL} {G D : JG} {S : JS} (hL : Lay G S) (h : fX11_slyRow l1 l2 l3 l4 l5 l6 I L D S = some r) : CallJ E xX11_slyRow 8 [.ref (E.1 + 0), .int l1, .int l2, .int l3, .int l4, .int l5, .int l6] I L G D S (some (.int r.1)) r.2.1 L G r.2.2 S := by
  unfold fX11_slyRow at h
  refine j_entry (by decide) (Nat.le_of_ble_eq_true rfl) ?_
  show AtJ E xX11_slyRow (Zr E (some (.int r.1)) r.2.1 L G r.2.2 S) ((S).length, jm_sl S) 8 0 [(0, .ref (E.1 + 0)), (1, .int l1), (2, .int l2), (3, .int l3), (4, .int l4), (5, .int l5), (6, .int l6)] [] I L G D S
  refine j_aload_n 1 dX11_slyRow_0 rfl rfl 0 rfl ?_
  refine j_iload_n 2 dX11_slyRow_1 rfl rfl 1 rfl ?_
  refine j_iload_n 3 dX11_slyRow_2 rfl rfl 2 rfl ?_
  refine j_iload_n 4 dX11_slyRow_3 rfl rfl 3 rfl ?_
  refine j_iload 6 dX11_slyRow_4 rfl 4 rfl ?_
  obtain ⟨q1, hq1, h⟩ := j_bs h
  refine j_callV (rest := []) (As := [.int l1, .int l2, .int l3, .int l4]) 9 dX11_slyRow_6 rfl jyX11_canGoRound (tcX11_canGoRound hL  hq1) (sh_0 hL) cl11 flX11_251 wm1081 wm24 (by decide) rfl rfl (Nat.le_of_ble_eq_true rfl) ?_
  refine j_if_eq 23 12 dX11_slyRow_9 (by decide) rfl (fun hc => ?_) (fun hc => ?_)
  · replace h := j_pos hc h
    refine j_iconst (v := (-1 : Int32)) 24 dX11_slyRow_23 rfl (by decide) ?_
    cases h
    exact j_iret dX11_slyRow_24 rfl
  · replace h := j_neg hc h
    refine j_iload 14 dX11_slyRow_12 rfl 6 rfl ?_
    refine j_if_lt 23 17 dX11_slyRow_14 (by decide) rfl (fun hc => ?_) (fun hc => ?_)
    · replace h := j_pos hc h
      refine j_iconst (v := (-1 : Int32)) 24 dX11_slyRow_23 rfl (by decide) ?_
      cases h
      exact j_iret dX11_slyRow_24 rfl
    · replace h := j_neg hc h
      refine j_iload 19 dX11_slyRow_17 rfl 6 rfl ?_
      refine j_iconst (v := (2 : Int32)) 20 dX11_slyRow_19 rfl (by decide) ?_
      refine j_icmp_le 25 23 dX11_slyRow_20 (by decide) rfl (fun hc => ?_) (fun hc => ?_)
      · replace h := j_pos hc h
        refine j_aload_n 26 dX11_slyRow_25 rfl rfl 0 rfl ?_
        refine j_getG 29 dX11_slyRow_26 rfl (sh_0 hL) cl11 (k := 5) (by decide) flX11_51 rfl (gs_0_5 hL) ?_
        refine j_iload_n 30 dX11_slyRow_29 rfl rfl 1 rfl ?_
        refine j_iload_n 31 dX11_slyRow_30 rfl rfl 2 rfl ?_
        refine j_iload_n 32 dX11_slyRow_31 rfl rfl 3 rfl ?_
        refine j_iload 34 dX11_slyRow_32 rfl 4 rfl ?_
        obtain ⟨q2, hq2, h⟩ := j_bs h
        refine j_callV (rest := []) (As := [.int l1, .int l2, .int l3, .int l4]) 37 dX11_slyRow_34 rfl jyX10_findRow (tcX10_findRow hL  hq2) (sh_20 hL) cl10 flX11_255 wm1087 wm1088 (by decide) rfl rfl (Nat.le_of_ble_eq_true rfl) ?_
        refine j_istore (lv' := [(7, .int q2.1), (0, .ref (E.1 + 0)), (1, .int l1), (2, .int l2), (3, .int l3), (4, .int l4), (5, .int l5), (6, .int l6)]) 39 dX11_slyRow_37 rfl (by decide) rfl ?_
        refine j_iload 41 dX11_slyRow_39 rfl 6 rfl ?_
        refine j_if_lt 51 44 dX11_slyRow_41 (by decide) rfl (fun hc => ?_) (fun hc => ?_)
        · replace h := j_pos hc h
          refine j_iconst (v := (-1 : Int32)) 52 dX11_slyRow_51 rfl (by decide) ?_
          cases h
          exact j_iret dX11_slyRow_52 rfl
        · replace h := j_neg hc h
          refine j_iload 46 dX11_slyRow_44 rfl 6 rfl ?_
          refine j_iload 48 dX11_slyRow_46 rfl 0 rfl ?_
          refine j_icmp_lt 53 51 dX11_slyRow_48 (by decide) rfl (fun hc => ?_) (fun hc => ?_)
          · replace h := j_pos hc h
            refine j_aload_n 54 dX11_slyRow_53 rfl rfl 1 rfl ?_
            refine j_getG 57 dX11_slyRow_54 rfl (sh_0 hL) cl11 (k := 5) (by decide) flX11_51 rfl (gs_0_5 hL) ?_
            refine j_iload 59 dX11_slyRow_57 rfl 0 rfl ?_
            refine j_iconst (v := (1 : Int32)) 60 dX11_slyRow_59 rfl (by decide) ?_
            refine j_isub 61 dX11_slyRow_60 rfl ?_
            refine j_iload 63 dX11_slyRow_61 rfl 6 rfl ?_
            refine j_isub 64 dX11_slyRow_63 rfl ?_
            refine j_iload 66 dX11_slyRow_64 rfl 7 rfl ?_
            obtain ⟨q3, hq3, h⟩ := j_bs h
            refine j_callV (rest := []) (As := [.int ((q2.1 - (1 : Int32)) - l5), .int l6]) 69 dX11_slyRow_66 rfl jyX10_stepTells (tcX10_stepTells hL  hq3) (sh_20 hL) cl10 flX11_259 wm1156 wm1157 (by decide) rfl rfl (Nat.le_of_ble_eq_true rfl) ?_
            cases h
            exact j_iret dX11_slyRow_69 rfl
          · replace h := j_neg hc h
            refine j_iconst (v := (-1 : Int32)) 52 dX11_slyRow_51 rfl (by decide) ?_
            cases h
            exact j_iret dX11_slyRow_52 rfl
      · replace h := j_neg hc h
        refine j_iconst (v := (-1 : Int32)) 24 dX11_slyRow_23 rfl (by decide) ?_
        cases h
        exact j_iret dX11_slyRow_24 rfl
def fX11_far (l1 : Int32) (l2 : Int32) (l3 : Int32) (l4 : Int32) (I : JI) (L : JL) (D : JG) (S : JS) : Option (Int32 × JI × JL × JG) :=
  (fX11_isPerson l1).bind (fun q1 => if q1 = 0 then (some ((-1 : Int32), I, L, D)) else (if l2 < (1 : Int32) then (some ((-1 : Int32), I, L, D)) else (if (9 : Int32) < l2 then (some ((-1 : Int32), I, L, D)) else ((fX11_isEach l3).bind (fun q2 => if q2 = 0 then (some ((-1 : Int32), I, L, D)) else (if l4 < 0 then (some ((-1 : Int32), I, L, D)) else (if l4 ≤ (2 : Int32) then ((fX2_find l1 l2 l3 I L D S).bind (fun q3 => if l4 = 0 then ((fJ6_bitCount_0f7a4 ((q3.1 33 8) ||| (q3.1 33 10))).bind (fun q5 => some (q5, q3.1, q3.2.1, q3.2.2))) else (if l4 = (1 : Int32) then ((fJ6_bitCount_0f7a4 (q3.1 33 10)).bind (fun q4 => some (q4, q3.1, q3.2.1, q3.2.2))) else (some (((q3.1 33 8) ||| (q3.1 33 10)), q3.1, q3.2.1, q3.2.2))))) else (some ((-1 : Int32), I, L, D)))))))))
set_option maxHeartbeats 4000000 in
set_option maxRecDepth 100000 in
theorem tcX11_far {E : JE} {l1 : Int32} {l2 : Int32} {l3 : Int32} {l4 : Int32} {r : Int32 × JI × JL × JG} {I : JI} {L : JL} {G D : JG} {S : JS} (hL : Lay G S) (h : fX11_far l1 l2 l3 l4 I L D S = some r) : CallJ E xX11_far 8 [.ref (E.1 + 0), .int l1, .int l2, .int l3, .int l4] I L G D S (some (.int r.1)) r.2.1 r.2.2.1 G r.2.2.2 S := by
  unfold fX11_far at h
  refine j_entry (by decide) (Nat.le_of_ble_eq_true rfl) ?_
  show AtJ E xX11_far (Zr E (some (.int r.1)) r.2.1 r.2.2.1 G r.2.2.2 S) ((S).length, jm_sl S) 8 0 [(0, .ref (E.1 + 0)), (1, .int l1), (2, .int l2), (3, .int l3), (4, .int l4)] [] I L G D S
  refine j_iload_n 1 dX11_far_0 rfl rfl 1 rfl ?_
  obtain ⟨q1, hq1, h⟩ := j_bs h
  refine j_callS (rest := []) (As := [.int l1]) 4 dX11_far_1 rfl jyX11_isPerson (tcX11_isPerson   hq1) flX11_96 wm642 (by decide) rfl rfl (Nat.le_of_ble_eq_true rfl) ?_
  refine j_if_eq 36 7 dX11_far_4 (by decide) rfl (fun hc => ?_) (fun hc => ?_)
  · replace h := j_pos hc h
    refine j_iconst (v := (-1 : Int32)) 37 dX11_far_36 rfl (by decide) ?_
    cases h
    exact j_iret dX11_far_37 rfl
  · replace h := j_neg hc h
    refine j_iload_n 8 dX11_far_7 rfl rfl 2 rfl ?_
    refine j_iconst (v := (1 : Int32)) 9 dX11_far_8 rfl (by decide) ?_
    refine j_icmp_lt 36 12 dX11_far_9 (by decide) rfl (fun hc => ?_) (fun hc => ?_)
    · replace h := j_pos hc h
      refine j_iconst (v := (-1 : Int32)) 37 dX11_far_36 rfl (by decide) ?_
      cases h
      exact j_iret dX11_far_37 rfl
    · replace h := j_neg hc h
      refine j_iload_n 13 dX11_far_12 rfl rfl 2 rfl ?_
      refine j_bipush (v := (9 : Int32)) 15 dX11_far_13 rfl (by decide) ?_
      refine j_icmp_gt 36 18 dX11_far_15 (by decide) rfl (fun hc => ?_) (fun hc => ?_)
      · replace h := j_pos hc h
        refine j_iconst (v := (-1 : Int32)) 37 dX11_far_36 rfl (by decide) ?_
        cases h
        exact j_iret dX11_far_37 rfl
      · replace h := j_neg hc h
        refine j_iload_n 19 dX11_far_18 rfl rfl 3 rfl ?_
        obtain ⟨q2, hq2, h⟩ := j_bs h
        refine j_callS (rest := []) (As := [.int l3]) 22 dX11_far_19 rfl jyX11_isEach (tcX11_isEach   hq2) flX11_262 wm1084 (by decide) rfl rfl (Nat.le_of_ble_eq_true rfl) ?_
        refine j_if_eq 36 25 dX11_far_22 (by decide) rfl (fun hc => ?_) (fun hc => ?_)
        · replace h := j_pos hc h
          refine j_iconst (v := (-1 : Int32)) 37 dX11_far_36 rfl (by decide) ?_
          cases h
          exact j_iret dX11_far_37 rfl
        · replace h := j_neg hc h
          refine j_iload 27 dX11_far_25 rfl 4 rfl ?_
          refine j_if_lt 36 30 dX11_far_27 (by decide) rfl (fun hc => ?_) (fun hc => ?_)
          · replace h := j_pos hc h
            refine j_iconst (v := (-1 : Int32)) 37 dX11_far_36 rfl (by decide) ?_
            cases h
            exact j_iret dX11_far_37 rfl
          · replace h := j_neg hc h
            refine j_iload 32 dX11_far_30 rfl 4 rfl ?_
            refine j_iconst (v := (2 : Int32)) 33 dX11_far_32 rfl (by decide) ?_
            refine j_icmp_le 38 36 dX11_far_33 (by decide) rfl (fun hc => ?_) (fun hc => ?_)
            · replace h := j_pos hc h
              refine j_aload_n 39 dX11_far_38 rfl rfl 0 rfl ?_
              refine j_getG 42 dX11_far_39 rfl (sh_0 hL) cl11 (k := 7) (by decide) flX11_67 rfl (gs_0_7 hL) ?_
              refine j_iload_n 43 dX11_far_42 rfl rfl 1 rfl ?_
              refine j_iload_n 44 dX11_far_43 rfl rfl 2 rfl ?_
              refine j_iload_n 45 dX11_far_44 rfl rfl 3 rfl ?_
              obtain ⟨q3, hq3, h⟩ := j_bs h
              refine j_callV (rest := []) (As := [.int l1, .int l2, .int l3]) 48 dX11_far_45 rfl jyX2_find (tcX2_find hL  hq3) (sh_33 hL) cl2 flX11_265 wm1164 wm1165 (by decide) rfl rfl (Nat.le_of_ble_eq_true rfl) ?_
              refine j_iload 50 dX11_far_48 rfl 4 rfl ?_
              refine j_if_ne 72 53 dX11_far_50 (by decide) rfl (fun hc => ?_) (fun hc => ?_)
              · replace h := j_neg hc h
                refine j_iload 74 dX11_far_72 rfl 4 rfl ?_
                refine j_iconst (v := (1 : Int32)) 75 dX11_far_74 rfl (by decide) ?_
                refine j_icmp_ne 91 78 dX11_far_75 (by decide) rfl (fun hc => ?_) (fun hc => ?_)
                · replace h := j_neg hc h
                  refine j_aload_n 92 dX11_far_91 rfl rfl 0 rfl ?_
                  refine j_getG 95 dX11_far_92 rfl (sh_0 hL) cl11 (k := 7) (by decide) flX11_67 rfl (gs_0_7 hL) ?_
                  refine j_getIN 98 dX11_far_95 rfl (sh_33 hL) cl2 (k := 8) (by decide) flX11_268 rfl ?_
                  refine j_aload_n 99 dX11_far_98 rfl rfl 0 rfl ?_
                  refine j_getG 102 dX11_far_99 rfl (sh_0 hL) cl11 (k := 7) (by decide) flX11_67 rfl (gs_0_7 hL) ?_
                  refine j_getIN 105 dX11_far_102 rfl (sh_33 hL) cl2 (k := 10) (by decide) flX11_271 rfl ?_
                  refine j_ior 106 dX11_far_105 rfl ?_
                  cases h
                  exact j_iret dX11_far_106 rfl
                · replace h := j_pos hc h
                  refine j_aload_n 79 dX11_far_78 rfl rfl 0 rfl ?_
                  refine j_getG 82 dX11_far_79 rfl (sh_0 hL) cl11 (k := 7) (by decide) flX11_67 rfl (gs_0_7 hL) ?_
                  refine j_getIN 85 dX11_far_82 rfl (sh_33 hL) cl2 (k := 10) (by decide) flX11_271 rfl ?_
                  obtain ⟨q4, hq4, h⟩ := j_bs h
                  refine j_callS (rest := []) (As := [.int (q3.1 33 10)]) 88 dX11_far_85 rfl jyJ6_bitCount_0f7a4 (tcJ6_bitCount_0f7a4   hq4) flX11_274 wm1176 (by decide) rfl rfl (Nat.le_of_ble_eq_true rfl) ?_
                  refine j_goto 106 dX11_far_88 (by decide) ?_
                  cases h
                  exact j_iret dX11_far_106 rfl
              · replace h := j_pos hc h
                refine j_aload_n 54 dX11_far_53 rfl rfl 0 rfl ?_
                refine j_getG 57 dX11_far_54 rfl (sh_0 hL) cl11 (k := 7) (by decide) flX11_67 rfl (gs_0_7 hL) ?_
                refine j_getIN 60 dX11_far_57 rfl (sh_33 hL) cl2 (k := 8) (by decide) flX11_268 rfl ?_
                refine j_aload_n 61 dX11_far_60 rfl rfl 0 rfl ?_
                refine j_getG 64 dX11_far_61 rfl (sh_0 hL) cl11 (k := 7) (by decide) flX11_67 rfl (gs_0_7 hL) ?_
                refine j_getIN 67 dX11_far_64 rfl (sh_33 hL) cl2 (k := 10) (by decide) flX11_271 rfl ?_
                refine j_ior 68 dX11_far_67 rfl ?_
                obtain ⟨q5, hq5, h⟩ := j_bs h
                refine j_callS (rest := []) (As := [.int ((q3.1 33 8) ||| (q3.1 33 10))]) 71 dX11_far_68 rfl jyJ6_bitCount_0f7a4 (tcJ6_bitCount_0f7a4   hq5) flX11_274 wm1176 (by decide) rfl rfl (Nat.le_of_ble_eq_true rfl) ?_
                cases h
                exact j_iret dX11_far_71 rfl
            · replace h := j_neg hc h
              refine j_iconst (v := (-1 : Int32)) 37 dX11_far_36 rfl (by decide) ?_
              cases h
              exact j_iret dX11_far_37 rfl
def fX11_mended (l1 : Int32) (l2 : Int32) (l3 : Int32) (l4 : Int32) (l5 : Int32) (I : JI) (L : JL) (D : JG) (S : JS) : Option (Int32 × JI × JL × JG) :=
  (fX11_canGoRound l1 l2 l3 l4 I).bind (fun q1 => if q1 = 0 then (some ((-1 : Int32), I, L, D)) else (if l5 < 0 then (some ((-1 : Int32), I, L, D)) else (if l5 ≤ (1 : Int32) then ((fX6_find l1 l2 l3 l4 I L D S).bind (fun q2 => if q2.1 = (-1 : Int32) then (some (q2.1, q2.2.1, q2.2.2.1, q2.2.2.2)) else (if l5 = (1 : Int32) then (some (q2.1, q2.2.1, q2.2.2.1, q2.2.2.2)) else ((fJ6_bitCount_0f7a4 q2.1).bind (fun q3 => some (q3, q2.2.1, q2.2.2.1, q2.2.2.2)))))) else (some ((-1 : Int32), I, L, D)))))
set_option maxHeartbeats 4000000 in
set_option maxRecDepth 100000 in
theorem tcX11_mended {E : JE} {l1 : Int32} {l2 : Int32} {l3 : Int32} {l4 : Int32} {l5 : Int32} {r : Int32 × JI × JL × JG} {I : JI} {L : JL} {G D : JG} {S : JS} (hL : Lay G S) (h : fX11_mended l1 l2 l3 l4 l5 I L D S = some r) : CallJ E xX11_mended 8 [.ref (E.1 + 0), .int l1, .int l2, .int l3, .int l4, .int l5] I L G D S (some (.int r.1)) r.2.1 r.2.2.1 G r.2.2.2 S := by
  unfold fX11_mended at h
  refine j_entry (by decide) (Nat.le_of_ble_eq_true rfl) ?_
  show AtJ E xX11_mended (Zr E (some (.int r.1)) r.2.1 r.2.2.1 G r.2.2.2 S) ((S).length, jm_sl S) 8 0 [(0, .ref (E.1 + 0)), (1, .int l1), (2, .int l2), (3, .int l3), (4, .int l4), (5, .int l5)] [] I L G D S
  refine j_aload_n 1 dX11_mended_0 rfl rfl 0 rfl ?_
  refine j_iload_n 2 dX11_mended_1 rfl rfl 1 rfl ?_
  refine j_iload_n 3 dX11_mended_2 rfl rfl 2 rfl ?_
  refine j_iload_n 4 dX11_mended_3 rfl rfl 3 rfl ?_
  refine j_iload 6 dX11_mended_4 rfl 4 rfl ?_
  obtain ⟨q1, hq1, h⟩ := j_bs h
  refine j_callV (rest := []) (As := [.int l1, .int l2, .int l3, .int l4]) 9 dX11_mended_6 rfl jyX11_canGoRound (tcX11_canGoRound hL  hq1) (sh_0 hL) cl11 flX11_251 wm1081 wm24 (by decide) rfl rfl (Nat.le_of_ble_eq_true rfl) ?_
  refine j_if_eq 23 12 dX11_mended_9 (by decide) rfl (fun hc => ?_) (fun hc => ?_)
  · replace h := j_pos hc h
    refine j_iconst (v := (-1 : Int32)) 24 dX11_mended_23 rfl (by decide) ?_
    cases h
    exact j_iret dX11_mended_24 rfl
  · replace h := j_neg hc h
    refine j_iload 14 dX11_mended_12 rfl 5 rfl ?_
    refine j_if_lt 23 17 dX11_mended_14 (by decide) rfl (fun hc => ?_) (fun hc => ?_)
    · replace h := j_pos hc h
      refine j_iconst (v := (-1 : Int32)) 24 dX11_mended_23 rfl (by decide) ?_
      cases h
      exact j_iret dX11_mended_24 rfl
    · replace h := j_neg hc h
      refine j_iload 19 dX11_mended_17 rfl 5 rfl ?_
      refine j_iconst (v := (1 : Int32)) 20 dX11_mended_19 rfl (by decide) ?_
      refine j_icmp_le 25 23 dX11_mended_20 (by decide) rfl (fun hc => ?_) (fun hc => ?_)
      · replace h := j_pos hc h
        refine j_aload_n 26 dX11_mended_25 rfl rfl 0 rfl ?_
        refine j_getG 29 dX11_mended_26 rfl (sh_0 hL) cl11 (k := 6) (by decide) flX11_60 rfl (gs_0_6 hL) ?_
        refine j_iload_n 30 dX11_mended_29 rfl rfl 1 rfl ?_
        refine j_iload_n 31 dX11_mended_30 rfl rfl 2 rfl ?_
        refine j_iload_n 32 dX11_mended_31 rfl rfl 3 rfl ?_
        refine j_iload 34 dX11_mended_32 rfl 4 rfl ?_
        obtain ⟨q2, hq2, h⟩ := j_bs h
        refine j_callV (rest := []) (As := [.int l1, .int l2, .int l3, .int l4]) 37 dX11_mended_34 rfl jyX6_find (tcX6_find hL  hq2) (sh_30 hL) cl6 flX11_290 wm1225 wm1226 (by decide) rfl rfl (Nat.le_of_ble_eq_true rfl) ?_
        refine j_istore (lv' := [(6, .int q2.1), (0, .ref (E.1 + 0)), (1, .int l1), (2, .int l2), (3, .int l3), (4, .int l4), (5, .int l5)]) 39 dX11_mended_37 rfl (by decide) rfl ?_
        refine j_iload 41 dX11_mended_39 rfl 0 rfl ?_
        refine j_iconst (v := (-1 : Int32)) 42 dX11_mended_41 rfl (by decide) ?_
        refine j_icmp_eq 51 45 dX11_mended_42 (by decide) rfl (fun hc => ?_) (fun hc => ?_)
        · replace h := j_pos hc h
          refine j_iload 53 dX11_mended_51 rfl 0 rfl ?_
          cases h
          exact j_iret dX11_mended_53 rfl
        · replace h := j_neg hc h
          refine j_iload 47 dX11_mended_45 rfl 6 rfl ?_
          refine j_iconst (v := (1 : Int32)) 48 dX11_mended_47 rfl (by decide) ?_
          refine j_icmp_ne 54 51 dX11_mended_48 (by decide) rfl (fun hc => ?_) (fun hc => ?_)
          · replace h := j_neg hc h
            refine j_iload 56 dX11_mended_54 rfl 0 rfl ?_
            obtain ⟨q3, hq3, h⟩ := j_bs h
            refine j_callS (rest := []) (As := [.int q2.1]) 59 dX11_mended_56 rfl jyJ6_bitCount_0f7a4 (tcJ6_bitCount_0f7a4   hq3) flX11_274 wm1176 (by decide) rfl rfl (Nat.le_of_ble_eq_true rfl) ?_
            cases h
            exact j_iret dX11_mended_59 rfl
          · replace h := j_pos hc h
            refine j_iload 53 dX11_mended_51 rfl 0 rfl ?_
            cases h
            exact j_iret dX11_mended_53 rfl
      · replace h := j_neg hc h
        refine j_iconst (v := (-1 : Int32)) 24 dX11_mended_23 rfl (by decide) ?_
        cases h
        exact j_iret dX11_mended_24 rfl
def fX11_goBack_59 : Nat → Nat → Int32 → JI → JG → JS → Option (Int32 × JI)
  | 0, _, _, _, _, _ => none
  | n + 1, l2, l3, I, D, S =>
    if (4 : Int32) ≤ l3 then (some ((1 : Int32), I)) else (j_g (j_in l3 4) (j_opt (D 43 l3.toNatClampNeg) ((fX11_goBack_59 n) l2 (l3 + (1 : Int32)) I D S) (fun b3 => j_g (decide (S[b3]? = some (5, 6))) (j_g (j_in l3 4) (j_opt (D 43 l3.toNatClampNeg) (none) (fun b4 => j_g (decide (S[b4]? = some (5, 6))) (if (I b4 2) ≤ (I l2 2) then ((fX11_goBack_59 n) l2 (l3 + (1 : Int32)) I D S) else (j_g (j_in l3 4) (j_opt (D 43 l3.toNatClampNeg) (none) (fun b5 => j_g (decide (S[b5]? = some (5, 6))) ((fX11_goBack_59 n) l2 (l3 + (1 : Int32)) (j_up I b5 2 (0 : Int32)) D S)))))))))))
set_option maxHeartbeats 4000000 in
set_option maxRecDepth 100000 in
theorem kX11_goBack_59 {E : JE} {r : Int32 × JI} {L : JL} {G : JG} {S : JS} (hL : Lay G S) : ∀ (n : Nat) (l2 : Nat) (l3 : Int32) (I : JI) (D : JG), S[l2]? = some (5, 6) → fX11_goBack_59 n l2 l3 I D S = some r → AtJ E xX11_goBack (Zr E (some (.int r.1)) r.2 L G D S) ((S).length, jm_sl S) 5 59 [(0, .ref (E.1 + 0)), (2, .ref (E.1 + l2)), (3, .int l3)] [] I L G D S := by
  intro n
  induction n with
  | zero => intro l2 l3 I D h2 h; simp [fX11_goBack_59] at h
  | succ n ih =>
    intro l2 l3 I D h2 h
    rw [fX11_goBack_59] at h
    refine j_iload_n 60 dX11_goBack_59 rfl rfl 2 rfl ?_
    refine j_iconst (v := (4 : Int32)) 61 dX11_goBack_60 rfl (by decide) ?_
    refine j_icmp_ge 105 64 dX11_goBack_61 (by decide) rfl (fun hc => ?_) (fun hc => ?_)
    · replace h := j_pos hc h
      refine j_iconst (v := (1 : Int32)) 106 dX11_goBack_105 rfl (by decide) ?_
      cases h
      exact j_zret dX11_goBack_106 rfl j_b01_1
    · replace h := j_neg hc h
      refine j_aload_n 65 dX11_goBack_64 rfl rfl 0 rfl ?_
      refine j_getG 68 dX11_goBack_65 rfl (sh_0 hL) cl11 (k := 9) (by decide) flX11_79 rfl (gs_0_9 hL) ?_
      refine j_iload_n 69 dX11_goBack_68 rfl rfl 2 rfl ?_
      obtain ⟨hg, h⟩ := j_gs h
      rcases j_os h with ⟨hb, h⟩ | ⟨b3, hb, h⟩
      · refine j_aaldN 70 dX11_goBack_69 rfl (sh_43 hL) (by decide) (by decide) (fun _ => rfl) (i0 := 5) rfl (j_inv hg) hb ?_
        refine j_ifnullN 99 dX11_goBack_70 (by decide) ?_
        refine j_iinc (v := (l3 + (1 : Int32))) (lv' := [(3, .int (l3 + (1 : Int32))), (0, .ref (E.1 + 0)), (2, .ref (E.1 + l2))]) (q := 2) 102 dX11_goBack_99 rfl rfl rfl (by decide) rfl ?_
        refine j_goto 59 dX11_goBack_102 (by decide) ?_
        refine j_sub [1, 2, 0] rfl ?_
        exact ih _ _ _ _ h2 h
      obtain ⟨hsb3, h⟩ := j_gs h
      replace hsb3 := of_decide_eq_true hsb3
      refine j_aald 70 dX11_goBack_69 rfl (sh_43 hL) (by decide) (by decide) (fun _ => rfl) (i0 := 5) rfl (j_inv hg) hb ?_
      refine j_ifnull 73 dX11_goBack_70 rfl ?_
      refine j_aload_n 74 dX11_goBack_73 rfl rfl 0 rfl ?_
      refine j_getG 77 dX11_goBack_74 rfl (sh_0 hL) cl11 (k := 9) (by decide) flX11_79 rfl (gs_0_9 hL) ?_
      refine j_iload_n 78 dX11_goBack_77 rfl rfl 2 rfl ?_
      obtain ⟨hg, h⟩ := j_gs h
      rcases j_os h with ⟨hb, h⟩ | ⟨b4, hb, h⟩
      · refine j_aaldN 79 dX11_goBack_78 rfl (sh_43 hL) (by decide) (by decide) (fun _ => rfl) (i0 := 5) rfl (j_inv hg) hb ?_
        cases h
      obtain ⟨hsb4, h⟩ := j_gs h
      replace hsb4 := of_decide_eq_true hsb4
      refine j_aald 79 dX11_goBack_78 rfl (sh_43 hL) (by decide) (by decide) (fun _ => rfl) (i0 := 5) rfl (j_inv hg) hb ?_
      refine j_getIN 82 dX11_goBack_79 rfl hsb4 cl5 (k := 2) (by decide) flX11_313 rfl ?_
      refine j_aload_n 83 dX11_goBack_82 rfl rfl 1 rfl ?_
      refine j_getIN 86 dX11_goBack_83 rfl h2 cl5 (k := 2) (by decide) flX11_313 rfl ?_
      refine j_icmp_le 99 89 dX11_goBack_86 (by decide) rfl (fun hc => ?_) (fun hc => ?_)
      · replace h := j_pos hc h
        refine j_iinc (v := (l3 + (1 : Int32))) (lv' := [(3, .int (l3 + (1 : Int32))), (0, .ref (E.1 + 0)), (2, .ref (E.1 + l2))]) (q := 2) 102 dX11_goBack_99 rfl rfl rfl (by decide) rfl ?_
        refine j_goto 59 dX11_goBack_102 (by decide) ?_
        refine j_sub [1, 2, 0] rfl ?_
        exact ih _ _ _ _ h2 h
      · replace h := j_neg hc h
        refine j_aload_n 90 dX11_goBack_89 rfl rfl 0 rfl ?_
        refine j_getG 93 dX11_goBack_90 rfl (sh_0 hL) cl11 (k := 9) (by decide) flX11_79 rfl (gs_0_9 hL) ?_
        refine j_iload_n 94 dX11_goBack_93 rfl rfl 2 rfl ?_
        obtain ⟨hg, h⟩ := j_gs h
        rcases j_os h with ⟨hb, h⟩ | ⟨b5, hb, h⟩
        · refine j_aaldN 95 dX11_goBack_94 rfl (sh_43 hL) (by decide) (by decide) (fun _ => rfl) (i0 := 5) rfl (j_inv hg) hb ?_
          refine j_iconst (v := (0 : Int32)) 96 dX11_goBack_95 rfl (by decide) ?_
          cases h
        obtain ⟨hsb5, h⟩ := j_gs h
        replace hsb5 := of_decide_eq_true hsb5
        refine j_aald 95 dX11_goBack_94 rfl (sh_43 hL) (by decide) (by decide) (fun _ => rfl) (i0 := 5) rfl (j_inv hg) hb ?_
        refine j_iconst (v := (0 : Int32)) 96 dX11_goBack_95 rfl (by decide) ?_
        refine j_putIN 99 dX11_goBack_96 rfl hsb5 cl5 (k := 2) (by decide) flX11_313 rfl rfl rfl ?_
        refine j_iinc (v := (l3 + (1 : Int32))) (lv' := [(3, .int (l3 + (1 : Int32))), (0, .ref (E.1 + 0)), (2, .ref (E.1 + l2))]) (q := 2) 102 dX11_goBack_99 rfl rfl rfl (by decide) rfl ?_
        refine j_goto 59 dX11_goBack_102 (by decide) ?_
        refine j_sub [1, 2, 0] rfl ?_
        exact ih _ _ _ _ h2 h
def fX11_goBack (l1 : Int32) (I : JI) (D : JG) (S : JS) : Option (Int32 × JI) :=
  j_g (j_in l1 4) (j_opt (D 43 l1.toNatClampNeg) (some ((0 : Int32), I)) (fun b1 => j_g (decide (S[b1]? = some (5, 6))) (if (I b1 2) = 0 then (some ((0 : Int32), I)) else ((fX5_restore b1 7 (j_up I 1 9 ((I 1 9) + (1 : Int32))) D S).bind (fun q2 => fX11_goBack_59 100000 b1 (0 : Int32) (j_up q2 0 12 (q2 b1 5)) D S)))))
set_option maxHeartbeats 4000000 in
set_option maxRecDepth 100000 in
theorem tcX11_goBack {E : JE} {l1 : Int32} {r : Int32 × JI} {I : JI} {L : JL} {G D : JG} {S : JS} (hL : Lay G S) (h : fX11_goBack l1 I D S = some r) : CallJ E xX11_goBack 5 [.ref (E.1 + 0), .int l1] I L G D S (some (.int r.1)) r.2 L G D S := by
  unfold fX11_goBack at h
  refine j_entry (by decide) (Nat.le_of_ble_eq_true rfl) ?_
  show AtJ E xX11_goBack (Zr E (some (.int r.1)) r.2 L G D S) ((S).length, jm_sl S) 5 0 [(0, .ref (E.1 + 0)), (1, .int l1)] [] I L G D S
  refine j_aload_n 1 dX11_goBack_0 rfl rfl 0 rfl ?_
  refine j_getG 4 dX11_goBack_1 rfl (sh_0 hL) cl11 (k := 9) (by decide) flX11_79 rfl (gs_0_9 hL) ?_
  refine j_iload_n 5 dX11_goBack_4 rfl rfl 1 rfl ?_
  obtain ⟨hg, h⟩ := j_gs h
  rcases j_os h with ⟨hb, h⟩ | ⟨b1, hb, h⟩
  · refine j_aaldN 6 dX11_goBack_5 rfl (sh_43 hL) (by decide) (by decide) (fun _ => rfl) (i0 := 5) rfl (j_inv hg) hb ?_
    refine j_astore_nN (lv' := [(2, .null), (0, .ref (E.1 + 0)), (1, .int l1)]) 7 dX11_goBack_6 rfl rfl (by decide) rfl ?_
    refine j_aload_nN 8 dX11_goBack_7 rfl rfl 0 rfl ?_
    refine j_ifnullN 18 dX11_goBack_8 (by decide) ?_
    refine j_iconst (v := (0 : Int32)) 19 dX11_goBack_18 rfl (by decide) ?_
    cases h
    exact j_zret dX11_goBack_19 rfl j_b01_0
  obtain ⟨hsb1, h⟩ := j_gs h
  replace hsb1 := of_decide_eq_true hsb1
  refine j_aald 6 dX11_goBack_5 rfl (sh_43 hL) (by decide) (by decide) (fun _ => rfl) (i0 := 5) rfl (j_inv hg) hb ?_
  refine j_astore_n (lv' := [(2, .ref (E.1 + b1)), (0, .ref (E.1 + 0)), (1, .int l1)]) 7 dX11_goBack_6 rfl rfl (by decide) rfl ?_
  refine j_aload_n 8 dX11_goBack_7 rfl rfl 0 rfl ?_
  refine j_ifnull 11 dX11_goBack_8 rfl ?_
  refine j_aload_n 12 dX11_goBack_11 rfl rfl 0 rfl ?_
  refine j_getIN 15 dX11_goBack_12 rfl hsb1 cl5 (k := 2) (by decide) flX11_313 rfl ?_
  refine j_if_ne 20 18 dX11_goBack_15 (by decide) rfl (fun hc => ?_) (fun hc => ?_)
  · replace h := j_neg hc h
    refine j_aload_n 21 dX11_goBack_20 rfl rfl 1 rfl ?_
    refine j_getG 24 dX11_goBack_21 rfl (sh_0 hL) cl11 (k := 0) (by decide) flX11_10 rfl (gs_0_0 hL) ?_
    refine j_dup 25 dX11_goBack_24 rfl rfl ?_
    refine j_getIN 28 dX11_goBack_25 rfl (sh_1 hL) cl9 (k := 9) (by decide) flX11_103 rfl ?_
    refine j_iconst (v := (1 : Int32)) 29 dX11_goBack_28 rfl (by decide) ?_
    refine j_iadd 30 dX11_goBack_29 rfl ?_
    refine j_putIN 33 dX11_goBack_30 rfl (sh_1 hL) cl9 (k := 9) (by decide) flX11_103 rfl rfl rfl ?_
    refine j_aload_n 34 dX11_goBack_33 rfl rfl 0 rfl ?_
    refine j_aload_n 35 dX11_goBack_34 rfl rfl 1 rfl ?_
    refine j_getG 38 dX11_goBack_35 rfl (sh_0 hL) cl11 (k := 0) (by decide) flX11_10 rfl (gs_0_0 hL) ?_
    refine j_aload_n 39 dX11_goBack_38 rfl rfl 1 rfl ?_
    refine j_getG 42 dX11_goBack_39 rfl (sh_0 hL) cl11 (k := 1) (by decide) flX11_19 rfl (gs_0_1 hL) ?_
    refine j_aload_n 43 dX11_goBack_42 rfl rfl 1 rfl ?_
    refine j_getG 46 dX11_goBack_43 rfl (sh_0 hL) cl11 (k := 8) (by decide) flX11_73 rfl (gs_0_8 hL) ?_
    obtain ⟨q2, hq2, h⟩ := j_bs h
    refine j_callV (rest := []) (As := [.ref (E.1 + 1), .ref (E.1 + 7), .ref (E.1 + 42)]) 49 dX11_goBack_46 rfl jyX5_restore (tcX5_restore hL hsb1 (sh_7 hL) hq2) hsb1 cl5 flX11_316 wm1265 wm1266 (by decide) rfl rfl (Nat.le_of_ble_eq_true rfl) ?_
    refine j_aload_n 50 dX11_goBack_49 rfl rfl 1 rfl ?_
    refine j_aload_n 51 dX11_goBack_50 rfl rfl 0 rfl ?_
    refine j_getIN 54 dX11_goBack_51 rfl hsb1 cl5 (k := 5) (by decide) flX11_320 rfl ?_
    refine j_putI 57 dX11_goBack_54 rfl (sh_0 hL) cl11 (k := 12) (by decide) flX11_178 rfl rfl rfl ?_
    refine j_iconst (v := (0 : Int32)) 58 dX11_goBack_57 rfl (by decide) ?_
    refine j_istore_n (lv' := [(3, .int (0 : Int32)), (2, .ref (E.1 + b1)), (0, .ref (E.1 + 0)), (1, .int l1)]) 59 dX11_goBack_58 rfl rfl (by decide) rfl ?_
    refine j_sub [2, 1, 0] rfl ?_
    exact kX11_goBack_59 hL    100000 _ _ _ _ hsb1 h
  · replace h := j_pos hc h
    refine j_iconst (v := (0 : Int32)) 19 dX11_goBack_18 rfl (by decide) ?_
    cases h
    exact j_zret dX11_goBack_19 rfl j_b01_0
def fX11_takenOnes_4 : Nat → Int32 → Int32 → JI → JG → JS → Option (Int32)
  | 0, _, _, _, _, _ => none
  | n + 1, l1, l2, I, D, S =>
    if (I 0 12) ≤ l2 then (some (l1)) else (if (40 : Int32) ≤ l2 then (some (l1)) else (j_g (j_in l2 40) (j_opt (D 42 l2.toNatClampNeg) ((fX11_takenOnes_4 n) l1 (l2 + (1 : Int32)) I D S) (fun b1 => j_g (decide (S[b1]? = some (7, 9))) (j_g (j_in l2 40) (j_opt (D 42 l2.toNatClampNeg) (none) (fun b2 => j_g (decide (S[b2]? = some (7, 9))) ((fX7_isTaken b2 I).bind (fun q3 => if q3 = 0 then ((fX11_takenOnes_4 n) l1 (l2 + (1 : Int32)) I D S) else ((fX11_takenOnes_4 n) (l1 + (1 : Int32)) (l2 + (1 : Int32)) I D S))))))))))
set_option maxHeartbeats 4000000 in
set_option maxRecDepth 100000 in
theorem kX11_takenOnes_4 {E : JE} {r : Int32} {L : JL} {G : JG} {S : JS} (hL : Lay G S) : ∀ (n : Nat) (l1 : Int32) (l2 : Int32) (I : JI) (D : JG), fX11_takenOnes_4 n l1 l2 I D S = some r → AtJ E xX11_takenOnes (Zr E (some (.int r)) I L G D S) ((S).length, jm_sl S) 2 4 [(0, .ref (E.1 + 0)), (1, .int l1), (2, .int l2)] [] I L G D S := by
  intro n
  induction n with
  | zero => intro l1 l2 I D  h; simp [fX11_takenOnes_4] at h
  | succ n ih =>
    intro l1 l2 I D  h
    rw [fX11_takenOnes_4] at h
    refine j_iload_n 5 dX11_takenOnes_4 rfl rfl 2 rfl ?_
    refine j_aload_n 6 dX11_takenOnes_5 rfl rfl 0 rfl ?_
    refine j_getI 9 dX11_takenOnes_6 rfl (sh_0 hL) cl11 (k := 12) (by decide) flX11_178 rfl ?_
    refine j_icmp_ge 48 12 dX11_takenOnes_9 (by decide) rfl (fun hc => ?_) (fun hc => ?_)
    · replace h := j_pos hc h
      refine j_iload_n 49 dX11_takenOnes_48 rfl rfl 1 rfl ?_
      cases h
      exact j_iret dX11_takenOnes_49 rfl
    · replace h := j_neg hc h
      refine j_iload_n 13 dX11_takenOnes_12 rfl rfl 2 rfl ?_
      refine j_bipush (v := (40 : Int32)) 15 dX11_takenOnes_13 rfl (by decide) ?_
      refine j_icmp_ge 48 18 dX11_takenOnes_15 (by decide) rfl (fun hc => ?_) (fun hc => ?_)
      · replace h := j_pos hc h
        refine j_iload_n 49 dX11_takenOnes_48 rfl rfl 1 rfl ?_
        cases h
        exact j_iret dX11_takenOnes_49 rfl
      · replace h := j_neg hc h
        refine j_aload_n 19 dX11_takenOnes_18 rfl rfl 0 rfl ?_
        refine j_getG 22 dX11_takenOnes_19 rfl (sh_0 hL) cl11 (k := 8) (by decide) flX11_73 rfl (gs_0_8 hL) ?_
        refine j_iload_n 23 dX11_takenOnes_22 rfl rfl 2 rfl ?_
        obtain ⟨hg, h⟩ := j_gs h
        rcases j_os h with ⟨hb, h⟩ | ⟨b1, hb, h⟩
        · refine j_aaldN 24 dX11_takenOnes_23 rfl (sh_42 hL) (by decide) (by decide) (fun _ => rfl) (i0 := 6) rfl (j_inv hg) hb ?_
          refine j_ifnullN 42 dX11_takenOnes_24 (by decide) ?_
          refine j_iinc (v := (l2 + (1 : Int32))) (lv' := [(2, .int (l2 + (1 : Int32))), (0, .ref (E.1 + 0)), (1, .int l1)]) (q := 2) 45 dX11_takenOnes_42 rfl rfl rfl (by decide) rfl ?_
          refine j_goto 4 dX11_takenOnes_45 (by decide) ?_
          refine j_sub [1, 2, 0] rfl ?_
          exact ih _ _ _ _  h
        obtain ⟨hsb1, h⟩ := j_gs h
        replace hsb1 := of_decide_eq_true hsb1
        refine j_aald 24 dX11_takenOnes_23 rfl (sh_42 hL) (by decide) (by decide) (fun _ => rfl) (i0 := 6) rfl (j_inv hg) hb ?_
        refine j_ifnull 27 dX11_takenOnes_24 rfl ?_
        refine j_aload_n 28 dX11_takenOnes_27 rfl rfl 0 rfl ?_
        refine j_getG 31 dX11_takenOnes_28 rfl (sh_0 hL) cl11 (k := 8) (by decide) flX11_73 rfl (gs_0_8 hL) ?_
        refine j_iload_n 32 dX11_takenOnes_31 rfl rfl 2 rfl ?_
        obtain ⟨hg, h⟩ := j_gs h
        rcases j_os h with ⟨hb, h⟩ | ⟨b2, hb, h⟩
        · refine j_aaldN 33 dX11_takenOnes_32 rfl (sh_42 hL) (by decide) (by decide) (fun _ => rfl) (i0 := 6) rfl (j_inv hg) hb ?_
          cases h
        obtain ⟨hsb2, h⟩ := j_gs h
        replace hsb2 := of_decide_eq_true hsb2
        refine j_aald 33 dX11_takenOnes_32 rfl (sh_42 hL) (by decide) (by decide) (fun _ => rfl) (i0 := 6) rfl (j_inv hg) hb ?_
        obtain ⟨q3, hq3, h⟩ := j_bs h
        refine j_callV (rest := []) (As := []) 36 dX11_takenOnes_33 rfl jyX7_isTaken (tcX7_isTaken hL hsb2 hq3) hsb2 cl7 flX11_231 wm1037 wm1038 (by decide) rfl rfl (Nat.le_of_ble_eq_true rfl) ?_
        refine j_if_eq 42 39 dX11_takenOnes_36 (by decide) rfl (fun hc => ?_) (fun hc => ?_)
        · replace h := j_pos hc h
          refine j_iinc (v := (l2 + (1 : Int32))) (lv' := [(2, .int (l2 + (1 : Int32))), (0, .ref (E.1 + 0)), (1, .int l1)]) (q := 2) 45 dX11_takenOnes_42 rfl rfl rfl (by decide) rfl ?_
          refine j_goto 4 dX11_takenOnes_45 (by decide) ?_
          refine j_sub [1, 2, 0] rfl ?_
          exact ih _ _ _ _  h
        · replace h := j_neg hc h
          refine j_iinc (v := (l1 + (1 : Int32))) (lv' := [(1, .int (l1 + (1 : Int32))), (0, .ref (E.1 + 0)), (2, .int l2)]) (q := 1) 42 dX11_takenOnes_39 rfl rfl rfl (by decide) rfl ?_
          refine j_iinc (v := (l2 + (1 : Int32))) (lv' := [(2, .int (l2 + (1 : Int32))), (1, .int (l1 + (1 : Int32))), (0, .ref (E.1 + 0))]) (q := 2) 45 dX11_takenOnes_42 rfl rfl rfl (by decide) rfl ?_
          refine j_goto 4 dX11_takenOnes_45 (by decide) ?_
          refine j_sub [2, 1, 0] rfl ?_
          exact ih _ _ _ _  h
def fX11_takenOnes (I : JI) (D : JG) (S : JS) : Option (Int32) :=
  fX11_takenOnes_4 100000 (0 : Int32) (0 : Int32) I D S
set_option maxHeartbeats 4000000 in
set_option maxRecDepth 100000 in
theorem tcX11_takenOnes {E : JE} {r : Int32} {I : JI} {L : JL} {G D : JG} {S : JS} (hL : Lay G S) (h : fX11_takenOnes I D S = some r) : CallJ E xX11_takenOnes 2 [.ref (E.1 + 0)] I L G D S (some (.int r)) I L G D S := by
  unfold fX11_takenOnes at h
  refine j_entry (by decide) (Nat.le_of_ble_eq_true rfl) ?_
  show AtJ E xX11_takenOnes (Zr E (some (.int r)) I L G D S) ((S).length, jm_sl S) 2 0 [(0, .ref (E.1 + 0))] [] I L G D S
  refine j_iconst (v := (0 : Int32)) 1 dX11_takenOnes_0 rfl (by decide) ?_
  refine j_istore_n (lv' := [(1, .int (0 : Int32)), (0, .ref (E.1 + 0))]) 2 dX11_takenOnes_1 rfl rfl (by decide) rfl ?_
  refine j_iconst (v := (0 : Int32)) 3 dX11_takenOnes_2 rfl (by decide) ?_
  refine j_istore_n (lv' := [(2, .int (0 : Int32)), (1, .int (0 : Int32)), (0, .ref (E.1 + 0))]) 4 dX11_takenOnes_3 rfl rfl (by decide) rfl ?_
  refine j_sub [2, 1, 0] rfl ?_
  exact kX11_takenOnes_4 hL    100000 _ _ _ _  h
def fX11_count (l1 : Int32) (I : JI) (D : JG) (S : JS) : Option (Int32) :=
  if l1 = (0 : Int32) then ((fJ6_bitCount_0f7a4 (I 1 5)).bind (fun q1 => some (q1))) else (if l1 = (1 : Int32) then (some ((I 1 8))) else (if l1 = (2 : Int32) then (some ((I 0 12))) else (if l1 = (3 : Int32) then ((fX11_takenOnes I D S).bind (fun q2 => some (q2))) else (if l1 = (4 : Int32) then (j_opt (D 0 10) (none) (fun b3 => j_g (decide (S[b3]? = some (4, 17))) (some ((I b3 12))))) else (if l1 = (5 : Int32) then (j_opt (D 0 10) (none) (fun b4 => j_g (decide (S[b4]? = some (4, 17))) (some ((I b4 14))))) else (if l1 = (6 : Int32) then (some ((I 30 6))) else (if l1 = (7 : Int32) then (some ((I 12 1))) else (some ((-1 : Int32))))))))))
set_option maxHeartbeats 4000000 in
set_option maxRecDepth 100000 in
theorem tcX11_count {E : JE} {l1 : Int32} {r : Int32} {I : JI} {L : JL} {G D : JG} {S : JS} (hL : Lay G S) (h : fX11_count l1 I D S = some r) : CallJ E xX11_count 3 [.ref (E.1 + 0), .int l1] I L G D S (some (.int r)) I L G D S := by
  unfold fX11_count at h
  refine j_entry (by decide) (Nat.le_of_ble_eq_true rfl) ?_
  show AtJ E xX11_count (Zr E (some (.int r)) I L G D S) ((S).length, jm_sl S) 3 0 [(0, .ref (E.1 + 0)), (1, .int l1)] [] I L G D S
  refine j_iload_n 1 dX11_count_0 rfl rfl 1 rfl ?_
  by_cases hc0 : l1 = (0 : Int32)
  · replace h := j_pos hc0 h
    refine j_tableIn (off := 47) 48 dX11_count_1 (by decide) (by rw [hc0]; decide) (by rw [hc0]; decide) (by rw [hc0]; rfl) ?_
    refine j_aload_n 49 dX11_count_48 rfl rfl 0 rfl ?_
    refine j_getG 52 dX11_count_49 rfl (sh_0 hL) cl11 (k := 0) (by decide) flX11_10 rfl (gs_0_0 hL) ?_
    refine j_getIN 55 dX11_count_52 rfl (sh_1 hL) cl9 (k := 5) (by decide) flX11_107 rfl ?_
    obtain ⟨q1, hq1, h⟩ := j_bs h
    refine j_callS (rest := []) (As := [.int (I 1 5)]) 58 dX11_count_55 rfl jyJ6_bitCount_0f7a4 (tcJ6_bitCount_0f7a4   hq1) flX11_274 wm1176 (by decide) rfl rfl (Nat.le_of_ble_eq_true rfl) ?_
    cases h
    exact j_iret dX11_count_58 rfl
  replace h := j_neg hc0 h
  by_cases hc1 : l1 = (1 : Int32)
  · replace h := j_pos hc1 h
    refine j_tableIn (off := 58) 59 dX11_count_1 (by decide) (by rw [hc1]; decide) (by rw [hc1]; decide) (by rw [hc1]; rfl) ?_
    refine j_aload_n 60 dX11_count_59 rfl rfl 0 rfl ?_
    refine j_getG 63 dX11_count_60 rfl (sh_0 hL) cl11 (k := 0) (by decide) flX11_10 rfl (gs_0_0 hL) ?_
    refine j_getIN 66 dX11_count_63 rfl (sh_1 hL) cl9 (k := 8) (by decide) flX11_152 rfl ?_
    cases h
    exact j_iret dX11_count_66 rfl
  replace h := j_neg hc1 h
  by_cases hc2 : l1 = (2 : Int32)
  · replace h := j_pos hc2 h
    refine j_tableIn (off := 66) 67 dX11_count_1 (by decide) (by rw [hc2]; decide) (by rw [hc2]; decide) (by rw [hc2]; rfl) ?_
    refine j_aload_n 68 dX11_count_67 rfl rfl 0 rfl ?_
    refine j_getI 71 dX11_count_68 rfl (sh_0 hL) cl11 (k := 12) (by decide) flX11_178 rfl ?_
    cases h
    exact j_iret dX11_count_71 rfl
  replace h := j_neg hc2 h
  by_cases hc3 : l1 = (3 : Int32)
  · replace h := j_pos hc3 h
    refine j_tableIn (off := 71) 72 dX11_count_1 (by decide) (by rw [hc3]; decide) (by rw [hc3]; decide) (by rw [hc3]; rfl) ?_
    refine j_aload_n 73 dX11_count_72 rfl rfl 0 rfl ?_
    obtain ⟨q2, hq2, h⟩ := j_bs h
    refine j_callV (rest := []) (As := []) 76 dX11_count_73 rfl jyX11_takenOnes (tcX11_takenOnes hL  hq2) (sh_0 hL) cl11 flX11_303 wm1312 wm38 (by decide) rfl rfl (Nat.le_of_ble_eq_true rfl) ?_
    cases h
    exact j_iret dX11_count_76 rfl
  replace h := j_neg hc3 h
  by_cases hc4 : l1 = (4 : Int32)
  · replace h := j_pos hc4 h
    refine j_tableIn (off := 76) 77 dX11_count_1 (by decide) (by rw [hc4]; decide) (by rw [hc4]; decide) (by rw [hc4]; rfl) ?_
    refine j_aload_n 78 dX11_count_77 rfl rfl 0 rfl ?_
    rcases j_os h with ⟨hb, h⟩ | ⟨b3, hb, h⟩
    · refine j_getDn 81 dX11_count_78 rfl (sh_0 hL) cl11 (k := 10) (by decide) flX11_86 rfl hb ?_
      cases h
    obtain ⟨hsb3, h⟩ := j_gs h
    replace hsb3 := of_decide_eq_true hsb3
    refine j_getD 81 dX11_count_78 rfl (sh_0 hL) cl11 (k := 10) (by decide) flX11_86 rfl hb ?_
    refine j_getIN 84 dX11_count_81 rfl hsb3 cl4 (k := 12) (by decide) flX11_307 rfl ?_
    cases h
    exact j_iret dX11_count_84 rfl
  replace h := j_neg hc4 h
  by_cases hc5 : l1 = (5 : Int32)
  · replace h := j_pos hc5 h
    refine j_tableIn (off := 84) 85 dX11_count_1 (by decide) (by rw [hc5]; decide) (by rw [hc5]; decide) (by rw [hc5]; rfl) ?_
    refine j_aload_n 86 dX11_count_85 rfl rfl 0 rfl ?_
    rcases j_os h with ⟨hb, h⟩ | ⟨b4, hb, h⟩
    · refine j_getDn 89 dX11_count_86 rfl (sh_0 hL) cl11 (k := 10) (by decide) flX11_86 rfl hb ?_
      cases h
    obtain ⟨hsb4, h⟩ := j_gs h
    replace hsb4 := of_decide_eq_true hsb4
    refine j_getD 89 dX11_count_86 rfl (sh_0 hL) cl11 (k := 10) (by decide) flX11_86 rfl hb ?_
    refine j_getIN 92 dX11_count_89 rfl hsb4 cl4 (k := 14) (by decide) flX11_310 rfl ?_
    cases h
    exact j_iret dX11_count_92 rfl
  replace h := j_neg hc5 h
  by_cases hc6 : l1 = (6 : Int32)
  · replace h := j_pos hc6 h
    refine j_tableIn (off := 92) 93 dX11_count_1 (by decide) (by rw [hc6]; decide) (by rw [hc6]; decide) (by rw [hc6]; rfl) ?_
    refine j_aload_n 94 dX11_count_93 rfl rfl 0 rfl ?_
    refine j_getG 97 dX11_count_94 rfl (sh_0 hL) cl11 (k := 6) (by decide) flX11_60 rfl (gs_0_6 hL) ?_
    refine j_getIN 100 dX11_count_97 rfl (sh_30 hL) cl6 (k := 6) (by decide) flX11_283 rfl ?_
    cases h
    exact j_iret dX11_count_100 rfl
  replace h := j_neg hc6 h
  by_cases hc7 : l1 = (7 : Int32)
  · replace h := j_pos hc7 h
    refine j_tableIn (off := 100) 101 dX11_count_1 (by decide) (by rw [hc7]; decide) (by rw [hc7]; decide) (by rw [hc7]; rfl) ?_
    refine j_aload_n 102 dX11_count_101 rfl rfl 0 rfl ?_
    refine j_getG 105 dX11_count_102 rfl (sh_0 hL) cl11 (k := 2) (by decide) flX11_26 rfl (gs_0_2 hL) ?_
    refine j_getIN 108 dX11_count_105 rfl (sh_12 hL) cl8 (k := 1) (by decide) flX11_159 rfl ?_
    cases h
    exact j_iret dX11_count_108 rfl
  replace h := j_neg hc7 h
  refine j_tableOut 109 dX11_count_1 (by decide) (j_out8 hc0 hc1 hc2 hc3 hc4 hc5 hc6 hc7) ?_
  refine j_iconst (v := (-1 : Int32)) 110 dX11_count_109 rfl (by decide) ?_
  cases h
  exact j_iret dX11_count_110 rfl
