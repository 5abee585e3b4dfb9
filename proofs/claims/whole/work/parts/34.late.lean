def fX6_addHonest (l1 : Nat) (I : JI) (L : JL) (G : JG) (D : JG) (S : JS) : Option (JI × JL × JG × JG × JS) :=
  if (6 : Int32) ≤ (I 30 6) then (some (I, L, G, D, S)) else ((fX0_init (S).length).bind (fun q1 => j_g (j_in (I 30 6) 6) (j_g (j_in ((j_clr I (S).length 0) 30 6) 6) (j_opt ((j_up (j_clr D (S).length none) 31 (I 30 6).toNatClampNeg (some (S).length)) 31 ((j_clr I (S).length 0) 30 6).toNatClampNeg) (none) (fun b2 => j_g (decide ((S ++ [(0, 7)])[b2]? = some (0, 7))) ((fX0_copyAll b2 l1 (j_clr I (S).length 0)).bind (fun q3 => some ((j_up q3 30 6 ((q3 30 6) + (1 : Int32))), (j_clr L (S).length 0), (j_clr G (S).length none), (j_up (j_clr D (S).length none) 31 (I 30 6).toNatClampNeg (some (S).length)), (S ++ [(0, 7)])))))))))
set_option maxHeartbeats 4000000 in
set_option maxRecDepth 100000 in
theorem tcX6_addHonest {E : JE} {l1 : Nat} {r : JI × JL × JG × JG × JS} {I : JI} {L : JL} {G D : JG} {S : JS} (hL : Lay G S) (h1 : S[l1]? = some (0, 7)) (h : fX6_addHonest l1 I L G D S = some r) : CallJ E xX6_addHonest 3 [.ref (E.1 + 30), .ref (E.1 + l1)] I L G D S none r.1 r.2.1 r.2.2.1 r.2.2.2.1 r.2.2.2.2 := by
  unfold fX6_addHonest at h
  refine j_entry (by decide) (Nat.le_of_ble_eq_true rfl) ?_
  show AtJ E xX6_addHonest (Zr E none r.1 r.2.1 r.2.2.1 r.2.2.2.1 r.2.2.2.2) ((r.2.2.2.2).length, jm_sl r.2.2.2.2) 3 0 [(0, .ref (E.1 + 30)), (1, .ref (E.1 + l1))] [] I L G D S
  refine j_aload_n 1 dX6_addHonest_0 rfl rfl 0 rfl ?_
  refine j_getI 4 dX6_addHonest_1 rfl (sh_30 hL) cl6 (k := 6) (by decide) flX6_41 rfl ?_
  refine j_bipush (v := (6 : Int32)) 6 dX6_addHonest_4 rfl (by decide) ?_
  refine j_icmp_ge 48 9 dX6_addHonest_6 (by decide) rfl (fun hc => ?_) (fun hc => ?_)
  · replace h := j_pos hc h
    cases h
    exact j_vret dX6_addHonest_48 rfl
  · replace h := j_neg hc h
    refine j_aload_n 10 dX6_addHonest_9 rfl rfl 0 rfl ?_
    refine j_getG 13 dX6_addHonest_10 rfl (sh_30 hL) cl6 (k := 4) (by decide) flX6_11 rfl (gs_30_4 hL) ?_
    refine j_aload_n 14 dX6_addHonest_13 rfl rfl 0 rfl ?_
    refine j_getI 17 dX6_addHonest_14 rfl (sh_30 hL) cl6 (k := 6) (by decide) flX6_41 rfl ?_
    refine j_nwO 20 dX6_addHonest_17 rfl cl0 flX6_9 wm234 wm92 (by decide) ?_
    refine j_dup 21 dX6_addHonest_20 rfl rfl ?_
    obtain ⟨q1, hq1, h⟩ := j_bs h
    have hL0 := hL
    refine j_callIN (y := yX0_init) (cy := cX0_init) (my := 1) (rest := [.ref (E.1 + (S).length), .int (I 30 6), .ref (E.1 + 31)]) (As := []) 24 dX6_addHonest_21 rfl jyX0_init (tcX0_init  jm_last hq1) flX6_44 wm236 rfl (by decide) rfl rfl (Nat.le_of_ble_eq_true rfl) ?_
    replace hL := lyX0_init hL hq1
    obtain ⟨hg, h⟩ := j_gs h
    refine j_aast 25 dX6_addHonest_24 rfl (sh_31 hL) (by decide) (by decide) (fun _ => rfl) (i0 := 4) rfl jm_last cl0 (j_inv hg) ?_
    refine j_aload_n 26 dX6_addHonest_25 rfl rfl 0 rfl ?_
    refine j_getG 29 dX6_addHonest_26 rfl (sh_30 hL) cl6 (k := 4) (by decide) flX6_11 rfl (gs_30_4 hL) ?_
    refine j_aload_n 30 dX6_addHonest_29 rfl rfl 0 rfl ?_
    refine j_getI 33 dX6_addHonest_30 rfl (sh_30 hL) cl6 (k := 6) (by decide) flX6_41 rfl ?_
    obtain ⟨hg, h⟩ := j_gs h
    rcases j_os h with ⟨hb, h⟩ | ⟨b2, hb, h⟩
    · refine j_aaldN 34 dX6_addHonest_33 rfl (sh_31 hL) (by decide) (by decide) (fun _ => rfl) (i0 := 4) rfl (j_inv hg) hb ?_
      refine j_aload_n 35 dX6_addHonest_34 rfl rfl 1 rfl ?_
      cases h
    obtain ⟨hsb2, h⟩ := j_gs h
    replace hsb2 := of_decide_eq_true hsb2
    refine j_aald 34 dX6_addHonest_33 rfl (sh_31 hL) (by decide) (by decide) (fun _ => rfl) (i0 := 4) rfl (j_inv hg) hb ?_
    refine j_aload_n 35 dX6_addHonest_34 rfl rfl 1 rfl ?_
    obtain ⟨q3, hq3, h⟩ := j_bs h
    refine j_callV (rest := []) (As := [.ref (E.1 + l1)]) 38 dX6_addHonest_35 rfl jyX0_copyAll (tcX0_copyAll hL hsb2 (jm_pre h1) hq3) hsb2 cl0 flX6_45 wm973 wm974 (by decide) rfl rfl (Nat.le_of_ble_eq_true rfl) ?_
    refine j_aload_n 39 dX6_addHonest_38 rfl rfl 0 rfl ?_
    refine j_dup 40 dX6_addHonest_39 rfl rfl ?_
    refine j_getI 43 dX6_addHonest_40 rfl (sh_30 hL) cl6 (k := 6) (by decide) flX6_41 rfl ?_
    refine j_iconst (v := (1 : Int32)) 44 dX6_addHonest_43 rfl (by decide) ?_
    refine j_iadd 45 dX6_addHonest_44 rfl ?_
    refine j_putI 48 dX6_addHonest_45 rfl (sh_30 hL) cl6 (k := 6) (by decide) flX6_41 rfl rfl rfl ?_
    cases h
    exact j_vret dX6_addHonest_48 rfl
def fX11_init (t : Nat) (I : JI) (L : JL) (G : JG) (D : JG) (S : JS) : Option (JI × JL × JG × JG × JS) :=
  (fX9_init (S).length (j_clr I (S).length 0) (j_clr G (S).length none) (S ++ [(9, 10)])).bind (fun q1 => j_g (decide (q1.2.2[t]? = some (11, 14))) (j_g (decide (q1.2.2[(S).length]? = some (9, 10))) ((fX1_init (q1.2.2).length (j_clr q1.1 (q1.2.2).length 0) (j_clr (j_up q1.2.1 t 0 (some (S).length)) (q1.2.2).length none) (q1.2.2 ++ [(1, 4)])).bind (fun q4 => j_g (decide (q4.2.2[t]? = some (11, 14))) (j_g (decide (q4.2.2[(q1.2.2).length]? = some (1, 4))) ((fX8_init (q4.2.2).length (j_clr q4.1 (q4.2.2).length 0) (j_clr (j_up q4.2.1 t 1 (some (q1.2.2).length)) (q4.2.2).length none) (q4.2.2 ++ [(8, 10)])).bind (fun q7 => j_g (decide (q7.2.2[t]? = some (11, 14))) (j_g (decide (q7.2.2[(q4.2.2).length]? = some (8, 10))) ((fX0_init (q7.2.2).length).bind (fun q10 => j_opt ((j_clr (j_up (j_clr (j_up q7.2.1 t 2 (some (q4.2.2).length)) (q7.2.2).length none) t 3 (some (q7.2.2).length)) ((q7.2.2 ++ [(0, 7)])).length none) t 0) none (fun b11 => j_g (decide (((q7.2.2 ++ [(0, 7)]) ++ [(3, 10)])[b11]? = some (9, 10))) ((fX3_init ((q7.2.2 ++ [(0, 7)])).length b11 (j_clr (j_clr q7.1 (q7.2.2).length 0) ((q7.2.2 ++ [(0, 7)])).length 0) (j_clr (j_up (j_clr (j_up q7.2.1 t 2 (some (q4.2.2).length)) (q7.2.2).length none) t 3 (some (q7.2.2).length)) ((q7.2.2 ++ [(0, 7)])).length none) ((q7.2.2 ++ [(0, 7)]) ++ [(3, 10)])).bind (fun q12 => j_g (decide (q12.2.2[t]? = some (11, 14))) (j_g (decide (q12.2.2[((q7.2.2 ++ [(0, 7)])).length]? = some (3, 10))) (j_opt ((j_clr (j_up q12.2.1 t 4 (some ((q7.2.2 ++ [(0, 7)])).length)) (q12.2.2).length none) t 0) none (fun b15 => j_g (decide ((q12.2.2 ++ [(10, 20)])[b15]? = some (9, 10))) (j_opt ((j_clr (j_up q12.2.1 t 4 (some ((q7.2.2 ++ [(0, 7)])).length)) (q12.2.2).length none) t 1) none (fun b16 => j_g (decide ((q12.2.2 ++ [(10, 20)])[b16]? = some (1, 4))) (j_opt ((j_clr (j_up q12.2.1 t 4 (some ((q7.2.2 ++ [(0, 7)])).length)) (q12.2.2).length none) t 4) none (fun b17 => j_g (decide ((q12.2.2 ++ [(10, 20)])[b17]? = some (3, 10))) ((fX10_init (q12.2.2).length b15 b16 b17 (j_clr q12.1 (q12.2.2).length 0) (j_clr (j_clr (j_clr (j_clr (j_clr (j_clr L (S).length 0) (q1.2.2).length 0) (q4.2.2).length 0) (q7.2.2).length 0) ((q7.2.2 ++ [(0, 7)])).length 0) (q12.2.2).length 0) (j_clr (j_up q12.2.1 t 4 (some ((q7.2.2 ++ [(0, 7)])).length)) (q12.2.2).length none) (j_clr (j_clr (j_clr (j_clr (j_clr (j_clr D (S).length none) (q1.2.2).length none) (q4.2.2).length none) (q7.2.2).length none) ((q7.2.2 ++ [(0, 7)])).length none) (q12.2.2).length none) (q12.2.2 ++ [(10, 20)])).bind (fun q18 => j_g (decide (q18.2.2.2.2[t]? = some (11, 14))) (j_g (decide (q18.2.2.2.2[(q12.2.2).length]? = some (10, 20))) (j_opt ((j_clr (j_up q18.2.2.1 t 5 (some (q12.2.2).length)) (q18.2.2.2.2).length none) t 0) none (fun b21 => j_g (decide ((q18.2.2.2.2 ++ [(6, 13)])[b21]? = some (9, 10))) (j_opt ((j_clr (j_up q18.2.2.1 t 5 (some (q12.2.2).length)) (q18.2.2.2.2).length none) t 1) none (fun b22 => j_g (decide ((q18.2.2.2.2 ++ [(6, 13)])[b22]? = some (1, 4))) (j_opt ((j_clr (j_up q18.2.2.1 t 5 (some (q12.2.2).length)) (q18.2.2.2.2).length none) t 4) none (fun b23 => j_g (decide ((q18.2.2.2.2 ++ [(6, 13)])[b23]? = some (3, 10))) (j_opt ((j_clr (j_up q18.2.2.1 t 5 (some (q12.2.2).length)) (q18.2.2.2.2).length none) t 5) none (fun b24 => j_g (decide ((q18.2.2.2.2 ++ [(6, 13)])[b24]? = some (10, 20))) ((fX6_init (q18.2.2.2.2).length b21 b22 b23 b24 (j_clr q18.1 (q18.2.2.2.2).length 0) (j_clr q18.2.1 (q18.2.2.2.2).length 0) (j_clr (j_up q18.2.2.1 t 5 (some (q12.2.2).length)) (q18.2.2.2.2).length none) (j_clr q18.2.2.2.1 (q18.2.2.2.2).length none) (q18.2.2.2.2 ++ [(6, 13)])).bind (fun q25 => j_g (decide (q25.2.2.2.2[t]? = some (11, 14))) (j_g (decide (q25.2.2.2.2[(q18.2.2.2.2).length]? = some (6, 13))) (j_opt ((j_clr (j_up q25.2.2.1 t 6 (some (q18.2.2.2.2).length)) (q25.2.2.2.2).length none) t 0) none (fun b28 => j_g (decide ((q25.2.2.2.2 ++ [(2, 15)])[b28]? = some (9, 10))) (j_opt ((j_clr (j_up q25.2.2.1 t 6 (some (q18.2.2.2.2).length)) (q25.2.2.2.2).length none) t 1) none (fun b29 => j_g (decide ((q25.2.2.2.2 ++ [(2, 15)])[b29]? = some (1, 4))) (j_opt ((j_clr (j_up q25.2.2.1 t 6 (some (q18.2.2.2.2).length)) (q25.2.2.2.2).length none) t 4) none (fun b30 => j_g (decide ((q25.2.2.2.2 ++ [(2, 15)])[b30]? = some (3, 10))) ((fX2_init (q25.2.2.2.2).length b28 b29 b30 (j_clr q25.1 (q25.2.2.2.2).length 0) (j_clr q25.2.1 (q25.2.2.2.2).length 0) (j_clr (j_up q25.2.2.1 t 6 (some (q18.2.2.2.2).length)) (q25.2.2.2.2).length none) (j_clr q25.2.2.2.1 (q25.2.2.2.2).length none) (q25.2.2.2.2 ++ [(2, 15)])).bind (fun q31 => j_g (decide (q31.2.2.2.2[t]? = some (11, 14))) (j_g (decide (q31.2.2.2.2[(q25.2.2.2.2).length]? = some (2, 15))) ((fX4_init (((q31.2.2.2.2 ++ [(37, 40)]) ++ [(35, 4)])).length (j_clr q31.1 (((q31.2.2.2.2 ++ [(37, 40)]) ++ [(35, 4)])).length 0) (j_clr q31.2.1 (((q31.2.2.2.2 ++ [(37, 40)]) ++ [(35, 4)])).length 0) (j_clr (j_up (j_up (j_up q31.2.2.1 t 7 (some (q25.2.2.2.2).length)) t 8 (some (q31.2.2.2.2).length)) t 9 (some ((q31.2.2.2.2 ++ [(37, 40)])).length)) (((q31.2.2.2.2 ++ [(37, 40)]) ++ [(35, 4)])).length none) (((q31.2.2.2.2 ++ [(37, 40)]) ++ [(35, 4)]) ++ [(4, 17)])).bind (fun q34 => j_g (decide (q34.2.2.2[t]? = some (11, 14))) (j_g (decide (q34.2.2.2[(((q31.2.2.2.2 ++ [(37, 40)]) ++ [(35, 4)])).length]? = some (4, 17))) ((fX4_init (q34.2.2.2).length (j_clr q34.1 (q34.2.2.2).length 0) (j_clr q34.2.1 (q34.2.2.2).length 0) (j_clr q34.2.2.1 (q34.2.2.2).length none) (q34.2.2.2 ++ [(4, 17)])).bind (fun q37 => j_g (decide (q37.2.2.2[t]? = some (11, 14))) (j_g (decide (q37.2.2.2[(q34.2.2.2).length]? = some (4, 17))) (j_opt (q37.2.2.1 t 4) none (fun b40 => j_g (decide (q37.2.2.2[b40]? = some (3, 10))) (j_opt ((j_up (j_clr (j_up (j_clr (j_clr (j_clr q31.2.2.2.1 (q31.2.2.2.2).length none) ((q31.2.2.2.2 ++ [(37, 40)])).length none) (((q31.2.2.2.2 ++ [(37, 40)]) ++ [(35, 4)])).length none) t 10 (some (((q31.2.2.2.2 ++ [(37, 40)]) ++ [(35, 4)])).length)) (q34.2.2.2).length none) t 11 (some (q34.2.2.2).length)) t 10) (none) (fun b41 => j_g (decide (q37.2.2.2[b41]? = some (4, 17))) (some (q37.1, q37.2.1, q37.2.2.1, (j_up (j_up (j_clr (j_up (j_clr (j_clr (j_clr q31.2.2.2.1 (q31.2.2.2.2).length none) ((q31.2.2.2.2 ++ [(37, 40)])).length none) (((q31.2.2.2.2 ++ [(37, 40)]) ++ [(35, 4)])).length none) t 10 (some (((q31.2.2.2.2 ++ [(37, 40)]) ++ [(35, 4)])).length)) (q34.2.2.2).length none) t 11 (some (q34.2.2.2).length)) b40 5 (some b41)), q37.2.2.2)))))))))))))))))))))))))))))))))))))))))))))))))))))))
set_option maxHeartbeats 4000000 in
set_option maxRecDepth 100000 in
theorem tcX11_init {E : JE} {t : Nat} {r : JI × JL × JG × JG × JS} {I : JI} {L : JL} {G D : JG} {S : JS} (ht : S[t]? = some (11, 14)) (h : fX11_init t I L G D S = some r) : CallJ E xX11_init 3 [.ref (E.1 + t)] I L G D S none r.1 r.2.1 r.2.2.1 r.2.2.2.1 r.2.2.2.2 := by
  unfold fX11_init at h
  refine j_entry (by decide) (Nat.le_of_ble_eq_true rfl) ?_
  show AtJ E xX11_init (Zr E none r.1 r.2.1 r.2.2.1 r.2.2.2.1 r.2.2.2.2) ((r.2.2.2.2).length, jm_sl r.2.2.2.2) 3 0 [(0, .ref (E.1 + t))] [] I L G D S
  refine j_aload_n 1 dX11_init_0 rfl rfl 0 rfl ?_
  refine j_obj 4 dX11_init_1 rfl flX11_1 wm117 wm118 (by decide) (Nat.le_of_ble_eq_true rfl) ?_
  refine j_aload_n 5 dX11_init_4 rfl rfl 0 rfl ?_
  refine j_nwO 8 dX11_init_5 rfl cl9 flX11_7 wm120 wm89 (by decide) ?_
  refine j_dup 9 dX11_init_8 rfl rfl ?_
  obtain ⟨q1, hq1, h⟩ := j_bs h
  refine j_callIN (y := yX9_init) (cy := cX9_init) (my := 1) (rest := [.ref (E.1 + (S).length), .ref (E.1 + t)]) (As := []) 12 dX11_init_9 rfl jyX9_init (tcX9_init  jm_last hq1) flX11_9 wm122 rfl (by decide) rfl rfl (Nat.le_of_ble_eq_true rfl) ?_
  obtain ⟨hgs2, h⟩ := j_gs h
  obtain ⟨hgs3, h⟩ := j_gs h
  refine j_putF 15 dX11_init_12 rfl (of_decide_eq_true hgs2) cl11 (k := 0) (by decide) flX11_10 rfl rfl rfl rfl (fun _ => rfl) (fun _ => rfl) ?_
  refine j_aload_n 16 dX11_init_15 rfl rfl 0 rfl ?_
  refine j_nwO 19 dX11_init_16 rfl cl1 flX11_16 wm172 wm90 (by decide) ?_
  refine j_dup 20 dX11_init_19 rfl rfl ?_
  obtain ⟨q4, hq4, h⟩ := j_bs h
  refine j_callIN (y := yX1_init) (cy := cX1_init) (my := 1) (rest := [.ref (E.1 + (q1.2.2).length), .ref (E.1 + t)]) (As := []) 23 dX11_init_20 rfl jyX1_init (tcX1_init  jm_last hq4) flX11_18 wm174 rfl (by decide) rfl rfl (Nat.le_of_ble_eq_true rfl) ?_
  obtain ⟨hgs5, h⟩ := j_gs h
  obtain ⟨hgs6, h⟩ := j_gs h
  refine j_putF 26 dX11_init_23 rfl (of_decide_eq_true hgs5) cl11 (k := 1) (by decide) flX11_19 rfl rfl rfl rfl (fun _ => rfl) (fun _ => rfl) ?_
  refine j_aload_n 27 dX11_init_26 rfl rfl 0 rfl ?_
  refine j_nwO 30 dX11_init_27 rfl cl8 flX11_23 wm195 wm91 (by decide) ?_
  refine j_dup 31 dX11_init_30 rfl rfl ?_
  obtain ⟨q7, hq7, h⟩ := j_bs h
  refine j_callIN (y := yX8_init) (cy := cX8_init) (my := 1) (rest := [.ref (E.1 + (q4.2.2).length), .ref (E.1 + t)]) (As := []) 34 dX11_init_31 rfl jyX8_init (tcX8_init  jm_last hq7) flX11_25 wm197 rfl (by decide) rfl rfl (Nat.le_of_ble_eq_true rfl) ?_
  obtain ⟨hgs8, h⟩ := j_gs h
  obtain ⟨hgs9, h⟩ := j_gs h
  refine j_putF 37 dX11_init_34 rfl (of_decide_eq_true hgs8) cl11 (k := 2) (by decide) flX11_26 rfl rfl rfl rfl (fun _ => rfl) (fun _ => rfl) ?_
  refine j_aload_n 38 dX11_init_37 rfl rfl 0 rfl ?_
  refine j_nwO 41 dX11_init_38 rfl cl0 flX11_30 wm234 wm92 (by decide) ?_
  refine j_dup 42 dX11_init_41 rfl rfl ?_
  obtain ⟨q10, hq10, h⟩ := j_bs h
  refine j_callIN (y := yX0_init) (cy := cX0_init) (my := 1) (rest := [.ref (E.1 + (q7.2.2).length), .ref (E.1 + t)]) (As := []) 45 dX11_init_42 rfl jyX0_init (tcX0_init  jm_last hq10) flX11_32 wm236 rfl (by decide) rfl rfl (Nat.le_of_ble_eq_true rfl) ?_
  refine j_putF 48 dX11_init_45 rfl (jm_pre (of_decide_eq_true hgs8)) cl11 (k := 3) (by decide) flX11_33 rfl rfl rfl rfl (fun _ => rfl) (fun _ => rfl) ?_
  refine j_aload_n 49 dX11_init_48 rfl rfl 0 rfl ?_
  refine j_nwO 52 dX11_init_49 rfl cl3 flX11_37 wm282 wm93 (by decide) ?_
  refine j_dup 53 dX11_init_52 rfl rfl ?_
  refine j_aload_n 54 dX11_init_53 rfl rfl 0 rfl ?_
  rcases j_os h with ⟨hb, h⟩ | ⟨b11, hb, h⟩
  · cases h
  obtain ⟨hsb11, h⟩ := j_gs h
  replace hsb11 := of_decide_eq_true hsb11
  refine j_getG 57 dX11_init_54 rfl (jm_pre (jm_pre (of_decide_eq_true hgs8))) cl11 (k := 0) (by decide) flX11_10 rfl hb ?_
  obtain ⟨q12, hq12, h⟩ := j_bs h
  refine j_callI (y := yX3_init) (cy := cX3_init) (my := 2) (rest := [.ref (E.1 + ((q7.2.2 ++ [(0, 7)])).length), .ref (E.1 + t)]) (As := [.ref (E.1 + b11)]) 60 dX11_init_57 rfl jyX3_init (tcX3_init  jm_last hq12) flX11_39 wm284 rfl (by decide) rfl rfl (Nat.le_of_ble_eq_true rfl) ?_
  obtain ⟨hgs13, h⟩ := j_gs h
  obtain ⟨hgs14, h⟩ := j_gs h
  refine j_putF 63 dX11_init_60 rfl (of_decide_eq_true hgs13) cl11 (k := 4) (by decide) flX11_42 rfl rfl rfl rfl (fun _ => rfl) (fun _ => rfl) ?_
  refine j_aload_n 64 dX11_init_63 rfl rfl 0 rfl ?_
  refine j_nwO 67 dX11_init_64 rfl cl10 flX11_46 wm328 wm94 (by decide) ?_
  refine j_dup 68 dX11_init_67 rfl rfl ?_
  refine j_aload_n 69 dX11_init_68 rfl rfl 0 rfl ?_
  rcases j_os h with ⟨hb, h⟩ | ⟨b15, hb, h⟩
  · cases h
  obtain ⟨hsb15, h⟩ := j_gs h
  replace hsb15 := of_decide_eq_true hsb15
  refine j_getG 72 dX11_init_69 rfl (jm_pre (of_decide_eq_true hgs13)) cl11 (k := 0) (by decide) flX11_10 rfl hb ?_
  refine j_aload_n 73 dX11_init_72 rfl rfl 0 rfl ?_
  rcases j_os h with ⟨hb, h⟩ | ⟨b16, hb, h⟩
  · cases h
  obtain ⟨hsb16, h⟩ := j_gs h
  replace hsb16 := of_decide_eq_true hsb16
  refine j_getG 76 dX11_init_73 rfl (jm_pre (of_decide_eq_true hgs13)) cl11 (k := 1) (by decide) flX11_19 rfl hb ?_
  refine j_aload_n 77 dX11_init_76 rfl rfl 0 rfl ?_
  rcases j_os h with ⟨hb, h⟩ | ⟨b17, hb, h⟩
  · cases h
  obtain ⟨hsb17, h⟩ := j_gs h
  replace hsb17 := of_decide_eq_true hsb17
  refine j_getG 80 dX11_init_77 rfl (jm_pre (of_decide_eq_true hgs13)) cl11 (k := 4) (by decide) flX11_42 rfl hb ?_
  obtain ⟨q18, hq18, h⟩ := j_bs h
  refine j_callI (y := yX10_init) (cy := cX10_init) (my := 4) (rest := [.ref (E.1 + (q12.2.2).length), .ref (E.1 + t)]) (As := [.ref (E.1 + b15), .ref (E.1 + b16), .ref (E.1 + b17)]) 83 dX11_init_80 rfl jyX10_init (tcX10_init  jm_last hq18) flX11_48 wm330 rfl (by decide) rfl rfl (Nat.le_of_ble_eq_true rfl) ?_
  obtain ⟨hgs19, h⟩ := j_gs h
  obtain ⟨hgs20, h⟩ := j_gs h
  refine j_putF 86 dX11_init_83 rfl (of_decide_eq_true hgs19) cl11 (k := 5) (by decide) flX11_51 rfl rfl rfl rfl (fun _ => rfl) (fun _ => rfl) ?_
  refine j_aload_n 87 dX11_init_86 rfl rfl 0 rfl ?_
  refine j_nwO 90 dX11_init_87 rfl cl6 flX11_55 wm400 wm95 (by decide) ?_
  refine j_dup 91 dX11_init_90 rfl rfl ?_
  refine j_aload_n 92 dX11_init_91 rfl rfl 0 rfl ?_
  rcases j_os h with ⟨hb, h⟩ | ⟨b21, hb, h⟩
  · cases h
  obtain ⟨hsb21, h⟩ := j_gs h
  replace hsb21 := of_decide_eq_true hsb21
  refine j_getG 95 dX11_init_92 rfl (jm_pre (of_decide_eq_true hgs19)) cl11 (k := 0) (by decide) flX11_10 rfl hb ?_
  refine j_aload_n 96 dX11_init_95 rfl rfl 0 rfl ?_
  rcases j_os h with ⟨hb, h⟩ | ⟨b22, hb, h⟩
  · cases h
  obtain ⟨hsb22, h⟩ := j_gs h
  replace hsb22 := of_decide_eq_true hsb22
  refine j_getG 99 dX11_init_96 rfl (jm_pre (of_decide_eq_true hgs19)) cl11 (k := 1) (by decide) flX11_19 rfl hb ?_
  refine j_aload_n 100 dX11_init_99 rfl rfl 0 rfl ?_
  rcases j_os h with ⟨hb, h⟩ | ⟨b23, hb, h⟩
  · cases h
  obtain ⟨hsb23, h⟩ := j_gs h
  replace hsb23 := of_decide_eq_true hsb23
  refine j_getG 103 dX11_init_100 rfl (jm_pre (of_decide_eq_true hgs19)) cl11 (k := 4) (by decide) flX11_42 rfl hb ?_
  refine j_aload_n 104 dX11_init_103 rfl rfl 0 rfl ?_
  rcases j_os h with ⟨hb, h⟩ | ⟨b24, hb, h⟩
  · cases h
  obtain ⟨hsb24, h⟩ := j_gs h
  replace hsb24 := of_decide_eq_true hsb24
  refine j_getG 107 dX11_init_104 rfl (jm_pre (of_decide_eq_true hgs19)) cl11 (k := 5) (by decide) flX11_51 rfl hb ?_
  obtain ⟨q25, hq25, h⟩ := j_bs h
  refine j_callI (y := yX6_init) (cy := cX6_init) (my := 5) (rest := [.ref (E.1 + (q18.2.2.2.2).length), .ref (E.1 + t)]) (As := [.ref (E.1 + b21), .ref (E.1 + b22), .ref (E.1 + b23), .ref (E.1 + b24)]) 110 dX11_init_107 rfl jyX6_init (tcX6_init  jm_last hq25) flX11_57 wm402 rfl (by decide) rfl rfl (Nat.le_of_ble_eq_true rfl) ?_
  obtain ⟨hgs26, h⟩ := j_gs h
  obtain ⟨hgs27, h⟩ := j_gs h
  refine j_putF 113 dX11_init_110 rfl (of_decide_eq_true hgs26) cl11 (k := 6) (by decide) flX11_60 rfl rfl rfl rfl (fun _ => rfl) (fun _ => rfl) ?_
  refine j_aload_n 114 dX11_init_113 rfl rfl 0 rfl ?_
  refine j_nwO 117 dX11_init_114 rfl cl2 flX11_64 wm450 wm96 (by decide) ?_
  refine j_dup 118 dX11_init_117 rfl rfl ?_
  refine j_aload_n 119 dX11_init_118 rfl rfl 0 rfl ?_
  rcases j_os h with ⟨hb, h⟩ | ⟨b28, hb, h⟩
  · cases h
  obtain ⟨hsb28, h⟩ := j_gs h
  replace hsb28 := of_decide_eq_true hsb28
  refine j_getG 122 dX11_init_119 rfl (jm_pre (of_decide_eq_true hgs26)) cl11 (k := 0) (by decide) flX11_10 rfl hb ?_
  refine j_aload_n 123 dX11_init_122 rfl rfl 0 rfl ?_
  rcases j_os h with ⟨hb, h⟩ | ⟨b29, hb, h⟩
  · cases h
  obtain ⟨hsb29, h⟩ := j_gs h
  replace hsb29 := of_decide_eq_true hsb29
  refine j_getG 126 dX11_init_123 rfl (jm_pre (of_decide_eq_true hgs26)) cl11 (k := 1) (by decide) flX11_19 rfl hb ?_
  refine j_aload_n 127 dX11_init_126 rfl rfl 0 rfl ?_
  rcases j_os h with ⟨hb, h⟩ | ⟨b30, hb, h⟩
  · cases h
  obtain ⟨hsb30, h⟩ := j_gs h
  replace hsb30 := of_decide_eq_true hsb30
  refine j_getG 130 dX11_init_127 rfl (jm_pre (of_decide_eq_true hgs26)) cl11 (k := 4) (by decide) flX11_42 rfl hb ?_
  obtain ⟨q31, hq31, h⟩ := j_bs h
  refine j_callI (y := yX2_init) (cy := cX2_init) (my := 4) (rest := [.ref (E.1 + (q25.2.2.2.2).length), .ref (E.1 + t)]) (As := [.ref (E.1 + b28), .ref (E.1 + b29), .ref (E.1 + b30)]) 133 dX11_init_130 rfl jyX2_init (tcX2_init  jm_last hq31) flX11_66 wm452 rfl (by decide) rfl rfl (Nat.le_of_ble_eq_true rfl) ?_
  obtain ⟨hgs32, h⟩ := j_gs h
  obtain ⟨hgs33, h⟩ := j_gs h
  refine j_putF 136 dX11_init_133 rfl (of_decide_eq_true hgs32) cl11 (k := 7) (by decide) flX11_67 rfl rfl rfl rfl (fun _ => rfl) (fun _ => rfl) ?_
  refine j_aload_n 137 dX11_init_136 rfl rfl 0 rfl ?_
  refine j_bipush (v := (40 : Int32)) 139 dX11_init_137 rfl (by decide) ?_
  refine j_nwA (N := 40) (kd := 37) (i0 := 6) 142 dX11_init_139 rfl flX11_71 (fun _ h => h.2.2.1.2.2) rfl (by decide) (by decide) (fun _ => rfl) (by decide) (by decide) (by decide) ?_
  refine j_putF 145 dX11_init_142 rfl (jm_pre (of_decide_eq_true hgs32)) cl11 (k := 8) (by decide) flX11_73 rfl rfl rfl rfl (fun _ => rfl) (fun _ => rfl) ?_
  refine j_aload_n 146 dX11_init_145 rfl rfl 0 rfl ?_
  refine j_iconst (v := (4 : Int32)) 147 dX11_init_146 rfl (by decide) ?_
  refine j_nwA (N := 4) (kd := 35) (i0 := 5) 150 dX11_init_147 rfl flX11_77 (fun _ h => h.2.2.1.2.1) rfl (by decide) (by decide) (fun _ => rfl) (by decide) (by decide) (by decide) ?_
  refine j_putF 153 dX11_init_150 rfl (jm_pre (jm_pre (of_decide_eq_true hgs32))) cl11 (k := 9) (by decide) flX11_79 rfl rfl rfl rfl (fun _ => rfl) (fun _ => rfl) ?_
  refine j_aload_n 154 dX11_init_153 rfl rfl 0 rfl ?_
  refine j_nwO 157 dX11_init_154 rfl cl4 flX11_83 wm512 wm97 (by decide) ?_
  refine j_dup 158 dX11_init_157 rfl rfl ?_
  obtain ⟨q34, hq34, h⟩ := j_bs h
  refine j_callIN (y := yX4_init) (cy := cX4_init) (my := 1) (rest := [.ref (E.1 + (((q31.2.2.2.2 ++ [(37, 40)]) ++ [(35, 4)])).length), .ref (E.1 + t)]) (As := []) 161 dX11_init_158 rfl jyX4_init (tcX4_init  jm_last hq34) flX11_85 wm514 rfl (by decide) rfl rfl (Nat.le_of_ble_eq_true rfl) ?_
  obtain ⟨hgs35, h⟩ := j_gs h
  obtain ⟨hgs36, h⟩ := j_gs h
  refine j_putD 164 dX11_init_161 rfl (of_decide_eq_true hgs35) cl11 (k := 10) (by decide) flX11_86 rfl rfl (fun _ => rfl) (fun _ => rfl) ?_
  refine j_aload_n 165 dX11_init_164 rfl rfl 0 rfl ?_
  refine j_nwO 168 dX11_init_165 rfl cl4 flX11_83 wm512 wm97 (by decide) ?_
  refine j_dup 169 dX11_init_168 rfl rfl ?_
  obtain ⟨q37, hq37, h⟩ := j_bs h
  refine j_callIN (y := yX4_init) (cy := cX4_init) (my := 1) (rest := [.ref (E.1 + (q34.2.2.2).length), .ref (E.1 + t)]) (As := []) 172 dX11_init_169 rfl jyX4_init (tcX4_init  jm_last hq37) flX11_85 wm514 rfl (by decide) rfl rfl (Nat.le_of_ble_eq_true rfl) ?_
  obtain ⟨hgs38, h⟩ := j_gs h
  obtain ⟨hgs39, h⟩ := j_gs h
  refine j_putD 175 dX11_init_172 rfl (of_decide_eq_true hgs38) cl11 (k := 11) (by decide) flX11_90 rfl rfl (fun _ => rfl) (fun _ => rfl) ?_
  refine j_aload_n 176 dX11_init_175 rfl rfl 0 rfl ?_
  rcases j_os h with ⟨hb, h⟩ | ⟨b40, hb, h⟩
  · cases h
  obtain ⟨hsb40, h⟩ := j_gs h
  replace hsb40 := of_decide_eq_true hsb40
  refine j_getG 179 dX11_init_176 rfl (of_decide_eq_true hgs38) cl11 (k := 4) (by decide) flX11_42 rfl hb ?_
  refine j_aload_n 180 dX11_init_179 rfl rfl 0 rfl ?_
  rcases j_os h with ⟨hb, h⟩ | ⟨b41, hb, h⟩
  · refine j_getDn 183 dX11_init_180 rfl (of_decide_eq_true hgs38) cl11 (k := 10) (by decide) flX11_86 rfl hb ?_
    cases h
  obtain ⟨hsb41, h⟩ := j_gs h
  replace hsb41 := of_decide_eq_true hsb41
  refine j_getD 183 dX11_init_180 rfl (of_decide_eq_true hgs38) cl11 (k := 10) (by decide) flX11_86 rfl hb ?_
  refine j_putDN 186 dX11_init_183 rfl hsb40 cl3 (k := 5) (by decide) flX11_93 rfl rfl (fun _ => rfl) (fun _ => rfl) ?_
  cases h
  exact j_vret dX11_init_186 rfl
def fX11_pass_88 (l1 : Int32) (l2 : Int32) (l3 : Int32) (l4 : Int32) (I : JI) (L : JL) (G : JG) (D : JG) (S : JS) : Option (Int32 × JI × JL × JG × JG × JS) :=
  (fX3_judgeAll 7 14 I L D S).bind (fun q6 => j_g (j_in (q6.1 0 12) 40) (j_opt (q6.2 42 (q6.1 0 12).toNatClampNeg) (none) (fun b7 => j_g (decide (S[b7]? = some (7, 9))) ((fX7_begin b7 14 (q6.1 1 8) q6.1 q6.2 S).bind (fun q8 => (fX1_move 7 l1 l2 l3 l4 q8).bind (fun q9 => some ((((j_up q9 0 12 ((q9 0 12) + (1 : Int32))) 0 12) - (1 : Int32)), (j_up q9 0 12 ((q9 0 12) + (1 : Int32))), L, G, q6.2, S)))))))
set_option maxHeartbeats 4000000 in
set_option maxRecDepth 100000 in
theorem kX11_pass_88 {E : JE} {r : Int32 × JI × JL × JG × JG × JS} {G : JG} {S : JS} (hL : Lay G S) : ∀ (l1 : Int32) (l2 : Int32) (l3 : Int32) (l4 : Int32) (I : JI) (L : JL) (D : JG), fX11_pass_88 l1 l2 l3 l4 I L G D S = some r → AtJ E xX11_pass (Zr E (some (.int r.1)) r.2.1 r.2.2.1 r.2.2.2.1 r.2.2.2.2.1 r.2.2.2.2.2) ((r.2.2.2.2.2).length, jm_sl r.2.2.2.2.2) 6 88 [(0, .ref (E.1 + 0)), (1, .int l1), (2, .int l2), (3, .int l3), (4, .int l4)] [] I L G D S := by
  intro l1 l2 l3 l4 I L D  h
  unfold fX11_pass_88 at h
  refine j_aload_n 89 dX11_pass_88 rfl rfl 0 rfl ?_
  refine j_getG 92 dX11_pass_89 rfl (sh_0 hL) cl11 (k := 4) (by decide) flX11_42 rfl (gs_0_4 hL) ?_
  refine j_aload_n 93 dX11_pass_92 rfl rfl 0 rfl ?_
  refine j_getG 96 dX11_pass_93 rfl (sh_0 hL) cl11 (k := 1) (by decide) flX11_19 rfl (gs_0_1 hL) ?_
  refine j_aload_n 97 dX11_pass_96 rfl rfl 0 rfl ?_
  refine j_getG 100 dX11_pass_97 rfl (sh_0 hL) cl11 (k := 3) (by decide) flX11_33 rfl (gs_0_3 hL) ?_
  obtain ⟨q6, hq6, h⟩ := j_bs h
  refine j_callV (rest := []) (As := [.ref (E.1 + 7), .ref (E.1 + 14)]) 103 dX11_pass_100 rfl jyX3_judgeAll (tcX3_judgeAll hL (sh_7 hL) (sh_14 hL) hq6) (sh_15 hL) cl3 flX11_182 wm934 wm935 (by decide) rfl rfl (Nat.le_of_ble_eq_true rfl) ?_
  refine j_aload_n 104 dX11_pass_103 rfl rfl 0 rfl ?_
  refine j_getG 107 dX11_pass_104 rfl (sh_0 hL) cl11 (k := 8) (by decide) flX11_73 rfl (gs_0_8 hL) ?_
  refine j_aload_n 108 dX11_pass_107 rfl rfl 0 rfl ?_
  refine j_getI 111 dX11_pass_108 rfl (sh_0 hL) cl11 (k := 12) (by decide) flX11_178 rfl ?_
  obtain ⟨hg, h⟩ := j_gs h
  rcases j_os h with ⟨hb, h⟩ | ⟨b7, hb, h⟩
  · refine j_aaldN 112 dX11_pass_111 rfl (sh_42 hL) (by decide) (by decide) (fun _ => rfl) (i0 := 6) rfl (j_inv hg) hb ?_
    refine j_aload_n 113 dX11_pass_112 rfl rfl 0 rfl ?_
    refine j_getG 116 dX11_pass_113 rfl (sh_0 hL) cl11 (k := 4) (by decide) flX11_42 rfl (gs_0_4 hL) ?_
    refine j_aload_n 117 dX11_pass_116 rfl rfl 0 rfl ?_
    refine j_getG 120 dX11_pass_117 rfl (sh_0 hL) cl11 (k := 3) (by decide) flX11_33 rfl (gs_0_3 hL) ?_
    refine j_aload_n 121 dX11_pass_120 rfl rfl 0 rfl ?_
    refine j_getG 124 dX11_pass_121 rfl (sh_0 hL) cl11 (k := 0) (by decide) flX11_10 rfl (gs_0_0 hL) ?_
    refine j_getIN 127 dX11_pass_124 rfl (sh_1 hL) cl9 (k := 8) (by decide) flX11_152 rfl ?_
    cases h
  obtain ⟨hsb7, h⟩ := j_gs h
  replace hsb7 := of_decide_eq_true hsb7
  refine j_aald 112 dX11_pass_111 rfl (sh_42 hL) (by decide) (by decide) (fun _ => rfl) (i0 := 6) rfl (j_inv hg) hb ?_
  refine j_aload_n 113 dX11_pass_112 rfl rfl 0 rfl ?_
  refine j_getG 116 dX11_pass_113 rfl (sh_0 hL) cl11 (k := 4) (by decide) flX11_42 rfl (gs_0_4 hL) ?_
  refine j_aload_n 117 dX11_pass_116 rfl rfl 0 rfl ?_
  refine j_getG 120 dX11_pass_117 rfl (sh_0 hL) cl11 (k := 3) (by decide) flX11_33 rfl (gs_0_3 hL) ?_
  refine j_aload_n 121 dX11_pass_120 rfl rfl 0 rfl ?_
  refine j_getG 124 dX11_pass_121 rfl (sh_0 hL) cl11 (k := 0) (by decide) flX11_10 rfl (gs_0_0 hL) ?_
  refine j_getIN 127 dX11_pass_124 rfl (sh_1 hL) cl9 (k := 8) (by decide) flX11_152 rfl ?_
  obtain ⟨q8, hq8, h⟩ := j_bs h
  refine j_callV (rest := []) (As := [.ref (E.1 + 15), .ref (E.1 + 14), .int (q6.1 1 8)]) 130 dX11_pass_127 rfl jyX7_begin (tcX7_begin hL hsb7 (sh_14 hL) hq8) hsb7 cl7 flX11_186 wm969 wm970 (by decide) rfl rfl (Nat.le_of_ble_eq_true rfl) ?_
  refine j_aload_n 131 dX11_pass_130 rfl rfl 0 rfl ?_
  refine j_getG 134 dX11_pass_131 rfl (sh_0 hL) cl11 (k := 1) (by decide) flX11_19 rfl (gs_0_1 hL) ?_
  refine j_iload_n 135 dX11_pass_134 rfl rfl 1 rfl ?_
  refine j_iload_n 136 dX11_pass_135 rfl rfl 2 rfl ?_
  refine j_iload_n 137 dX11_pass_136 rfl rfl 3 rfl ?_
  refine j_iload 139 dX11_pass_137 rfl 4 rfl ?_
  obtain ⟨q9, hq9, h⟩ := j_bs h
  refine j_callV (rest := []) (As := [.int l1, .int l2, .int l3, .int l4]) 142 dX11_pass_139 rfl jyX1_move (tcX1_move hL (sh_7 hL) hq9) (sh_7 hL) cl1 flX11_122 wm667 wm668 (by decide) rfl rfl (Nat.le_of_ble_eq_true rfl) ?_
  refine j_aload_n 143 dX11_pass_142 rfl rfl 0 rfl ?_
  refine j_dup 144 dX11_pass_143 rfl rfl ?_
  refine j_getI 147 dX11_pass_144 rfl (sh_0 hL) cl11 (k := 12) (by decide) flX11_178 rfl ?_
  refine j_iconst (v := (1 : Int32)) 148 dX11_pass_147 rfl (by decide) ?_
  refine j_iadd 149 dX11_pass_148 rfl ?_
  refine j_putI 152 dX11_pass_149 rfl (sh_0 hL) cl11 (k := 12) (by decide) flX11_178 rfl rfl rfl ?_
  refine j_aload_n 153 dX11_pass_152 rfl rfl 0 rfl ?_
  refine j_getI 156 dX11_pass_153 rfl (sh_0 hL) cl11 (k := 12) (by decide) flX11_178 rfl ?_
  refine j_iconst (v := (1 : Int32)) 157 dX11_pass_156 rfl (by decide) ?_
  refine j_isub 158 dX11_pass_157 rfl ?_
  cases h
  exact j_iret dX11_pass_158 rfl
def fX11_pass (l1 : Int32) (l2 : Int32) (l3 : Int32) (l4 : Int32) (l5 : Int32) (l6 : Int32) (l7 : Int32) (I : JI) (L : JL) (G : JG) (D : JG) (S : JS) : Option (Int32 × JI × JL × JG × JG × JS) :=
  (fX0_tell 14 l1 l2 l3 l4 l5 l6 l7 I).bind (fun q1 => (fX0_canBe 14 7 q1).bind (fun q2 => if q2 = 0 then (some ((-1 : Int32), q1, L, G, D, S)) else (if (q1 0 12) < (40 : Int32) then (j_g (j_in ((j_up q1 1 9 ((q1 1 9) + (1 : Int32))) 0 12) 40) (j_opt (D 42 ((j_up q1 1 9 ((q1 1 9) + (1 : Int32))) 0 12).toNatClampNeg) ((fX7_init (S).length (j_clr (j_up q1 1 9 ((q1 1 9) + (1 : Int32))) (S).length 0) (j_clr L (S).length 0) (j_clr G (S).length none) (j_clr D (S).length none) (S ++ [(7, 9)])).bind (fun q4 => j_g (decide (q4.2.2.2.2[(S).length]? = some (7, 9))) (j_g (j_in ((j_up q1 1 9 ((q1 1 9) + (1 : Int32))) 0 12) 40) (fX11_pass_88 l1 l2 l3 l4 q4.1 q4.2.1 q4.2.2.1 (j_up q4.2.2.2.1 42 ((j_up q1 1 9 ((q1 1 9) + (1 : Int32))) 0 12).toNatClampNeg (some (S).length)) q4.2.2.2.2)))) (fun b3 => j_g (decide (S[b3]? = some (7, 9))) (fX11_pass_88 l1 l2 l3 l4 (j_up q1 1 9 ((q1 1 9) + (1 : Int32))) L G D S)))) else (some ((-1 : Int32), q1, L, G, D, S)))))
set_option maxHeartbeats 4000000 in
set_option maxRecDepth 100000 in
theorem tcX11_pass {E : JE} {l1 : Int32} {l2 : Int32} {l3 : Int32} {l4 : Int32} {l5 : Int32} {l6 : Int32} {l7 : Int32} {r : Int32 × JI × JL × JG × JG × JS} {I : JI} {L : JL} {G D : JG} {S : JS} (hL : Lay G S) (h : fX11_pass l1 l2 l3 l4 l5 l6 l7 I L G D S = some r) : CallJ E xX11_pass 6 [.ref (E.1 + 0), .int l1, .int l2, .int l3, .int l4, .int l5, .int l6, .int l7] I L G D S (some (.int r.1)) r.2.1 r.2.2.1 r.2.2.2.1 r.2.2.2.2.1 r.2.2.2.2.2 := by
  unfold fX11_pass at h
  refine j_entry (by decide) (Nat.le_of_ble_eq_true rfl) ?_
  show AtJ E xX11_pass (Zr E (some (.int r.1)) r.2.1 r.2.2.1 r.2.2.2.1 r.2.2.2.2.1 r.2.2.2.2.2) ((r.2.2.2.2.2).length, jm_sl r.2.2.2.2.2) 6 0 [(0, .ref (E.1 + 0)), (1, .int l1), (2, .int l2), (3, .int l3), (4, .int l4), (5, .int l5), (6, .int l6), (7, .int l7)] [] I L G D S
  refine j_aload_n 1 dX11_pass_0 rfl rfl 0 rfl ?_
  refine j_getG 4 dX11_pass_1 rfl (sh_0 hL) cl11 (k := 3) (by decide) flX11_33 rfl (gs_0_3 hL) ?_
  refine j_iload_n 5 dX11_pass_4 rfl rfl 1 rfl ?_
  refine j_iload_n 6 dX11_pass_5 rfl rfl 2 rfl ?_
  refine j_iload_n 7 dX11_pass_6 rfl rfl 3 rfl ?_
  refine j_iload 9 dX11_pass_7 rfl 4 rfl ?_
  refine j_iload 11 dX11_pass_9 rfl 5 rfl ?_
  refine j_iload 13 dX11_pass_11 rfl 6 rfl ?_
  refine j_iload 15 dX11_pass_13 rfl 7 rfl ?_
  obtain ⟨q1, hq1, h⟩ := j_bs h
  refine j_callV (rest := []) (As := [.int l1, .int l2, .int l3, .int l4, .int l5, .int l6, .int l7]) 18 dX11_pass_15 rfl jyX0_tell (tcX0_tell hL (sh_14 hL) hq1) (sh_14 hL) cl0 flX11_170 wm875 wm876 (by decide) rfl rfl (Nat.le_of_ble_eq_true rfl) ?_
  refine j_aload_n 19 dX11_pass_18 rfl rfl 0 rfl ?_
  refine j_getG 22 dX11_pass_19 rfl (sh_0 hL) cl11 (k := 3) (by decide) flX11_33 rfl (gs_0_3 hL) ?_
  refine j_aload_n 23 dX11_pass_22 rfl rfl 0 rfl ?_
  refine j_getG 26 dX11_pass_23 rfl (sh_0 hL) cl11 (k := 0) (by decide) flX11_10 rfl (gs_0_0 hL) ?_
  refine j_aload_n 27 dX11_pass_26 rfl rfl 0 rfl ?_
  refine j_getG 30 dX11_pass_27 rfl (sh_0 hL) cl11 (k := 1) (by decide) flX11_19 rfl (gs_0_1 hL) ?_
  obtain ⟨q2, hq2, h⟩ := j_bs h
  refine j_callV (rest := []) (As := [.ref (E.1 + 1), .ref (E.1 + 7)]) 33 dX11_pass_30 rfl jyX0_canBe (tcX0_canBe hL (sh_14 hL) (sh_7 hL) hq2) (sh_14 hL) cl0 flX11_174 wm879 wm880 (by decide) rfl rfl (Nat.le_of_ble_eq_true rfl) ?_
  refine j_if_eq 45 36 dX11_pass_33 (by decide) rfl (fun hc => ?_) (fun hc => ?_)
  · replace h := j_pos hc h
    refine j_iconst (v := (-1 : Int32)) 46 dX11_pass_45 rfl (by decide) ?_
    cases h
    exact j_iret dX11_pass_46 rfl
  · replace h := j_neg hc h
    refine j_aload_n 37 dX11_pass_36 rfl rfl 0 rfl ?_
    refine j_getI 40 dX11_pass_37 rfl (sh_0 hL) cl11 (k := 12) (by decide) flX11_178 rfl ?_
    refine j_bipush (v := (40 : Int32)) 42 dX11_pass_40 rfl (by decide) ?_
    refine j_icmp_lt 47 45 dX11_pass_42 (by decide) rfl (fun hc => ?_) (fun hc => ?_)
    · replace h := j_pos hc h
      refine j_aload_n 48 dX11_pass_47 rfl rfl 0 rfl ?_
      refine j_getG 51 dX11_pass_48 rfl (sh_0 hL) cl11 (k := 0) (by decide) flX11_10 rfl (gs_0_0 hL) ?_
      refine j_dup 52 dX11_pass_51 rfl rfl ?_
      refine j_getIN 55 dX11_pass_52 rfl (sh_1 hL) cl9 (k := 9) (by decide) flX11_103 rfl ?_
      refine j_iconst (v := (1 : Int32)) 56 dX11_pass_55 rfl (by decide) ?_
      refine j_iadd 57 dX11_pass_56 rfl ?_
      refine j_putIN 60 dX11_pass_57 rfl (sh_1 hL) cl9 (k := 9) (by decide) flX11_103 rfl rfl rfl ?_
      refine j_aload_n 61 dX11_pass_60 rfl rfl 0 rfl ?_
      refine j_getG 64 dX11_pass_61 rfl (sh_0 hL) cl11 (k := 8) (by decide) flX11_73 rfl (gs_0_8 hL) ?_
      refine j_aload_n 65 dX11_pass_64 rfl rfl 0 rfl ?_
      refine j_getI 68 dX11_pass_65 rfl (sh_0 hL) cl11 (k := 12) (by decide) flX11_178 rfl ?_
      obtain ⟨hg, h⟩ := j_gs h
      rcases j_os h with ⟨hb, h⟩ | ⟨b3, hb, h⟩
      · refine j_aaldN 69 dX11_pass_68 rfl (sh_42 hL) (by decide) (by decide) (fun _ => rfl) (i0 := 6) rfl (j_inv hg) hb ?_
        refine j_ifnonnullN 72 dX11_pass_69 rfl ?_
        refine j_aload_n 73 dX11_pass_72 rfl rfl 0 rfl ?_
        refine j_getG 76 dX11_pass_73 rfl (sh_0 hL) cl11 (k := 8) (by decide) flX11_73 rfl (gs_0_8 hL) ?_
        refine j_aload_n 77 dX11_pass_76 rfl rfl 0 rfl ?_
        refine j_getI 80 dX11_pass_77 rfl (sh_0 hL) cl11 (k := 12) (by decide) flX11_178 rfl ?_
        refine j_nwO 83 dX11_pass_80 rfl cl7 flX11_71 wm892 wm103 (by decide) ?_
        refine j_dup 84 dX11_pass_83 rfl rfl ?_
        obtain ⟨q4, hq4, h⟩ := j_bs h
        have hL0 := hL
        refine j_callIN (y := yX7_init) (cy := cX7_init) (my := 1) (rest := [.ref (E.1 + (S).length), .int ((j_up q1 1 9 ((q1 1 9) + (1 : Int32))) 0 12), .ref (E.1 + 42)]) (As := []) 87 dX11_pass_84 rfl jyX7_init (tcX7_init  jm_last hq4) flX11_181 wm894 rfl (by decide) rfl rfl (Nat.le_of_ble_eq_true rfl) ?_
        replace hL := lyX7_init hL hq4
        obtain ⟨hgs5, h⟩ := j_gs h
        obtain ⟨hg, h⟩ := j_gs h
        refine j_aast 88 dX11_pass_87 rfl (sh_42 hL) (by decide) (by decide) (fun _ => rfl) (i0 := 6) rfl (of_decide_eq_true hgs5) cl7 (j_inv hg) ?_
        refine j_sub [0, 1, 2, 3, 4] rfl ?_
        exact kX11_pass_88 hL    _ _ _ _ _ _ _  h
      obtain ⟨hsb3, h⟩ := j_gs h
      replace hsb3 := of_decide_eq_true hsb3
      refine j_aald 69 dX11_pass_68 rfl (sh_42 hL) (by decide) (by decide) (fun _ => rfl) (i0 := 6) rfl (j_inv hg) hb ?_
      refine j_ifnonnull 88 dX11_pass_69 (by decide) ?_
      refine j_sub [0, 1, 2, 3, 4] rfl ?_
      exact kX11_pass_88 hL    _ _ _ _ _ _ _  h
    · replace h := j_neg hc h
      refine j_iconst (v := (-1 : Int32)) 46 dX11_pass_45 rfl (by decide) ?_
      cases h
      exact j_iret dX11_pass_46 rfl
def fX11_honest (l1 : Int32) (l2 : Int32) (l3 : Int32) (l4 : Int32) (l5 : Int32) (l6 : Int32) (I : JI) (L : JL) (G : JG) (D : JG) (S : JS) : Option (Int32 × JI × JL × JG × JG × JS) :=
  (fX0_tell 14 l1 l2 l3 l4 l5 l6 l6 I).bind (fun q1 => (fX0_isSound 14 q1).bind (fun q2 => if q2 = 0 then (some ((0 : Int32), q1, L, G, D, S)) else (if (q1 30 6) < (6 : Int32) then ((fX6_addHonest 14 (j_up q1 1 9 ((q1 1 9) + (1 : Int32))) L G D S).bind (fun q3 => some ((1 : Int32), q3.1, q3.2.1, q3.2.2.1, q3.2.2.2.1, q3.2.2.2.2))) else (some ((0 : Int32), q1, L, G, D, S)))))
set_option maxHeartbeats 4000000 in
set_option maxRecDepth 100000 in
theorem tcX11_honest {E : JE} {l1 : Int32} {l2 : Int32} {l3 : Int32} {l4 : Int32} {l5 : Int32} {l6 : Int32} {r : Int32 × JI × JL × JG × JG × JS} {I : JI} {L : JL} {G D : JG} {S : JS} (hL : Lay G S) (h : fX11_honest l1 l2 l3 l4 l5 l6 I L G D S = some r) : CallJ E xX11_honest 4 [.ref (E.1 + 0), .int l1, .int l2, .int l3, .int l4, .int l5, .int l6] I L G D S (some (.int r.1)) r.2.1 r.2.2.1 r.2.2.2.1 r.2.2.2.2.1 r.2.2.2.2.2 := by
  unfold fX11_honest at h
  refine j_entry (by decide) (Nat.le_of_ble_eq_true rfl) ?_
  show AtJ E xX11_honest (Zr E (some (.int r.1)) r.2.1 r.2.2.1 r.2.2.2.1 r.2.2.2.2.1 r.2.2.2.2.2) ((r.2.2.2.2.2).length, jm_sl r.2.2.2.2.2) 4 0 [(0, .ref (E.1 + 0)), (1, .int l1), (2, .int l2), (3, .int l3), (4, .int l4), (5, .int l5), (6, .int l6)] [] I L G D S
  refine j_aload_n 1 dX11_honest_0 rfl rfl 0 rfl ?_
  refine j_getG 4 dX11_honest_1 rfl (sh_0 hL) cl11 (k := 3) (by decide) flX11_33 rfl (gs_0_3 hL) ?_
  refine j_iload_n 5 dX11_honest_4 rfl rfl 1 rfl ?_
  refine j_iload_n 6 dX11_honest_5 rfl rfl 2 rfl ?_
  refine j_iload_n 7 dX11_honest_6 rfl rfl 3 rfl ?_
  refine j_iload 9 dX11_honest_7 rfl 4 rfl ?_
  refine j_iload 11 dX11_honest_9 rfl 5 rfl ?_
  refine j_iload 13 dX11_honest_11 rfl 6 rfl ?_
  refine j_iload 15 dX11_honest_13 rfl 6 rfl ?_
  obtain ⟨q1, hq1, h⟩ := j_bs h
  refine j_callV (rest := []) (As := [.int l1, .int l2, .int l3, .int l4, .int l5, .int l6, .int l6]) 18 dX11_honest_15 rfl jyX0_tell (tcX0_tell hL (sh_14 hL) hq1) (sh_14 hL) cl0 flX11_170 wm875 wm876 (by decide) rfl rfl (Nat.le_of_ble_eq_true rfl) ?_
  refine j_aload_n 19 dX11_honest_18 rfl rfl 0 rfl ?_
  refine j_getG 22 dX11_honest_19 rfl (sh_0 hL) cl11 (k := 3) (by decide) flX11_33 rfl (gs_0_3 hL) ?_
  refine j_aload_n 23 dX11_honest_22 rfl rfl 0 rfl ?_
  refine j_getG 26 dX11_honest_23 rfl (sh_0 hL) cl11 (k := 0) (by decide) flX11_10 rfl (gs_0_0 hL) ?_
  obtain ⟨q2, hq2, h⟩ := j_bs h
  refine j_callV (rest := []) (As := [.ref (E.1 + 1)]) 29 dX11_honest_26 rfl jyX0_isSound (tcX0_isSound hL (sh_14 hL) hq2) (sh_14 hL) cl0 flX11_279 wm883 wm884 (by decide) rfl rfl (Nat.le_of_ble_eq_true rfl) ?_
  refine j_if_eq 44 32 dX11_honest_29 (by decide) rfl (fun hc => ?_) (fun hc => ?_)
  · replace h := j_pos hc h
    refine j_iconst (v := (0 : Int32)) 45 dX11_honest_44 rfl (by decide) ?_
    cases h
    exact j_zret dX11_honest_45 rfl j_b01_0
  · replace h := j_neg hc h
    refine j_aload_n 33 dX11_honest_32 rfl rfl 0 rfl ?_
    refine j_getG 36 dX11_honest_33 rfl (sh_0 hL) cl11 (k := 6) (by decide) flX11_60 rfl (gs_0_6 hL) ?_
    refine j_getIN 39 dX11_honest_36 rfl (sh_30 hL) cl6 (k := 6) (by decide) flX11_283 rfl ?_
    refine j_bipush (v := (6 : Int32)) 41 dX11_honest_39 rfl (by decide) ?_
    refine j_icmp_lt 46 44 dX11_honest_41 (by decide) rfl (fun hc => ?_) (fun hc => ?_)
    · replace h := j_pos hc h
      refine j_aload_n 47 dX11_honest_46 rfl rfl 0 rfl ?_
      refine j_getG 50 dX11_honest_47 rfl (sh_0 hL) cl11 (k := 0) (by decide) flX11_10 rfl (gs_0_0 hL) ?_
      refine j_dup 51 dX11_honest_50 rfl rfl ?_
      refine j_getIN 54 dX11_honest_51 rfl (sh_1 hL) cl9 (k := 9) (by decide) flX11_103 rfl ?_
      refine j_iconst (v := (1 : Int32)) 55 dX11_honest_54 rfl (by decide) ?_
      refine j_iadd 56 dX11_honest_55 rfl ?_
      refine j_putIN 59 dX11_honest_56 rfl (sh_1 hL) cl9 (k := 9) (by decide) flX11_103 rfl rfl rfl ?_
      refine j_aload_n 60 dX11_honest_59 rfl rfl 0 rfl ?_
      refine j_getG 63 dX11_honest_60 rfl (sh_0 hL) cl11 (k := 6) (by decide) flX11_60 rfl (gs_0_6 hL) ?_
      refine j_aload_n 64 dX11_honest_63 rfl rfl 0 rfl ?_
      refine j_getG 67 dX11_honest_64 rfl (sh_0 hL) cl11 (k := 3) (by decide) flX11_33 rfl (gs_0_3 hL) ?_
      obtain ⟨q3, hq3, h⟩ := j_bs h
      refine j_callV (rest := []) (As := [.ref (E.1 + 14)]) 70 dX11_honest_67 rfl jyX6_addHonest (tcX6_addHonest hL (sh_14 hL) hq3) (sh_30 hL) cl6 flX11_286 wm1215 wm1216 (by decide) rfl rfl (Nat.le_of_ble_eq_true rfl) ?_
      refine j_iconst (v := (1 : Int32)) 71 dX11_honest_70 rfl (by decide) ?_
      cases h
      exact j_zret dX11_honest_71 rfl j_b01_1
    · replace h := j_neg hc h
      refine j_iconst (v := (0 : Int32)) 45 dX11_honest_44 rfl (by decide) ?_
      cases h
      exact j_zret dX11_honest_45 rfl j_b01_0
def fX11_mark_43 (l1 : Int32) (I : JI) (L : JL) (G : JG) (D : JG) (S : JS) : Option (Int32 × JI × JL × JG × JG × JS) :=
  j_g (j_in l1 4) (j_opt (D 43 l1.toNatClampNeg) (none) (fun b5 => j_g (decide (S[b5]? = some (5, 6))) ((fX5_lay b5 ((j_up I 0 13 ((I 0 13) + (1 : Int32))) 0 13) 7 ((j_up I 0 13 ((I 0 13) + (1 : Int32))) 0 12) (j_up I 0 13 ((I 0 13) + (1 : Int32))) D S).bind (fun q6 => some ((1 : Int32), q6, L, G, D, S)))))
set_option maxHeartbeats 4000000 in
set_option maxRecDepth 100000 in
theorem kX11_mark_43 {E : JE} {r : Int32 × JI × JL × JG × JG × JS} {G : JG} {S : JS} (hL : Lay G S) : ∀ (l1 : Int32) (I : JI) (L : JL) (D : JG), fX11_mark_43 l1 I L G D S = some r → AtJ E xX11_mark (Zr E (some (.int r.1)) r.2.1 r.2.2.1 r.2.2.2.1 r.2.2.2.2.1 r.2.2.2.2.2) ((r.2.2.2.2.2).length, jm_sl r.2.2.2.2.2) 6 43 [(0, .ref (E.1 + 0)), (1, .int l1)] [] I L G D S := by
  intro l1 I L D  h
  unfold fX11_mark_43 at h
  refine j_aload_n 44 dX11_mark_43 rfl rfl 0 rfl ?_
  refine j_dup 45 dX11_mark_44 rfl rfl ?_
  refine j_getI 48 dX11_mark_45 rfl (sh_0 hL) cl11 (k := 13) (by decide) flX11_296 rfl ?_
  refine j_iconst (v := (1 : Int32)) 49 dX11_mark_48 rfl (by decide) ?_
  refine j_iadd 50 dX11_mark_49 rfl ?_
  refine j_putI 53 dX11_mark_50 rfl (sh_0 hL) cl11 (k := 13) (by decide) flX11_296 rfl rfl rfl ?_
  refine j_aload_n 54 dX11_mark_53 rfl rfl 0 rfl ?_
  refine j_getG 57 dX11_mark_54 rfl (sh_0 hL) cl11 (k := 9) (by decide) flX11_79 rfl (gs_0_9 hL) ?_
  refine j_iload_n 58 dX11_mark_57 rfl rfl 1 rfl ?_
  obtain ⟨hg, h⟩ := j_gs h
  rcases j_os h with ⟨hb, h⟩ | ⟨b5, hb, h⟩
  · refine j_aaldN 59 dX11_mark_58 rfl (sh_43 hL) (by decide) (by decide) (fun _ => rfl) (i0 := 5) rfl (j_inv hg) hb ?_
    refine j_aload_n 60 dX11_mark_59 rfl rfl 0 rfl ?_
    refine j_getI 63 dX11_mark_60 rfl (sh_0 hL) cl11 (k := 13) (by decide) flX11_296 rfl ?_
    refine j_aload_n 64 dX11_mark_63 rfl rfl 0 rfl ?_
    refine j_getG 67 dX11_mark_64 rfl (sh_0 hL) cl11 (k := 0) (by decide) flX11_10 rfl (gs_0_0 hL) ?_
    refine j_aload_n 68 dX11_mark_67 rfl rfl 0 rfl ?_
    refine j_getG 71 dX11_mark_68 rfl (sh_0 hL) cl11 (k := 1) (by decide) flX11_19 rfl (gs_0_1 hL) ?_
    refine j_aload_n 72 dX11_mark_71 rfl rfl 0 rfl ?_
    refine j_getG 75 dX11_mark_72 rfl (sh_0 hL) cl11 (k := 8) (by decide) flX11_73 rfl (gs_0_8 hL) ?_
    refine j_aload_n 76 dX11_mark_75 rfl rfl 0 rfl ?_
    refine j_getI 79 dX11_mark_76 rfl (sh_0 hL) cl11 (k := 12) (by decide) flX11_178 rfl ?_
    cases h
  obtain ⟨hsb5, h⟩ := j_gs h
  replace hsb5 := of_decide_eq_true hsb5
  refine j_aald 59 dX11_mark_58 rfl (sh_43 hL) (by decide) (by decide) (fun _ => rfl) (i0 := 5) rfl (j_inv hg) hb ?_
  refine j_aload_n 60 dX11_mark_59 rfl rfl 0 rfl ?_
  refine j_getI 63 dX11_mark_60 rfl (sh_0 hL) cl11 (k := 13) (by decide) flX11_296 rfl ?_
  refine j_aload_n 64 dX11_mark_63 rfl rfl 0 rfl ?_
  refine j_getG 67 dX11_mark_64 rfl (sh_0 hL) cl11 (k := 0) (by decide) flX11_10 rfl (gs_0_0 hL) ?_
  refine j_aload_n 68 dX11_mark_67 rfl rfl 0 rfl ?_
  refine j_getG 71 dX11_mark_68 rfl (sh_0 hL) cl11 (k := 1) (by decide) flX11_19 rfl (gs_0_1 hL) ?_
  refine j_aload_n 72 dX11_mark_71 rfl rfl 0 rfl ?_
  refine j_getG 75 dX11_mark_72 rfl (sh_0 hL) cl11 (k := 8) (by decide) flX11_73 rfl (gs_0_8 hL) ?_
  refine j_aload_n 76 dX11_mark_75 rfl rfl 0 rfl ?_
  refine j_getI 79 dX11_mark_76 rfl (sh_0 hL) cl11 (k := 12) (by decide) flX11_178 rfl ?_
  obtain ⟨q6, hq6, h⟩ := j_bs h
  refine j_callV (rest := []) (As := [.int ((j_up I 0 13 ((I 0 13) + (1 : Int32))) 0 13), .ref (E.1 + 1), .ref (E.1 + 7), .ref (E.1 + 42), .int ((j_up I 0 13 ((I 0 13) + (1 : Int32))) 0 12)]) 82 dX11_mark_79 rfl jyX5_lay (tcX5_lay hL hsb5 (sh_7 hL) hq6) hsb5 cl5 flX11_299 wm1302 wm1303 (by decide) rfl rfl (Nat.le_of_ble_eq_true rfl) ?_
  refine j_iconst (v := (1 : Int32)) 83 dX11_mark_82 rfl (by decide) ?_
  cases h
  exact j_zret dX11_mark_83 rfl j_b01_1
def fX11_mark (l1 : Int32) (l2 : Int32) (I : JI) (L : JL) (G : JG) (D : JG) (S : JS) : Option (Int32 × JI × JL × JG × JG × JS) :=
  if l1 < 0 then (some ((0 : Int32), I, L, G, D, S)) else (if l1 < (4 : Int32) then (if l2 = 0 then (j_g (j_in l1 4) (j_opt (D 43 l1.toNatClampNeg) ((fX5_init (S).length (j_clr I (S).length 0) (j_clr L (S).length 0) (j_clr G (S).length none) (j_clr D (S).length none) (S ++ [(5, 6)])).bind (fun q2 => j_g (decide (q2.2.2.2.2[(S).length]? = some (5, 6))) (j_g (j_in l1 4) (fX11_mark_43 l1 q2.1 q2.2.1 q2.2.2.1 (j_up q2.2.2.2.1 43 l1.toNatClampNeg (some (S).length)) q2.2.2.2.2)))) (fun b1 => j_g (decide (S[b1]? = some (5, 6))) (fX11_mark_43 l1 I L G D S)))) else ((fX11_goBack l1 I D S).bind (fun q4 => j_g (decide (jm_b01 q4.1 = q4.1)) (some (q4.1, q4.2, L, G, D, S))))) else (some ((0 : Int32), I, L, G, D, S)))
set_option maxHeartbeats 4000000 in
set_option maxRecDepth 100000 in
theorem tcX11_mark {E : JE} {l1 : Int32} {l2 : Int32} {r : Int32 × JI × JL × JG × JG × JS} {I : JI} {L : JL} {G D : JG} {S : JS} (hL : Lay G S) (h : fX11_mark l1 l2 I L G D S = some r) : CallJ E xX11_mark 6 [.ref (E.1 + 0), .int l1, .int l2] I L G D S (some (.int r.1)) r.2.1 r.2.2.1 r.2.2.2.1 r.2.2.2.2.1 r.2.2.2.2.2 := by
  unfold fX11_mark at h
  refine j_entry (by decide) (Nat.le_of_ble_eq_true rfl) ?_
  show AtJ E xX11_mark (Zr E (some (.int r.1)) r.2.1 r.2.2.1 r.2.2.2.1 r.2.2.2.2.1 r.2.2.2.2.2) ((r.2.2.2.2.2).length, jm_sl r.2.2.2.2.2) 6 0 [(0, .ref (E.1 + 0)), (1, .int l1), (2, .int l2)] [] I L G D S
  refine j_iload_n 1 dX11_mark_0 rfl rfl 1 rfl ?_
  refine j_if_lt 9 4 dX11_mark_1 (by decide) rfl (fun hc => ?_) (fun hc => ?_)
  · replace h := j_pos hc h
    refine j_iconst (v := (0 : Int32)) 10 dX11_mark_9 rfl (by decide) ?_
    cases h
    exact j_zret dX11_mark_10 rfl j_b01_0
  · replace h := j_neg hc h
    refine j_iload_n 5 dX11_mark_4 rfl rfl 1 rfl ?_
    refine j_iconst (v := (4 : Int32)) 6 dX11_mark_5 rfl (by decide) ?_
    refine j_icmp_lt 11 9 dX11_mark_6 (by decide) rfl (fun hc => ?_) (fun hc => ?_)
    · replace h := j_pos hc h
      refine j_iload_n 12 dX11_mark_11 rfl rfl 2 rfl ?_
      refine j_if_eq 21 15 dX11_mark_12 (by decide) rfl (fun hc => ?_) (fun hc => ?_)
      · replace h := j_pos hc h
        refine j_aload_n 22 dX11_mark_21 rfl rfl 0 rfl ?_
        refine j_getG 25 dX11_mark_22 rfl (sh_0 hL) cl11 (k := 9) (by decide) flX11_79 rfl (gs_0_9 hL) ?_
        refine j_iload_n 26 dX11_mark_25 rfl rfl 1 rfl ?_
        obtain ⟨hg, h⟩ := j_gs h
        rcases j_os h with ⟨hb, h⟩ | ⟨b1, hb, h⟩
        · refine j_aaldN 27 dX11_mark_26 rfl (sh_43 hL) (by decide) (by decide) (fun _ => rfl) (i0 := 5) rfl (j_inv hg) hb ?_
          refine j_ifnonnullN 30 dX11_mark_27 rfl ?_
          refine j_aload_n 31 dX11_mark_30 rfl rfl 0 rfl ?_
          refine j_getG 34 dX11_mark_31 rfl (sh_0 hL) cl11 (k := 9) (by decide) flX11_79 rfl (gs_0_9 hL) ?_
          refine j_iload_n 35 dX11_mark_34 rfl rfl 1 rfl ?_
          refine j_nwO 38 dX11_mark_35 rfl cl5 flX11_77 wm1273 wm110 (by decide) ?_
          refine j_dup 39 dX11_mark_38 rfl rfl ?_
          obtain ⟨q2, hq2, h⟩ := j_bs h
          have hL0 := hL
          refine j_callIN (y := yX5_init) (cy := cX5_init) (my := 1) (rest := [.ref (E.1 + (S).length), .int l1, .ref (E.1 + 43)]) (As := []) 42 dX11_mark_39 rfl jyX5_init (tcX5_init  jm_last hq2) flX11_295 wm1275 rfl (by decide) rfl rfl (Nat.le_of_ble_eq_true rfl) ?_
          replace hL := lyX5_init hL hq2
          obtain ⟨hgs3, h⟩ := j_gs h
          obtain ⟨hg, h⟩ := j_gs h
          refine j_aast 43 dX11_mark_42 rfl (sh_43 hL) (by decide) (by decide) (fun _ => rfl) (i0 := 5) rfl (of_decide_eq_true hgs3) cl5 (j_inv hg) ?_
          refine j_sub [0, 1] rfl ?_
          exact kX11_mark_43 hL    _ _ _ _  h
        obtain ⟨hsb1, h⟩ := j_gs h
        replace hsb1 := of_decide_eq_true hsb1
        refine j_aald 27 dX11_mark_26 rfl (sh_43 hL) (by decide) (by decide) (fun _ => rfl) (i0 := 5) rfl (j_inv hg) hb ?_
        refine j_ifnonnull 43 dX11_mark_27 (by decide) ?_
        refine j_sub [0, 1] rfl ?_
        exact kX11_mark_43 hL    _ _ _ _  h
      · replace h := j_neg hc h
        refine j_aload_n 16 dX11_mark_15 rfl rfl 0 rfl ?_
        refine j_iload_n 17 dX11_mark_16 rfl rfl 1 rfl ?_
        obtain ⟨q4, hq4, h⟩ := j_bs h
        refine j_callV (rest := []) (As := [.int l1]) 20 dX11_mark_17 rfl jyX11_goBack (tcX11_goBack hL  hq4) (sh_0 hL) cl11 flX11_292 wm1262 wm37 (by decide) rfl rfl (Nat.le_of_ble_eq_true rfl) ?_
        obtain ⟨hz, h⟩ := j_gs h
        cases h
        exact j_zret dX11_mark_20 rfl (of_decide_eq_true hz)
    · replace h := j_neg hc h
      refine j_iconst (v := (0 : Int32)) 10 dX11_mark_9 rfl (by decide) ?_
      cases h
      exact j_zret dX11_mark_10 rfl j_b01_0
