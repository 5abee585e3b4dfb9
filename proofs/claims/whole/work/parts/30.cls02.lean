def fX5_init (t : Nat) (I : JI) (L : JL) (G : JG) (D : JG) (S : JS) : Option (JI × JL × JG × JG × JS) :=
  (fX1_init (S).length (j_clr I (S).length 0) (j_clr G (S).length none) (S ++ [(1, 4)])).bind (fun q1 => j_g (decide (q1.2.2[t]? = some (5, 6))) (j_g (decide (q1.2.2[(S).length]? = some (1, 4))) (some ((j_clr q1.1 (q1.2.2).length 0), (j_clr L (S).length 0), (j_up (j_up q1.2.1 t 0 (some (S).length)) t 1 (some (q1.2.2).length)), (j_clr D (S).length none), (q1.2.2 ++ [(20, 760)])))))
set_option maxHeartbeats 4000000 in
set_option maxRecDepth 100000 in
theorem tcX5_init {E : JE} {t : Nat} {r : JI × JL × JG × JG × JS} {I : JI} {L : JL} {G D : JG} {S : JS} (ht : S[t]? = some (5, 6)) (h : fX5_init t I L G D S = some r) : CallJ E xX5_init 2 [.ref (E.1 + t)] I L G D S none r.1 r.2.1 r.2.2.1 r.2.2.2.1 r.2.2.2.2 := by
  unfold fX5_init at h
  refine j_entry (by decide) (Nat.le_of_ble_eq_true rfl) ?_
  show AtJ E xX5_init (Zr E none r.1 r.2.1 r.2.2.1 r.2.2.2.1 r.2.2.2.2) ((r.2.2.2.2).length, jm_sl r.2.2.2.2) 2 0 [(0, .ref (E.1 + t))] [] I L G D S
  refine j_aload_n 1 dX5_init_0 rfl rfl 0 rfl ?_
  refine j_obj 4 dX5_init_1 rfl flX5_3 wm117 wm118 (by decide) (Nat.le_of_ble_eq_true rfl) ?_
  refine j_aload_n 5 dX5_init_4 rfl rfl 0 rfl ?_
  refine j_nwO 8 dX5_init_5 rfl cl1 flX5_9 wm172 wm90 (by decide) ?_
  refine j_dup 9 dX5_init_8 rfl rfl ?_
  obtain ⟨q1, hq1, h⟩ := j_bs h
  refine j_callIN (y := yX1_init) (cy := cX1_init) (my := 1) (rest := [.ref (E.1 + (S).length), .ref (E.1 + t)]) (As := []) 12 dX5_init_9 rfl jyX1_init (tcX1_init  jm_last hq1) flX5_11 wm174 rfl (by decide) rfl rfl (Nat.le_of_ble_eq_true rfl) ?_
  obtain ⟨hgs2, h⟩ := j_gs h
  obtain ⟨hgs3, h⟩ := j_gs h
  refine j_putF 15 dX5_init_12 rfl (of_decide_eq_true hgs2) cl5 (k := 0) (by decide) flX5_12 rfl rfl rfl rfl (fun _ => rfl) (fun _ => rfl) ?_
  refine j_aload_n 16 dX5_init_15 rfl rfl 0 rfl ?_
  refine j_sipush (v := (760 : Int32)) 19 dX5_init_16 rfl (by decide) ?_
  refine j_nwI (N := 760) 21 dX5_init_19 rfl wm170 (by decide) (by decide) (by decide) ?_
  refine j_putF 24 dX5_init_21 rfl (jm_pre (of_decide_eq_true hgs2)) cl5 (k := 1) (by decide) flX5_18 rfl rfl rfl rfl (fun _ => rfl) (fun _ => rfl) ?_
  cases h
  exact j_vret dX5_init_24 rfl
def fX5_lay_38 (t : Nat) (l3 : Nat) : Nat → Int32 → JI → JG → JS → Option (JI)
  | 0, _, _, _, _ => none
  | n + 1, l6, I, D, S =>
    if (I t 5) ≤ l6 then (some (I)) else (if (40 : Int32) ≤ l6 then (some (I)) else (j_g (j_in l6 40) (j_opt (D 42 l6.toNatClampNeg) ((fX5_lay_38 t l3 n) (l6 + (1 : Int32)) I D S) (fun b2 => j_g (decide (S[b2]? = some (7, 9))) (j_g (j_in l6 40) (j_opt (D 42 l6.toNatClampNeg) (none) (fun b3 => j_g (decide (S[b3]? = some (7, 9))) (j_g (decide (¬ (b3 + 5) = (t + 6))) (j_g (decide (¬ (0 : Int32) < 0 ∧ ¬ (l6 * (19 : Int32)) < 0 ∧ ¬ (19 : Int32) < 0 ∧ (0 : Int32).toNatClampNeg + (19 : Int32).toNatClampNeg ≤ 19 ∧ (l6 * (19 : Int32)).toNatClampNeg + (19 : Int32).toNatClampNeg ≤ 760)) ((fX5_lay_38 t l3 n) (l6 + (1 : Int32)) (j_cpy I (b3 + 5) (0 : Int32).toNatClampNeg (t + 6) (l6 * (19 : Int32)).toNatClampNeg (19 : Int32).toNatClampNeg) D S))))))))))
set_option maxHeartbeats 4000000 in
set_option maxRecDepth 100000 in
theorem kX5_lay_38 {E : JE} {t : Nat} {l3 : Nat} {r : JI} {L : JL} {G : JG} {S : JS} (hL : Lay G S) (ht : S[t]? = some (5, 6)) (h3 : S[l3]? = some (1, 4)) : ∀ (n : Nat) (l6 : Int32) (I : JI) (D : JG), fX5_lay_38 t l3 n l6 I D S = some r → AtJ E xX5_lay (Zr E none r L G D S) ((S).length, jm_sl S) 3 38 [(0, .ref (E.1 + t)), (4, .ref (E.1 + 42)), (6, .int l6)] [] I L G D S := by
  intro n
  induction n with
  | zero => intro l6 I D  h; simp [fX5_lay_38] at h
  | succ n ih =>
    intro l6 I D  h
    rw [fX5_lay_38] at h
    refine j_iload 40 dX5_lay_38 rfl 2 rfl ?_
    refine j_aload_n 41 dX5_lay_40 rfl rfl 0 rfl ?_
    refine j_getI 44 dX5_lay_41 rfl ht cl5 (k := 5) (by decide) flX5_36 rfl ?_
    refine j_icmp_ge 92 47 dX5_lay_44 (by decide) rfl (fun hc => ?_) (fun hc => ?_)
    · replace h := j_pos hc h
      cases h
      exact j_vret dX5_lay_92 rfl
    · replace h := j_neg hc h
      refine j_iload 49 dX5_lay_47 rfl 2 rfl ?_
      refine j_aload 51 dX5_lay_49 rfl 1 rfl ?_
      refine j_alen (v := (40 : Int32)) (i0 := 6) 52 dX5_lay_51 rfl (sh_42 hL) (by decide) (by decide) rfl rfl ?_
      refine j_icmp_ge 92 55 dX5_lay_52 (by decide) rfl (fun hc => ?_) (fun hc => ?_)
      · replace h := j_pos hc h
        cases h
        exact j_vret dX5_lay_92 rfl
      · replace h := j_neg hc h
        refine j_aload 57 dX5_lay_55 rfl 1 rfl ?_
        refine j_iload 59 dX5_lay_57 rfl 2 rfl ?_
        obtain ⟨hg, h⟩ := j_gs h
        rcases j_os h with ⟨hb, h⟩ | ⟨b2, hb, h⟩
        · refine j_aaldN 60 dX5_lay_59 rfl (sh_42 hL) (by decide) (by decide) (fun _ => rfl) (i0 := 6) rfl (j_inv hg) hb ?_
          refine j_ifnullN 86 dX5_lay_60 (by decide) ?_
          refine j_iinc (v := (l6 + (1 : Int32))) (lv' := [(6, .int (l6 + (1 : Int32))), (0, .ref (E.1 + t)), (4, .ref (E.1 + 42))]) (q := 2) 89 dX5_lay_86 rfl rfl rfl (by decide) rfl ?_
          refine j_goto 38 dX5_lay_89 (by decide) ?_
          refine j_sub [1, 2, 0] rfl ?_
          exact ih _ _ _  h
        obtain ⟨hsb2, h⟩ := j_gs h
        replace hsb2 := of_decide_eq_true hsb2
        refine j_aald 60 dX5_lay_59 rfl (sh_42 hL) (by decide) (by decide) (fun _ => rfl) (i0 := 6) rfl (j_inv hg) hb ?_
        refine j_ifnull 63 dX5_lay_60 rfl ?_
        refine j_aload 65 dX5_lay_63 rfl 1 rfl ?_
        refine j_iload 67 dX5_lay_65 rfl 2 rfl ?_
        obtain ⟨hg, h⟩ := j_gs h
        rcases j_os h with ⟨hb, h⟩ | ⟨b3, hb, h⟩
        · refine j_aaldN 68 dX5_lay_67 rfl (sh_42 hL) (by decide) (by decide) (fun _ => rfl) (i0 := 6) rfl (j_inv hg) hb ?_
          cases h
        obtain ⟨hsb3, h⟩ := j_gs h
        replace hsb3 := of_decide_eq_true hsb3
        refine j_aald 68 dX5_lay_67 rfl (sh_42 hL) (by decide) (by decide) (fun _ => rfl) (i0 := 6) rfl (j_inv hg) hb ?_
        refine j_getGN 71 dX5_lay_68 rfl hsb3 cl7 (k := 4) (by decide) flX5_43 rfl (ly7_4 hL hsb3).1 ?_
        refine j_iconst (v := (0 : Int32)) 72 dX5_lay_71 rfl (by decide) ?_
        refine j_aload_n 73 dX5_lay_72 rfl rfl 0 rfl ?_
        refine j_getG 76 dX5_lay_73 rfl ht cl5 (k := 1) (by decide) flX5_18 rfl (ly5_1 hL ht).1 ?_
        refine j_iload 78 dX5_lay_76 rfl 2 rfl ?_
        refine j_bipush (v := (19 : Int32)) 80 dX5_lay_78 rfl (by decide) ?_
        refine j_imul 81 dX5_lay_80 rfl ?_
        refine j_bipush (v := (19 : Int32)) 83 dX5_lay_81 rfl (by decide) ?_
        obtain ⟨hne, h⟩ := j_gs h
        obtain ⟨hcp, h⟩ := j_gs h
        have hcp := of_decide_eq_true hcp
        refine j_copy 86 dX5_lay_83 rfl (ly7_4 hL hsb3).2 (ly5_1 hL ht).2 (of_decide_eq_true hne) flX5_48 wm1101 wm1100 wm108 hcp.1 hcp.2.1 hcp.2.2.1 hcp.2.2.2.1 hcp.2.2.2.2 (by decide) (Nat.le_of_ble_eq_true rfl) (by decide) ?_
        refine j_iinc (v := (l6 + (1 : Int32))) (lv' := [(6, .int (l6 + (1 : Int32))), (0, .ref (E.1 + t)), (4, .ref (E.1 + 42))]) (q := 2) 89 dX5_lay_86 rfl rfl rfl (by decide) rfl ?_
        refine j_goto 38 dX5_lay_89 (by decide) ?_
        refine j_sub [1, 2, 0] rfl ?_
        exact ih _ _ _  h
def fX5_lay (t : Nat) (l1 : Int32) (l3 : Nat) (l5 : Int32) (I : JI) (D : JG) (S : JS) : Option (JI) :=
  (fX1_copyAll (t + 1) l3 (j_up (j_up (j_up (j_up I t 2 l1) t 3 ((j_up I t 2 l1) 1 5)) t 4 ((j_up (j_up I t 2 l1) t 3 ((j_up I t 2 l1) 1 5)) 1 8)) t 5 l5)).bind (fun q1 => fX5_lay_38 t l3 100000 (0 : Int32) q1 D S)
set_option maxHeartbeats 4000000 in
set_option maxRecDepth 100000 in
theorem tcX5_lay {E : JE} {t : Nat} {l1 : Int32} {l3 : Nat} {l5 : Int32} {r : JI} {I : JI} {L : JL} {G D : JG} {S : JS} (hL : Lay G S) (ht : S[t]? = some (5, 6)) (h3 : S[l3]? = some (1, 4)) (h : fX5_lay t l1 l3 l5 I D S = some r) : CallJ E xX5_lay 3 [.ref (E.1 + t), .int l1, .ref (E.1 + 1), .ref (E.1 + l3), .ref (E.1 + 42), .int l5] I L G D S none r L G D S := by
  unfold fX5_lay at h
  refine j_entry (by decide) (Nat.le_of_ble_eq_true rfl) ?_
  show AtJ E xX5_lay (Zr E none r L G D S) ((S).length, jm_sl S) 3 0 [(0, .ref (E.1 + t)), (1, .int l1), (2, .ref (E.1 + 1)), (3, .ref (E.1 + l3)), (4, .ref (E.1 + 42)), (5, .int l5)] [] I L G D S
  refine j_aload_n 1 dX5_lay_0 rfl rfl 0 rfl ?_
  refine j_iload_n 2 dX5_lay_1 rfl rfl 1 rfl ?_
  refine j_putI 5 dX5_lay_2 rfl ht cl5 (k := 2) (by decide) flX5_22 rfl rfl rfl ?_
  refine j_aload_n 6 dX5_lay_5 rfl rfl 0 rfl ?_
  refine j_aload_n 7 dX5_lay_6 rfl rfl 2 rfl ?_
  refine j_getIN 10 dX5_lay_7 rfl (sh_1 hL) cl9 (k := 5) (by decide) flX5_26 rfl ?_
  refine j_putI 13 dX5_lay_10 rfl ht cl5 (k := 3) (by decide) flX5_31 rfl rfl rfl ?_
  refine j_aload_n 14 dX5_lay_13 rfl rfl 0 rfl ?_
  refine j_aload_n 15 dX5_lay_14 rfl rfl 2 rfl ?_
  refine j_getIN 18 dX5_lay_15 rfl (sh_1 hL) cl9 (k := 8) (by decide) flX5_32 rfl ?_
  refine j_putI 21 dX5_lay_18 rfl ht cl5 (k := 4) (by decide) flX5_35 rfl rfl rfl ?_
  refine j_aload_n 22 dX5_lay_21 rfl rfl 0 rfl ?_
  refine j_iload 24 dX5_lay_22 rfl 5 rfl ?_
  refine j_putI 27 dX5_lay_24 rfl ht cl5 (k := 5) (by decide) flX5_36 rfl rfl rfl ?_
  refine j_aload_n 28 dX5_lay_27 rfl rfl 0 rfl ?_
  refine j_getG 31 dX5_lay_28 rfl ht cl5 (k := 0) (by decide) flX5_12 rfl (ly5_0 hL ht).1 ?_
  refine j_aload_n 32 dX5_lay_31 rfl rfl 3 rfl ?_
  obtain ⟨q1, hq1, h⟩ := j_bs h
  refine j_callV (rest := []) (As := [.ref (E.1 + l3)]) 35 dX5_lay_32 rfl jyX1_copyAll (tcX1_copyAll hL (ly5_0 hL ht).2 h3 hq1) (ly5_0 hL ht).2 cl1 flX5_39 wm1096 wm1097 (by decide) rfl rfl (Nat.le_of_ble_eq_true rfl) ?_
  refine j_iconst (v := (0 : Int32)) 36 dX5_lay_35 rfl (by decide) ?_
  refine j_istore (lv' := [(6, .int (0 : Int32)), (0, .ref (E.1 + t)), (1, .int l1), (2, .ref (E.1 + 1)), (3, .ref (E.1 + l3)), (4, .ref (E.1 + 42)), (5, .int l5)]) 38 dX5_lay_36 rfl (by decide) rfl ?_
  refine j_sub [1, 5, 0] rfl ?_
  exact kX5_lay_38 hL  ht h3  100000 _ _ _  h
def fX5_restore_49 (t : Nat) (l2 : Nat) : Nat → Int32 → JI → JG → JS → Option (JI)
  | 0, _, _, _, _ => none
  | n + 1, l4, I, D, S =>
    if (I t 5) ≤ l4 then (some (I)) else (if (40 : Int32) ≤ l4 then (some (I)) else (j_g (j_in l4 40) (j_opt (D 42 l4.toNatClampNeg) ((fX5_restore_49 t l2 n) (l4 + (1 : Int32)) I D S) (fun b2 => j_g (decide (S[b2]? = some (7, 9))) (j_g (j_in l4 40) (j_opt (D 42 l4.toNatClampNeg) (none) (fun b3 => j_g (decide (S[b3]? = some (7, 9))) (j_g (decide (¬ (t + 6) = (b3 + 5))) (j_g (decide (¬ (l4 * (19 : Int32)) < 0 ∧ ¬ (0 : Int32) < 0 ∧ ¬ (19 : Int32) < 0 ∧ (l4 * (19 : Int32)).toNatClampNeg + (19 : Int32).toNatClampNeg ≤ 760 ∧ (0 : Int32).toNatClampNeg + (19 : Int32).toNatClampNeg ≤ 19)) ((fX5_restore_49 t l2 n) (l4 + (1 : Int32)) (j_cpy I (t + 6) (l4 * (19 : Int32)).toNatClampNeg (b3 + 5) (0 : Int32).toNatClampNeg (19 : Int32).toNatClampNeg) D S))))))))))
set_option maxHeartbeats 4000000 in
set_option maxRecDepth 100000 in
theorem kX5_restore_49 {E : JE} {t : Nat} {l2 : Nat} {r : JI} {L : JL} {G : JG} {S : JS} (hL : Lay G S) (ht : S[t]? = some (5, 6)) (h2 : S[l2]? = some (1, 4)) : ∀ (n : Nat) (l4 : Int32) (I : JI) (D : JG), fX5_restore_49 t l2 n l4 I D S = some r → AtJ E xX5_restore (Zr E none r L G D S) ((S).length, jm_sl S) 4 49 [(0, .ref (E.1 + t)), (3, .ref (E.1 + 42)), (4, .int l4)] [] I L G D S := by
  intro n
  induction n with
  | zero => intro l4 I D  h; simp [fX5_restore_49] at h
  | succ n ih =>
    intro l4 I D  h
    rw [fX5_restore_49] at h
    refine j_iload 51 dX5_restore_49 rfl 2 rfl ?_
    refine j_aload_n 52 dX5_restore_51 rfl rfl 0 rfl ?_
    refine j_getI 55 dX5_restore_52 rfl ht cl5 (k := 5) (by decide) flX5_36 rfl ?_
    refine j_icmp_ge 100 58 dX5_restore_55 (by decide) rfl (fun hc => ?_) (fun hc => ?_)
    · replace h := j_pos hc h
      cases h
      exact j_vret dX5_restore_100 rfl
    · replace h := j_neg hc h
      refine j_iload 60 dX5_restore_58 rfl 2 rfl ?_
      refine j_aload_n 61 dX5_restore_60 rfl rfl 1 rfl ?_
      refine j_alen (v := (40 : Int32)) (i0 := 6) 62 dX5_restore_61 rfl (sh_42 hL) (by decide) (by decide) rfl rfl ?_
      refine j_icmp_ge 100 65 dX5_restore_62 (by decide) rfl (fun hc => ?_) (fun hc => ?_)
      · replace h := j_pos hc h
        cases h
        exact j_vret dX5_restore_100 rfl
      · replace h := j_neg hc h
        refine j_aload_n 66 dX5_restore_65 rfl rfl 1 rfl ?_
        refine j_iload 68 dX5_restore_66 rfl 2 rfl ?_
        obtain ⟨hg, h⟩ := j_gs h
        rcases j_os h with ⟨hb, h⟩ | ⟨b2, hb, h⟩
        · refine j_aaldN 69 dX5_restore_68 rfl (sh_42 hL) (by decide) (by decide) (fun _ => rfl) (i0 := 6) rfl (j_inv hg) hb ?_
          refine j_ifnullN 94 dX5_restore_69 (by decide) ?_
          refine j_iinc (v := (l4 + (1 : Int32))) (lv' := [(4, .int (l4 + (1 : Int32))), (0, .ref (E.1 + t)), (3, .ref (E.1 + 42))]) (q := 2) 97 dX5_restore_94 rfl rfl rfl (by decide) rfl ?_
          refine j_goto 49 dX5_restore_97 (by decide) ?_
          refine j_sub [1, 2, 0] rfl ?_
          exact ih _ _ _  h
        obtain ⟨hsb2, h⟩ := j_gs h
        replace hsb2 := of_decide_eq_true hsb2
        refine j_aald 69 dX5_restore_68 rfl (sh_42 hL) (by decide) (by decide) (fun _ => rfl) (i0 := 6) rfl (j_inv hg) hb ?_
        refine j_ifnull 72 dX5_restore_69 rfl ?_
        refine j_aload_n 73 dX5_restore_72 rfl rfl 0 rfl ?_
        refine j_getG 76 dX5_restore_73 rfl ht cl5 (k := 1) (by decide) flX5_18 rfl (ly5_1 hL ht).1 ?_
        refine j_iload 78 dX5_restore_76 rfl 2 rfl ?_
        refine j_bipush (v := (19 : Int32)) 80 dX5_restore_78 rfl (by decide) ?_
        refine j_imul 81 dX5_restore_80 rfl ?_
        refine j_aload_n 82 dX5_restore_81 rfl rfl 1 rfl ?_
        refine j_iload 84 dX5_restore_82 rfl 2 rfl ?_
        obtain ⟨hg, h⟩ := j_gs h
        rcases j_os h with ⟨hb, h⟩ | ⟨b3, hb, h⟩
        · refine j_aaldN 85 dX5_restore_84 rfl (sh_42 hL) (by decide) (by decide) (fun _ => rfl) (i0 := 6) rfl (j_inv hg) hb ?_
          cases h
        obtain ⟨hsb3, h⟩ := j_gs h
        replace hsb3 := of_decide_eq_true hsb3
        refine j_aald 85 dX5_restore_84 rfl (sh_42 hL) (by decide) (by decide) (fun _ => rfl) (i0 := 6) rfl (j_inv hg) hb ?_
        refine j_getGN 88 dX5_restore_85 rfl hsb3 cl7 (k := 4) (by decide) flX5_43 rfl (ly7_4 hL hsb3).1 ?_
        refine j_iconst (v := (0 : Int32)) 89 dX5_restore_88 rfl (by decide) ?_
        refine j_bipush (v := (19 : Int32)) 91 dX5_restore_89 rfl (by decide) ?_
        obtain ⟨hne, h⟩ := j_gs h
        obtain ⟨hcp, h⟩ := j_gs h
        have hcp := of_decide_eq_true hcp
        refine j_copy 94 dX5_restore_91 rfl (ly5_1 hL ht).2 (ly7_4 hL hsb3).2 (of_decide_eq_true hne) flX5_48 wm1101 wm1100 wm108 hcp.1 hcp.2.1 hcp.2.2.1 hcp.2.2.2.1 hcp.2.2.2.2 (by decide) (Nat.le_of_ble_eq_true rfl) (by decide) ?_
        refine j_iinc (v := (l4 + (1 : Int32))) (lv' := [(4, .int (l4 + (1 : Int32))), (0, .ref (E.1 + t)), (3, .ref (E.1 + 42))]) (q := 2) 97 dX5_restore_94 rfl rfl rfl (by decide) rfl ?_
        refine j_goto 49 dX5_restore_97 (by decide) ?_
        refine j_sub [1, 2, 0] rfl ?_
        exact ih _ _ _  h
def fX5_restore_46 (t : Nat) (l2 : Nat) (I : JI) (D : JG) (S : JS) : Option (JI) :=
  fX5_restore_49 t l2 100000 (0 : Int32) I D S
set_option maxHeartbeats 4000000 in
set_option maxRecDepth 100000 in
theorem kX5_restore_46 {E : JE} {t : Nat} {l2 : Nat} {r : JI} {L : JL} {G : JG} {S : JS} (hL : Lay G S) (ht : S[t]? = some (5, 6)) (h2 : S[l2]? = some (1, 4)) : ∀ (I : JI) (D : JG), fX5_restore_46 t l2 I D S = some r → AtJ E xX5_restore (Zr E none r L G D S) ((S).length, jm_sl S) 4 46 [(0, .ref (E.1 + t)), (3, .ref (E.1 + 42))] [] I L G D S := by
  intro I D  h
  unfold fX5_restore_46 at h
  refine j_iconst (v := (0 : Int32)) 47 dX5_restore_46 rfl (by decide) ?_
  refine j_istore (lv' := [(4, .int (0 : Int32)), (0, .ref (E.1 + t)), (3, .ref (E.1 + 42))]) 49 dX5_restore_47 rfl (by decide) rfl ?_
  refine j_sub [1, 2, 0] rfl ?_
  exact kX5_restore_49 hL  ht h2  100000 _ _ _  h
def fX5_restore_11 (t : Nat) (l2 : Nat) : Nat → Int32 → JI → JG → JS → Option (JI)
  | 0, _, _, _, _ => none
  | n + 1, l4, I, D, S =>
    if (12 : Int32) ≤ l4 then (fX5_restore_46 t l2 I D S) else (if (((I t 3) >>> (l4 &&& 31)) &&& (1 : Int32)) = 0 then ((fX5_restore_11 t l2 n) (l4 + (1 : Int32)) I D S) else ((fX1_copyParcel l2 (t + 1) l4 I).bind (fun q1 => (fX5_restore_11 t l2 n) (l4 + (1 : Int32)) q1 D S)))
set_option maxHeartbeats 4000000 in
set_option maxRecDepth 100000 in
theorem kX5_restore_11 {E : JE} {t : Nat} {l2 : Nat} {r : JI} {L : JL} {G : JG} {S : JS} (hL : Lay G S) (ht : S[t]? = some (5, 6)) (h2 : S[l2]? = some (1, 4)) : ∀ (n : Nat) (l4 : Int32) (I : JI) (D : JG), fX5_restore_11 t l2 n l4 I D S = some r → AtJ E xX5_restore (Zr E none r L G D S) ((S).length, jm_sl S) 4 11 [(0, .ref (E.1 + t)), (2, .ref (E.1 + l2)), (3, .ref (E.1 + 42)), (4, .int l4)] [] I L G D S := by
  intro n
  induction n with
  | zero => intro l4 I D  h; simp [fX5_restore_11] at h
  | succ n ih =>
    intro l4 I D  h
    rw [fX5_restore_11] at h
    refine j_iload 13 dX5_restore_11 rfl 3 rfl ?_
    refine j_bipush (v := (12 : Int32)) 15 dX5_restore_13 rfl (by decide) ?_
    refine j_icmp_ge 46 18 dX5_restore_15 (by decide) rfl (fun hc => ?_) (fun hc => ?_)
    · replace h := j_pos hc h
      refine j_sub [0, 2] rfl ?_
      exact kX5_restore_46 hL  ht h2  _ _  h
    · replace h := j_neg hc h
      refine j_aload_n 19 dX5_restore_18 rfl rfl 0 rfl ?_
      refine j_getI 22 dX5_restore_19 rfl ht cl5 (k := 3) (by decide) flX5_31 rfl ?_
      refine j_iload 24 dX5_restore_22 rfl 3 rfl ?_
      refine j_ishr 25 dX5_restore_24 rfl ?_
      refine j_iconst (v := (1 : Int32)) 26 dX5_restore_25 rfl (by decide) ?_
      refine j_iand 27 dX5_restore_26 rfl ?_
      refine j_if_eq 40 30 dX5_restore_27 (by decide) rfl (fun hc => ?_) (fun hc => ?_)
      · replace h := j_pos hc h
        refine j_iinc (v := (l4 + (1 : Int32))) (lv' := [(4, .int (l4 + (1 : Int32))), (0, .ref (E.1 + t)), (2, .ref (E.1 + l2)), (3, .ref (E.1 + 42))]) (q := 3) 43 dX5_restore_40 rfl rfl rfl (by decide) rfl ?_
        refine j_goto 11 dX5_restore_43 (by decide) ?_
        refine j_sub [1, 2, 3, 0] rfl ?_
        exact ih _ _ _  h
      · replace h := j_neg hc h
        refine j_aload_n 31 dX5_restore_30 rfl rfl 1 rfl ?_
        refine j_aload_n 32 dX5_restore_31 rfl rfl 0 rfl ?_
        refine j_getG 35 dX5_restore_32 rfl ht cl5 (k := 0) (by decide) flX5_12 rfl (ly5_0 hL ht).1 ?_
        refine j_iload 37 dX5_restore_35 rfl 3 rfl ?_
        obtain ⟨q1, hq1, h⟩ := j_bs h
        refine j_callV (rest := []) (As := [.ref (E.1 + (t + 1)), .int l4]) 40 dX5_restore_37 rfl jyX1_copyParcel (tcX1_copyParcel hL h2 (ly5_0 hL ht).2 hq1) h2 cl1 flX5_54 wm1269 wm1270 (by decide) rfl rfl (Nat.le_of_ble_eq_true rfl) ?_
        refine j_iinc (v := (l4 + (1 : Int32))) (lv' := [(4, .int (l4 + (1 : Int32))), (0, .ref (E.1 + t)), (2, .ref (E.1 + l2)), (3, .ref (E.1 + 42))]) (q := 3) 43 dX5_restore_40 rfl rfl rfl (by decide) rfl ?_
        refine j_goto 11 dX5_restore_43 (by decide) ?_
        refine j_sub [1, 2, 3, 0] rfl ?_
        exact ih _ _ _  h
def fX5_restore (t : Nat) (l2 : Nat) (I : JI) (D : JG) (S : JS) : Option (JI) :=
  fX5_restore_11 t l2 100000 (0 : Int32) (j_up I 1 8 (I t 4)) D S
set_option maxHeartbeats 4000000 in
set_option maxRecDepth 100000 in
theorem tcX5_restore {E : JE} {t : Nat} {l2 : Nat} {r : JI} {I : JI} {L : JL} {G D : JG} {S : JS} (hL : Lay G S) (ht : S[t]? = some (5, 6)) (h2 : S[l2]? = some (1, 4)) (h : fX5_restore t l2 I D S = some r) : CallJ E xX5_restore 4 [.ref (E.1 + t), .ref (E.1 + 1), .ref (E.1 + l2), .ref (E.1 + 42)] I L G D S none r L G D S := by
  unfold fX5_restore at h
  refine j_entry (by decide) (Nat.le_of_ble_eq_true rfl) ?_
  show AtJ E xX5_restore (Zr E none r L G D S) ((S).length, jm_sl S) 4 0 [(0, .ref (E.1 + t)), (1, .ref (E.1 + 1)), (2, .ref (E.1 + l2)), (3, .ref (E.1 + 42))] [] I L G D S
  refine j_aload_n 1 dX5_restore_0 rfl rfl 1 rfl ?_
  refine j_aload_n 2 dX5_restore_1 rfl rfl 0 rfl ?_
  refine j_getI 5 dX5_restore_2 rfl ht cl5 (k := 4) (by decide) flX5_35 rfl ?_
  refine j_putIN 8 dX5_restore_5 rfl (sh_1 hL) cl9 (k := 8) (by decide) flX5_32 rfl rfl rfl ?_
  refine j_iconst (v := (0 : Int32)) 9 dX5_restore_8 rfl (by decide) ?_
  refine j_istore (lv' := [(4, .int (0 : Int32)), (0, .ref (E.1 + t)), (1, .ref (E.1 + 1)), (2, .ref (E.1 + l2)), (3, .ref (E.1 + 42))]) 11 dX5_restore_9 rfl (by decide) rfl ?_
  refine j_sub [1, 3, 4, 0] rfl ?_
  exact kX5_restore_11 hL  ht h2  100000 _ _ _  h
def fX6_init (t : Nat) (l1 : Nat) (l2 : Nat) (l3 : Nat) (l4 : Nat) (I : JI) (L : JL) (G : JG) (D : JG) (S : JS) : Option (JI × JL × JG × JG × JS) :=
  some ((j_up I t 12 (-1 : Int32)), (j_clr L ((S ++ [(30, 6)])).length 0), (j_up (j_up (j_up (j_up (j_up (j_up G t 4 (some (S).length)) t 5 (some ((S ++ [(30, 6)])).length)) t 0 (some l1)) t 1 (some l2)) t 2 (some l3)) t 3 (some l4)), (j_clr D (S).length none), ((S ++ [(30, 6)]) ++ [(23, 169)]))
set_option maxHeartbeats 4000000 in
set_option maxRecDepth 100000 in
theorem tcX6_init {E : JE} {t : Nat} {l1 : Nat} {l2 : Nat} {l3 : Nat} {l4 : Nat} {r : JI × JL × JG × JG × JS} {I : JI} {L : JL} {G D : JG} {S : JS} (ht : S[t]? = some (6, 13)) (h : fX6_init t l1 l2 l3 l4 I L G D S = some r) : CallJ E xX6_init 1 [.ref (E.1 + t), .ref (E.1 + l1), .ref (E.1 + l2), .ref (E.1 + l3), .ref (E.1 + l4)] I L G D S none r.1 r.2.1 r.2.2.1 r.2.2.2.1 r.2.2.2.2 := by
  unfold fX6_init at h
  refine j_entry (by decide) (Nat.le_of_ble_eq_true rfl) ?_
  show AtJ E xX6_init (Zr E none r.1 r.2.1 r.2.2.1 r.2.2.2.1 r.2.2.2.2) ((r.2.2.2.2).length, jm_sl r.2.2.2.2) 1 0 [(0, .ref (E.1 + t)), (1, .ref (E.1 + l1)), (2, .ref (E.1 + l2)), (3, .ref (E.1 + l3)), (4, .ref (E.1 + l4))] [] I L G D S
  refine j_aload_n 1 dX6_init_0 rfl rfl 0 rfl ?_
  refine j_obj 4 dX6_init_1 rfl flX6_3 wm117 wm118 (by decide) (Nat.le_of_ble_eq_true rfl) ?_
  refine j_aload_n 5 dX6_init_4 rfl rfl 0 rfl ?_
  refine j_bipush (v := (6 : Int32)) 7 dX6_init_5 rfl (by decide) ?_
  refine j_nwA (N := 6) (kd := 30) (i0 := 4) 10 dX6_init_7 rfl flX6_9 (fun _ h => h.2.2.1.1) rfl (by decide) (by decide) (fun _ => rfl) (by decide) (by decide) (by decide) ?_
  refine j_putF 13 dX6_init_10 rfl (jm_pre ht) cl6 (k := 4) (by decide) flX6_11 rfl rfl rfl rfl (fun _ => rfl) (fun _ => rfl) ?_
  refine j_aload_n 14 dX6_init_13 rfl rfl 0 rfl ?_
  refine j_sipush (v := (169 : Int32)) 17 dX6_init_14 rfl (by decide) ?_
  refine j_nwL (N := 169) 19 dX6_init_17 rfl wm448 (by decide) (by decide) (by decide) ?_
  refine j_putF 22 dX6_init_19 rfl (jm_pre (jm_pre ht)) cl6 (k := 5) (by decide) flX6_17 rfl rfl rfl rfl (fun _ => rfl) (fun _ => rfl) ?_
  refine j_aload_n 23 dX6_init_22 rfl rfl 0 rfl ?_
  refine j_iconst (v := (-1 : Int32)) 24 dX6_init_23 rfl (by decide) ?_
  refine j_putI 27 dX6_init_24 rfl (jm_pre (jm_pre ht)) cl6 (k := 12) (by decide) flX6_21 rfl rfl rfl ?_
  refine j_aload_n 28 dX6_init_27 rfl rfl 0 rfl ?_
  refine j_aload_n 29 dX6_init_28 rfl rfl 1 rfl ?_
  refine j_putF 32 dX6_init_29 rfl (jm_pre (jm_pre ht)) cl6 (k := 0) (by decide) flX6_25 rfl rfl rfl rfl (fun _ => rfl) (fun _ => rfl) ?_
  refine j_aload_n 33 dX6_init_32 rfl rfl 0 rfl ?_
  refine j_aload_n 34 dX6_init_33 rfl rfl 2 rfl ?_
  refine j_putF 37 dX6_init_34 rfl (jm_pre (jm_pre ht)) cl6 (k := 1) (by decide) flX6_29 rfl rfl rfl rfl (fun _ => rfl) (fun _ => rfl) ?_
  refine j_aload_n 38 dX6_init_37 rfl rfl 0 rfl ?_
  refine j_aload_n 39 dX6_init_38 rfl rfl 3 rfl ?_
  refine j_putF 42 dX6_init_39 rfl (jm_pre (jm_pre ht)) cl6 (k := 2) (by decide) flX6_33 rfl rfl rfl rfl (fun _ => rfl) (fun _ => rfl) ?_
  refine j_aload_n 43 dX6_init_42 rfl rfl 0 rfl ?_
  refine j_aload 45 dX6_init_43 rfl 4 rfl ?_
  refine j_putF 48 dX6_init_45 rfl (jm_pre (jm_pre ht)) cl6 (k := 3) (by decide) flX6_37 rfl rfl rfl rfl (fun _ => rfl) (fun _ => rfl) ?_
  cases h
  exact j_vret dX6_init_48 rfl
def fX6_honestSets_34 : Nat → Int64 → Int32 → JI → JL → JG → JS → Option (Int64 × JI × JG)
  | 0, _, _, _, _, _, _ => none
  | n + 1, l2, l4, I, L, D, S =>
    if (I 30 6) ≤ l4 then (some (l2, I, D)) else (if (6 : Int32) ≤ l4 then (some (l2, I, D)) else (j_g (j_in l4 6) (j_opt (D 31 l4.toNatClampNeg) ((fX6_honestSets_34 n) l2 (l4 + (1 : Int32)) I L D S) (fun b2 => j_g (decide (S[b2]? = some (0, 7))) ((fX0_canBe b2 7 I).bind (fun q3 => if q3 = 0 then ((fX6_honestSets_34 n) l2 (l4 + (1 : Int32)) I L D S) else ((fX3_settle 7 (I b2 0) (I b2 1) I D S).bind (fun q4 => (fX3_ask b2 q4.1 q4.2 S).bind (fun q5 => (fX3_openSets l2 (65535 : Int32) q5.1 L q5.2 S).bind (fun q6 => (fX6_honestSets_34 n) q6.1 (l4 + (1 : Int32)) q6.2 L q5.2 S))))))))))
set_option maxHeartbeats 4000000 in
set_option maxRecDepth 100000 in
theorem kX6_honestSets_34 {E : JE} {r : Int64 × JI × JG} {G : JG} {S : JS} (hL : Lay G S) : ∀ (n : Nat) (l2 : Int64) (l4 : Int32) (I : JI) (L : JL) (D : JG), fX6_honestSets_34 n l2 l4 I L D S = some r → AtJ E xX6_honestSets (Zr E (some (.long r.1)) r.2.1 L G r.2.2 S) ((S).length, jm_sl S) 5 34 [(0, .ref (E.1 + 30)), (2, .long l2), (4, .int l4)] [] I L G D S := by
  intro n
  induction n with
  | zero => intro l2 l4 I L D  h; simp [fX6_honestSets_34] at h
  | succ n ih =>
    intro l2 l4 I L D  h
    rw [fX6_honestSets_34] at h
    refine j_iload 36 dX6_honestSets_34 rfl 2 rfl ?_
    refine j_aload_n 37 dX6_honestSets_36 rfl rfl 0 rfl ?_
    refine j_getI 40 dX6_honestSets_37 rfl (sh_30 hL) cl6 (k := 6) (by decide) flX6_41 rfl ?_
    refine j_icmp_ge 127 43 dX6_honestSets_40 (by decide) rfl (fun hc => ?_) (fun hc => ?_)
    · replace h := j_pos hc h
      refine j_lload_n 128 dX6_honestSets_127 rfl rfl 1 rfl ?_
      cases h
      exact j_lret dX6_honestSets_128 rfl
    · replace h := j_neg hc h
      refine j_iload 45 dX6_honestSets_43 rfl 2 rfl ?_
      refine j_bipush (v := (6 : Int32)) 47 dX6_honestSets_45 rfl (by decide) ?_
      refine j_icmp_ge 127 50 dX6_honestSets_47 (by decide) rfl (fun hc => ?_) (fun hc => ?_)
      · replace h := j_pos hc h
        refine j_lload_n 128 dX6_honestSets_127 rfl rfl 1 rfl ?_
        cases h
        exact j_lret dX6_honestSets_128 rfl
      · replace h := j_neg hc h
        refine j_aload_n 51 dX6_honestSets_50 rfl rfl 0 rfl ?_
        refine j_getG 54 dX6_honestSets_51 rfl (sh_30 hL) cl6 (k := 4) (by decide) flX6_11 rfl (gs_30_4 hL) ?_
        refine j_iload 56 dX6_honestSets_54 rfl 2 rfl ?_
        obtain ⟨hg, h⟩ := j_gs h
        rcases j_os h with ⟨hb, h⟩ | ⟨b2, hb, h⟩
        · refine j_aaldN 57 dX6_honestSets_56 rfl (sh_31 hL) (by decide) (by decide) (fun _ => rfl) (i0 := 4) rfl (j_inv hg) hb ?_
          refine j_astoreN (lv' := [(5, .null), (0, .ref (E.1 + 30)), (2, .long l2), (4, .int l4)]) 59 dX6_honestSets_57 rfl (by decide) rfl ?_
          refine j_aloadN 61 dX6_honestSets_59 rfl 0 rfl ?_
          refine j_ifnullN 121 dX6_honestSets_61 (by decide) ?_
          refine j_iinc (v := (l4 + (1 : Int32))) (lv' := [(4, .int (l4 + (1 : Int32))), (5, .null), (0, .ref (E.1 + 30)), (2, .long l2)]) (q := 3) 124 dX6_honestSets_121 rfl rfl rfl (by decide) rfl ?_
          refine j_goto 34 dX6_honestSets_124 (by decide) ?_
          refine j_sub [2, 3, 0] rfl ?_
          exact ih _ _ _ _ _  h
        obtain ⟨hsb2, h⟩ := j_gs h
        replace hsb2 := of_decide_eq_true hsb2
        refine j_aald 57 dX6_honestSets_56 rfl (sh_31 hL) (by decide) (by decide) (fun _ => rfl) (i0 := 4) rfl (j_inv hg) hb ?_
        refine j_astore (lv' := [(5, .ref (E.1 + b2)), (0, .ref (E.1 + 30)), (2, .long l2), (4, .int l4)]) 59 dX6_honestSets_57 rfl (by decide) rfl ?_
        refine j_aload 61 dX6_honestSets_59 rfl 0 rfl ?_
        refine j_ifnull 64 dX6_honestSets_61 rfl ?_
        refine j_aload 66 dX6_honestSets_64 rfl 0 rfl ?_
        refine j_aload_n 67 dX6_honestSets_66 rfl rfl 1 rfl ?_
        refine j_getG 70 dX6_honestSets_67 rfl (sh_30 hL) cl6 (k := 0) (by decide) flX6_25 rfl (gs_30_0 hL) ?_
        refine j_aload_n 71 dX6_honestSets_70 rfl rfl 1 rfl ?_
        refine j_getG 74 dX6_honestSets_71 rfl (sh_30 hL) cl6 (k := 1) (by decide) flX6_29 rfl (gs_30_1 hL) ?_
        obtain ⟨q3, hq3, h⟩ := j_bs h
        refine j_callV (rest := []) (As := [.ref (E.1 + 1), .ref (E.1 + 7)]) 77 dX6_honestSets_74 rfl jyX0_canBe (tcX0_canBe hL hsb2 (sh_7 hL) hq3) hsb2 cl0 flX6_94 wm879 wm880 (by decide) rfl rfl (Nat.le_of_ble_eq_true rfl) ?_
        refine j_if_eq 121 80 dX6_honestSets_77 (by decide) rfl (fun hc => ?_) (fun hc => ?_)
        · replace h := j_pos hc h
          refine j_iinc (v := (l4 + (1 : Int32))) (lv' := [(4, .int (l4 + (1 : Int32))), (5, .ref (E.1 + b2)), (0, .ref (E.1 + 30)), (2, .long l2)]) (q := 3) 124 dX6_honestSets_121 rfl rfl rfl (by decide) rfl ?_
          refine j_goto 34 dX6_honestSets_124 (by decide) ?_
          refine j_sub [2, 3, 0] rfl ?_
          exact ih _ _ _ _ _  h
        · replace h := j_neg hc h
          refine j_aload_n 81 dX6_honestSets_80 rfl rfl 1 rfl ?_
          refine j_getG 84 dX6_honestSets_81 rfl (sh_30 hL) cl6 (k := 2) (by decide) flX6_33 rfl (gs_30_2 hL) ?_
          refine j_aload_n 85 dX6_honestSets_84 rfl rfl 1 rfl ?_
          refine j_getG 88 dX6_honestSets_85 rfl (sh_30 hL) cl6 (k := 1) (by decide) flX6_29 rfl (gs_30_1 hL) ?_
          refine j_aload 90 dX6_honestSets_88 rfl 0 rfl ?_
          refine j_getIN 93 dX6_honestSets_90 rfl hsb2 cl0 (k := 0) (by decide) flX6_98 rfl ?_
          refine j_aload 95 dX6_honestSets_93 rfl 0 rfl ?_
          refine j_getIN 98 dX6_honestSets_95 rfl hsb2 cl0 (k := 1) (by decide) flX6_99 rfl ?_
          obtain ⟨q4, hq4, h⟩ := j_bs h
          refine j_callV (rest := []) (As := [.ref (E.1 + 7), .int (I b2 0), .int (I b2 1)]) 101 dX6_honestSets_98 rfl jyX3_settle (tcX3_settle hL (sh_7 hL) hq4) (sh_15 hL) cl3 flX6_102 wm938 wm939 (by decide) rfl rfl (Nat.le_of_ble_eq_true rfl) ?_
          refine j_aload_n 102 dX6_honestSets_101 rfl rfl 1 rfl ?_
          refine j_getG 105 dX6_honestSets_102 rfl (sh_30 hL) cl6 (k := 2) (by decide) flX6_33 rfl (gs_30_2 hL) ?_
          refine j_aload 107 dX6_honestSets_105 rfl 0 rfl ?_
          obtain ⟨q5, hq5, h⟩ := j_bs h
          refine j_callV (rest := []) (As := [.ref (E.1 + b2)]) 110 dX6_honestSets_107 rfl jyX3_ask (tcX3_ask hL hsb2 hq5) (sh_15 hL) cl3 flX6_106 wm943 wm944 (by decide) rfl rfl (Nat.le_of_ble_eq_true rfl) ?_
          refine j_aload_n 111 dX6_honestSets_110 rfl rfl 1 rfl ?_
          refine j_getG 114 dX6_honestSets_111 rfl (sh_30 hL) cl6 (k := 2) (by decide) flX6_33 rfl (gs_30_2 hL) ?_
          refine j_lload_n 115 dX6_honestSets_114 rfl rfl 2 rfl ?_
          refine j_ldc (v := (65535 : Int32)) 117 dX6_honestSets_115 rfl wm1236 ?_
          obtain ⟨q6, hq6, h⟩ := j_bs h
          refine j_callV (rest := []) (As := [.long l2, .int (65535 : Int32)]) 120 dX6_honestSets_117 rfl jyX3_openSets (tcX3_openSets hL  hq6) (sh_15 hL) cl3 flX6_110 wm1135 wm1136 (by decide) rfl rfl (Nat.le_of_ble_eq_true rfl) ?_
          refine j_lstore_n (lv' := [(2, .long q6.1), (5, .ref (E.1 + b2)), (0, .ref (E.1 + 30)), (4, .int l4)]) 121 dX6_honestSets_120 rfl rfl (by decide) rfl ?_
          refine j_iinc (v := (l4 + (1 : Int32))) (lv' := [(4, .int (l4 + (1 : Int32))), (2, .long q6.1), (5, .ref (E.1 + b2)), (0, .ref (E.1 + 30))]) (q := 3) 124 dX6_honestSets_121 rfl rfl rfl (by decide) rfl ?_
          refine j_goto 34 dX6_honestSets_124 (by decide) ?_
          refine j_sub [3, 1, 0] rfl ?_
          exact ih _ _ _ _ _  h
def fX6_honestSets (I : JI) (L : JL) (D : JG) (S : JS) : Option (Int64 × JI × JG) :=
  j_opt (D 15 5) (none) (fun b1 => j_g (decide (S[b1]? = some (4, 17))) (if (I b1 14) < (6 : Int32) then (fX6_honestSets_34 100000 (((1 : Int64) <<< (((1 : Int32) <<< ((I b1 14) &&& 31)).toInt64 &&& 63)) - (1 : Int64)) (0 : Int32) I L D S) else (fX6_honestSets_34 100000 (-1 : Int64) (0 : Int32) I L D S)))
set_option maxHeartbeats 4000000 in
set_option maxRecDepth 100000 in
theorem tcX6_honestSets {E : JE} {r : Int64 × JI × JG} {I : JI} {L : JL} {G D : JG} {S : JS} (hL : Lay G S) (h : fX6_honestSets I L D S = some r) : CallJ E xX6_honestSets 5 [.ref (E.1 + 30)] I L G D S (some (.long r.1)) r.2.1 L G r.2.2 S := by
  unfold fX6_honestSets at h
  refine j_entry (by decide) (Nat.le_of_ble_eq_true rfl) ?_
  show AtJ E xX6_honestSets (Zr E (some (.long r.1)) r.2.1 L G r.2.2 S) ((S).length, jm_sl S) 5 0 [(0, .ref (E.1 + 30))] [] I L G D S
  refine j_aload_n 1 dX6_honestSets_0 rfl rfl 0 rfl ?_
  refine j_getG 4 dX6_honestSets_1 rfl (sh_30 hL) cl6 (k := 2) (by decide) flX6_33 rfl (gs_30_2 hL) ?_
  rcases j_os h with ⟨hb, h⟩ | ⟨b1, hb, h⟩
  · refine j_getDnN 7 dX6_honestSets_4 rfl (sh_15 hL) cl3 (k := 5) (by decide) flX6_83 rfl hb ?_
    cases h
  obtain ⟨hsb1, h⟩ := j_gs h
  replace hsb1 := of_decide_eq_true hsb1
  refine j_getDN 7 dX6_honestSets_4 rfl (sh_15 hL) cl3 (k := 5) (by decide) flX6_83 rfl hb ?_
  refine j_getIN 10 dX6_honestSets_7 rfl hsb1 cl4 (k := 14) (by decide) flX6_89 rfl ?_
  refine j_istore_n (lv' := [(1, .int (I b1 14)), (0, .ref (E.1 + 30))]) 11 dX6_honestSets_10 rfl rfl (by decide) rfl ?_
  refine j_iload_n 12 dX6_honestSets_11 rfl rfl 0 rfl ?_
  refine j_bipush (v := (6 : Int32)) 14 dX6_honestSets_12 rfl (by decide) ?_
  refine j_icmp_lt 23 17 dX6_honestSets_14 (by decide) rfl (fun hc => ?_) (fun hc => ?_)
  · replace h := j_pos hc h
    refine j_lconst (v := (1 : Int64)) 24 dX6_honestSets_23 rfl (by decide) ?_
    refine j_iconst (v := (1 : Int32)) 25 dX6_honestSets_24 rfl (by decide) ?_
    refine j_iload_n 26 dX6_honestSets_25 rfl rfl 0 rfl ?_
    refine j_ishl 27 dX6_honestSets_26 rfl ?_
    refine j_lshl 28 dX6_honestSets_27 rfl ?_
    refine j_lconst (v := (1 : Int64)) 29 dX6_honestSets_28 rfl (by decide) ?_
    refine j_lsub 30 dX6_honestSets_29 rfl ?_
    refine j_lstore_n (lv' := [(2, .long (((1 : Int64) <<< (((1 : Int32) <<< ((I b1 14) &&& 31)).toInt64 &&& 63)) - (1 : Int64))), (1, .int (I b1 14)), (0, .ref (E.1 + 30))]) 31 dX6_honestSets_30 rfl rfl (by decide) rfl ?_
    refine j_iconst (v := (0 : Int32)) 32 dX6_honestSets_31 rfl (by decide) ?_
    refine j_istore (lv' := [(4, .int (0 : Int32)), (2, .long (((1 : Int64) <<< (((1 : Int32) <<< ((I b1 14) &&& 31)).toInt64 &&& 63)) - (1 : Int64))), (1, .int (I b1 14)), (0, .ref (E.1 + 30))]) 34 dX6_honestSets_32 rfl (by decide) rfl ?_
    refine j_sub [3, 1, 0] rfl ?_
    exact kX6_honestSets_34 hL    100000 _ _ _ _ _  h
  · replace h := j_neg hc h
    refine j_ldc2 (v := (-1 : Int64)) 20 dX6_honestSets_17 rfl wm1232 ?_
    refine j_goto 30 dX6_honestSets_20 (by decide) ?_
    refine j_lstore_n (lv' := [(2, .long (-1 : Int64)), (1, .int (I b1 14)), (0, .ref (E.1 + 30))]) 31 dX6_honestSets_30 rfl rfl (by decide) rfl ?_
    refine j_iconst (v := (0 : Int32)) 32 dX6_honestSets_31 rfl (by decide) ?_
    refine j_istore (lv' := [(4, .int (0 : Int32)), (2, .long (-1 : Int64)), (1, .int (I b1 14)), (0, .ref (E.1 + 30))]) 34 dX6_honestSets_32 rfl (by decide) rfl ?_
    refine j_sub [3, 1, 0] rfl ?_
    exact kX6_honestSets_34 hL    100000 _ _ _ _ _  h
def fX10_begin_118 (s0 : Int32) (s1 : Int32) (I : JI) : Option (JI) :=
  (fX1_copyAll 21 7 (j_up I 20 16 (s1 + s0))).bind (fun q4 => some ((j_up q4 20 19 (-1 : Int32))))
set_option maxHeartbeats 4000000 in
set_option maxRecDepth 100000 in
theorem kX10_begin_118 {E : JE} {r : JI} {L : JL} {G : JG} {D : JG} {S : JS} (hL : Lay G S) : ∀ (s0 : Int32) (s1 : Int32) (I : JI), fX10_begin_118 s0 s1 I = some r → AtJ E xX10_begin (Zr E none r L G D S) ((S).length, jm_sl S) 3 118 [(0, .ref (E.1 + 20))] [.int s0, .int s1, .ref (E.1 + 20)] I L G D S := by
  intro s0 s1 I  h
  unfold fX10_begin_118 at h
  refine j_iadd 119 dX10_begin_118 rfl ?_
  refine j_putI 122 dX10_begin_119 rfl (sh_20 hL) cl10 (k := 16) (by decide) flX10_69 rfl rfl rfl ?_
  refine j_aload_n 123 dX10_begin_122 rfl rfl 0 rfl ?_
  refine j_getG 126 dX10_begin_123 rfl (sh_20 hL) cl10 (k := 3) (by decide) flX10_12 rfl (gs_20_3 hL) ?_
  refine j_aload_n 127 dX10_begin_126 rfl rfl 0 rfl ?_
  refine j_getG 130 dX10_begin_127 rfl (sh_20 hL) cl10 (k := 1) (by decide) flX10_43 rfl (gs_20_1 hL) ?_
  obtain ⟨q4, hq4, h⟩ := j_bs h
  refine j_callV (rest := []) (As := [.ref (E.1 + 7)]) 133 dX10_begin_130 rfl jyX1_copyAll (tcX1_copyAll hL (sh_21 hL) (sh_7 hL) hq4) (sh_21 hL) cl1 flX10_72 wm1096 wm1097 (by decide) rfl rfl (Nat.le_of_ble_eq_true rfl) ?_
  refine j_aload_n 134 dX10_begin_133 rfl rfl 0 rfl ?_
  refine j_iconst (v := (-1 : Int32)) 135 dX10_begin_134 rfl (by decide) ?_
  refine j_putI 138 dX10_begin_135 rfl (sh_20 hL) cl10 (k := 19) (by decide) flX10_35 rfl rfl rfl ?_
  cases h
  exact j_vret dX10_begin_138 rfl
def fX10_begin_72 (I : JI) : Option (JI) :=
  (fX1_of 7 (I 20 9) (I 20 11) I).bind (fun q2 => if (I 20 10) = (-1 : Int32) then (fX10_begin_118 (0 : Int32) (q2 * (13 : Int32)) I) else ((fX1_of 7 (I 20 10) (I 20 11) I).bind (fun q3 => fX10_begin_118 q3 (q2 * (13 : Int32)) I)))
set_option maxHeartbeats 4000000 in
set_option maxRecDepth 100000 in
theorem kX10_begin_72 {E : JE} {r : JI} {L : JL} {G : JG} {D : JG} {S : JS} (hL : Lay G S) : ∀ (I : JI), fX10_begin_72 I = some r → AtJ E xX10_begin (Zr E none r L G D S) ((S).length, jm_sl S) 3 72 [(0, .ref (E.1 + 20))] [] I L G D S := by
  intro I  h
  unfold fX10_begin_72 at h
  refine j_aload_n 73 dX10_begin_72 rfl rfl 0 rfl ?_
  refine j_aload_n 74 dX10_begin_73 rfl rfl 0 rfl ?_
  refine j_getG 77 dX10_begin_74 rfl (sh_20 hL) cl10 (k := 1) (by decide) flX10_43 rfl (gs_20_1 hL) ?_
  refine j_aload_n 78 dX10_begin_77 rfl rfl 0 rfl ?_
  refine j_getI 81 dX10_begin_78 rfl (sh_20 hL) cl10 (k := 9) (by decide) flX10_50 rfl ?_
  refine j_aload_n 82 dX10_begin_81 rfl rfl 0 rfl ?_
  refine j_getI 85 dX10_begin_82 rfl (sh_20 hL) cl10 (k := 11) (by decide) flX10_53 rfl ?_
  obtain ⟨q2, hq2, h⟩ := j_bs h
  refine j_callV (rest := [.ref (E.1 + 20)]) (As := [.int (I 20 9), .int (I 20 11)]) 88 dX10_begin_85 rfl jyX1_of (tcX1_of hL (sh_7 hL) hq2) (sh_7 hL) cl1 flX10_65 wm663 wm664 (by decide) rfl rfl (Nat.le_of_ble_eq_true rfl) ?_
  refine j_bipush (v := (13 : Int32)) 90 dX10_begin_88 rfl (by decide) ?_
  refine j_imul 91 dX10_begin_90 rfl ?_
  refine j_aload_n 92 dX10_begin_91 rfl rfl 0 rfl ?_
  refine j_getI 95 dX10_begin_92 rfl (sh_20 hL) cl10 (k := 10) (by decide) flX10_62 rfl ?_
  refine j_iconst (v := (-1 : Int32)) 96 dX10_begin_95 rfl (by decide) ?_
  refine j_icmp_ne 103 99 dX10_begin_96 (by decide) rfl (fun hc => ?_) (fun hc => ?_)
  · replace h := j_neg hc h
    refine j_aload_n 104 dX10_begin_103 rfl rfl 0 rfl ?_
    refine j_getG 107 dX10_begin_104 rfl (sh_20 hL) cl10 (k := 1) (by decide) flX10_43 rfl (gs_20_1 hL) ?_
    refine j_aload_n 108 dX10_begin_107 rfl rfl 0 rfl ?_
    refine j_getI 111 dX10_begin_108 rfl (sh_20 hL) cl10 (k := 10) (by decide) flX10_62 rfl ?_
    refine j_aload_n 112 dX10_begin_111 rfl rfl 0 rfl ?_
    refine j_getI 115 dX10_begin_112 rfl (sh_20 hL) cl10 (k := 11) (by decide) flX10_53 rfl ?_
    obtain ⟨q3, hq3, h⟩ := j_bs h
    refine j_callV (rest := [.int (q2 * (13 : Int32)), .ref (E.1 + 20)]) (As := [.int (I 20 10), .int (I 20 11)]) 118 dX10_begin_115 rfl jyX1_of (tcX1_of hL (sh_7 hL) hq3) (sh_7 hL) cl1 flX10_65 wm663 wm664 (by decide) rfl rfl (Nat.le_of_ble_eq_true rfl) ?_
    exact kX10_begin_118 hL    _ _ _  h
  · replace h := j_pos hc h
    refine j_iconst (v := (0 : Int32)) 100 dX10_begin_99 rfl (by decide) ?_
    refine j_goto 118 dX10_begin_100 (by decide) ?_
    exact kX10_begin_118 hL    _ _ _  h
def fX10_begin_30 : Nat → Int32 → JI → Option (JI)
  | 0, _, _ => none
  | n + 1, l5, I =>
    if l5 < 0 then (fX10_begin_72 I) else (if l5 = (I 20 9) then ((fX10_begin_30 n) (l5 + (-1 : Int32)) I) else ((fX1_of 7 l5 (I 20 11) I).bind (fun q1 => if q1 ≤ 0 then ((fX10_begin_30 n) (l5 + (-1 : Int32)) I) else ((fX10_begin_30 n) (l5 + (-1 : Int32)) (j_up I 20 10 l5)))))
set_option maxHeartbeats 4000000 in
set_option maxRecDepth 100000 in
theorem kX10_begin_30 {E : JE} {r : JI} {L : JL} {G : JG} {D : JG} {S : JS} (hL : Lay G S) : ∀ (n : Nat) (l5 : Int32) (I : JI), fX10_begin_30 n l5 I = some r → AtJ E xX10_begin (Zr E none r L G D S) ((S).length, jm_sl S) 3 30 [(0, .ref (E.1 + 20)), (5, .int l5)] [] I L G D S := by
  intro n
  induction n with
  | zero => intro l5 I  h; simp [fX10_begin_30] at h
  | succ n ih =>
    intro l5 I  h
    rw [fX10_begin_30] at h
    refine j_iload 32 dX10_begin_30 rfl 1 rfl ?_
    refine j_if_lt 72 35 dX10_begin_32 (by decide) rfl (fun hc => ?_) (fun hc => ?_)
    · replace h := j_pos hc h
      refine j_sub [0] rfl ?_
      exact kX10_begin_72 hL    _  h
    · replace h := j_neg hc h
      refine j_iload 37 dX10_begin_35 rfl 1 rfl ?_
      refine j_aload_n 38 dX10_begin_37 rfl rfl 0 rfl ?_
      refine j_getI 41 dX10_begin_38 rfl (sh_20 hL) cl10 (k := 9) (by decide) flX10_50 rfl ?_
      refine j_icmp_eq 66 44 dX10_begin_41 (by decide) rfl (fun hc => ?_) (fun hc => ?_)
      · replace h := j_pos hc h
        refine j_iinc (v := (l5 + (-1 : Int32))) (lv' := [(5, .int (l5 + (-1 : Int32))), (0, .ref (E.1 + 20))]) (q := 1) 69 dX10_begin_66 rfl rfl rfl (by decide) rfl ?_
        refine j_goto 30 dX10_begin_69 (by decide) ?_
        refine j_sub [1, 0] rfl ?_
        exact ih _ _  h
      · replace h := j_neg hc h
        refine j_aload_n 45 dX10_begin_44 rfl rfl 0 rfl ?_
        refine j_getG 48 dX10_begin_45 rfl (sh_20 hL) cl10 (k := 1) (by decide) flX10_43 rfl (gs_20_1 hL) ?_
        refine j_iload 50 dX10_begin_48 rfl 1 rfl ?_
        refine j_aload_n 51 dX10_begin_50 rfl rfl 0 rfl ?_
        refine j_getI 54 dX10_begin_51 rfl (sh_20 hL) cl10 (k := 11) (by decide) flX10_53 rfl ?_
        obtain ⟨q1, hq1, h⟩ := j_bs h
        refine j_callV (rest := []) (As := [.int l5, .int (I 20 11)]) 57 dX10_begin_54 rfl jyX1_of (tcX1_of hL (sh_7 hL) hq1) (sh_7 hL) cl1 flX10_65 wm663 wm664 (by decide) rfl rfl (Nat.le_of_ble_eq_true rfl) ?_
        refine j_if_le 66 60 dX10_begin_57 (by decide) rfl (fun hc => ?_) (fun hc => ?_)
        · replace h := j_pos hc h
          refine j_iinc (v := (l5 + (-1 : Int32))) (lv' := [(5, .int (l5 + (-1 : Int32))), (0, .ref (E.1 + 20))]) (q := 1) 69 dX10_begin_66 rfl rfl rfl (by decide) rfl ?_
          refine j_goto 30 dX10_begin_69 (by decide) ?_
          refine j_sub [1, 0] rfl ?_
          exact ih _ _  h
        · replace h := j_neg hc h
          refine j_aload_n 61 dX10_begin_60 rfl rfl 0 rfl ?_
          refine j_iload 63 dX10_begin_61 rfl 1 rfl ?_
          refine j_putI 66 dX10_begin_63 rfl (sh_20 hL) cl10 (k := 10) (by decide) flX10_62 rfl rfl rfl ?_
          refine j_iinc (v := (l5 + (-1 : Int32))) (lv' := [(5, .int (l5 + (-1 : Int32))), (0, .ref (E.1 + 20))]) (q := 1) 69 dX10_begin_66 rfl rfl rfl (by decide) rfl ?_
          refine j_goto 30 dX10_begin_69 (by decide) ?_
          refine j_sub [1, 0] rfl ?_
          exact ih _ _  h
def fX10_begin (l1 : Int32) (l2 : Int32) (l3 : Int32) (l4 : Int32) (I : JI) : Option (JI) :=
  fX10_begin_30 100000 (11 : Int32) (j_up (j_up (j_up (j_up (j_up I 20 9 l1) 20 11 l2) 20 12 l3) 20 13 l4) 20 10 (-1 : Int32))
set_option maxHeartbeats 4000000 in
set_option maxRecDepth 100000 in
theorem tcX10_begin {E : JE} {l1 : Int32} {l2 : Int32} {l3 : Int32} {l4 : Int32} {r : JI} {I : JI} {L : JL} {G D : JG} {S : JS} (hL : Lay G S) (h : fX10_begin l1 l2 l3 l4 I = some r) : CallJ E xX10_begin 3 [.ref (E.1 + 20), .int l1, .int l2, .int l3, .int l4] I L G D S none r L G D S := by
  unfold fX10_begin at h
  refine j_entry (by decide) (Nat.le_of_ble_eq_true rfl) ?_
  show AtJ E xX10_begin (Zr E none r L G D S) ((S).length, jm_sl S) 3 0 [(0, .ref (E.1 + 20)), (1, .int l1), (2, .int l2), (3, .int l3), (4, .int l4)] [] I L G D S
  refine j_aload_n 1 dX10_begin_0 rfl rfl 0 rfl ?_
  refine j_iload_n 2 dX10_begin_1 rfl rfl 1 rfl ?_
  refine j_putI 5 dX10_begin_2 rfl (sh_20 hL) cl10 (k := 9) (by decide) flX10_50 rfl rfl rfl ?_
  refine j_aload_n 6 dX10_begin_5 rfl rfl 0 rfl ?_
  refine j_iload_n 7 dX10_begin_6 rfl rfl 2 rfl ?_
  refine j_putI 10 dX10_begin_7 rfl (sh_20 hL) cl10 (k := 11) (by decide) flX10_53 rfl rfl rfl ?_
  refine j_aload_n 11 dX10_begin_10 rfl rfl 0 rfl ?_
  refine j_iload_n 12 dX10_begin_11 rfl rfl 3 rfl ?_
  refine j_putI 15 dX10_begin_12 rfl (sh_20 hL) cl10 (k := 12) (by decide) flX10_56 rfl rfl rfl ?_
  refine j_aload_n 16 dX10_begin_15 rfl rfl 0 rfl ?_
  refine j_iload 18 dX10_begin_16 rfl 4 rfl ?_
  refine j_putI 21 dX10_begin_18 rfl (sh_20 hL) cl10 (k := 13) (by decide) flX10_59 rfl rfl rfl ?_
  refine j_aload_n 22 dX10_begin_21 rfl rfl 0 rfl ?_
  refine j_iconst (v := (-1 : Int32)) 23 dX10_begin_22 rfl (by decide) ?_
  refine j_putI 26 dX10_begin_23 rfl (sh_20 hL) cl10 (k := 10) (by decide) flX10_62 rfl rfl rfl ?_
  refine j_bipush (v := (11 : Int32)) 28 dX10_begin_26 rfl (by decide) ?_
  refine j_istore (lv' := [(5, .int (11 : Int32)), (0, .ref (E.1 + 20)), (1, .int l1), (2, .int l2), (3, .int l3), (4, .int l4)]) 30 dX10_begin_28 rfl (by decide) rfl ?_
  refine j_sub [1, 0] rfl ?_
  exact kX10_begin_30 hL    100000 _ _  h
def fX10_left (l1 : Int32) (l2 : Int32)  : Option (Int32) :=
  if l2 = 0 then (some ((l1 / (13 : Int32)))) else (some ((l1 - l1 / (13 : Int32) * (13 : Int32))))
set_option maxHeartbeats 4000000 in
set_option maxRecDepth 100000 in
theorem tcX10_left {E : JE} {l1 : Int32} {l2 : Int32} {r : Int32} {I : JI} {L : JL} {G D : JG} {S : JS} (hL : Lay G S) (h : fX10_left l1 l2 = some r) : CallJ E xX10_left 1 [.ref (E.1 + 20), .int l1, .int l2] I L G D S (some (.int r)) I L G D S := by
  unfold fX10_left at h
  refine j_entry (by decide) (Nat.le_of_ble_eq_true rfl) ?_
  show AtJ E xX10_left (Zr E (some (.int r)) I L G D S) ((S).length, jm_sl S) 1 0 [(0, .ref (E.1 + 20)), (1, .int l1), (2, .int l2)] [] I L G D S
  refine j_iload_n 1 dX10_left_0 rfl rfl 2 rfl ?_
  refine j_if_ne 11 4 dX10_left_1 (by decide) rfl (fun hc => ?_) (fun hc => ?_)
  · replace h := j_neg hc h
    refine j_iload_n 12 dX10_left_11 rfl rfl 1 rfl ?_
    refine j_bipush (v := (13 : Int32)) 14 dX10_left_12 rfl (by decide) ?_
    refine j_irem 15 dX10_left_14 rfl (by decide) ?_
    cases h
    exact j_iret dX10_left_15 rfl
  · replace h := j_pos hc h
    refine j_iload_n 5 dX10_left_4 rfl rfl 1 rfl ?_
    refine j_bipush (v := (13 : Int32)) 7 dX10_left_5 rfl (by decide) ?_
    refine j_idiv 8 dX10_left_7 rfl (by decide) ?_
    refine j_goto 15 dX10_left_8 (by decide) ?_
    cases h
    exact j_iret dX10_left_15 rfl
def fX10_place (l1 : Int32) (I : JI) : Option (JI) :=
  (fX1_of 21 (I 20 9) (I 20 11) I).bind (fun q1 => (fX10_left l1 (0 : Int32)).bind (fun q2 => (fX1_move 21 (I 20 9) (I 20 11) (I 20 12) (q1 - q2) I).bind (fun q3 => if (q3 20 10) = (-1 : Int32) then (some (q3)) else ((fX1_of 21 (q3 20 10) (q3 20 11) q3).bind (fun q4 => (fX10_left l1 (1 : Int32)).bind (fun q5 => (fX1_move 21 (q3 20 10) (q3 20 11) (q3 20 12) (q4 - q5) q3).bind (fun q6 => some (q6))))))))
set_option maxHeartbeats 4000000 in
set_option maxRecDepth 100000 in
theorem tcX10_place {E : JE} {l1 : Int32} {r : JI} {I : JI} {L : JL} {G D : JG} {S : JS} (hL : Lay G S) (h : fX10_place l1 I = some r) : CallJ E xX10_place 4 [.ref (E.1 + 20), .int l1] I L G D S none r L G D S := by
  unfold fX10_place at h
  refine j_entry (by decide) (Nat.le_of_ble_eq_true rfl) ?_
  show AtJ E xX10_place (Zr E none r L G D S) ((S).length, jm_sl S) 4 0 [(0, .ref (E.1 + 20)), (1, .int l1)] [] I L G D S
  refine j_aload_n 1 dX10_place_0 rfl rfl 0 rfl ?_
  refine j_getG 4 dX10_place_1 rfl (sh_20 hL) cl10 (k := 3) (by decide) flX10_12 rfl (gs_20_3 hL) ?_
  refine j_aload_n 5 dX10_place_4 rfl rfl 0 rfl ?_
  refine j_getI 8 dX10_place_5 rfl (sh_20 hL) cl10 (k := 9) (by decide) flX10_50 rfl ?_
  refine j_aload_n 9 dX10_place_8 rfl rfl 0 rfl ?_
  refine j_getI 12 dX10_place_9 rfl (sh_20 hL) cl10 (k := 11) (by decide) flX10_53 rfl ?_
  refine j_aload_n 13 dX10_place_12 rfl rfl 0 rfl ?_
  refine j_getI 16 dX10_place_13 rfl (sh_20 hL) cl10 (k := 12) (by decide) flX10_56 rfl ?_
  refine j_aload_n 17 dX10_place_16 rfl rfl 0 rfl ?_
  refine j_getG 20 dX10_place_17 rfl (sh_20 hL) cl10 (k := 3) (by decide) flX10_12 rfl (gs_20_3 hL) ?_
  refine j_aload_n 21 dX10_place_20 rfl rfl 0 rfl ?_
  refine j_getI 24 dX10_place_21 rfl (sh_20 hL) cl10 (k := 9) (by decide) flX10_50 rfl ?_
  refine j_aload_n 25 dX10_place_24 rfl rfl 0 rfl ?_
  refine j_getI 28 dX10_place_25 rfl (sh_20 hL) cl10 (k := 11) (by decide) flX10_53 rfl ?_
  obtain ⟨q1, hq1, h⟩ := j_bs h
  refine j_callV (rest := [.int (I 20 12), .int (I 20 11), .int (I 20 9), .ref (E.1 + 21)]) (As := [.int (I 20 9), .int (I 20 11)]) 31 dX10_place_28 rfl jyX1_of (tcX1_of hL (sh_21 hL) hq1) (sh_21 hL) cl1 flX10_65 wm663 wm664 (by decide) rfl rfl (Nat.le_of_ble_eq_true rfl) ?_
  refine j_aload_n 32 dX10_place_31 rfl rfl 0 rfl ?_
  refine j_iload_n 33 dX10_place_32 rfl rfl 1 rfl ?_
  refine j_iconst (v := (0 : Int32)) 34 dX10_place_33 rfl (by decide) ?_
  obtain ⟨q2, hq2, h⟩ := j_bs h
  refine j_callV (rest := [.int q1, .int (I 20 12), .int (I 20 11), .int (I 20 9), .ref (E.1 + 21)]) (As := [.int l1, .int (0 : Int32)]) 37 dX10_place_34 rfl jyX10_left (tcX10_left hL  hq2) (sh_20 hL) cl10 flX10_76 wm1115 wm1116 (by decide) rfl rfl (Nat.le_of_ble_eq_true rfl) ?_
  refine j_isub 38 dX10_place_37 rfl ?_
  obtain ⟨q3, hq3, h⟩ := j_bs h
  refine j_callV (rest := []) (As := [.int (I 20 9), .int (I 20 11), .int (I 20 12), .int (q1 - q2)]) 41 dX10_place_38 rfl jyX1_move (tcX1_move hL (sh_21 hL) hq3) (sh_21 hL) cl1 flX10_79 wm667 wm668 (by decide) rfl rfl (Nat.le_of_ble_eq_true rfl) ?_
  refine j_aload_n 42 dX10_place_41 rfl rfl 0 rfl ?_
  refine j_getI 45 dX10_place_42 rfl (sh_20 hL) cl10 (k := 10) (by decide) flX10_62 rfl ?_
  refine j_iconst (v := (-1 : Int32)) 46 dX10_place_45 rfl (by decide) ?_
  refine j_icmp_eq 90 49 dX10_place_46 (by decide) rfl (fun hc => ?_) (fun hc => ?_)
  · replace h := j_pos hc h
    cases h
    exact j_vret dX10_place_90 rfl
  · replace h := j_neg hc h
    refine j_aload_n 50 dX10_place_49 rfl rfl 0 rfl ?_
    refine j_getG 53 dX10_place_50 rfl (sh_20 hL) cl10 (k := 3) (by decide) flX10_12 rfl (gs_20_3 hL) ?_
    refine j_aload_n 54 dX10_place_53 rfl rfl 0 rfl ?_
    refine j_getI 57 dX10_place_54 rfl (sh_20 hL) cl10 (k := 10) (by decide) flX10_62 rfl ?_
    refine j_aload_n 58 dX10_place_57 rfl rfl 0 rfl ?_
    refine j_getI 61 dX10_place_58 rfl (sh_20 hL) cl10 (k := 11) (by decide) flX10_53 rfl ?_
    refine j_aload_n 62 dX10_place_61 rfl rfl 0 rfl ?_
    refine j_getI 65 dX10_place_62 rfl (sh_20 hL) cl10 (k := 12) (by decide) flX10_56 rfl ?_
    refine j_aload_n 66 dX10_place_65 rfl rfl 0 rfl ?_
    refine j_getG 69 dX10_place_66 rfl (sh_20 hL) cl10 (k := 3) (by decide) flX10_12 rfl (gs_20_3 hL) ?_
    refine j_aload_n 70 dX10_place_69 rfl rfl 0 rfl ?_
    refine j_getI 73 dX10_place_70 rfl (sh_20 hL) cl10 (k := 10) (by decide) flX10_62 rfl ?_
    refine j_aload_n 74 dX10_place_73 rfl rfl 0 rfl ?_
    refine j_getI 77 dX10_place_74 rfl (sh_20 hL) cl10 (k := 11) (by decide) flX10_53 rfl ?_
    obtain ⟨q4, hq4, h⟩ := j_bs h
    refine j_callV (rest := [.int (q3 20 12), .int (q3 20 11), .int (q3 20 10), .ref (E.1 + 21)]) (As := [.int (q3 20 10), .int (q3 20 11)]) 80 dX10_place_77 rfl jyX1_of (tcX1_of hL (sh_21 hL) hq4) (sh_21 hL) cl1 flX10_65 wm663 wm664 (by decide) rfl rfl (Nat.le_of_ble_eq_true rfl) ?_
    refine j_aload_n 81 dX10_place_80 rfl rfl 0 rfl ?_
    refine j_iload_n 82 dX10_place_81 rfl rfl 1 rfl ?_
    refine j_iconst (v := (1 : Int32)) 83 dX10_place_82 rfl (by decide) ?_
    obtain ⟨q5, hq5, h⟩ := j_bs h
    refine j_callV (rest := [.int q4, .int (q3 20 12), .int (q3 20 11), .int (q3 20 10), .ref (E.1 + 21)]) (As := [.int l1, .int (1 : Int32)]) 86 dX10_place_83 rfl jyX10_left (tcX10_left hL  hq5) (sh_20 hL) cl10 flX10_76 wm1115 wm1116 (by decide) rfl rfl (Nat.le_of_ble_eq_true rfl) ?_
    refine j_isub 87 dX10_place_86 rfl ?_
    obtain ⟨q6, hq6, h⟩ := j_bs h
    refine j_callV (rest := []) (As := [.int (q3 20 10), .int (q3 20 11), .int (q3 20 12), .int (q4 - q5)]) 90 dX10_place_87 rfl jyX1_move (tcX1_move hL (sh_21 hL) hq6) (sh_21 hL) cl1 flX10_79 wm667 wm668 (by decide) rfl rfl (Nat.le_of_ble_eq_true rfl) ?_
    cases h
    exact j_vret dX10_place_90 rfl
def fX10_turnTo_16 (s0 : Int32) (I : JI) (D : JG) (S : JS) : Option (JI × JG) :=
  if ((j_up I 20 14 s0) 20 14) = (-1 : Int32) then (some ((j_up I 20 14 s0), D)) else ((fX3_settle 21 ((j_up I 20 14 s0) 20 14) ((j_up I 20 14 s0) 20 11) (j_up I 20 14 s0) D S).bind (fun q1 => some (q1.1, q1.2)))
set_option maxHeartbeats 4000000 in
set_option maxRecDepth 100000 in
theorem kX10_turnTo_16 {E : JE} {r : JI × JG} {L : JL} {G : JG} {S : JS} (hL : Lay G S) : ∀ (s0 : Int32) (I : JI) (D : JG), fX10_turnTo_16 s0 I D S = some r → AtJ E xX10_turnTo (Zr E none r.1 L G r.2 S) ((S).length, jm_sl S) 4 16 [(0, .ref (E.1 + 20))] [.int s0, .ref (E.1 + 20)] I L G D S := by
  intro s0 I D  h
  unfold fX10_turnTo_16 at h
  refine j_putI 19 dX10_turnTo_16 rfl (sh_20 hL) cl10 (k := 14) (by decide) flX10_83 rfl rfl rfl ?_
  refine j_aload_n 20 dX10_turnTo_19 rfl rfl 0 rfl ?_
  refine j_getI 23 dX10_turnTo_20 rfl (sh_20 hL) cl10 (k := 14) (by decide) flX10_83 rfl ?_
  refine j_iconst (v := (-1 : Int32)) 24 dX10_turnTo_23 rfl (by decide) ?_
  refine j_icmp_eq 46 27 dX10_turnTo_24 (by decide) rfl (fun hc => ?_) (fun hc => ?_)
  · replace h := j_pos hc h
    cases h
    exact j_vret dX10_turnTo_46 rfl
  · replace h := j_neg hc h
    refine j_aload_n 28 dX10_turnTo_27 rfl rfl 0 rfl ?_
    refine j_getG 31 dX10_turnTo_28 rfl (sh_20 hL) cl10 (k := 2) (by decide) flX10_46 rfl (gs_20_2 hL) ?_
    refine j_aload_n 32 dX10_turnTo_31 rfl rfl 0 rfl ?_
    refine j_getG 35 dX10_turnTo_32 rfl (sh_20 hL) cl10 (k := 3) (by decide) flX10_12 rfl (gs_20_3 hL) ?_
    refine j_aload_n 36 dX10_turnTo_35 rfl rfl 0 rfl ?_
    refine j_getI 39 dX10_turnTo_36 rfl (sh_20 hL) cl10 (k := 14) (by decide) flX10_83 rfl ?_
    refine j_aload_n 40 dX10_turnTo_39 rfl rfl 0 rfl ?_
    refine j_getI 43 dX10_turnTo_40 rfl (sh_20 hL) cl10 (k := 11) (by decide) flX10_53 rfl ?_
    obtain ⟨q1, hq1, h⟩ := j_bs h
    refine j_callV (rest := []) (As := [.ref (E.1 + 21), .int ((j_up I 20 14 s0) 20 14), .int ((j_up I 20 14 s0) 20 11)]) 46 dX10_turnTo_43 rfl jyX3_settle (tcX3_settle hL (sh_21 hL) hq1) (sh_15 hL) cl3 flX10_86 wm938 wm939 (by decide) rfl rfl (Nat.le_of_ble_eq_true rfl) ?_
    cases h
    exact j_vret dX10_turnTo_46 rfl
def fX10_turnTo (l1 : Int32) (I : JI) (D : JG) (S : JS) : Option (JI × JG) :=
  if l1 = 0 then (fX10_turnTo_16 (I 20 9) I D S) else (fX10_turnTo_16 (I 20 10) I D S)
set_option maxHeartbeats 4000000 in
set_option maxRecDepth 100000 in
theorem tcX10_turnTo {E : JE} {l1 : Int32} {r : JI × JG} {I : JI} {L : JL} {G D : JG} {S : JS} (hL : Lay G S) (h : fX10_turnTo l1 I D S = some r) : CallJ E xX10_turnTo 4 [.ref (E.1 + 20), .int l1] I L G D S none r.1 L G r.2 S := by
  unfold fX10_turnTo at h
  refine j_entry (by decide) (Nat.le_of_ble_eq_true rfl) ?_
  show AtJ E xX10_turnTo (Zr E none r.1 L G r.2 S) ((S).length, jm_sl S) 4 0 [(0, .ref (E.1 + 20)), (1, .int l1)] [] I L G D S
  refine j_aload_n 1 dX10_turnTo_0 rfl rfl 0 rfl ?_
  refine j_iload_n 2 dX10_turnTo_1 rfl rfl 1 rfl ?_
  refine j_if_ne 12 5 dX10_turnTo_2 (by decide) rfl (fun hc => ?_) (fun hc => ?_)
  · replace h := j_neg hc h
    refine j_aload_n 13 dX10_turnTo_12 rfl rfl 0 rfl ?_
    refine j_getI 16 dX10_turnTo_13 rfl (sh_20 hL) cl10 (k := 10) (by decide) flX10_62 rfl ?_
    refine j_sub [0] rfl ?_
    exact kX10_turnTo_16 hL    _ _ _  h
  · replace h := j_pos hc h
    refine j_aload_n 6 dX10_turnTo_5 rfl rfl 0 rfl ?_
    refine j_getI 9 dX10_turnTo_6 rfl (sh_20 hL) cl10 (k := 9) (by decide) flX10_50 rfl ?_
    refine j_goto 16 dX10_turnTo_9 (by decide) ?_
    refine j_sub [0] rfl ?_
    exact kX10_turnTo_16 hL    _ _ _  h
def fX10_openSets_6 : Nat → Int32 → Int64 → Int64 → Int32 → JI → JL → JG → JS → Option (Int64 × JI × JG)
  | 0, _, _, _, _, _, _, _, _ => none
  | n + 1, l1, l2, l4, l6, I, L, D, S =>
    if (3 : Int32) ≤ l6 then (some ((l2 &&& (l4 ^^^ (-1 : Int64))), I, D)) else (if (lg_cmp l4 (0 : Int64)) = 0 then (some ((l2 &&& (l4 ^^^ (-1 : Int64))), I, D)) else ((fX0_tellEach 26 ((j_up I 20 15 l6) 20 14) ((j_up I 20 15 l6) 20 11) ((j_up I 20 15 l6) 20 12) l1 ((j_up I 20 15 l6) 20 15) ((j_up I 20 15 l6) 20 13) (j_up I 20 15 l6)).bind (fun q1 => (fX3_ask 26 q1 D S).bind (fun q2 => (fX3_openSets l4 (65535 : Int32) q2.1 L q2.2 S).bind (fun q3 => (fX10_openSets_6 n) l1 l2 (l4 &&& (q3.1 ^^^ (-1 : Int64))) (l6 + (1 : Int32)) q3.2 L q2.2 S)))))
set_option maxHeartbeats 4000000 in
set_option maxRecDepth 100000 in
theorem kX10_openSets_6 {E : JE} {r : Int64 × JI × JG} {G : JG} {S : JS} (hL : Lay G S) : ∀ (n : Nat) (l1 : Int32) (l2 : Int64) (l4 : Int64) (l6 : Int32) (I : JI) (L : JL) (D : JG), fX10_openSets_6 n l1 l2 l4 l6 I L D S = some r → AtJ E xX10_openSets (Zr E (some (.long r.1)) r.2.1 L G r.2.2 S) ((S).length, jm_sl S) 4 6 [(0, .ref (E.1 + 20)), (1, .int l1), (2, .long l2), (4, .long l4), (6, .int l6)] [] I L G D S := by
  intro n
  induction n with
  | zero => intro l1 l2 l4 l6 I L D  h; simp [fX10_openSets_6] at h
  | succ n ih =>
    intro l1 l2 l4 l6 I L D  h
    rw [fX10_openSets_6] at h
    refine j_iload 8 dX10_openSets_6 rfl 4 rfl ?_
    refine j_iconst (v := (3 : Int32)) 9 dX10_openSets_8 rfl (by decide) ?_
    refine j_icmp_ge 90 12 dX10_openSets_9 (by decide) rfl (fun hc => ?_) (fun hc => ?_)
    · replace h := j_pos hc h
      refine j_lload_n 91 dX10_openSets_90 rfl rfl 2 rfl ?_
      refine j_lload 93 dX10_openSets_91 rfl 3 rfl ?_
      refine j_ldc2 (v := (-1 : Int64)) 96 dX10_openSets_93 rfl wm1138 ?_
      refine j_lxor 97 dX10_openSets_96 rfl ?_
      refine j_land 98 dX10_openSets_97 rfl ?_
      cases h
      exact j_lret dX10_openSets_98 rfl
    · replace h := j_neg hc h
      refine j_lload 14 dX10_openSets_12 rfl 3 rfl ?_
      refine j_lconst (v := (0 : Int64)) 15 dX10_openSets_14 rfl (by decide) ?_
      refine j_lcmp 16 dX10_openSets_15 rfl ?_
      refine j_if_eq 90 19 dX10_openSets_16 (by decide) rfl (fun hc => ?_) (fun hc => ?_)
      · replace h := j_pos hc h
        refine j_lload_n 91 dX10_openSets_90 rfl rfl 2 rfl ?_
        refine j_lload 93 dX10_openSets_91 rfl 3 rfl ?_
        refine j_ldc2 (v := (-1 : Int64)) 96 dX10_openSets_93 rfl wm1138 ?_
        refine j_lxor 97 dX10_openSets_96 rfl ?_
        refine j_land 98 dX10_openSets_97 rfl ?_
        cases h
        exact j_lret dX10_openSets_98 rfl
      · replace h := j_neg hc h
        refine j_aload_n 20 dX10_openSets_19 rfl rfl 0 rfl ?_
        refine j_iload 22 dX10_openSets_20 rfl 4 rfl ?_
        refine j_putI 25 dX10_openSets_22 rfl (sh_20 hL) cl10 (k := 15) (by decide) flX10_92 rfl rfl rfl ?_
        refine j_aload_n 26 dX10_openSets_25 rfl rfl 0 rfl ?_
        refine j_getG 29 dX10_openSets_26 rfl (sh_20 hL) cl10 (k := 4) (by decide) flX10_21 rfl (gs_20_4 hL) ?_
        refine j_aload_n 30 dX10_openSets_29 rfl rfl 0 rfl ?_
        refine j_getI 33 dX10_openSets_30 rfl (sh_20 hL) cl10 (k := 14) (by decide) flX10_83 rfl ?_
        refine j_aload_n 34 dX10_openSets_33 rfl rfl 0 rfl ?_
        refine j_getI 37 dX10_openSets_34 rfl (sh_20 hL) cl10 (k := 11) (by decide) flX10_53 rfl ?_
        refine j_aload_n 38 dX10_openSets_37 rfl rfl 0 rfl ?_
        refine j_getI 41 dX10_openSets_38 rfl (sh_20 hL) cl10 (k := 12) (by decide) flX10_56 rfl ?_
        refine j_iload_n 42 dX10_openSets_41 rfl rfl 1 rfl ?_
        refine j_aload_n 43 dX10_openSets_42 rfl rfl 0 rfl ?_
        refine j_getI 46 dX10_openSets_43 rfl (sh_20 hL) cl10 (k := 15) (by decide) flX10_92 rfl ?_
        refine j_aload_n 47 dX10_openSets_46 rfl rfl 0 rfl ?_
        refine j_getI 50 dX10_openSets_47 rfl (sh_20 hL) cl10 (k := 13) (by decide) flX10_59 rfl ?_
        obtain ⟨q1, hq1, h⟩ := j_bs h
        refine j_callV (rest := []) (As := [.int ((j_up I 20 15 l6) 20 14), .int ((j_up I 20 15 l6) 20 11), .int ((j_up I 20 15 l6) 20 12), .int l1, .int ((j_up I 20 15 l6) 20 15), .int ((j_up I 20 15 l6) 20 13)]) 53 dX10_openSets_50 rfl jyX0_tellEach (tcX0_tellEach hL (sh_26 hL) hq1) (sh_26 hL) cl0 flX10_95 wm1129 wm1130 (by decide) rfl rfl (Nat.le_of_ble_eq_true rfl) ?_
        refine j_aload_n 54 dX10_openSets_53 rfl rfl 0 rfl ?_
        refine j_getG 57 dX10_openSets_54 rfl (sh_20 hL) cl10 (k := 2) (by decide) flX10_46 rfl (gs_20_2 hL) ?_
        refine j_aload_n 58 dX10_openSets_57 rfl rfl 0 rfl ?_
        refine j_getG 61 dX10_openSets_58 rfl (sh_20 hL) cl10 (k := 4) (by decide) flX10_21 rfl (gs_20_4 hL) ?_
        obtain ⟨q2, hq2, h⟩ := j_bs h
        refine j_callV (rest := []) (As := [.ref (E.1 + 26)]) 64 dX10_openSets_61 rfl jyX3_ask (tcX3_ask hL (sh_26 hL) hq2) (sh_15 hL) cl3 flX10_99 wm943 wm944 (by decide) rfl rfl (Nat.le_of_ble_eq_true rfl) ?_
        refine j_lload 66 dX10_openSets_64 rfl 3 rfl ?_
        refine j_aload_n 67 dX10_openSets_66 rfl rfl 0 rfl ?_
        refine j_getG 70 dX10_openSets_67 rfl (sh_20 hL) cl10 (k := 2) (by decide) flX10_46 rfl (gs_20_2 hL) ?_
        refine j_lload 72 dX10_openSets_70 rfl 3 rfl ?_
        refine j_ldc (v := (65535 : Int32)) 74 dX10_openSets_72 rfl wm1133 ?_
        obtain ⟨q3, hq3, h⟩ := j_bs h
        refine j_callV (rest := [.long l4]) (As := [.long l4, .int (65535 : Int32)]) 77 dX10_openSets_74 rfl jyX3_openSets (tcX3_openSets hL  hq3) (sh_15 hL) cl3 flX10_104 wm1135 wm1136 (by decide) rfl rfl (Nat.le_of_ble_eq_true rfl) ?_
        refine j_ldc2 (v := (-1 : Int64)) 80 dX10_openSets_77 rfl wm1138 ?_
        refine j_lxor 81 dX10_openSets_80 rfl ?_
        refine j_land 82 dX10_openSets_81 rfl ?_
        refine j_lstore (lv' := [(4, .long (l4 &&& (q3.1 ^^^ (-1 : Int64)))), (0, .ref (E.1 + 20)), (1, .int l1), (2, .long l2), (6, .int l6)]) 84 dX10_openSets_82 rfl (by decide) rfl ?_
        refine j_iinc (v := (l6 + (1 : Int32))) (lv' := [(6, .int (l6 + (1 : Int32))), (4, .long (l4 &&& (q3.1 ^^^ (-1 : Int64)))), (0, .ref (E.1 + 20)), (1, .int l1), (2, .long l2)]) (q := 4) 87 dX10_openSets_84 rfl rfl rfl (by decide) rfl ?_
        refine j_goto 6 dX10_openSets_87 (by decide) ?_
        refine j_sub [2, 3, 4, 1, 0] rfl ?_
        exact ih _ _ _ _ _ _ _  h
def fX10_openSets (l1 : Int32) (l2 : Int64) (I : JI) (L : JL) (D : JG) (S : JS) : Option (Int64 × JI × JG) :=
  fX10_openSets_6 100000 l1 l2 l2 (0 : Int32) I L D S
set_option maxHeartbeats 4000000 in
set_option maxRecDepth 100000 in
theorem tcX10_openSets {E : JE} {l1 : Int32} {l2 : Int64} {r : Int64 × JI × JG} {I : JI} {L : JL} {G D : JG} {S : JS} (hL : Lay G S) (h : fX10_openSets l1 l2 I L D S = some r) : CallJ E xX10_openSets 4 [.ref (E.1 + 20), .int l1, .long l2] I L G D S (some (.long r.1)) r.2.1 L G r.2.2 S := by
  unfold fX10_openSets at h
  refine j_entry (by decide) (Nat.le_of_ble_eq_true rfl) ?_
  show AtJ E xX10_openSets (Zr E (some (.long r.1)) r.2.1 L G r.2.2 S) ((S).length, jm_sl S) 4 0 [(0, .ref (E.1 + 20)), (1, .int l1), (2, .long l2)] [] I L G D S
  refine j_lload_n 1 dX10_openSets_0 rfl rfl 2 rfl ?_
  refine j_lstore (lv' := [(4, .long l2), (0, .ref (E.1 + 20)), (1, .int l1), (2, .long l2)]) 3 dX10_openSets_1 rfl (by decide) rfl ?_
  refine j_iconst (v := (0 : Int32)) 4 dX10_openSets_3 rfl (by decide) ?_
  refine j_istore (lv' := [(6, .int (0 : Int32)), (4, .long l2), (0, .ref (E.1 + 20)), (1, .int l1), (2, .long l2)]) 6 dX10_openSets_4 rfl (by decide) rfl ?_
  refine j_sub [2, 3, 4, 1, 0] rfl ?_
  exact kX10_openSets_6 hL    100000 _ _ _ _ _ _ _  h
def fX10_behind (l1 : Int32) (l2 : Int32) (l3 : Int32)  : Option (Int32) :=
  if l2 = 0 then (some ((l1 - (l3 * (13 : Int32))))) else (some ((l1 - l3)))
set_option maxHeartbeats 4000000 in
set_option maxRecDepth 100000 in
theorem tcX10_behind {E : JE} {l1 : Int32} {l2 : Int32} {l3 : Int32} {r : Int32} {I : JI} {L : JL} {G D : JG} {S : JS} (hL : Lay G S) (h : fX10_behind l1 l2 l3 = some r) : CallJ E xX10_behind 1 [.ref (E.1 + 20), .int l1, .int l2, .int l3] I L G D S (some (.int r)) I L G D S := by
  unfold fX10_behind at h
  refine j_entry (by decide) (Nat.le_of_ble_eq_true rfl) ?_
  show AtJ E xX10_behind (Zr E (some (.int r)) I L G D S) ((S).length, jm_sl S) 1 0 [(0, .ref (E.1 + 20)), (1, .int l1), (2, .int l2), (3, .int l3)] [] I L G D S
  refine j_iload_n 1 dX10_behind_0 rfl rfl 2 rfl ?_
  refine j_if_ne 13 4 dX10_behind_1 (by decide) rfl (fun hc => ?_) (fun hc => ?_)
  · replace h := j_neg hc h
    refine j_iload_n 14 dX10_behind_13 rfl rfl 1 rfl ?_
    refine j_iload_n 15 dX10_behind_14 rfl rfl 3 rfl ?_
    refine j_isub 16 dX10_behind_15 rfl ?_
    cases h
    exact j_iret dX10_behind_16 rfl
  · replace h := j_pos hc h
    refine j_iload_n 5 dX10_behind_4 rfl rfl 1 rfl ?_
    refine j_iload_n 6 dX10_behind_5 rfl rfl 3 rfl ?_
    refine j_bipush (v := (13 : Int32)) 8 dX10_behind_6 rfl (by decide) ?_
    refine j_imul 9 dX10_behind_8 rfl ?_
    refine j_isub 10 dX10_behind_9 rfl ?_
    refine j_goto 16 dX10_behind_10 (by decide) ?_
    cases h
    exact j_iret dX10_behind_16 rfl
def fX6_spread_100 (k2 : Int32 → Int32 → JI → JL → JG → JS → Option (JI × JL × JG)) (l1 : Int32) (l2 : Int32) (I : JI) (L : JL) (D : JG) (S : JS) : Option (JI × JL × JG) :=
  k2 l1 (l2 + (1 : Int32)) I L D S
set_option maxHeartbeats 4000000 in
set_option maxRecDepth 100000 in
theorem kX6_spread_100 {E : JE} {k2 : Int32 → Int32 → JI → JL → JG → JS → Option (JI × JL × JG)} {r : JI × JL × JG} {G : JG} {S : JS} (hL : Lay G S) (H2 : ∀ (l1 : Int32) (l2 : Int32) (I : JI) (L : JL) (D : JG), k2 l1 l2 I L D S = some r → AtJ E xX6_spread (Zr E none r.1 r.2.1 G r.2.2 S) ((S).length, jm_sl S) 5 2 [(0, .ref (E.1 + 30)), (1, .int l1), (2, .int l2)] [] I L G D S) : ∀ (l1 : Int32) (l2 : Int32) (I : JI) (L : JL) (D : JG), fX6_spread_100 k2 l1 l2 I L D S = some r → AtJ E xX6_spread (Zr E none r.1 r.2.1 G r.2.2 S) ((S).length, jm_sl S) 5 100 [(0, .ref (E.1 + 30)), (1, .int l1), (2, .int l2)] [] I L G D S := by
  intro l1 l2 I L D  h
  unfold fX6_spread_100 at h
  refine j_iinc (v := (l2 + (1 : Int32))) (lv' := [(2, .int (l2 + (1 : Int32))), (0, .ref (E.1 + 30)), (1, .int l1)]) (q := 2) 103 dX6_spread_100 rfl rfl rfl (by decide) rfl ?_
  refine j_goto 2 dX6_spread_103 (by decide) ?_
  refine j_sub [1, 2, 0] rfl ?_
  exact H2 _ _ _ _ _  h
def fX6_spread_38 (k2 : Int32 → Int32 → JI → JL → JG → JS → Option (JI × JL × JG)) : Nat → Int32 → Int32 → Int32 → Int32 → JI → JL → JG → JS → Option (JI × JL × JG)
  | 0, _, _, _, _, _, _, _, _ => none
  | n + 1, l1, l2, l3, l4, I, L, D, S =>
    if l3 < l4 then (fX6_spread_100 k2 l1 l2 I L D S) else ((fX10_behind l1 l2 l4).bind (fun q3 => j_g (j_in q3 169) (j_g (j_in l1 169) (j_g (j_in q3 169) ((fX10_openSets l4 ((L 32 l1.toNatClampNeg) &&& ((L 32 q3.toNatClampNeg) ^^^ (-1 : Int64))) I L D S).bind (fun q4 => j_g (j_in q3 169) ((fX6_spread_38 k2 n) l1 l2 l3 (l4 + (1 : Int32)) q4.2.1 (j_up L 32 q3.toNatClampNeg ((L 32 q3.toNatClampNeg) ||| q4.1)) q4.2.2 S)))))))
set_option maxHeartbeats 4000000 in
set_option maxRecDepth 100000 in
theorem kX6_spread_38 {E : JE} {k2 : Int32 → Int32 → JI → JL → JG → JS → Option (JI × JL × JG)} {r : JI × JL × JG} {G : JG} {S : JS} (hL : Lay G S) (H2 : ∀ (l1 : Int32) (l2 : Int32) (I : JI) (L : JL) (D : JG), k2 l1 l2 I L D S = some r → AtJ E xX6_spread (Zr E none r.1 r.2.1 G r.2.2 S) ((S).length, jm_sl S) 5 2 [(0, .ref (E.1 + 30)), (1, .int l1), (2, .int l2)] [] I L G D S) : ∀ (n : Nat) (l1 : Int32) (l2 : Int32) (l3 : Int32) (l4 : Int32) (I : JI) (L : JL) (D : JG), fX6_spread_38 k2 n l1 l2 l3 l4 I L D S = some r → AtJ E xX6_spread (Zr E none r.1 r.2.1 G r.2.2 S) ((S).length, jm_sl S) 5 38 [(0, .ref (E.1 + 30)), (1, .int l1), (2, .int l2), (3, .int l3), (4, .int l4)] [] I L G D S := by
  intro n
  induction n with
  | zero => intro l1 l2 l3 l4 I L D  h; simp [fX6_spread_38] at h
  | succ n ih =>
    intro l1 l2 l3 l4 I L D  h
    rw [fX6_spread_38] at h
    refine j_iload 40 dX6_spread_38 rfl 4 rfl ?_
    refine j_iload_n 41 dX6_spread_40 rfl rfl 3 rfl ?_
    refine j_icmp_gt 100 44 dX6_spread_41 (by decide) rfl (fun hc => ?_) (fun hc => ?_)
    · replace h := j_pos hc h
      refine j_sub [0, 1, 2] rfl ?_
      exact kX6_spread_100 hL   H2 _ _ _ _ _  h
    · replace h := j_neg hc h
      refine j_aload_n 45 dX6_spread_44 rfl rfl 0 rfl ?_
      refine j_getG 48 dX6_spread_45 rfl (sh_30 hL) cl6 (k := 3) (by decide) flX6_37 rfl (gs_30_3 hL) ?_
      refine j_iload_n 49 dX6_spread_48 rfl rfl 1 rfl ?_
      refine j_iload_n 50 dX6_spread_49 rfl rfl 2 rfl ?_
      refine j_iload 52 dX6_spread_50 rfl 4 rfl ?_
      obtain ⟨q3, hq3, h⟩ := j_bs h
      refine j_callV (rest := []) (As := [.int l1, .int l2, .int l4]) 55 dX6_spread_52 rfl jyX10_behind (tcX10_behind hL  hq3) (sh_20 hL) cl10 flX6_140 wm1140 wm1141 (by decide) rfl rfl (Nat.le_of_ble_eq_true rfl) ?_
      refine j_istore (lv' := [(5, .int q3), (0, .ref (E.1 + 30)), (1, .int l1), (2, .int l2), (3, .int l3), (4, .int l4)]) 57 dX6_spread_55 rfl (by decide) rfl ?_
      refine j_aload_n 58 dX6_spread_57 rfl rfl 1 rfl ?_
      refine j_getG 61 dX6_spread_58 rfl (sh_30 hL) cl6 (k := 5) (by decide) flX6_17 rfl (gs_30_5 hL) ?_
      refine j_iload 63 dX6_spread_61 rfl 0 rfl ?_
      refine j_dup2_11 64 dX6_spread_63 rfl rfl rfl ?_
      obtain ⟨hg, h⟩ := j_gs h
      refine j_lald 65 dX6_spread_64 rfl (sh_32 hL) (j_inv hg) ?_
      refine j_aload_n 66 dX6_spread_65 rfl rfl 1 rfl ?_
      refine j_getG 69 dX6_spread_66 rfl (sh_30 hL) cl6 (k := 3) (by decide) flX6_37 rfl (gs_30_3 hL) ?_
      refine j_iload 71 dX6_spread_69 rfl 5 rfl ?_
      refine j_aload_n 72 dX6_spread_71 rfl rfl 1 rfl ?_
      refine j_getG 75 dX6_spread_72 rfl (sh_30 hL) cl6 (k := 5) (by decide) flX6_17 rfl (gs_30_5 hL) ?_
      refine j_iload_n 76 dX6_spread_75 rfl rfl 2 rfl ?_
      obtain ⟨hg, h⟩ := j_gs h
      refine j_lald 77 dX6_spread_76 rfl (sh_32 hL) (j_inv hg) ?_
      refine j_aload_n 78 dX6_spread_77 rfl rfl 1 rfl ?_
      refine j_getG 81 dX6_spread_78 rfl (sh_30 hL) cl6 (k := 5) (by decide) flX6_17 rfl (gs_30_5 hL) ?_
      refine j_iload 83 dX6_spread_81 rfl 0 rfl ?_
      obtain ⟨hg, h⟩ := j_gs h
      refine j_lald 84 dX6_spread_83 rfl (sh_32 hL) (j_inv hg) ?_
      refine j_ldc2 (v := (-1 : Int64)) 87 dX6_spread_84 rfl wm1232 ?_
      refine j_lxor 88 dX6_spread_87 rfl ?_
      refine j_land 89 dX6_spread_88 rfl ?_
      obtain ⟨q4, hq4, h⟩ := j_bs h
      refine j_callV (rest := [.long (L 32 q3.toNatClampNeg), .int q3, .ref (E.1 + 32)]) (As := [.int l4, .long ((L 32 l1.toNatClampNeg) &&& ((L 32 q3.toNatClampNeg) ^^^ (-1 : Int64)))]) 92 dX6_spread_89 rfl jyX10_openSets (tcX10_openSets hL  hq4) (sh_20 hL) cl10 flX6_134 wm1125 wm1126 (by decide) rfl rfl (Nat.le_of_ble_eq_true rfl) ?_
      refine j_lor 93 dX6_spread_92 rfl ?_
      obtain ⟨hg, h⟩ := j_gs h
      refine j_last 94 dX6_spread_93 rfl (sh_32 hL) (j_inv hg) ?_
      refine j_iinc (v := (l4 + (1 : Int32))) (lv' := [(4, .int (l4 + (1 : Int32))), (5, .int q3), (0, .ref (E.1 + 30)), (1, .int l1), (2, .int l2), (3, .int l3)]) (q := 5) 97 dX6_spread_94 rfl rfl rfl (by decide) rfl ?_
      refine j_goto 38 dX6_spread_97 (by decide) ?_
      refine j_sub [2, 3, 4, 5, 0] rfl ?_
      exact ih _ _ _ _ _ _ _  h
def fX6_spread_2 : Nat → Int32 → Int32 → JI → JL → JG → JS → Option (JI × JL × JG)
  | 0, _, _, _, _, _, _ => none
  | n + 1, l1, l2, I, L, D, S =>
    if (2 : Int32) ≤ l2 then (some (I, L, D)) else ((fX10_turnTo l2 I D S).bind (fun q1 => (fX10_left l1 l2).bind (fun q2 => if l2 = 0 then (fX6_spread_38 (fX6_spread_2 n) 100000 l1 l2 (q2 - (1 : Int32)) (1 : Int32) q1.1 L q1.2 S) else (fX6_spread_38 (fX6_spread_2 n) 100000 l1 l2 (q2 - (0 : Int32)) (1 : Int32) q1.1 L q1.2 S))))
set_option maxHeartbeats 4000000 in
set_option maxRecDepth 100000 in
theorem kX6_spread_2 {E : JE} {r : JI × JL × JG} {G : JG} {S : JS} (hL : Lay G S) : ∀ (n : Nat) (l1 : Int32) (l2 : Int32) (I : JI) (L : JL) (D : JG), fX6_spread_2 n l1 l2 I L D S = some r → AtJ E xX6_spread (Zr E none r.1 r.2.1 G r.2.2 S) ((S).length, jm_sl S) 5 2 [(0, .ref (E.1 + 30)), (1, .int l1), (2, .int l2)] [] I L G D S := by
  intro n
  induction n with
  | zero => intro l1 l2 I L D  h; simp [fX6_spread_2] at h
  | succ n ih =>
    intro l1 l2 I L D  h
    rw [fX6_spread_2] at h
    refine j_iload_n 3 dX6_spread_2 rfl rfl 2 rfl ?_
    refine j_iconst (v := (2 : Int32)) 4 dX6_spread_3 rfl (by decide) ?_
    refine j_icmp_ge 106 7 dX6_spread_4 (by decide) rfl (fun hc => ?_) (fun hc => ?_)
    · replace h := j_pos hc h
      cases h
      exact j_vret dX6_spread_106 rfl
    · replace h := j_neg hc h
      refine j_aload_n 8 dX6_spread_7 rfl rfl 0 rfl ?_
      refine j_getG 11 dX6_spread_8 rfl (sh_30 hL) cl6 (k := 3) (by decide) flX6_37 rfl (gs_30_3 hL) ?_
      refine j_iload_n 12 dX6_spread_11 rfl rfl 2 rfl ?_
      obtain ⟨q1, hq1, h⟩ := j_bs h
      refine j_callV (rest := []) (As := [.int l2]) 15 dX6_spread_12 rfl jyX10_turnTo (tcX10_turnTo hL  hq1) (sh_20 hL) cl10 flX6_127 wm1120 wm1121 (by decide) rfl rfl (Nat.le_of_ble_eq_true rfl) ?_
      refine j_aload_n 16 dX6_spread_15 rfl rfl 0 rfl ?_
      refine j_getG 19 dX6_spread_16 rfl (sh_30 hL) cl6 (k := 3) (by decide) flX6_37 rfl (gs_30_3 hL) ?_
      refine j_iload_n 20 dX6_spread_19 rfl rfl 1 rfl ?_
      refine j_iload_n 21 dX6_spread_20 rfl rfl 2 rfl ?_
      obtain ⟨q2, hq2, h⟩ := j_bs h
      refine j_callV (rest := []) (As := [.int l1, .int l2]) 24 dX6_spread_21 rfl jyX10_left (tcX10_left hL  hq2) (sh_20 hL) cl10 flX6_130 wm1115 wm1116 (by decide) rfl rfl (Nat.le_of_ble_eq_true rfl) ?_
      refine j_iload_n 25 dX6_spread_24 rfl rfl 2 rfl ?_
      refine j_if_ne 32 28 dX6_spread_25 (by decide) rfl (fun hc => ?_) (fun hc => ?_)
      · replace h := j_neg hc h
        refine j_iconst (v := (0 : Int32)) 33 dX6_spread_32 rfl (by decide) ?_
        refine j_isub 34 dX6_spread_33 rfl ?_
        refine j_istore_n (lv' := [(3, .int (q2 - (0 : Int32))), (0, .ref (E.1 + 30)), (1, .int l1), (2, .int l2)]) 35 dX6_spread_34 rfl rfl (by decide) rfl ?_
        refine j_iconst (v := (1 : Int32)) 36 dX6_spread_35 rfl (by decide) ?_
        refine j_istore (lv' := [(4, .int (1 : Int32)), (3, .int (q2 - (0 : Int32))), (0, .ref (E.1 + 30)), (1, .int l1), (2, .int l2)]) 38 dX6_spread_36 rfl (by decide) rfl ?_
        refine j_sub [2, 3, 4, 1, 0] rfl ?_
        exact kX6_spread_38 hL   ih 100000 _ _ _ _ _ _ _  h
      · replace h := j_pos hc h
        refine j_iconst (v := (1 : Int32)) 29 dX6_spread_28 rfl (by decide) ?_
        refine j_goto 33 dX6_spread_29 (by decide) ?_
        refine j_isub 34 dX6_spread_33 rfl ?_
        refine j_istore_n (lv' := [(3, .int (q2 - (1 : Int32))), (0, .ref (E.1 + 30)), (1, .int l1), (2, .int l2)]) 35 dX6_spread_34 rfl rfl (by decide) rfl ?_
        refine j_iconst (v := (1 : Int32)) 36 dX6_spread_35 rfl (by decide) ?_
        refine j_istore (lv' := [(4, .int (1 : Int32)), (3, .int (q2 - (1 : Int32))), (0, .ref (E.1 + 30)), (1, .int l1), (2, .int l2)]) 38 dX6_spread_36 rfl (by decide) rfl ?_
        refine j_sub [2, 3, 4, 1, 0] rfl ?_
        exact kX6_spread_38 hL   ih 100000 _ _ _ _ _ _ _  h
def fX6_spread (l1 : Int32) (I : JI) (L : JL) (D : JG) (S : JS) : Option (JI × JL × JG) :=
  fX6_spread_2 100000 l1 (0 : Int32) I L D S
set_option maxHeartbeats 4000000 in
set_option maxRecDepth 100000 in
theorem tcX6_spread {E : JE} {l1 : Int32} {r : JI × JL × JG} {I : JI} {L : JL} {G D : JG} {S : JS} (hL : Lay G S) (h : fX6_spread l1 I L D S = some r) : CallJ E xX6_spread 5 [.ref (E.1 + 30), .int l1] I L G D S none r.1 r.2.1 G r.2.2 S := by
  unfold fX6_spread at h
  refine j_entry (by decide) (Nat.le_of_ble_eq_true rfl) ?_
  show AtJ E xX6_spread (Zr E none r.1 r.2.1 G r.2.2 S) ((S).length, jm_sl S) 5 0 [(0, .ref (E.1 + 30)), (1, .int l1)] [] I L G D S
  refine j_iconst (v := (0 : Int32)) 1 dX6_spread_0 rfl (by decide) ?_
  refine j_istore_n (lv' := [(2, .int (0 : Int32)), (0, .ref (E.1 + 30)), (1, .int l1)]) 2 dX6_spread_1 rfl rfl (by decide) rfl ?_
  refine j_sub [1, 2, 0] rfl ?_
  exact kX6_spread_2 hL    100000 _ _ _ _ _  h
def fX6_slySets_69 : Nat → Int64 → Int32 → JI → JL → JG → JS → Option (Int64 × JI × JL × JG)
  | 0, _, _, _, _, _, _ => none
  | n + 1, l3, l5, I, L, D, S =>
    if l5 < (13 : Int32) then (some (l3, I, L, D)) else (j_g (j_in l5 169) (j_g (j_in l5 169) (j_g (j_in l5 169) (if (lg_cmp ((j_up L 32 l5.toNatClampNeg ((L 32 l5.toNatClampNeg) &&& (l3 ^^^ (-1 : Int64)))) 32 l5.toNatClampNeg) (0 : Int64)) = 0 then ((fX6_slySets_69 n) l3 (l5 + (-1 : Int32)) I (j_up L 32 l5.toNatClampNeg ((L 32 l5.toNatClampNeg) &&& (l3 ^^^ (-1 : Int64)))) D S) else ((fX10_place l5 I).bind (fun q2 => (fX10_turnTo (0 : Int32) q2 D S).bind (fun q3 => (fX10_left l5 (0 : Int32)).bind (fun q4 => j_g (j_in l5 169) ((fX10_openSets q4 ((j_up L 32 l5.toNatClampNeg ((L 32 l5.toNatClampNeg) &&& (l3 ^^^ (-1 : Int64)))) 32 l5.toNatClampNeg) q3.1 (j_up L 32 l5.toNatClampNeg ((L 32 l5.toNatClampNeg) &&& (l3 ^^^ (-1 : Int64)))) q3.2 S).bind (fun q5 => j_g (j_in l5 169) (j_g (j_in l5 169) ((fX6_spread l5 q5.2.1 (j_up (j_up L 32 l5.toNatClampNeg ((L 32 l5.toNatClampNeg) &&& (l3 ^^^ (-1 : Int64)))) 32 l5.toNatClampNeg (((j_up L 32 l5.toNatClampNeg ((L 32 l5.toNatClampNeg) &&& (l3 ^^^ (-1 : Int64)))) 32 l5.toNatClampNeg) &&& ((l3 ||| q5.1) ^^^ (-1 : Int64)))) q5.2.2 S).bind (fun q6 => (fX6_slySets_69 n) (l3 ||| q5.1) (l5 + (-1 : Int32)) q6.1 q6.2.1 q6.2.2 S)))))))))))))
set_option maxHeartbeats 4000000 in
set_option maxRecDepth 100000 in
theorem kX6_slySets_69 {E : JE} {r : Int64 × JI × JL × JG} {G : JG} {S : JS} (hL : Lay G S) : ∀ (n : Nat) (l3 : Int64) (l5 : Int32) (I : JI) (L : JL) (D : JG), fX6_slySets_69 n l3 l5 I L D S = some r → AtJ E xX6_slySets (Zr E (some (.long r.1)) r.2.1 r.2.2.1 G r.2.2.2 S) ((S).length, jm_sl S) 6 69 [(0, .ref (E.1 + 30)), (3, .long l3), (5, .int l5)] [] I L G D S := by
  intro n
  induction n with
  | zero => intro l3 l5 I L D  h; simp [fX6_slySets_69] at h
  | succ n ih =>
    intro l3 l5 I L D  h
    rw [fX6_slySets_69] at h
    refine j_iload 71 dX6_slySets_69 rfl 2 rfl ?_
    refine j_bipush (v := (13 : Int32)) 73 dX6_slySets_71 rfl (by decide) ?_
    refine j_icmp_lt 174 76 dX6_slySets_73 (by decide) rfl (fun hc => ?_) (fun hc => ?_)
    · replace h := j_pos hc h
      refine j_lload_n 175 dX6_slySets_174 rfl rfl 1 rfl ?_
      cases h
      exact j_lret dX6_slySets_175 rfl
    · replace h := j_neg hc h
      refine j_aload_n 77 dX6_slySets_76 rfl rfl 0 rfl ?_
      refine j_getG 80 dX6_slySets_77 rfl (sh_30 hL) cl6 (k := 5) (by decide) flX6_17 rfl (gs_30_5 hL) ?_
      refine j_iload 82 dX6_slySets_80 rfl 2 rfl ?_
      refine j_dup2_11 83 dX6_slySets_82 rfl rfl rfl ?_
      obtain ⟨hg, h⟩ := j_gs h
      refine j_lald 84 dX6_slySets_83 rfl (sh_32 hL) (j_inv hg) ?_
      refine j_lload_n 85 dX6_slySets_84 rfl rfl 1 rfl ?_
      refine j_ldc2 (v := (-1 : Int64)) 88 dX6_slySets_85 rfl wm1232 ?_
      refine j_lxor 89 dX6_slySets_88 rfl ?_
      refine j_land 90 dX6_slySets_89 rfl ?_
      obtain ⟨hg, h⟩ := j_gs h
      refine j_last 91 dX6_slySets_90 rfl (sh_32 hL) (j_inv hg) ?_
      refine j_aload_n 92 dX6_slySets_91 rfl rfl 0 rfl ?_
      refine j_getG 95 dX6_slySets_92 rfl (sh_30 hL) cl6 (k := 5) (by decide) flX6_17 rfl (gs_30_5 hL) ?_
      refine j_iload 97 dX6_slySets_95 rfl 2 rfl ?_
      obtain ⟨hg, h⟩ := j_gs h
      refine j_lald 98 dX6_slySets_97 rfl (sh_32 hL) (j_inv hg) ?_
      refine j_lconst (v := (0 : Int64)) 99 dX6_slySets_98 rfl (by decide) ?_
      refine j_lcmp 100 dX6_slySets_99 rfl ?_
      refine j_if_eq 168 103 dX6_slySets_100 (by decide) rfl (fun hc => ?_) (fun hc => ?_)
      · replace h := j_pos hc h
        refine j_iinc (v := (l5 + (-1 : Int32))) (lv' := [(5, .int (l5 + (-1 : Int32))), (0, .ref (E.1 + 30)), (3, .long l3)]) (q := 2) 171 dX6_slySets_168 rfl rfl rfl (by decide) rfl ?_
        refine j_goto 69 dX6_slySets_171 (by decide) ?_
        refine j_sub [1, 2, 0] rfl ?_
        exact ih _ _ _ _ _  h
      · replace h := j_neg hc h
        refine j_aload_n 104 dX6_slySets_103 rfl rfl 0 rfl ?_
        refine j_getG 107 dX6_slySets_104 rfl (sh_30 hL) cl6 (k := 3) (by decide) flX6_37 rfl (gs_30_3 hL) ?_
        refine j_iload 109 dX6_slySets_107 rfl 2 rfl ?_
        obtain ⟨q2, hq2, h⟩ := j_bs h
        refine j_callV (rest := []) (As := [.int l5]) 112 dX6_slySets_109 rfl jyX10_place (tcX10_place hL  hq2) (sh_20 hL) cl10 flX6_123 wm1111 wm1112 (by decide) rfl rfl (Nat.le_of_ble_eq_true rfl) ?_
        refine j_aload_n 113 dX6_slySets_112 rfl rfl 0 rfl ?_
        refine j_getG 116 dX6_slySets_113 rfl (sh_30 hL) cl6 (k := 3) (by decide) flX6_37 rfl (gs_30_3 hL) ?_
        refine j_iconst (v := (0 : Int32)) 117 dX6_slySets_116 rfl (by decide) ?_
        obtain ⟨q3, hq3, h⟩ := j_bs h
        refine j_callV (rest := []) (As := [.int (0 : Int32)]) 120 dX6_slySets_117 rfl jyX10_turnTo (tcX10_turnTo hL  hq3) (sh_20 hL) cl10 flX6_127 wm1120 wm1121 (by decide) rfl rfl (Nat.le_of_ble_eq_true rfl) ?_
        refine j_lload_n 121 dX6_slySets_120 rfl rfl 1 rfl ?_
        refine j_aload_n 122 dX6_slySets_121 rfl rfl 0 rfl ?_
        refine j_getG 125 dX6_slySets_122 rfl (sh_30 hL) cl6 (k := 3) (by decide) flX6_37 rfl (gs_30_3 hL) ?_
        refine j_aload_n 126 dX6_slySets_125 rfl rfl 0 rfl ?_
        refine j_getG 129 dX6_slySets_126 rfl (sh_30 hL) cl6 (k := 3) (by decide) flX6_37 rfl (gs_30_3 hL) ?_
        refine j_iload 131 dX6_slySets_129 rfl 2 rfl ?_
        refine j_iconst (v := (0 : Int32)) 132 dX6_slySets_131 rfl (by decide) ?_
        obtain ⟨q4, hq4, h⟩ := j_bs h
        refine j_callV (rest := [.ref (E.1 + 20), .long l3]) (As := [.int l5, .int (0 : Int32)]) 135 dX6_slySets_132 rfl jyX10_left (tcX10_left hL  hq4) (sh_20 hL) cl10 flX6_130 wm1115 wm1116 (by decide) rfl rfl (Nat.le_of_ble_eq_true rfl) ?_
        refine j_aload_n 136 dX6_slySets_135 rfl rfl 0 rfl ?_
        refine j_getG 139 dX6_slySets_136 rfl (sh_30 hL) cl6 (k := 5) (by decide) flX6_17 rfl (gs_30_5 hL) ?_
        refine j_iload 141 dX6_slySets_139 rfl 2 rfl ?_
        obtain ⟨hg, h⟩ := j_gs h
        refine j_lald 142 dX6_slySets_141 rfl (sh_32 hL) (j_inv hg) ?_
        obtain ⟨q5, hq5, h⟩ := j_bs h
        refine j_callV (rest := [.long l3]) (As := [.int q4, .long ((j_up L 32 l5.toNatClampNeg ((L 32 l5.toNatClampNeg) &&& (l3 ^^^ (-1 : Int64)))) 32 l5.toNatClampNeg)]) 145 dX6_slySets_142 rfl jyX10_openSets (tcX10_openSets hL  hq5) (sh_20 hL) cl10 flX6_134 wm1125 wm1126 (by decide) rfl rfl (Nat.le_of_ble_eq_true rfl) ?_
        refine j_lor 146 dX6_slySets_145 rfl ?_
        refine j_lstore_n (lv' := [(3, .long (l3 ||| q5.1)), (0, .ref (E.1 + 30)), (5, .int l5)]) 147 dX6_slySets_146 rfl rfl (by decide) rfl ?_
        refine j_aload_n 148 dX6_slySets_147 rfl rfl 1 rfl ?_
        refine j_getG 151 dX6_slySets_148 rfl (sh_30 hL) cl6 (k := 5) (by decide) flX6_17 rfl (gs_30_5 hL) ?_
        refine j_iload 153 dX6_slySets_151 rfl 2 rfl ?_
        refine j_dup2_11 154 dX6_slySets_153 rfl rfl rfl ?_
        obtain ⟨hg, h⟩ := j_gs h
        refine j_lald 155 dX6_slySets_154 rfl (sh_32 hL) (j_inv hg) ?_
        refine j_lload_n 156 dX6_slySets_155 rfl rfl 0 rfl ?_
        refine j_ldc2 (v := (-1 : Int64)) 159 dX6_slySets_156 rfl wm1232 ?_
        refine j_lxor 160 dX6_slySets_159 rfl ?_
        refine j_land 161 dX6_slySets_160 rfl ?_
        obtain ⟨hg, h⟩ := j_gs h
        refine j_last 162 dX6_slySets_161 rfl (sh_32 hL) (j_inv hg) ?_
        refine j_aload_n 163 dX6_slySets_162 rfl rfl 1 rfl ?_
        refine j_iload 165 dX6_slySets_163 rfl 2 rfl ?_
        obtain ⟨q6, hq6, h⟩ := j_bs h
        refine j_callV (rest := []) (As := [.int l5]) 168 dX6_slySets_165 rfl jyX6_spread (tcX6_spread hL  hq6) (sh_30 hL) cl6 flX6_137 wm1249 wm36 (by decide) rfl rfl (Nat.le_of_ble_eq_true rfl) ?_
        refine j_iinc (v := (l5 + (-1 : Int32))) (lv' := [(5, .int (l5 + (-1 : Int32))), (3, .long (l3 ||| q5.1)), (0, .ref (E.1 + 30))]) (q := 2) 171 dX6_slySets_168 rfl rfl rfl (by decide) rfl ?_
        refine j_goto 69 dX6_slySets_171 (by decide) ?_
        refine j_sub [2, 1, 0] rfl ?_
        exact ih _ _ _ _ _  h
def fX6_slySets_45 (l1 : Int64) (I : JI) (L : JL) (D : JG) (S : JS) : Option (Int64 × JI × JL × JG) :=
  j_g (j_in (I 20 16) 169) (fX6_slySets_69 100000 (0 : Int64) (I 20 16) I (j_up L 32 (I 20 16).toNatClampNeg l1) D S)
set_option maxHeartbeats 4000000 in
set_option maxRecDepth 100000 in
theorem kX6_slySets_45 {E : JE} {r : Int64 × JI × JL × JG} {G : JG} {S : JS} (hL : Lay G S) : ∀ (l1 : Int64) (I : JI) (L : JL) (D : JG), fX6_slySets_45 l1 I L D S = some r → AtJ E xX6_slySets (Zr E (some (.long r.1)) r.2.1 r.2.2.1 G r.2.2.2 S) ((S).length, jm_sl S) 6 45 [(0, .ref (E.1 + 30)), (1, .long l1)] [] I L G D S := by
  intro l1 I L D  h
  unfold fX6_slySets_45 at h
  refine j_aload_n 46 dX6_slySets_45 rfl rfl 0 rfl ?_
  refine j_getG 49 dX6_slySets_46 rfl (sh_30 hL) cl6 (k := 5) (by decide) flX6_17 rfl (gs_30_5 hL) ?_
  refine j_aload_n 50 dX6_slySets_49 rfl rfl 0 rfl ?_
  refine j_getG 53 dX6_slySets_50 rfl (sh_30 hL) cl6 (k := 3) (by decide) flX6_37 rfl (gs_30_3 hL) ?_
  refine j_getIN 56 dX6_slySets_53 rfl (sh_20 hL) cl10 (k := 16) (by decide) flX6_120 rfl ?_
  refine j_lload_n 57 dX6_slySets_56 rfl rfl 1 rfl ?_
  obtain ⟨hg, h⟩ := j_gs h
  refine j_last 58 dX6_slySets_57 rfl (sh_32 hL) (j_inv hg) ?_
  refine j_lconst (v := (0 : Int64)) 59 dX6_slySets_58 rfl (by decide) ?_
  refine j_lstore_n (lv' := [(3, .long (0 : Int64)), (0, .ref (E.1 + 30)), (1, .long l1)]) 60 dX6_slySets_59 rfl rfl (by decide) rfl ?_
  refine j_aload_n 61 dX6_slySets_60 rfl rfl 1 rfl ?_
  refine j_getG 64 dX6_slySets_61 rfl (sh_30 hL) cl6 (k := 3) (by decide) flX6_37 rfl (gs_30_3 hL) ?_
  refine j_getIN 67 dX6_slySets_64 rfl (sh_20 hL) cl10 (k := 16) (by decide) flX6_120 rfl ?_
  refine j_istore (lv' := [(5, .int (I 20 16)), (3, .long (0 : Int64)), (0, .ref (E.1 + 30)), (1, .long l1)]) 69 dX6_slySets_67 rfl (by decide) rfl ?_
  refine j_sub [2, 1, 0] rfl ?_
  exact kX6_slySets_69 hL    100000 _ _ _ _ _  h
def fX6_slySets_25 : Nat → Int64 → Int32 → JI → JL → JG → JS → Option (Int64 × JI × JL × JG)
  | 0, _, _, _, _, _, _ => none
  | n + 1, l1, l3, I, L, D, S =>
    if (169 : Int32) ≤ l3 then (fX6_slySets_45 l1 I L D S) else (j_g (j_in l3 169) ((fX6_slySets_25 n) l1 (l3 + (1 : Int32)) I (j_up L 32 l3.toNatClampNeg (0 : Int64)) D S))
set_option maxHeartbeats 4000000 in
set_option maxRecDepth 100000 in
theorem kX6_slySets_25 {E : JE} {r : Int64 × JI × JL × JG} {G : JG} {S : JS} (hL : Lay G S) : ∀ (n : Nat) (l1 : Int64) (l3 : Int32) (I : JI) (L : JL) (D : JG), fX6_slySets_25 n l1 l3 I L D S = some r → AtJ E xX6_slySets (Zr E (some (.long r.1)) r.2.1 r.2.2.1 G r.2.2.2 S) ((S).length, jm_sl S) 6 25 [(0, .ref (E.1 + 30)), (1, .long l1), (3, .int l3)] [] I L G D S := by
  intro n
  induction n with
  | zero => intro l1 l3 I L D  h; simp [fX6_slySets_25] at h
  | succ n ih =>
    intro l1 l3 I L D  h
    rw [fX6_slySets_25] at h
    refine j_iload_n 26 dX6_slySets_25 rfl rfl 2 rfl ?_
    refine j_sipush (v := (169 : Int32)) 29 dX6_slySets_26 rfl (by decide) ?_
    refine j_icmp_ge 45 32 dX6_slySets_29 (by decide) rfl (fun hc => ?_) (fun hc => ?_)
    · replace h := j_pos hc h
      refine j_sub [0, 1] rfl ?_
      exact kX6_slySets_45 hL    _ _ _ _  h
    · replace h := j_neg hc h
      refine j_aload_n 33 dX6_slySets_32 rfl rfl 0 rfl ?_
      refine j_getG 36 dX6_slySets_33 rfl (sh_30 hL) cl6 (k := 5) (by decide) flX6_17 rfl (gs_30_5 hL) ?_
      refine j_iload_n 37 dX6_slySets_36 rfl rfl 2 rfl ?_
      refine j_lconst (v := (0 : Int64)) 38 dX6_slySets_37 rfl (by decide) ?_
      obtain ⟨hg, h⟩ := j_gs h
      refine j_last 39 dX6_slySets_38 rfl (sh_32 hL) (j_inv hg) ?_
      refine j_iinc (v := (l3 + (1 : Int32))) (lv' := [(3, .int (l3 + (1 : Int32))), (0, .ref (E.1 + 30)), (1, .long l1)]) (q := 2) 42 dX6_slySets_39 rfl rfl rfl (by decide) rfl ?_
      refine j_goto 25 dX6_slySets_42 (by decide) ?_
      refine j_sub [1, 2, 0] rfl ?_
      exact ih _ _ _ _ _  h
def fX6_slySets (l1 : Int64) (I : JI) (L : JL) (D : JG) (S : JS) : Option (Int64 × JI × JL × JG) :=
  (fX10_begin (I 30 7) (I 30 8) (I 30 9) (I 30 10) I).bind (fun q1 => fX6_slySets_25 100000 l1 (0 : Int32) q1 L D S)
set_option maxHeartbeats 4000000 in
set_option maxRecDepth 100000 in
theorem tcX6_slySets {E : JE} {l1 : Int64} {r : Int64 × JI × JL × JG} {I : JI} {L : JL} {G D : JG} {S : JS} (hL : Lay G S) (h : fX6_slySets l1 I L D S = some r) : CallJ E xX6_slySets 6 [.ref (E.1 + 30), .long l1] I L G D S (some (.long r.1)) r.2.1 r.2.2.1 G r.2.2.2 S := by
  unfold fX6_slySets at h
  refine j_entry (by decide) (Nat.le_of_ble_eq_true rfl) ?_
  show AtJ E xX6_slySets (Zr E (some (.long r.1)) r.2.1 r.2.2.1 G r.2.2.2 S) ((S).length, jm_sl S) 6 0 [(0, .ref (E.1 + 30)), (1, .long l1)] [] I L G D S
  refine j_aload_n 1 dX6_slySets_0 rfl rfl 0 rfl ?_
  refine j_getG 4 dX6_slySets_1 rfl (sh_30 hL) cl6 (k := 3) (by decide) flX6_37 rfl (gs_30_3 hL) ?_
  refine j_aload_n 5 dX6_slySets_4 rfl rfl 0 rfl ?_
  refine j_getI 8 dX6_slySets_5 rfl (sh_30 hL) cl6 (k := 7) (by decide) flX6_49 rfl ?_
  refine j_aload_n 9 dX6_slySets_8 rfl rfl 0 rfl ?_
  refine j_getI 12 dX6_slySets_9 rfl (sh_30 hL) cl6 (k := 8) (by decide) flX6_52 rfl ?_
  refine j_aload_n 13 dX6_slySets_12 rfl rfl 0 rfl ?_
  refine j_getI 16 dX6_slySets_13 rfl (sh_30 hL) cl6 (k := 9) (by decide) flX6_55 rfl ?_
  refine j_aload_n 17 dX6_slySets_16 rfl rfl 0 rfl ?_
  refine j_getI 20 dX6_slySets_17 rfl (sh_30 hL) cl6 (k := 10) (by decide) flX6_58 rfl ?_
  obtain ⟨q1, hq1, h⟩ := j_bs h
  refine j_callV (rest := []) (As := [.int (I 30 7), .int (I 30 8), .int (I 30 9), .int (I 30 10)]) 23 dX6_slySets_20 rfl jyX10_begin (tcX10_begin hL  hq1) (sh_20 hL) cl10 flX6_114 wm1091 wm1092 (by decide) rfl rfl (Nat.le_of_ble_eq_true rfl) ?_
  refine j_iconst (v := (0 : Int32)) 24 dX6_slySets_23 rfl (by decide) ?_
  refine j_istore_n (lv' := [(3, .int (0 : Int32)), (0, .ref (E.1 + 30)), (1, .long l1)]) 25 dX6_slySets_24 rfl rfl (by decide) rfl ?_
  refine j_sub [1, 2, 0] rfl ?_
  exact kX6_slySets_25 hL    100000 _ _ _ _ _  h
def fX6_leastOf_25 (k4 : Int64 → Int32 → Int32 → Option (Int32)) (l0 : Int64) (l2 : Int32) (l3 : Int32) (s0 : Int32)  : Option (Int32) :=
  if s0 = 0 then (k4 l0 l2 (l3 + (1 : Int32))) else (if l2 = (-1 : Int32) then (k4 l0 l3 (l3 + (1 : Int32))) else ((fJ6_bitCount_0f7a4 l3).bind (fun q1 => (fJ6_bitCount_0f7a4 l2).bind (fun q2 => if q2 ≤ q1 then (k4 l0 l2 (l3 + (1 : Int32))) else (k4 l0 l3 (l3 + (1 : Int32)))))))
set_option maxHeartbeats 4000000 in
set_option maxRecDepth 100000 in
theorem kX6_leastOf_25 {E : JE} {k4 : Int64 → Int32 → Int32 → Option (Int32)} {r : Int32} {I : JI} {L : JL} {G : JG} {D : JG} {S : JS}  (H4 : ∀ (l0 : Int64) (l2 : Int32) (l3 : Int32), k4 l0 l2 l3 = some r → AtJ E xX6_leastOf (Zr E (some (.int r)) I L G D S) ((S).length, jm_sl S) 2 4 [(0, .long l0), (2, .int l2), (3, .int l3)] [] I L G D S) : ∀ (l0 : Int64) (l2 : Int32) (l3 : Int32) (s0 : Int32), fX6_leastOf_25 k4 l0 l2 l3 s0 = some r → AtJ E xX6_leastOf (Zr E (some (.int r)) I L G D S) ((S).length, jm_sl S) 2 25 [(0, .long l0), (2, .int l2), (3, .int l3)] [.int s0] I L G D S := by
  intro l0 l2 l3 s0  h
  unfold fX6_leastOf_25 at h
  refine j_istore (lv' := [(4, .int s0), (0, .long l0), (2, .int l2), (3, .int l3)]) 27 dX6_leastOf_25 rfl (by decide) rfl ?_
  refine j_iload 29 dX6_leastOf_27 rfl 0 rfl ?_
  refine j_if_eq 50 32 dX6_leastOf_29 (by decide) rfl (fun hc => ?_) (fun hc => ?_)
  · replace h := j_pos hc h
    refine j_iinc (v := (l3 + (1 : Int32))) (lv' := [(3, .int (l3 + (1 : Int32))), (4, .int s0), (0, .long l0), (2, .int l2)]) (q := 3) 53 dX6_leastOf_50 rfl rfl rfl (by decide) rfl ?_
    refine j_goto 4 dX6_leastOf_53 (by decide) ?_
    refine j_sub [2, 3, 0] rfl ?_
    exact H4 _ _ _  h
  · replace h := j_neg hc h
    refine j_iload_n 33 dX6_leastOf_32 rfl rfl 2 rfl ?_
    refine j_iconst (v := (-1 : Int32)) 34 dX6_leastOf_33 rfl (by decide) ?_
    refine j_icmp_eq 48 37 dX6_leastOf_34 (by decide) rfl (fun hc => ?_) (fun hc => ?_)
    · replace h := j_pos hc h
      refine j_iload_n 49 dX6_leastOf_48 rfl rfl 3 rfl ?_
      refine j_istore_n (lv' := [(2, .int l3), (4, .int s0), (0, .long l0), (3, .int l3)]) 50 dX6_leastOf_49 rfl rfl (by decide) rfl ?_
      refine j_iinc (v := (l3 + (1 : Int32))) (lv' := [(3, .int (l3 + (1 : Int32))), (2, .int l3), (4, .int s0), (0, .long l0)]) (q := 3) 53 dX6_leastOf_50 rfl rfl rfl (by decide) rfl ?_
      refine j_goto 4 dX6_leastOf_53 (by decide) ?_
      refine j_sub [3, 1, 0] rfl ?_
      exact H4 _ _ _  h
    · replace h := j_neg hc h
      refine j_iload_n 38 dX6_leastOf_37 rfl rfl 3 rfl ?_
      obtain ⟨q1, hq1, h⟩ := j_bs h
      refine j_callS (rest := []) (As := [.int l3]) 41 dX6_leastOf_38 rfl jyJ6_bitCount_0f7a4 (tcJ6_bitCount_0f7a4   hq1) flX6_144 wm1176 (by decide) rfl rfl (Nat.le_of_ble_eq_true rfl) ?_
      refine j_iload_n 42 dX6_leastOf_41 rfl rfl 2 rfl ?_
      obtain ⟨q2, hq2, h⟩ := j_bs h
      refine j_callS (rest := [.int q1]) (As := [.int l2]) 45 dX6_leastOf_42 rfl jyJ6_bitCount_0f7a4 (tcJ6_bitCount_0f7a4   hq2) flX6_144 wm1176 (by decide) rfl rfl (Nat.le_of_ble_eq_true rfl) ?_
      refine j_icmp_ge 50 48 dX6_leastOf_45 (by decide) rfl (fun hc => ?_) (fun hc => ?_)
      · replace h := j_pos hc h
        refine j_iinc (v := (l3 + (1 : Int32))) (lv' := [(3, .int (l3 + (1 : Int32))), (4, .int s0), (0, .long l0), (2, .int l2)]) (q := 3) 53 dX6_leastOf_50 rfl rfl rfl (by decide) rfl ?_
        refine j_goto 4 dX6_leastOf_53 (by decide) ?_
        refine j_sub [2, 3, 0] rfl ?_
        exact H4 _ _ _  h
      · replace h := j_neg hc h
        refine j_iload_n 49 dX6_leastOf_48 rfl rfl 3 rfl ?_
        refine j_istore_n (lv' := [(2, .int l3), (4, .int s0), (0, .long l0), (3, .int l3)]) 50 dX6_leastOf_49 rfl rfl (by decide) rfl ?_
        refine j_iinc (v := (l3 + (1 : Int32))) (lv' := [(3, .int (l3 + (1 : Int32))), (2, .int l3), (4, .int s0), (0, .long l0)]) (q := 3) 53 dX6_leastOf_50 rfl rfl rfl (by decide) rfl ?_
        refine j_goto 4 dX6_leastOf_53 (by decide) ?_
        refine j_sub [3, 1, 0] rfl ?_
        exact H4 _ _ _  h
def fX6_leastOf_4 : Nat → Int64 → Int32 → Int32 → Option (Int32)
  | 0, _, _, _ => none
  | n + 1, l0, l2, l3 =>
    if (64 : Int32) ≤ l3 then (some (l2)) else (if (lg_cmp ((l0.toUInt64 >>> (l3.toInt64.toUInt64 &&& Int64.toUInt64 63)).toInt64 &&& (1 : Int64)) (0 : Int64)) = 0 then (fX6_leastOf_25 (fX6_leastOf_4 n) l0 l2 l3 (0 : Int32)) else (fX6_leastOf_25 (fX6_leastOf_4 n) l0 l2 l3 (1 : Int32)))
set_option maxHeartbeats 4000000 in
set_option maxRecDepth 100000 in
theorem kX6_leastOf_4 {E : JE} {r : Int32} {I : JI} {L : JL} {G : JG} {D : JG} {S : JS}  : ∀ (n : Nat) (l0 : Int64) (l2 : Int32) (l3 : Int32) , fX6_leastOf_4 n l0 l2 l3 = some r → AtJ E xX6_leastOf (Zr E (some (.int r)) I L G D S) ((S).length, jm_sl S) 2 4 [(0, .long l0), (2, .int l2), (3, .int l3)] [] I L G D S := by
  intro n
  induction n with
  | zero => intro l0 l2 l3  h; simp [fX6_leastOf_4] at h
  | succ n ih =>
    intro l0 l2 l3  h
    rw [fX6_leastOf_4] at h
    refine j_iload_n 5 dX6_leastOf_4 rfl rfl 2 rfl ?_
    refine j_bipush (v := (64 : Int32)) 7 dX6_leastOf_5 rfl (by decide) ?_
    refine j_icmp_ge 56 10 dX6_leastOf_7 (by decide) rfl (fun hc => ?_) (fun hc => ?_)
    · replace h := j_pos hc h
      refine j_iload_n 57 dX6_leastOf_56 rfl rfl 1 rfl ?_
      cases h
      exact j_iret dX6_leastOf_57 rfl
    · replace h := j_neg hc h
      refine j_lload_n 11 dX6_leastOf_10 rfl rfl 0 rfl ?_
      refine j_iload_n 12 dX6_leastOf_11 rfl rfl 2 rfl ?_
      refine j_lushr 13 dX6_leastOf_12 rfl ?_
      refine j_lconst (v := (1 : Int64)) 14 dX6_leastOf_13 rfl (by decide) ?_
      refine j_land 15 dX6_leastOf_14 rfl ?_
      refine j_lconst (v := (0 : Int64)) 16 dX6_leastOf_15 rfl (by decide) ?_
      refine j_lcmp 17 dX6_leastOf_16 rfl ?_
      refine j_if_eq 24 20 dX6_leastOf_17 (by decide) rfl (fun hc => ?_) (fun hc => ?_)
      · replace h := j_pos hc h
        refine j_iconst (v := (0 : Int32)) 25 dX6_leastOf_24 rfl (by decide) ?_
        exact kX6_leastOf_25    ih _ _ _ _  h
      · replace h := j_neg hc h
        refine j_iconst (v := (1 : Int32)) 21 dX6_leastOf_20 rfl (by decide) ?_
        refine j_goto 25 dX6_leastOf_21 (by decide) ?_
        exact kX6_leastOf_25    ih _ _ _ _  h
def fX6_leastOf (l0 : Int64)  : Option (Int32) :=
  fX6_leastOf_4 100000 l0 (-1 : Int32) (0 : Int32)
set_option maxHeartbeats 4000000 in
set_option maxRecDepth 100000 in
theorem tcX6_leastOf {E : JE} {l0 : Int64} {r : Int32} {I : JI} {L : JL} {G D : JG} {S : JS} (h : fX6_leastOf l0 = some r) : CallJ E xX6_leastOf 2 [.long l0] I L G D S (some (.int r)) I L G D S := by
  unfold fX6_leastOf at h
  refine j_entry (by decide) (Nat.le_of_ble_eq_true rfl) ?_
  show AtJ E xX6_leastOf (Zr E (some (.int r)) I L G D S) ((S).length, jm_sl S) 2 0 [(0, .long l0)] [] I L G D S
  refine j_iconst (v := (-1 : Int32)) 1 dX6_leastOf_0 rfl (by decide) ?_
  refine j_istore_n (lv' := [(2, .int (-1 : Int32)), (0, .long l0)]) 2 dX6_leastOf_1 rfl rfl (by decide) rfl ?_
  refine j_iconst (v := (0 : Int32)) 3 dX6_leastOf_2 rfl (by decide) ?_
  refine j_istore_n (lv' := [(3, .int (0 : Int32)), (2, .int (-1 : Int32)), (0, .long l0)]) 4 dX6_leastOf_3 rfl rfl (by decide) rfl ?_
  refine j_sub [2, 1, 0] rfl ?_
  exact kX6_leastOf_4     100000 _ _ _  h
def fX6_find_59 (l1 : Int32) (l2 : Int32) (l3 : Int32) (l4 : Int32) (I : JI) (L : JL) (D : JG) (S : JS) : Option (Int32 × JI × JL × JG) :=
  (fX6_honestSets (j_up (j_up (j_up (j_up I 30 7 l1) 30 8 l2) 30 9 l3) 30 10 l4) L D S).bind (fun q1 => (fX6_slySets q1.1 q1.2.1 L q1.2.2 S).bind (fun q2 => (fX6_leastOf (q1.1 &&& (q2.1 ^^^ (-1 : Int64)))).bind (fun q3 => some (((j_up (j_up q2.2.1 30 11 q3) 30 12 ((j_up q2.2.1 30 11 q3) 1 9)) 30 11), (j_up (j_up q2.2.1 30 11 q3) 30 12 ((j_up q2.2.1 30 11 q3) 1 9)), q2.2.2.1, q2.2.2.2))))
set_option maxHeartbeats 4000000 in
set_option maxRecDepth 100000 in
theorem kX6_find_59 {E : JE} {r : Int32 × JI × JL × JG} {G : JG} {S : JS} (hL : Lay G S) : ∀ (l1 : Int32) (l2 : Int32) (l3 : Int32) (l4 : Int32) (I : JI) (L : JL) (D : JG), fX6_find_59 l1 l2 l3 l4 I L D S = some r → AtJ E xX6_find (Zr E (some (.int r.1)) r.2.1 r.2.2.1 G r.2.2.2 S) ((S).length, jm_sl S) 7 59 [(0, .ref (E.1 + 30)), (1, .int l1), (2, .int l2), (3, .int l3), (4, .int l4)] [] I L G D S := by
  intro l1 l2 l3 l4 I L D  h
  unfold fX6_find_59 at h
  refine j_aload_n 60 dX6_find_59 rfl rfl 0 rfl ?_
  refine j_iload_n 61 dX6_find_60 rfl rfl 1 rfl ?_
  refine j_putI 64 dX6_find_61 rfl (sh_30 hL) cl6 (k := 7) (by decide) flX6_49 rfl rfl rfl ?_
  refine j_aload_n 65 dX6_find_64 rfl rfl 0 rfl ?_
  refine j_iload_n 66 dX6_find_65 rfl rfl 2 rfl ?_
  refine j_putI 69 dX6_find_66 rfl (sh_30 hL) cl6 (k := 8) (by decide) flX6_52 rfl rfl rfl ?_
  refine j_aload_n 70 dX6_find_69 rfl rfl 0 rfl ?_
  refine j_iload_n 71 dX6_find_70 rfl rfl 3 rfl ?_
  refine j_putI 74 dX6_find_71 rfl (sh_30 hL) cl6 (k := 9) (by decide) flX6_55 rfl rfl rfl ?_
  refine j_aload_n 75 dX6_find_74 rfl rfl 0 rfl ?_
  refine j_iload 77 dX6_find_75 rfl 4 rfl ?_
  refine j_putI 80 dX6_find_77 rfl (sh_30 hL) cl6 (k := 10) (by decide) flX6_58 rfl rfl rfl ?_
  refine j_aload_n 81 dX6_find_80 rfl rfl 0 rfl ?_
  obtain ⟨q1, hq1, h⟩ := j_bs h
  refine j_callV (rest := []) (As := []) 84 dX6_find_81 rfl jyX6_honestSets (tcX6_honestSets hL  hq1) (sh_30 hL) cl6 flX6_66 wm1230 wm34 (by decide) rfl rfl (Nat.le_of_ble_eq_true rfl) ?_
  refine j_lstore (lv' := [(6, .long q1.1), (0, .ref (E.1 + 30)), (1, .int l1), (2, .int l2), (3, .int l3), (4, .int l4)]) 86 dX6_find_84 rfl (by decide) rfl ?_
  refine j_aload_n 87 dX6_find_86 rfl rfl 1 rfl ?_
  refine j_lload 89 dX6_find_87 rfl 0 rfl ?_
  refine j_aload_n 90 dX6_find_89 rfl rfl 1 rfl ?_
  refine j_lload 92 dX6_find_90 rfl 0 rfl ?_
  obtain ⟨q2, hq2, h⟩ := j_bs h
  refine j_callV (rest := [.long q1.1, .ref (E.1 + 30)]) (As := [.long q1.1]) 95 dX6_find_92 rfl jyX6_slySets (tcX6_slySets hL  hq2) (sh_30 hL) cl6 flX6_70 wm1240 wm35 (by decide) rfl rfl (Nat.le_of_ble_eq_true rfl) ?_
  refine j_ldc2 (v := (-1 : Int64)) 98 dX6_find_95 rfl wm1232 ?_
  refine j_lxor 99 dX6_find_98 rfl ?_
  refine j_land 100 dX6_find_99 rfl ?_
  obtain ⟨q3, hq3, h⟩ := j_bs h
  refine j_callS (rest := [.ref (E.1 + 30)]) (As := [.long (q1.1 &&& (q2.1 ^^^ (-1 : Int64)))]) 103 dX6_find_100 rfl jyX6_leastOf (tcX6_leastOf   hq3) flX6_76 wm1253 (by decide) rfl rfl (Nat.le_of_ble_eq_true rfl) ?_
  refine j_putI 106 dX6_find_103 rfl (sh_30 hL) cl6 (k := 11) (by decide) flX6_80 rfl rfl rfl ?_
  refine j_aload_n 107 dX6_find_106 rfl rfl 1 rfl ?_
  refine j_aload_n 108 dX6_find_107 rfl rfl 1 rfl ?_
  refine j_getG 111 dX6_find_108 rfl (sh_30 hL) cl6 (k := 0) (by decide) flX6_25 rfl (gs_30_0 hL) ?_
  refine j_getIN 114 dX6_find_111 rfl (sh_1 hL) cl9 (k := 9) (by decide) flX6_61 rfl ?_
  refine j_putI 117 dX6_find_114 rfl (sh_30 hL) cl6 (k := 12) (by decide) flX6_21 rfl rfl rfl ?_
  refine j_aload_n 118 dX6_find_117 rfl rfl 1 rfl ?_
  refine j_getI 121 dX6_find_118 rfl (sh_30 hL) cl6 (k := 11) (by decide) flX6_80 rfl ?_
  cases h
  exact j_iret dX6_find_121 rfl
def fX6_find_38 (l1 : Int32) (l2 : Int32) (l3 : Int32) (l4 : Int32) (s0 : Int32) (I : JI) (L : JL) (D : JG) (S : JS) : Option (Int32 × JI × JL × JG) :=
  if s0 = 0 then (fX6_find_59 l1 l2 l3 l4 I L D S) else (if (I 30 12) = (I 1 9) then (some ((I 30 11), I, L, D)) else (fX6_find_59 l1 l2 l3 l4 I L D S))
set_option maxHeartbeats 4000000 in
set_option maxRecDepth 100000 in
theorem kX6_find_38 {E : JE} {r : Int32 × JI × JL × JG} {G : JG} {S : JS} (hL : Lay G S) : ∀ (l1 : Int32) (l2 : Int32) (l3 : Int32) (l4 : Int32) (s0 : Int32) (I : JI) (L : JL) (D : JG), fX6_find_38 l1 l2 l3 l4 s0 I L D S = some r → AtJ E xX6_find (Zr E (some (.int r.1)) r.2.1 r.2.2.1 G r.2.2.2 S) ((S).length, jm_sl S) 7 38 [(0, .ref (E.1 + 30)), (1, .int l1), (2, .int l2), (3, .int l3), (4, .int l4)] [.int s0] I L G D S := by
  intro l1 l2 l3 l4 s0 I L D  h
  unfold fX6_find_38 at h
  refine j_istore (lv' := [(5, .int s0), (0, .ref (E.1 + 30)), (1, .int l1), (2, .int l2), (3, .int l3), (4, .int l4)]) 40 dX6_find_38 rfl (by decide) rfl ?_
  refine j_iload 42 dX6_find_40 rfl 0 rfl ?_
  refine j_if_eq 59 45 dX6_find_42 (by decide) rfl (fun hc => ?_) (fun hc => ?_)
  · replace h := j_pos hc h
    refine j_sub [1, 2, 3, 4, 5] rfl ?_
    exact kX6_find_59 hL    _ _ _ _ _ _ _  h
  · replace h := j_neg hc h
    refine j_aload_n 46 dX6_find_45 rfl rfl 1 rfl ?_
    refine j_getI 49 dX6_find_46 rfl (sh_30 hL) cl6 (k := 12) (by decide) flX6_21 rfl ?_
    refine j_aload_n 50 dX6_find_49 rfl rfl 1 rfl ?_
    refine j_getG 53 dX6_find_50 rfl (sh_30 hL) cl6 (k := 0) (by decide) flX6_25 rfl (gs_30_0 hL) ?_
    refine j_getIN 56 dX6_find_53 rfl (sh_1 hL) cl9 (k := 9) (by decide) flX6_61 rfl ?_
    refine j_icmp_eq 117 59 dX6_find_56 (by decide) rfl (fun hc => ?_) (fun hc => ?_)
    · replace h := j_pos hc h
      refine j_aload_n 118 dX6_find_117 rfl rfl 1 rfl ?_
      refine j_getI 121 dX6_find_118 rfl (sh_30 hL) cl6 (k := 11) (by decide) flX6_80 rfl ?_
      cases h
      exact j_iret dX6_find_121 rfl
    · replace h := j_neg hc h
      refine j_sub [1, 2, 3, 4, 5] rfl ?_
      exact kX6_find_59 hL    _ _ _ _ _ _ _  h
def fX6_find (l1 : Int32) (l2 : Int32) (l3 : Int32) (l4 : Int32) (I : JI) (L : JL) (D : JG) (S : JS) : Option (Int32 × JI × JL × JG) :=
  if (I 30 7) = l1 then (if (I 30 8) = l2 then (if (I 30 9) = l3 then (if (I 30 10) = l4 then (fX6_find_38 l1 l2 l3 l4 (1 : Int32) I L D S) else (fX6_find_38 l1 l2 l3 l4 (0 : Int32) I L D S)) else (fX6_find_38 l1 l2 l3 l4 (0 : Int32) I L D S)) else (fX6_find_38 l1 l2 l3 l4 (0 : Int32) I L D S)) else (fX6_find_38 l1 l2 l3 l4 (0 : Int32) I L D S)
set_option maxHeartbeats 4000000 in
set_option maxRecDepth 100000 in
theorem tcX6_find {E : JE} {l1 : Int32} {l2 : Int32} {l3 : Int32} {l4 : Int32} {r : Int32 × JI × JL × JG} {I : JI} {L : JL} {G D : JG} {S : JS} (hL : Lay G S) (h : fX6_find l1 l2 l3 l4 I L D S = some r) : CallJ E xX6_find 7 [.ref (E.1 + 30), .int l1, .int l2, .int l3, .int l4] I L G D S (some (.int r.1)) r.2.1 r.2.2.1 G r.2.2.2 S := by
  unfold fX6_find at h
  refine j_entry (by decide) (Nat.le_of_ble_eq_true rfl) ?_
  show AtJ E xX6_find (Zr E (some (.int r.1)) r.2.1 r.2.2.1 G r.2.2.2 S) ((S).length, jm_sl S) 7 0 [(0, .ref (E.1 + 30)), (1, .int l1), (2, .int l2), (3, .int l3), (4, .int l4)] [] I L G D S
  refine j_aload_n 1 dX6_find_0 rfl rfl 0 rfl ?_
  refine j_getI 4 dX6_find_1 rfl (sh_30 hL) cl6 (k := 7) (by decide) flX6_49 rfl ?_
  refine j_iload_n 5 dX6_find_4 rfl rfl 1 rfl ?_
  refine j_icmp_ne 37 8 dX6_find_5 (by decide) rfl (fun hc => ?_) (fun hc => ?_)
  · replace h := j_neg hc h
    refine j_iconst (v := (0 : Int32)) 38 dX6_find_37 rfl (by decide) ?_
    exact kX6_find_38 hL    _ _ _ _ _ _ _ _  h
  · replace h := j_pos hc h
    refine j_aload_n 9 dX6_find_8 rfl rfl 0 rfl ?_
    refine j_getI 12 dX6_find_9 rfl (sh_30 hL) cl6 (k := 8) (by decide) flX6_52 rfl ?_
    refine j_iload_n 13 dX6_find_12 rfl rfl 2 rfl ?_
    refine j_icmp_ne 37 16 dX6_find_13 (by decide) rfl (fun hc => ?_) (fun hc => ?_)
    · replace h := j_neg hc h
      refine j_iconst (v := (0 : Int32)) 38 dX6_find_37 rfl (by decide) ?_
      exact kX6_find_38 hL    _ _ _ _ _ _ _ _  h
    · replace h := j_pos hc h
      refine j_aload_n 17 dX6_find_16 rfl rfl 0 rfl ?_
      refine j_getI 20 dX6_find_17 rfl (sh_30 hL) cl6 (k := 9) (by decide) flX6_55 rfl ?_
      refine j_iload_n 21 dX6_find_20 rfl rfl 3 rfl ?_
      refine j_icmp_ne 37 24 dX6_find_21 (by decide) rfl (fun hc => ?_) (fun hc => ?_)
      · replace h := j_neg hc h
        refine j_iconst (v := (0 : Int32)) 38 dX6_find_37 rfl (by decide) ?_
        exact kX6_find_38 hL    _ _ _ _ _ _ _ _  h
      · replace h := j_pos hc h
        refine j_aload_n 25 dX6_find_24 rfl rfl 0 rfl ?_
        refine j_getI 28 dX6_find_25 rfl (sh_30 hL) cl6 (k := 10) (by decide) flX6_58 rfl ?_
        refine j_iload 30 dX6_find_28 rfl 4 rfl ?_
        refine j_icmp_ne 37 33 dX6_find_30 (by decide) rfl (fun hc => ?_) (fun hc => ?_)
        · replace h := j_neg hc h
          refine j_iconst (v := (0 : Int32)) 38 dX6_find_37 rfl (by decide) ?_
          exact kX6_find_38 hL    _ _ _ _ _ _ _ _  h
        · replace h := j_pos hc h
          refine j_iconst (v := (1 : Int32)) 34 dX6_find_33 rfl (by decide) ?_
          refine j_goto 38 dX6_find_34 (by decide) ?_
          exact kX6_find_38 hL    _ _ _ _ _ _ _ _  h
def fX7_init (t : Nat) (I : JI) (L : JL) (G : JG) (D : JG) (S : JS) : Option (JI × JL × JG × JG × JS) :=
  (fX0_init (S).length).bind (fun q1 => some ((j_clr (j_clr (j_clr (j_clr (j_clr I (S).length 0) ((S ++ [(0, 7)])).length 0) (((S ++ [(0, 7)]) ++ [(20, 16)])).length 0) ((((S ++ [(0, 7)]) ++ [(20, 16)]) ++ [(20, 16)])).length 0) (((((S ++ [(0, 7)]) ++ [(20, 16)]) ++ [(20, 16)]) ++ [(20, 16)])).length 0), (j_clr L (S).length 0), (j_up (j_up (j_up (j_up (j_up (j_clr G (S).length none) t 0 (some (S).length)) t 1 (some ((S ++ [(0, 7)])).length)) t 2 (some (((S ++ [(0, 7)]) ++ [(20, 16)])).length)) t 3 (some ((((S ++ [(0, 7)]) ++ [(20, 16)]) ++ [(20, 16)])).length)) t 4 (some (((((S ++ [(0, 7)]) ++ [(20, 16)]) ++ [(20, 16)]) ++ [(20, 16)])).length)), (j_clr D (S).length none), (((((S ++ [(0, 7)]) ++ [(20, 16)]) ++ [(20, 16)]) ++ [(20, 16)]) ++ [(20, 19)])))
set_option maxHeartbeats 4000000 in
set_option maxRecDepth 100000 in
theorem tcX7_init {E : JE} {t : Nat} {r : JI × JL × JG × JG × JS} {I : JI} {L : JL} {G D : JG} {S : JS} (ht : S[t]? = some (7, 9)) (h : fX7_init t I L G D S = some r) : CallJ E xX7_init 2 [.ref (E.1 + t)] I L G D S none r.1 r.2.1 r.2.2.1 r.2.2.2.1 r.2.2.2.2 := by
  unfold fX7_init at h
  refine j_entry (by decide) (Nat.le_of_ble_eq_true rfl) ?_
  show AtJ E xX7_init (Zr E none r.1 r.2.1 r.2.2.1 r.2.2.2.1 r.2.2.2.2) ((r.2.2.2.2).length, jm_sl r.2.2.2.2) 2 0 [(0, .ref (E.1 + t))] [] I L G D S
  refine j_aload_n 1 dX7_init_0 rfl rfl 0 rfl ?_
  refine j_obj 4 dX7_init_1 rfl flX7_3 wm117 wm118 (by decide) (Nat.le_of_ble_eq_true rfl) ?_
  refine j_aload_n 5 dX7_init_4 rfl rfl 0 rfl ?_
  refine j_nwO 8 dX7_init_5 rfl cl0 flX7_9 wm234 wm92 (by decide) ?_
  refine j_dup 9 dX7_init_8 rfl rfl ?_
  obtain ⟨q1, hq1, h⟩ := j_bs h
  refine j_callIN (y := yX0_init) (cy := cX0_init) (my := 1) (rest := [.ref (E.1 + (S).length), .ref (E.1 + t)]) (As := []) 12 dX7_init_9 rfl jyX0_init (tcX0_init  jm_last hq1) flX7_11 wm236 rfl (by decide) rfl rfl (Nat.le_of_ble_eq_true rfl) ?_
  refine j_putF 15 dX7_init_12 rfl (jm_pre ht) cl7 (k := 0) (by decide) flX7_12 rfl rfl rfl rfl (fun _ => rfl) (fun _ => rfl) ?_
  refine j_aload_n 16 dX7_init_15 rfl rfl 0 rfl ?_
  refine j_bipush (v := (16 : Int32)) 18 dX7_init_16 rfl (by decide) ?_
  refine j_nwI (N := 16) 20 dX7_init_18 rfl wm170 (by decide) (by decide) (by decide) ?_
  refine j_putF 23 dX7_init_20 rfl (jm_pre (jm_pre ht)) cl7 (k := 1) (by decide) flX7_18 rfl rfl rfl rfl (fun _ => rfl) (fun _ => rfl) ?_
  refine j_aload_n 24 dX7_init_23 rfl rfl 0 rfl ?_
  refine j_bipush (v := (16 : Int32)) 26 dX7_init_24 rfl (by decide) ?_
  refine j_nwI (N := 16) 28 dX7_init_26 rfl wm170 (by decide) (by decide) (by decide) ?_
  refine j_putF 31 dX7_init_28 rfl (jm_pre (jm_pre (jm_pre ht))) cl7 (k := 2) (by decide) flX7_22 rfl rfl rfl rfl (fun _ => rfl) (fun _ => rfl) ?_
  refine j_aload_n 32 dX7_init_31 rfl rfl 0 rfl ?_
  refine j_bipush (v := (16 : Int32)) 34 dX7_init_32 rfl (by decide) ?_
  refine j_nwI (N := 16) 36 dX7_init_34 rfl wm170 (by decide) (by decide) (by decide) ?_
  refine j_putF 39 dX7_init_36 rfl (jm_pre (jm_pre (jm_pre (jm_pre ht)))) cl7 (k := 3) (by decide) flX7_25 rfl rfl rfl rfl (fun _ => rfl) (fun _ => rfl) ?_
  refine j_aload_n 40 dX7_init_39 rfl rfl 0 rfl ?_
  refine j_bipush (v := (19 : Int32)) 42 dX7_init_40 rfl (by decide) ?_
  refine j_nwI (N := 19) 44 dX7_init_42 rfl wm170 (by decide) (by decide) (by decide) ?_
  refine j_putF 47 dX7_init_44 rfl (jm_pre (jm_pre (jm_pre (jm_pre (jm_pre ht))))) cl7 (k := 4) (by decide) flX7_28 rfl rfl rfl rfl (fun _ => rfl) (fun _ => rfl) ?_
  cases h
  exact j_vret dX7_init_47 rfl
def fX9_shareOf (l1 : Int32) (l2 : Nat) (l3 : Int32) (l4 : Int32) (I : JI) : Option (Int32) :=
  if l1 = (0 : Int32) then (some ((1 : Int32))) else (if l1 = (1 : Int32) then ((fX1_of l2 l3 l4 I).bind (fun q1 => some (q1))) else (if l1 = (2 : Int32) then (j_g (j_in l3 12) ((fX1_sumOf l2 (I 3 l3.toNatClampNeg) l4 I).bind (fun q2 => some (q2)))) else (if l1 = (3 : Int32) then (j_g (j_in l3 12) ((fX1_sumOf l2 (I 4 l3.toNatClampNeg) l4 I).bind (fun q3 => some (q3)))) else (some ((0 : Int32))))))
set_option maxHeartbeats 4000000 in
set_option maxRecDepth 100000 in
theorem tcX9_shareOf {E : JE} {l1 : Int32} {l2 : Nat} {l3 : Int32} {l4 : Int32} {r : Int32} {I : JI} {L : JL} {G D : JG} {S : JS} (hL : Lay G S) (h2 : S[l2]? = some (1, 4)) (h : fX9_shareOf l1 l2 l3 l4 I = some r) : CallJ E xX9_shareOf 3 [.ref (E.1 + 1), .int l1, .ref (E.1 + l2), .int l3, .int l4] I L G D S (some (.int r)) I L G D S := by
  unfold fX9_shareOf at h
  refine j_entry (by decide) (Nat.le_of_ble_eq_true rfl) ?_
  show AtJ E xX9_shareOf (Zr E (some (.int r)) I L G D S) ((S).length, jm_sl S) 3 0 [(0, .ref (E.1 + 1)), (1, .int l1), (2, .ref (E.1 + l2)), (3, .int l3), (4, .int l4)] [] I L G D S
  refine j_iload_n 1 dX9_shareOf_0 rfl rfl 1 rfl ?_
  by_cases hc0 : l1 = (0 : Int32)
  · replace h := j_pos hc0 h
    refine j_tableIn (off := 31) 32 dX9_shareOf_1 (by decide) (by rw [hc0]; decide) (by rw [hc0]; decide) (by rw [hc0]; rfl) ?_
    refine j_iconst (v := (1 : Int32)) 33 dX9_shareOf_32 rfl (by decide) ?_
    cases h
    exact j_iret dX9_shareOf_33 rfl
  replace h := j_neg hc0 h
  by_cases hc1 : l1 = (1 : Int32)
  · replace h := j_pos hc1 h
    refine j_tableIn (off := 33) 34 dX9_shareOf_1 (by decide) (by rw [hc1]; decide) (by rw [hc1]; decide) (by rw [hc1]; rfl) ?_
    refine j_aload_n 35 dX9_shareOf_34 rfl rfl 2 rfl ?_
    refine j_iload_n 36 dX9_shareOf_35 rfl rfl 3 rfl ?_
    refine j_iload 38 dX9_shareOf_36 rfl 4 rfl ?_
    obtain ⟨q1, hq1, h⟩ := j_bs h
    refine j_callV (rest := []) (As := [.int l3, .int l4]) 41 dX9_shareOf_38 rfl jyX1_of (tcX1_of hL h2 hq1) h2 cl1 flX9_52 wm663 wm664 (by decide) rfl rfl (Nat.le_of_ble_eq_true rfl) ?_
    cases h
    exact j_iret dX9_shareOf_41 rfl
  replace h := j_neg hc1 h
  by_cases hc2 : l1 = (2 : Int32)
  · replace h := j_pos hc2 h
    refine j_tableIn (off := 41) 42 dX9_shareOf_1 (by decide) (by rw [hc2]; decide) (by rw [hc2]; decide) (by rw [hc2]; rfl) ?_
    refine j_aload_n 43 dX9_shareOf_42 rfl rfl 2 rfl ?_
    refine j_aload_n 44 dX9_shareOf_43 rfl rfl 0 rfl ?_
    refine j_getG 47 dX9_shareOf_44 rfl (sh_1 hL) cl9 (k := 1) (by decide) flX9_15 rfl (gs_1_1 hL) ?_
    refine j_iload_n 48 dX9_shareOf_47 rfl rfl 3 rfl ?_
    obtain ⟨hg, h⟩ := j_gs h
    refine j_iald 49 dX9_shareOf_48 rfl (sh_3 hL) (j_inv hg) ?_
    refine j_iload 51 dX9_shareOf_49 rfl 4 rfl ?_
    obtain ⟨q2, hq2, h⟩ := j_bs h
    refine j_callV (rest := []) (As := [.int (I 3 l3.toNatClampNeg), .int l4]) 54 dX9_shareOf_51 rfl jyX1_sumOf (tcX1_sumOf hL h2 hq2) h2 cl1 flX9_56 wm991 wm992 (by decide) rfl rfl (Nat.le_of_ble_eq_true rfl) ?_
    cases h
    exact j_iret dX9_shareOf_54 rfl
  replace h := j_neg hc2 h
  by_cases hc3 : l1 = (3 : Int32)
  · replace h := j_pos hc3 h
    refine j_tableIn (off := 54) 55 dX9_shareOf_1 (by decide) (by rw [hc3]; decide) (by rw [hc3]; decide) (by rw [hc3]; rfl) ?_
    refine j_aload_n 56 dX9_shareOf_55 rfl rfl 2 rfl ?_
    refine j_aload_n 57 dX9_shareOf_56 rfl rfl 0 rfl ?_
    refine j_getG 60 dX9_shareOf_57 rfl (sh_1 hL) cl9 (k := 2) (by decide) flX9_18 rfl (gs_1_2 hL) ?_
    refine j_iload_n 61 dX9_shareOf_60 rfl rfl 3 rfl ?_
    obtain ⟨hg, h⟩ := j_gs h
    refine j_iald 62 dX9_shareOf_61 rfl (sh_4 hL) (j_inv hg) ?_
    refine j_iload 64 dX9_shareOf_62 rfl 4 rfl ?_
    obtain ⟨q3, hq3, h⟩ := j_bs h
    refine j_callV (rest := []) (As := [.int (I 4 l3.toNatClampNeg), .int l4]) 67 dX9_shareOf_64 rfl jyX1_sumOf (tcX1_sumOf hL h2 hq3) h2 cl1 flX9_56 wm991 wm992 (by decide) rfl rfl (Nat.le_of_ble_eq_true rfl) ?_
    cases h
    exact j_iret dX9_shareOf_67 rfl
  replace h := j_neg hc3 h
  refine j_tableOut 68 dX9_shareOf_1 (by decide) (j_out4 hc0 hc1 hc2 hc3) ?_
  refine j_iconst (v := (0 : Int32)) 69 dX9_shareOf_68 rfl (by decide) ?_
  cases h
  exact j_iret dX9_shareOf_69 rfl
def fX7_keepComer (t : Nat) (l2 : Int32) (I : JI) (D : JG) (S : JS) : Option (JI) :=
  j_g (j_in l2 16) (j_opt (D 15 5) (none) (fun b1 => j_g (decide (S[b1]? = some (4, 17))) (j_g (j_in (I 19 l2.toNatClampNeg) 18) (j_opt (D 15 5) (none) (fun b2 => j_g (decide (S[b2]? = some (4, 17))) (j_g (j_in (I 19 l2.toNatClampNeg) 18) (j_g (j_in l2 16) (j_opt (D 15 5) (none) (fun b3 => j_g (decide (S[b3]? = some (4, 17))) (j_g (j_in (I 19 l2.toNatClampNeg) 18) (j_g (j_in l2 16) (j_opt (D 15 5) (none) (fun b4 => j_g (decide (S[b4]? = some (4, 17))) (if (jm_b01 ((j_up (j_up I (t + 2) l2.toNatClampNeg (I (b2 + 3) (I 19 l2.toNatClampNeg).toNatClampNeg)) (t + 3) l2.toNatClampNeg ((j_up I (t + 2) l2.toNatClampNeg (I (b2 + 3) (I 19 l2.toNatClampNeg).toNatClampNeg)) (b3 + 6) (I 19 l2.toNatClampNeg).toNatClampNeg)) b4 16)) = 0 then (j_g (j_in l2 16) (some ((j_up (j_up (j_up I (t + 2) l2.toNatClampNeg (I (b2 + 3) (I 19 l2.toNatClampNeg).toNatClampNeg)) (t + 3) l2.toNatClampNeg ((j_up I (t + 2) l2.toNatClampNeg (I (b2 + 3) (I 19 l2.toNatClampNeg).toNatClampNeg)) (b3 + 6) (I 19 l2.toNatClampNeg).toNatClampNeg)) (t + 4) l2.toNatClampNeg (1 : Int32))))) else (j_opt (D 15 6) (none) (fun b5 => j_g (decide (S[b5]? = some (1, 4))) ((fX9_shareOf (I (b1 + 4) (I 19 l2.toNatClampNeg).toNatClampNeg) b5 ((j_up (j_up I (t + 2) l2.toNatClampNeg (I (b2 + 3) (I 19 l2.toNatClampNeg).toNatClampNeg)) (t + 3) l2.toNatClampNeg ((j_up I (t + 2) l2.toNatClampNeg (I (b2 + 3) (I 19 l2.toNatClampNeg).toNatClampNeg)) (b3 + 6) (I 19 l2.toNatClampNeg).toNatClampNeg)) (t + 1) 0) l2 (j_up (j_up I (t + 2) l2.toNatClampNeg (I (b2 + 3) (I 19 l2.toNatClampNeg).toNatClampNeg)) (t + 3) l2.toNatClampNeg ((j_up I (t + 2) l2.toNatClampNeg (I (b2 + 3) (I 19 l2.toNatClampNeg).toNatClampNeg)) (b3 + 6) (I 19 l2.toNatClampNeg).toNatClampNeg))).bind (fun q6 => j_g (j_in l2 16) (some ((j_up (j_up (j_up I (t + 2) l2.toNatClampNeg (I (b2 + 3) (I 19 l2.toNatClampNeg).toNatClampNeg)) (t + 3) l2.toNatClampNeg ((j_up I (t + 2) l2.toNatClampNeg (I (b2 + 3) (I 19 l2.toNatClampNeg).toNatClampNeg)) (b3 + 6) (I 19 l2.toNatClampNeg).toNatClampNeg)) (t + 4) l2.toNatClampNeg q6)))))))))))))))))))))
set_option maxHeartbeats 4000000 in
set_option maxRecDepth 100000 in
theorem tcX7_keepComer {E : JE} {t : Nat} {l2 : Int32} {r : JI} {I : JI} {L : JL} {G D : JG} {S : JS} (hL : Lay G S) (ht : S[t]? = some (7, 9)) (h : fX7_keepComer t l2 I D S = some r) : CallJ E xX7_keepComer 4 [.ref (E.1 + t), .ref (E.1 + 15), .int l2] I L G D S none r L G D S := by
  unfold fX7_keepComer at h
  refine j_entry (by decide) (Nat.le_of_ble_eq_true rfl) ?_
  show AtJ E xX7_keepComer (Zr E none r L G D S) ((S).length, jm_sl S) 4 0 [(0, .ref (E.1 + t)), (1, .ref (E.1 + 15)), (2, .int l2)] [] I L G D S
  refine j_aload_n 1 dX7_keepComer_0 rfl rfl 1 rfl ?_
  refine j_getGN 4 dX7_keepComer_1 rfl (sh_15 hL) cl3 (k := 4) (by decide) flX7_78 rfl (gs_15_4 hL) ?_
  refine j_iload_n 5 dX7_keepComer_4 rfl rfl 2 rfl ?_
  obtain ⟨hg, h⟩ := j_gs h
  refine j_iald 6 dX7_keepComer_5 rfl (sh_19 hL) (j_inv hg) ?_
  refine j_istore_n (lv' := [(3, .int (I 19 l2.toNatClampNeg)), (0, .ref (E.1 + t)), (1, .ref (E.1 + 15)), (2, .int l2)]) 7 dX7_keepComer_6 rfl rfl (by decide) rfl ?_
  refine j_aload_n 8 dX7_keepComer_7 rfl rfl 2 rfl ?_
  rcases j_os h with ⟨hb, h⟩ | ⟨b1, hb, h⟩
  · refine j_getDnN 11 dX7_keepComer_8 rfl (sh_15 hL) cl3 (k := 5) (by decide) flX7_56 rfl hb ?_
    cases h
  obtain ⟨hsb1, h⟩ := j_gs h
  replace hsb1 := of_decide_eq_true hsb1
  refine j_getDN 11 dX7_keepComer_8 rfl (sh_15 hL) cl3 (k := 5) (by decide) flX7_56 rfl hb ?_
  refine j_getGN 14 dX7_keepComer_11 rfl hsb1 cl4 (k := 3) (by decide) flX7_81 rfl (ly4_3 hL hsb1).1 ?_
  refine j_iload_n 15 dX7_keepComer_14 rfl rfl 0 rfl ?_
  obtain ⟨hg, h⟩ := j_gs h
  refine j_iald 16 dX7_keepComer_15 rfl (ly4_3 hL hsb1).2 (j_inv hg) ?_
  refine j_istore (lv' := [(4, .int (I (b1 + 4) (I 19 l2.toNatClampNeg).toNatClampNeg)), (3, .int (I 19 l2.toNatClampNeg)), (0, .ref (E.1 + t)), (1, .ref (E.1 + 15)), (2, .int l2)]) 18 dX7_keepComer_16 rfl (by decide) rfl ?_
  refine j_aload_n 19 dX7_keepComer_18 rfl rfl 2 rfl ?_
  refine j_getG 22 dX7_keepComer_19 rfl ht cl7 (k := 1) (by decide) flX7_18 rfl (ly7_1 hL ht).1 ?_
  refine j_iload_n 23 dX7_keepComer_22 rfl rfl 4 rfl ?_
  refine j_aload_n 24 dX7_keepComer_23 rfl rfl 3 rfl ?_
  rcases j_os h with ⟨hb, h⟩ | ⟨b2, hb, h⟩
  · refine j_getDnN 27 dX7_keepComer_24 rfl (sh_15 hL) cl3 (k := 5) (by decide) flX7_56 rfl hb ?_
    cases h
  obtain ⟨hsb2, h⟩ := j_gs h
  replace hsb2 := of_decide_eq_true hsb2
  refine j_getDN 27 dX7_keepComer_24 rfl (sh_15 hL) cl3 (k := 5) (by decide) flX7_56 rfl hb ?_
  refine j_getGN 30 dX7_keepComer_27 rfl hsb2 cl4 (k := 2) (by decide) flX7_84 rfl (ly4_2 hL hsb2).1 ?_
  refine j_iload_n 31 dX7_keepComer_30 rfl rfl 1 rfl ?_
  obtain ⟨hg, h⟩ := j_gs h
  refine j_iald 32 dX7_keepComer_31 rfl (ly4_2 hL hsb2).2 (j_inv hg) ?_
  obtain ⟨hg, h⟩ := j_gs h
  refine j_iast 33 dX7_keepComer_32 rfl (ly7_1 hL ht).2 (j_inv hg) ?_
  refine j_aload_n 34 dX7_keepComer_33 rfl rfl 2 rfl ?_
  refine j_getG 37 dX7_keepComer_34 rfl ht cl7 (k := 2) (by decide) flX7_22 rfl (ly7_2 hL ht).1 ?_
  refine j_iload_n 38 dX7_keepComer_37 rfl rfl 4 rfl ?_
  refine j_aload_n 39 dX7_keepComer_38 rfl rfl 3 rfl ?_
  rcases j_os h with ⟨hb, h⟩ | ⟨b3, hb, h⟩
  · refine j_getDnN 42 dX7_keepComer_39 rfl (sh_15 hL) cl3 (k := 5) (by decide) flX7_56 rfl hb ?_
    cases h
  obtain ⟨hsb3, h⟩ := j_gs h
  replace hsb3 := of_decide_eq_true hsb3
  refine j_getDN 42 dX7_keepComer_39 rfl (sh_15 hL) cl3 (k := 5) (by decide) flX7_56 rfl hb ?_
  refine j_getGN 45 dX7_keepComer_42 rfl hsb3 cl4 (k := 5) (by decide) flX7_85 rfl (ly4_5 hL hsb3).1 ?_
  refine j_iload_n 46 dX7_keepComer_45 rfl rfl 1 rfl ?_
  obtain ⟨hg, h⟩ := j_gs h
  refine j_iald 47 dX7_keepComer_46 rfl (ly4_5 hL hsb3).2 (j_inv hg) ?_
  obtain ⟨hg, h⟩ := j_gs h
  refine j_iast 48 dX7_keepComer_47 rfl (ly7_2 hL ht).2 (j_inv hg) ?_
  refine j_aload_n 49 dX7_keepComer_48 rfl rfl 2 rfl ?_
  refine j_getG 52 dX7_keepComer_49 rfl ht cl7 (k := 3) (by decide) flX7_25 rfl (ly7_3 hL ht).1 ?_
  refine j_iload_n 53 dX7_keepComer_52 rfl rfl 4 rfl ?_
  refine j_aload_n 54 dX7_keepComer_53 rfl rfl 3 rfl ?_
  rcases j_os h with ⟨hb, h⟩ | ⟨b4, hb, h⟩
  · refine j_getDnN 57 dX7_keepComer_54 rfl (sh_15 hL) cl3 (k := 5) (by decide) flX7_56 rfl hb ?_
    cases h
  obtain ⟨hsb4, h⟩ := j_gs h
  replace hsb4 := of_decide_eq_true hsb4
  refine j_getDN 57 dX7_keepComer_54 rfl (sh_15 hL) cl3 (k := 5) (by decide) flX7_56 rfl hb ?_
  refine j_getZN 60 dX7_keepComer_57 rfl hsb4 cl4 (k := 16) (by decide) flX7_86 rfl ?_
  refine j_if_eq 87 63 dX7_keepComer_60 (by decide) rfl (fun hc => ?_) (fun hc => ?_)
  · replace h := j_pos hc h
    refine j_iconst (v := (1 : Int32)) 88 dX7_keepComer_87 rfl (by decide) ?_
    obtain ⟨hg, h⟩ := j_gs h
    refine j_iast 89 dX7_keepComer_88 rfl (ly7_3 hL ht).2 (j_inv hg) ?_
    cases h
    exact j_vret dX7_keepComer_89 rfl
  · replace h := j_neg hc h
    refine j_aload_n 64 dX7_keepComer_63 rfl rfl 3 rfl ?_
    refine j_getGN 67 dX7_keepComer_64 rfl (sh_15 hL) cl3 (k := 0) (by decide) flX7_89 rfl (gs_15_0 hL) ?_
    refine j_iload 69 dX7_keepComer_67 rfl 0 rfl ?_
    refine j_aload_n 70 dX7_keepComer_69 rfl rfl 3 rfl ?_
    rcases j_os h with ⟨hb, h⟩ | ⟨b5, hb, h⟩
    · refine j_getDnN 73 dX7_keepComer_70 rfl (sh_15 hL) cl3 (k := 6) (by decide) flX7_93 rfl hb ?_
      refine j_aload_n 74 dX7_keepComer_73 rfl rfl 2 rfl ?_
      refine j_getG 77 dX7_keepComer_74 rfl ht cl7 (k := 0) (by decide) flX7_12 rfl (ly7_0 hL ht).1 ?_
      refine j_getIN 80 dX7_keepComer_77 rfl (ly7_0 hL ht).2 cl0 (k := 0) (by decide) flX7_97 rfl ?_
      refine j_iload_n 81 dX7_keepComer_80 rfl rfl 4 rfl ?_
      cases h
    obtain ⟨hsb5, h⟩ := j_gs h
    replace hsb5 := of_decide_eq_true hsb5
    refine j_getDN 73 dX7_keepComer_70 rfl (sh_15 hL) cl3 (k := 6) (by decide) flX7_93 rfl hb ?_
    refine j_aload_n 74 dX7_keepComer_73 rfl rfl 2 rfl ?_
    refine j_getG 77 dX7_keepComer_74 rfl ht cl7 (k := 0) (by decide) flX7_12 rfl (ly7_0 hL ht).1 ?_
    refine j_getIN 80 dX7_keepComer_77 rfl (ly7_0 hL ht).2 cl0 (k := 0) (by decide) flX7_97 rfl ?_
    refine j_iload_n 81 dX7_keepComer_80 rfl rfl 4 rfl ?_
    obtain ⟨q6, hq6, h⟩ := j_bs h
    refine j_callV (rest := [.int l2, .ref (E.1 + (t + 4))]) (As := [.int (I (b1 + 4) (I 19 l2.toNatClampNeg).toNatClampNeg), .ref (E.1 + b5), .int ((j_up (j_up I (t + 2) l2.toNatClampNeg (I (b2 + 3) (I 19 l2.toNatClampNeg).toNatClampNeg)) (t + 3) l2.toNatClampNeg ((j_up I (t + 2) l2.toNatClampNeg (I (b2 + 3) (I 19 l2.toNatClampNeg).toNatClampNeg)) (b3 + 6) (I 19 l2.toNatClampNeg).toNatClampNeg)) (t + 1) 0), .int l2]) 84 dX7_keepComer_81 rfl jyX9_shareOf (tcX9_shareOf hL hsb5 hq6) (sh_1 hL) cl9 flX7_100 wm986 wm987 (by decide) rfl rfl (Nat.le_of_ble_eq_true rfl) ?_
    refine j_goto 88 dX7_keepComer_84 (by decide) ?_
    obtain ⟨hg, h⟩ := j_gs h
    refine j_iast 89 dX7_keepComer_88 rfl (ly7_3 hL ht).2 (j_inv hg) ?_
    cases h
    exact j_vret dX7_keepComer_89 rfl
def fX7_begin_95 (t : Nat) (l2 : Nat) (I : JI) (D : JG) (S : JS) : Option (JI) :=
  j_g (j_in (16 : Int32) 19) (j_g (j_in (17 : Int32) 19) (j_g (j_in (18 : Int32) 19) (some ((j_up (j_up (j_up I (t + 5) (16 : Int32).toNatClampNeg (0 : Int32)) (t + 5) (17 : Int32).toNatClampNeg (-1 : Int32)) (t + 5) (18 : Int32).toNatClampNeg ((j_up (j_up I (t + 5) (16 : Int32).toNatClampNeg (0 : Int32)) (t + 5) (17 : Int32).toNatClampNeg (-1 : Int32)) l2 6))))))
set_option maxHeartbeats 4000000 in
set_option maxRecDepth 100000 in
theorem kX7_begin_95 {E : JE} {t : Nat} {l2 : Nat} {r : JI} {L : JL} {G : JG} {S : JS} (hL : Lay G S) (ht : S[t]? = some (7, 9)) (h2 : S[l2]? = some (0, 7)) : ∀ (I : JI) (D : JG), fX7_begin_95 t l2 I D S = some r → AtJ E xX7_begin (Zr E none r L G D S) ((S).length, jm_sl S) 5 95 [(0, .ref (E.1 + t)), (2, .ref (E.1 + l2))] [] I L G D S := by
  intro I D  h
  unfold fX7_begin_95 at h
  refine j_aload_n 96 dX7_begin_95 rfl rfl 0 rfl ?_
  refine j_getG 99 dX7_begin_96 rfl ht cl7 (k := 4) (by decide) flX7_28 rfl (ly7_4 hL ht).1 ?_
  refine j_bipush (v := (16 : Int32)) 101 dX7_begin_99 rfl (by decide) ?_
  refine j_iconst (v := (0 : Int32)) 102 dX7_begin_101 rfl (by decide) ?_
  obtain ⟨hg, h⟩ := j_gs h
  refine j_iast 103 dX7_begin_102 rfl (ly7_4 hL ht).2 (j_inv hg) ?_
  refine j_aload_n 104 dX7_begin_103 rfl rfl 0 rfl ?_
  refine j_getG 107 dX7_begin_104 rfl ht cl7 (k := 4) (by decide) flX7_28 rfl (ly7_4 hL ht).1 ?_
  refine j_bipush (v := (17 : Int32)) 109 dX7_begin_107 rfl (by decide) ?_
  refine j_iconst (v := (-1 : Int32)) 110 dX7_begin_109 rfl (by decide) ?_
  obtain ⟨hg, h⟩ := j_gs h
  refine j_iast 111 dX7_begin_110 rfl (ly7_4 hL ht).2 (j_inv hg) ?_
  refine j_aload_n 112 dX7_begin_111 rfl rfl 0 rfl ?_
  refine j_getG 115 dX7_begin_112 rfl ht cl7 (k := 4) (by decide) flX7_28 rfl (ly7_4 hL ht).1 ?_
  refine j_bipush (v := (18 : Int32)) 117 dX7_begin_115 rfl (by decide) ?_
  refine j_aload_n 118 dX7_begin_117 rfl rfl 1 rfl ?_
  refine j_getIN 121 dX7_begin_118 rfl h2 cl0 (k := 6) (by decide) flX7_75 rfl ?_
  obtain ⟨hg, h⟩ := j_gs h
  refine j_iast 122 dX7_begin_121 rfl (ly7_4 hL ht).2 (j_inv hg) ?_
  cases h
  exact j_vret dX7_begin_122 rfl
def fX7_begin_47 (t : Nat) (l2 : Nat) : Nat → Int32 → JI → JG → JS → Option (JI)
  | 0, _, _, _, _ => none
  | n + 1, l4, I, D, S =>
    if (16 : Int32) ≤ l4 then (fX7_begin_95 t l2 I D S) else (j_g (j_in l4 19) (j_g (j_in l4 16) (if ((((j_up (j_up I (t + 5) l4.toNatClampNeg (-1 : Int32)) (t + 2) l4.toNatClampNeg (-1 : Int32)) 15 9) >>> (l4 &&& 31)) &&& (1 : Int32)) = 0 then ((fX7_begin_47 t l2 n) (l4 + (1 : Int32)) (j_up (j_up I (t + 5) l4.toNatClampNeg (-1 : Int32)) (t + 2) l4.toNatClampNeg (-1 : Int32)) D S) else ((fX7_keepComer t l4 (j_up (j_up I (t + 5) l4.toNatClampNeg (-1 : Int32)) (t + 2) l4.toNatClampNeg (-1 : Int32)) D S).bind (fun q4 => (fX7_begin_47 t l2 n) (l4 + (1 : Int32)) q4 D S)))))
set_option maxHeartbeats 4000000 in
set_option maxRecDepth 100000 in
theorem kX7_begin_47 {E : JE} {t : Nat} {l2 : Nat} {r : JI} {L : JL} {G : JG} {S : JS} (hL : Lay G S) (ht : S[t]? = some (7, 9)) (h2 : S[l2]? = some (0, 7)) : ∀ (n : Nat) (l4 : Int32) (I : JI) (D : JG), fX7_begin_47 t l2 n l4 I D S = some r → AtJ E xX7_begin (Zr E none r L G D S) ((S).length, jm_sl S) 5 47 [(0, .ref (E.1 + t)), (1, .ref (E.1 + 15)), (2, .ref (E.1 + l2)), (4, .int l4)] [] I L G D S := by
  intro n
  induction n with
  | zero => intro l4 I D  h; simp [fX7_begin_47] at h
  | succ n ih =>
    intro l4 I D  h
    rw [fX7_begin_47] at h
    refine j_iload 49 dX7_begin_47 rfl 3 rfl ?_
    refine j_bipush (v := (16 : Int32)) 51 dX7_begin_49 rfl (by decide) ?_
    refine j_icmp_ge 95 54 dX7_begin_51 (by decide) rfl (fun hc => ?_) (fun hc => ?_)
    · replace h := j_pos hc h
      refine j_sub [0, 2] rfl ?_
      exact kX7_begin_95 hL  ht h2  _ _  h
    · replace h := j_neg hc h
      refine j_aload_n 55 dX7_begin_54 rfl rfl 0 rfl ?_
      refine j_getG 58 dX7_begin_55 rfl ht cl7 (k := 4) (by decide) flX7_28 rfl (ly7_4 hL ht).1 ?_
      refine j_iload 60 dX7_begin_58 rfl 3 rfl ?_
      refine j_iconst (v := (-1 : Int32)) 61 dX7_begin_60 rfl (by decide) ?_
      obtain ⟨hg, h⟩ := j_gs h
      refine j_iast 62 dX7_begin_61 rfl (ly7_4 hL ht).2 (j_inv hg) ?_
      refine j_aload_n 63 dX7_begin_62 rfl rfl 0 rfl ?_
      refine j_getG 66 dX7_begin_63 rfl ht cl7 (k := 1) (by decide) flX7_18 rfl (ly7_1 hL ht).1 ?_
      refine j_iload 68 dX7_begin_66 rfl 3 rfl ?_
      refine j_iconst (v := (-1 : Int32)) 69 dX7_begin_68 rfl (by decide) ?_
      obtain ⟨hg, h⟩ := j_gs h
      refine j_iast 70 dX7_begin_69 rfl (ly7_1 hL ht).2 (j_inv hg) ?_
      refine j_aload_n 71 dX7_begin_70 rfl rfl 1 rfl ?_
      refine j_getIN 74 dX7_begin_71 rfl (sh_15 hL) cl3 (k := 9) (by decide) flX7_68 rfl ?_
      refine j_iload 76 dX7_begin_74 rfl 3 rfl ?_
      refine j_ishr 77 dX7_begin_76 rfl ?_
      refine j_iconst (v := (1 : Int32)) 78 dX7_begin_77 rfl (by decide) ?_
      refine j_iand 79 dX7_begin_78 rfl ?_
      refine j_if_eq 89 82 dX7_begin_79 (by decide) rfl (fun hc => ?_) (fun hc => ?_)
      · replace h := j_pos hc h
        refine j_iinc (v := (l4 + (1 : Int32))) (lv' := [(4, .int (l4 + (1 : Int32))), (0, .ref (E.1 + t)), (1, .ref (E.1 + 15)), (2, .ref (E.1 + l2))]) (q := 3) 92 dX7_begin_89 rfl rfl rfl (by decide) rfl ?_
        refine j_goto 47 dX7_begin_92 (by decide) ?_
        refine j_sub [1, 2, 3, 0] rfl ?_
        exact ih _ _ _  h
      · replace h := j_neg hc h
        refine j_aload_n 83 dX7_begin_82 rfl rfl 0 rfl ?_
        refine j_aload_n 84 dX7_begin_83 rfl rfl 1 rfl ?_
        refine j_iload 86 dX7_begin_84 rfl 3 rfl ?_
        obtain ⟨q4, hq4, h⟩ := j_bs h
        refine j_callV (rest := []) (As := [.ref (E.1 + 15), .int l4]) 89 dX7_begin_86 rfl jyX7_keepComer (tcX7_keepComer hL ht hq4) ht cl7 flX7_71 wm983 wm18 (by decide) rfl rfl (Nat.le_of_ble_eq_true rfl) ?_
        refine j_iinc (v := (l4 + (1 : Int32))) (lv' := [(4, .int (l4 + (1 : Int32))), (0, .ref (E.1 + t)), (1, .ref (E.1 + 15)), (2, .ref (E.1 + l2))]) (q := 3) 92 dX7_begin_89 rfl rfl rfl (by decide) rfl ?_
        refine j_goto 47 dX7_begin_92 (by decide) ?_
        refine j_sub [1, 2, 3, 0] rfl ?_
        exact ih _ _ _  h
def fX7_begin (t : Nat) (l2 : Nat) (l3 : Int32) (I : JI) (D : JG) (S : JS) : Option (JI) :=
  (fX0_copyAll (t + 1) l2 I).bind (fun q1 => (fX3_rankBy ((j_up (j_up q1 t 5 l3) t 6 (jm_b01 ((j_up q1 t 5 l3) 15 8))) l2 2) (j_up (j_up q1 t 5 l3) t 6 (jm_b01 ((j_up q1 t 5 l3) 15 8))) D S).bind (fun q2 => j_opt (D 15 5) (none) (fun b3 => j_g (decide (S[b3]? = some (4, 17))) (fX7_begin_47 t l2 100000 (0 : Int32) (j_up (j_up (j_up (j_up q1 t 5 l3) t 6 (jm_b01 ((j_up q1 t 5 l3) 15 8))) t 7 q2) t 8 (jm_b01 ((j_up (j_up (j_up q1 t 5 l3) t 6 (jm_b01 ((j_up q1 t 5 l3) 15 8))) t 7 q2) b3 15))) D S))))
set_option maxHeartbeats 4000000 in
set_option maxRecDepth 100000 in
theorem tcX7_begin {E : JE} {t : Nat} {l2 : Nat} {l3 : Int32} {r : JI} {I : JI} {L : JL} {G D : JG} {S : JS} (hL : Lay G S) (ht : S[t]? = some (7, 9)) (h2 : S[l2]? = some (0, 7)) (h : fX7_begin t l2 l3 I D S = some r) : CallJ E xX7_begin 5 [.ref (E.1 + t), .ref (E.1 + 15), .ref (E.1 + l2), .int l3] I L G D S none r L G D S := by
  unfold fX7_begin at h
  refine j_entry (by decide) (Nat.le_of_ble_eq_true rfl) ?_
  show AtJ E xX7_begin (Zr E none r L G D S) ((S).length, jm_sl S) 5 0 [(0, .ref (E.1 + t)), (1, .ref (E.1 + 15)), (2, .ref (E.1 + l2)), (3, .int l3)] [] I L G D S
  refine j_aload_n 1 dX7_begin_0 rfl rfl 0 rfl ?_
  refine j_getG 4 dX7_begin_1 rfl ht cl7 (k := 0) (by decide) flX7_12 rfl (ly7_0 hL ht).1 ?_
  refine j_aload_n 5 dX7_begin_4 rfl rfl 2 rfl ?_
  obtain ⟨q1, hq1, h⟩ := j_bs h
  refine j_callV (rest := []) (As := [.ref (E.1 + l2)]) 8 dX7_begin_5 rfl jyX0_copyAll (tcX0_copyAll hL (ly7_0 hL ht).2 h2 hq1) (ly7_0 hL ht).2 cl0 flX7_31 wm973 wm974 (by decide) rfl rfl (Nat.le_of_ble_eq_true rfl) ?_
  refine j_aload_n 9 dX7_begin_8 rfl rfl 0 rfl ?_
  refine j_iload_n 10 dX7_begin_9 rfl rfl 3 rfl ?_
  refine j_putI 13 dX7_begin_10 rfl ht cl7 (k := 5) (by decide) flX7_35 rfl rfl rfl ?_
  refine j_aload_n 14 dX7_begin_13 rfl rfl 0 rfl ?_
  refine j_aload_n 15 dX7_begin_14 rfl rfl 1 rfl ?_
  refine j_getZN 18 dX7_begin_15 rfl (sh_15 hL) cl3 (k := 8) (by decide) flX7_39 rfl ?_
  refine j_putZ 21 dX7_begin_18 rfl ht cl7 (k := 6) (by decide) flX7_45 rfl rfl rfl (jm_b01_idem _) ?_
  refine j_aload_n 22 dX7_begin_21 rfl rfl 0 rfl ?_
  refine j_aload_n 23 dX7_begin_22 rfl rfl 1 rfl ?_
  refine j_aload_n 24 dX7_begin_23 rfl rfl 2 rfl ?_
  refine j_getIN 27 dX7_begin_24 rfl h2 cl0 (k := 2) (by decide) flX7_46 rfl ?_
  obtain ⟨q2, hq2, h⟩ := j_bs h
  refine j_callV (rest := [.ref (E.1 + t)]) (As := [.int ((j_up (j_up q1 t 5 l3) t 6 (jm_b01 ((j_up q1 t 5 l3) 15 8))) l2 2)]) 30 dX7_begin_27 rfl jyX3_rankBy (tcX3_rankBy hL  hq2) (sh_15 hL) cl3 flX7_49 wm978 wm979 (by decide) rfl rfl (Nat.le_of_ble_eq_true rfl) ?_
  refine j_putI 33 dX7_begin_30 rfl ht cl7 (k := 7) (by decide) flX7_53 rfl rfl rfl ?_
  refine j_aload_n 34 dX7_begin_33 rfl rfl 0 rfl ?_
  refine j_aload_n 35 dX7_begin_34 rfl rfl 1 rfl ?_
  rcases j_os h with ⟨hb, h⟩ | ⟨b3, hb, h⟩
  · refine j_getDnN 38 dX7_begin_35 rfl (sh_15 hL) cl3 (k := 5) (by decide) flX7_56 rfl hb ?_
    cases h
  obtain ⟨hsb3, h⟩ := j_gs h
  replace hsb3 := of_decide_eq_true hsb3
  refine j_getDN 38 dX7_begin_35 rfl (sh_15 hL) cl3 (k := 5) (by decide) flX7_56 rfl hb ?_
  refine j_getZN 41 dX7_begin_38 rfl hsb3 cl4 (k := 15) (by decide) flX7_60 rfl ?_
  refine j_putZ 44 dX7_begin_41 rfl ht cl7 (k := 8) (by decide) flX7_65 rfl rfl rfl (jm_b01_idem _) ?_
  refine j_iconst (v := (0 : Int32)) 45 dX7_begin_44 rfl (by decide) ?_
  refine j_istore (lv' := [(4, .int (0 : Int32)), (0, .ref (E.1 + t)), (1, .ref (E.1 + 15)), (2, .ref (E.1 + l2)), (3, .int l3)]) 47 dX7_begin_45 rfl (by decide) rfl ?_
  refine j_sub [1, 2, 3, 0] rfl ?_
  exact kX7_begin_47 hL  ht h2  100000 _ _ _  h
def fX7_priceAsked (t : Nat) (I : JI) : Option (Int32) :=
  if (jm_b01 (I t 8)) = 0 then (some ((I (t + 1) 5))) else (j_g (j_in (18 : Int32) 19) (some ((I (t + 5) (18 : Int32).toNatClampNeg))))
set_option maxHeartbeats 4000000 in
set_option maxRecDepth 100000 in
theorem tcX7_priceAsked {E : JE} {t : Nat} {r : Int32} {I : JI} {L : JL} {G D : JG} {S : JS} (hL : Lay G S) (ht : S[t]? = some (7, 9)) (h : fX7_priceAsked t I = some r) : CallJ E xX7_priceAsked 1 [.ref (E.1 + t)] I L G D S (some (.int r)) I L G D S := by
  unfold fX7_priceAsked at h
  refine j_entry (by decide) (Nat.le_of_ble_eq_true rfl) ?_
  show AtJ E xX7_priceAsked (Zr E (some (.int r)) I L G D S) ((S).length, jm_sl S) 1 0 [(0, .ref (E.1 + t))] [] I L G D S
  refine j_aload_n 1 dX7_priceAsked_0 rfl rfl 0 rfl ?_
  refine j_getZ 4 dX7_priceAsked_1 rfl ht cl7 (k := 8) (by decide) flX7_65 rfl ?_
  refine j_if_eq 17 7 dX7_priceAsked_4 (by decide) rfl (fun hc => ?_) (fun hc => ?_)
  · replace h := j_pos hc h
    refine j_aload_n 18 dX7_priceAsked_17 rfl rfl 0 rfl ?_
    refine j_getG 21 dX7_priceAsked_18 rfl ht cl7 (k := 0) (by decide) flX7_12 rfl (ly7_0 hL ht).1 ?_
    refine j_getIN 24 dX7_priceAsked_21 rfl (ly7_0 hL ht).2 cl0 (k := 5) (by decide) flX7_115 rfl ?_
    cases h
    exact j_iret dX7_priceAsked_24 rfl
  · replace h := j_neg hc h
    refine j_aload_n 8 dX7_priceAsked_7 rfl rfl 0 rfl ?_
    refine j_getG 11 dX7_priceAsked_8 rfl ht cl7 (k := 4) (by decide) flX7_28 rfl (ly7_4 hL ht).1 ?_
    refine j_bipush (v := (18 : Int32)) 13 dX7_priceAsked_11 rfl (by decide) ?_
    obtain ⟨hg, h⟩ := j_gs h
    refine j_iald 14 dX7_priceAsked_13 rfl (ly7_4 hL ht).2 (j_inv hg) ?_
    refine j_goto 24 dX7_priceAsked_14 (by decide) ?_
    cases h
    exact j_iret dX7_priceAsked_24 rfl
def fX7_tells (t : Nat) (l1 : Int32) (I : JI) : Option (Int32) :=
  if l1 = (0 : Int32) then (some ((I (t + 1) 0))) else (if l1 = (1 : Int32) then (some ((I (t + 1) 1))) else (if l1 = (2 : Int32) then (some ((I (t + 1) 2))) else (if l1 = (3 : Int32) then (some ((I (t + 1) 3))) else (if l1 = (4 : Int32) then (some ((I (t + 1) 4))) else (if l1 = (5 : Int32) then (some ((I (t + 1) 5))) else (if l1 = (6 : Int32) then (j_g (j_in (18 : Int32) 19) (some ((I (t + 5) (18 : Int32).toNatClampNeg)))) else (if l1 = (7 : Int32) then (some ((I t 5))) else (if l1 = (8 : Int32) then (if (jm_b01 (I t 6)) = 0 then (some ((0 : Int32))) else (some ((1 : Int32)))) else (if l1 = (9 : Int32) then (some ((I t 7))) else (if l1 = (10 : Int32) then (j_g (j_in (17 : Int32) 19) (some ((I (t + 5) (17 : Int32).toNatClampNeg)))) else ((fX7_priceAsked t I).bind (fun q1 => some (q1)))))))))))))
set_option maxHeartbeats 4000000 in
set_option maxRecDepth 100000 in
theorem tcX7_tells {E : JE} {t : Nat} {l1 : Int32} {r : Int32} {I : JI} {L : JL} {G D : JG} {S : JS} (hL : Lay G S) (ht : S[t]? = some (7, 9)) (h : fX7_tells t l1 I = some r) : CallJ E xX7_tells 2 [.ref (E.1 + t), .int l1] I L G D S (some (.int r)) I L G D S := by
  unfold fX7_tells at h
  refine j_entry (by decide) (Nat.le_of_ble_eq_true rfl) ?_
  show AtJ E xX7_tells (Zr E (some (.int r)) I L G D S) ((S).length, jm_sl S) 2 0 [(0, .ref (E.1 + t)), (1, .int l1)] [] I L G D S
  refine j_iload_n 1 dX7_tells_0 rfl rfl 1 rfl ?_
  by_cases hc0 : l1 = (0 : Int32)
  · replace h := j_pos hc0 h
    refine j_tableIn (off := 59) 60 dX7_tells_1 (by decide) (by rw [hc0]; decide) (by rw [hc0]; decide) (by rw [hc0]; rfl) ?_
    refine j_aload_n 61 dX7_tells_60 rfl rfl 0 rfl ?_
    refine j_getG 64 dX7_tells_61 rfl ht cl7 (k := 0) (by decide) flX7_12 rfl (ly7_0 hL ht).1 ?_
    refine j_getIN 67 dX7_tells_64 rfl (ly7_0 hL ht).2 cl0 (k := 0) (by decide) flX7_97 rfl ?_
    cases h
    exact j_iret dX7_tells_67 rfl
  replace h := j_neg hc0 h
  by_cases hc1 : l1 = (1 : Int32)
  · replace h := j_pos hc1 h
    refine j_tableIn (off := 67) 68 dX7_tells_1 (by decide) (by rw [hc1]; decide) (by rw [hc1]; decide) (by rw [hc1]; rfl) ?_
    refine j_aload_n 69 dX7_tells_68 rfl rfl 0 rfl ?_
    refine j_getG 72 dX7_tells_69 rfl ht cl7 (k := 0) (by decide) flX7_12 rfl (ly7_0 hL ht).1 ?_
    refine j_getIN 75 dX7_tells_72 rfl (ly7_0 hL ht).2 cl0 (k := 1) (by decide) flX7_106 rfl ?_
    cases h
    exact j_iret dX7_tells_75 rfl
  replace h := j_neg hc1 h
  by_cases hc2 : l1 = (2 : Int32)
  · replace h := j_pos hc2 h
    refine j_tableIn (off := 75) 76 dX7_tells_1 (by decide) (by rw [hc2]; decide) (by rw [hc2]; decide) (by rw [hc2]; rfl) ?_
    refine j_aload_n 77 dX7_tells_76 rfl rfl 0 rfl ?_
    refine j_getG 80 dX7_tells_77 rfl ht cl7 (k := 0) (by decide) flX7_12 rfl (ly7_0 hL ht).1 ?_
    refine j_getIN 83 dX7_tells_80 rfl (ly7_0 hL ht).2 cl0 (k := 2) (by decide) flX7_46 rfl ?_
    cases h
    exact j_iret dX7_tells_83 rfl
  replace h := j_neg hc2 h
  by_cases hc3 : l1 = (3 : Int32)
  · replace h := j_pos hc3 h
    refine j_tableIn (off := 83) 84 dX7_tells_1 (by decide) (by rw [hc3]; decide) (by rw [hc3]; decide) (by rw [hc3]; rfl) ?_
    refine j_aload_n 85 dX7_tells_84 rfl rfl 0 rfl ?_
    refine j_getG 88 dX7_tells_85 rfl ht cl7 (k := 0) (by decide) flX7_12 rfl (ly7_0 hL ht).1 ?_
    refine j_getIN 91 dX7_tells_88 rfl (ly7_0 hL ht).2 cl0 (k := 3) (by decide) flX7_109 rfl ?_
    cases h
    exact j_iret dX7_tells_91 rfl
  replace h := j_neg hc3 h
  by_cases hc4 : l1 = (4 : Int32)
  · replace h := j_pos hc4 h
    refine j_tableIn (off := 91) 92 dX7_tells_1 (by decide) (by rw [hc4]; decide) (by rw [hc4]; decide) (by rw [hc4]; rfl) ?_
    refine j_aload_n 93 dX7_tells_92 rfl rfl 0 rfl ?_
    refine j_getG 96 dX7_tells_93 rfl ht cl7 (k := 0) (by decide) flX7_12 rfl (ly7_0 hL ht).1 ?_
    refine j_getIN 99 dX7_tells_96 rfl (ly7_0 hL ht).2 cl0 (k := 4) (by decide) flX7_112 rfl ?_
    cases h
    exact j_iret dX7_tells_99 rfl
  replace h := j_neg hc4 h
  by_cases hc5 : l1 = (5 : Int32)
  · replace h := j_pos hc5 h
    refine j_tableIn (off := 99) 100 dX7_tells_1 (by decide) (by rw [hc5]; decide) (by rw [hc5]; decide) (by rw [hc5]; rfl) ?_
    refine j_aload_n 101 dX7_tells_100 rfl rfl 0 rfl ?_
    refine j_getG 104 dX7_tells_101 rfl ht cl7 (k := 0) (by decide) flX7_12 rfl (ly7_0 hL ht).1 ?_
    refine j_getIN 107 dX7_tells_104 rfl (ly7_0 hL ht).2 cl0 (k := 5) (by decide) flX7_115 rfl ?_
    cases h
    exact j_iret dX7_tells_107 rfl
  replace h := j_neg hc5 h
  by_cases hc6 : l1 = (6 : Int32)
  · replace h := j_pos hc6 h
    refine j_tableIn (off := 107) 108 dX7_tells_1 (by decide) (by rw [hc6]; decide) (by rw [hc6]; decide) (by rw [hc6]; rfl) ?_
    refine j_aload_n 109 dX7_tells_108 rfl rfl 0 rfl ?_
    refine j_getG 112 dX7_tells_109 rfl ht cl7 (k := 4) (by decide) flX7_28 rfl (ly7_4 hL ht).1 ?_
    refine j_bipush (v := (18 : Int32)) 114 dX7_tells_112 rfl (by decide) ?_
    obtain ⟨hg, h⟩ := j_gs h
    refine j_iald 115 dX7_tells_114 rfl (ly7_4 hL ht).2 (j_inv hg) ?_
    cases h
    exact j_iret dX7_tells_115 rfl
  replace h := j_neg hc6 h
  by_cases hc7 : l1 = (7 : Int32)
  · replace h := j_pos hc7 h
    refine j_tableIn (off := 115) 116 dX7_tells_1 (by decide) (by rw [hc7]; decide) (by rw [hc7]; decide) (by rw [hc7]; rfl) ?_
    refine j_aload_n 117 dX7_tells_116 rfl rfl 0 rfl ?_
    refine j_getI 120 dX7_tells_117 rfl ht cl7 (k := 5) (by decide) flX7_35 rfl ?_
    cases h
    exact j_iret dX7_tells_120 rfl
  replace h := j_neg hc7 h
  by_cases hc8 : l1 = (8 : Int32)
  · replace h := j_pos hc8 h
    refine j_tableIn (off := 120) 121 dX7_tells_1 (by decide) (by rw [hc8]; decide) (by rw [hc8]; decide) (by rw [hc8]; rfl) ?_
    refine j_aload_n 122 dX7_tells_121 rfl rfl 0 rfl ?_
    refine j_getZ 125 dX7_tells_122 rfl ht cl7 (k := 6) (by decide) flX7_45 rfl ?_
    refine j_if_eq 132 128 dX7_tells_125 (by decide) rfl (fun hc => ?_) (fun hc => ?_)
    · replace h := j_pos hc h
      refine j_iconst (v := (0 : Int32)) 133 dX7_tells_132 rfl (by decide) ?_
      cases h
      exact j_iret dX7_tells_133 rfl
    · replace h := j_neg hc h
      refine j_iconst (v := (1 : Int32)) 129 dX7_tells_128 rfl (by decide) ?_
      refine j_goto 133 dX7_tells_129 (by decide) ?_
      cases h
      exact j_iret dX7_tells_133 rfl
  replace h := j_neg hc8 h
  by_cases hc9 : l1 = (9 : Int32)
  · replace h := j_pos hc9 h
    refine j_tableIn (off := 133) 134 dX7_tells_1 (by decide) (by rw [hc9]; decide) (by rw [hc9]; decide) (by rw [hc9]; rfl) ?_
    refine j_aload_n 135 dX7_tells_134 rfl rfl 0 rfl ?_
    refine j_getI 138 dX7_tells_135 rfl ht cl7 (k := 7) (by decide) flX7_53 rfl ?_
    cases h
    exact j_iret dX7_tells_138 rfl
  replace h := j_neg hc9 h
  by_cases hc10 : l1 = (10 : Int32)
  · replace h := j_pos hc10 h
    refine j_tableIn (off := 138) 139 dX7_tells_1 (by decide) (by rw [hc10]; decide) (by rw [hc10]; decide) (by rw [hc10]; rfl) ?_
    refine j_aload_n 140 dX7_tells_139 rfl rfl 0 rfl ?_
    refine j_getG 143 dX7_tells_140 rfl ht cl7 (k := 4) (by decide) flX7_28 rfl (ly7_4 hL ht).1 ?_
    refine j_bipush (v := (17 : Int32)) 145 dX7_tells_143 rfl (by decide) ?_
    obtain ⟨hg, h⟩ := j_gs h
    refine j_iald 146 dX7_tells_145 rfl (ly7_4 hL ht).2 (j_inv hg) ?_
    cases h
    exact j_iret dX7_tells_146 rfl
  replace h := j_neg hc10 h
  refine j_tableOut 147 dX7_tells_1 (by decide) (j_out11 hc0 hc1 hc2 hc3 hc4 hc5 hc6 hc7 hc8 hc9 hc10) ?_
  refine j_aload_n 148 dX7_tells_147 rfl rfl 0 rfl ?_
  obtain ⟨q1, hq1, h⟩ := j_bs h
  refine j_callV (rest := []) (As := []) 151 dX7_tells_148 rfl jyX7_priceAsked (tcX7_priceAsked hL ht hq1) ht cl7 flX7_118 wm1060 wm22 (by decide) rfl rfl (Nat.le_of_ble_eq_true rfl) ?_
  cases h
  exact j_iret dX7_tells_151 rfl
def fX7_isWaived (t : Nat) (l1 : Int32) (I : JI) : Option (Int32) :=
  j_g (j_in (16 : Int32) 19) (if (((I (t + 5) (16 : Int32).toNatClampNeg) >>> (l1 &&& 31)) &&& (1 : Int32)) = 0 then (some ((0 : Int32))) else (some ((1 : Int32))))
set_option maxHeartbeats 4000000 in
set_option maxRecDepth 100000 in
theorem tcX7_isWaived {E : JE} {t : Nat} {l1 : Int32} {r : Int32} {I : JI} {L : JL} {G D : JG} {S : JS} (hL : Lay G S) (ht : S[t]? = some (7, 9)) (h : fX7_isWaived t l1 I = some r) : CallJ E xX7_isWaived 1 [.ref (E.1 + t), .int l1] I L G D S (some (.int r)) I L G D S := by
  unfold fX7_isWaived at h
  refine j_entry (by decide) (Nat.le_of_ble_eq_true rfl) ?_
  show AtJ E xX7_isWaived (Zr E (some (.int r)) I L G D S) ((S).length, jm_sl S) 1 0 [(0, .ref (E.1 + t)), (1, .int l1)] [] I L G D S
  refine j_aload_n 1 dX7_isWaived_0 rfl rfl 0 rfl ?_
  refine j_getG 4 dX7_isWaived_1 rfl ht cl7 (k := 4) (by decide) flX7_28 rfl (ly7_4 hL ht).1 ?_
  refine j_bipush (v := (16 : Int32)) 6 dX7_isWaived_4 rfl (by decide) ?_
  obtain ⟨hg, h⟩ := j_gs h
  refine j_iald 7 dX7_isWaived_6 rfl (ly7_4 hL ht).2 (j_inv hg) ?_
  refine j_iload_n 8 dX7_isWaived_7 rfl rfl 1 rfl ?_
  refine j_ishr 9 dX7_isWaived_8 rfl ?_
  refine j_iconst (v := (1 : Int32)) 10 dX7_isWaived_9 rfl (by decide) ?_
  refine j_iand 11 dX7_isWaived_10 rfl ?_
  refine j_if_eq 18 14 dX7_isWaived_11 (by decide) rfl (fun hc => ?_) (fun hc => ?_)
  · replace h := j_pos hc h
    refine j_iconst (v := (0 : Int32)) 19 dX7_isWaived_18 rfl (by decide) ?_
    cases h
    exact j_zret dX7_isWaived_19 rfl j_b01_0
  · replace h := j_neg hc h
    refine j_iconst (v := (1 : Int32)) 15 dX7_isWaived_14 rfl (by decide) ?_
    refine j_goto 19 dX7_isWaived_15 (by decide) ?_
    cases h
    exact j_zret dX7_isWaived_19 rfl j_b01_1
