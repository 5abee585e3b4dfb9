def fX3_askAbout (l1 : Int32) (I : JI) (D : JG) (S : JS) : Option (JI) :=
  j_g (j_in (9 : Int32) 14) (j_opt (D 15 6) (none) (fun b1 => j_g (decide (S[b1]? = some (1, 4))) (j_opt (D 15 7) (none) (fun b2 => j_g (decide (S[b2]? = some (0, 7))) (j_g (j_in ((((j_up I 16 (9 : Int32).toNatClampNeg (((I 1 6) >>> (l1 &&& 31)) &&& (1 : Int32))) b2 0) * (16 : Int32)) + l1) 192) (j_g (j_in (10 : Int32) 14) (j_opt (D 15 6) (none) (fun b3 => j_g (decide (S[b3]? = some (1, 4))) (j_g (j_in l1 16) (j_g (j_in (11 : Int32) 14) (j_opt (D 15 7) (none) (fun b4 => j_g (decide (S[b4]? = some (0, 7))) (j_g (j_in ((l1 * (16 : Int32)) + ((j_up (j_up (j_up I 16 (9 : Int32).toNatClampNeg (((I 1 6) >>> (l1 &&& 31)) &&& (1 : Int32))) 16 (10 : Int32).toNatClampNeg ((j_up I 16 (9 : Int32).toNatClampNeg (((I 1 6) >>> (l1 &&& 31)) &&& (1 : Int32))) (b1 + 1) ((((j_up I 16 (9 : Int32).toNatClampNeg (((I 1 6) >>> (l1 &&& 31)) &&& (1 : Int32))) b2 0) * (16 : Int32)) + l1).toNatClampNeg)) 16 (11 : Int32).toNatClampNeg ((j_up (j_up I 16 (9 : Int32).toNatClampNeg (((I 1 6) >>> (l1 &&& 31)) &&& (1 : Int32))) 16 (10 : Int32).toNatClampNeg ((j_up I 16 (9 : Int32).toNatClampNeg (((I 1 6) >>> (l1 &&& 31)) &&& (1 : Int32))) (b1 + 1) ((((j_up I 16 (9 : Int32).toNatClampNeg (((I 1 6) >>> (l1 &&& 31)) &&& (1 : Int32))) b2 0) * (16 : Int32)) + l1).toNatClampNeg)) (b3 + 3) l1.toNatClampNeg)) b4 1)) 256) (j_g (j_in (12 : Int32) 14) (some ((j_up (j_up (j_up (j_up I 16 (9 : Int32).toNatClampNeg (((I 1 6) >>> (l1 &&& 31)) &&& (1 : Int32))) 16 (10 : Int32).toNatClampNeg ((j_up I 16 (9 : Int32).toNatClampNeg (((I 1 6) >>> (l1 &&& 31)) &&& (1 : Int32))) (b1 + 1) ((((j_up I 16 (9 : Int32).toNatClampNeg (((I 1 6) >>> (l1 &&& 31)) &&& (1 : Int32))) b2 0) * (16 : Int32)) + l1).toNatClampNeg)) 16 (11 : Int32).toNatClampNeg ((j_up (j_up I 16 (9 : Int32).toNatClampNeg (((I 1 6) >>> (l1 &&& 31)) &&& (1 : Int32))) 16 (10 : Int32).toNatClampNeg ((j_up I 16 (9 : Int32).toNatClampNeg (((I 1 6) >>> (l1 &&& 31)) &&& (1 : Int32))) (b1 + 1) ((((j_up I 16 (9 : Int32).toNatClampNeg (((I 1 6) >>> (l1 &&& 31)) &&& (1 : Int32))) b2 0) * (16 : Int32)) + l1).toNatClampNeg)) (b3 + 3) l1.toNatClampNeg)) 16 (12 : Int32).toNatClampNeg ((j_up (j_up (j_up I 16 (9 : Int32).toNatClampNeg (((I 1 6) >>> (l1 &&& 31)) &&& (1 : Int32))) 16 (10 : Int32).toNatClampNeg ((j_up I 16 (9 : Int32).toNatClampNeg (((I 1 6) >>> (l1 &&& 31)) &&& (1 : Int32))) (b1 + 1) ((((j_up I 16 (9 : Int32).toNatClampNeg (((I 1 6) >>> (l1 &&& 31)) &&& (1 : Int32))) b2 0) * (16 : Int32)) + l1).toNatClampNeg)) 16 (11 : Int32).toNatClampNeg ((j_up (j_up I 16 (9 : Int32).toNatClampNeg (((I 1 6) >>> (l1 &&& 31)) &&& (1 : Int32))) 16 (10 : Int32).toNatClampNeg ((j_up I 16 (9 : Int32).toNatClampNeg (((I 1 6) >>> (l1 &&& 31)) &&& (1 : Int32))) (b1 + 1) ((((j_up I 16 (9 : Int32).toNatClampNeg (((I 1 6) >>> (l1 &&& 31)) &&& (1 : Int32))) b2 0) * (16 : Int32)) + l1).toNatClampNeg)) (b3 + 3) l1.toNatClampNeg)) 5 ((l1 * (16 : Int32)) + ((j_up (j_up (j_up I 16 (9 : Int32).toNatClampNeg (((I 1 6) >>> (l1 &&& 31)) &&& (1 : Int32))) 16 (10 : Int32).toNatClampNeg ((j_up I 16 (9 : Int32).toNatClampNeg (((I 1 6) >>> (l1 &&& 31)) &&& (1 : Int32))) (b1 + 1) ((((j_up I 16 (9 : Int32).toNatClampNeg (((I 1 6) >>> (l1 &&& 31)) &&& (1 : Int32))) b2 0) * (16 : Int32)) + l1).toNatClampNeg)) 16 (11 : Int32).toNatClampNeg ((j_up (j_up I 16 (9 : Int32).toNatClampNeg (((I 1 6) >>> (l1 &&& 31)) &&& (1 : Int32))) 16 (10 : Int32).toNatClampNeg ((j_up I 16 (9 : Int32).toNatClampNeg (((I 1 6) >>> (l1 &&& 31)) &&& (1 : Int32))) (b1 + 1) ((((j_up I 16 (9 : Int32).toNatClampNeg (((I 1 6) >>> (l1 &&& 31)) &&& (1 : Int32))) b2 0) * (16 : Int32)) + l1).toNatClampNeg)) (b3 + 3) l1.toNatClampNeg)) b4 1)).toNatClampNeg))))))))))))))))))
set_option maxHeartbeats 4000000 in
set_option maxRecDepth 100000 in
theorem tcX3_askAbout {E : JE} {l1 : Int32} {r : JI} {I : JI} {L : JL} {G D : JG} {S : JS} (hL : Lay G S) (h : fX3_askAbout l1 I D S = some r) : CallJ E xX3_askAbout 1 [.ref (E.1 + 15), .int l1] I L G D S none r L G D S := by
  unfold fX3_askAbout at h
  refine j_entry (by decide) (Nat.le_of_ble_eq_true rfl) ?_
  show AtJ E xX3_askAbout (Zr E none r L G D S) ((S).length, jm_sl S) 1 0 [(0, .ref (E.1 + 15)), (1, .int l1)] [] I L G D S
  refine j_aload_n 1 dX3_askAbout_0 rfl rfl 0 rfl ?_
  refine j_getG 4 dX3_askAbout_1 rfl (sh_15 hL) cl3 (k := 1) (by decide) flX3_9 rfl (gs_15_1 hL) ?_
  refine j_bipush (v := (9 : Int32)) 6 dX3_askAbout_4 rfl (by decide) ?_
  refine j_aload_n 7 dX3_askAbout_6 rfl rfl 0 rfl ?_
  refine j_getG 10 dX3_askAbout_7 rfl (sh_15 hL) cl3 (k := 0) (by decide) flX3_24 rfl (gs_15_0 hL) ?_
  refine j_getIN 13 dX3_askAbout_10 rfl (sh_1 hL) cl9 (k := 6) (by decide) flX3_80 rfl ?_
  refine j_iload_n 14 dX3_askAbout_13 rfl rfl 1 rfl ?_
  refine j_ishr 15 dX3_askAbout_14 rfl ?_
  refine j_iconst (v := (1 : Int32)) 16 dX3_askAbout_15 rfl (by decide) ?_
  refine j_iand 17 dX3_askAbout_16 rfl ?_
  obtain ⟨hg, h⟩ := j_gs h
  refine j_iast 18 dX3_askAbout_17 rfl (sh_16 hL) (j_inv hg) ?_
  refine j_aload_n 19 dX3_askAbout_18 rfl rfl 0 rfl ?_
  refine j_getG 22 dX3_askAbout_19 rfl (sh_15 hL) cl3 (k := 1) (by decide) flX3_9 rfl (gs_15_1 hL) ?_
  refine j_bipush (v := (10 : Int32)) 24 dX3_askAbout_22 rfl (by decide) ?_
  refine j_aload_n 25 dX3_askAbout_24 rfl rfl 0 rfl ?_
  rcases j_os h with ⟨hb, h⟩ | ⟨b1, hb, h⟩
  · refine j_getDn 28 dX3_askAbout_25 rfl (sh_15 hL) cl3 (k := 6) (by decide) flX3_28 rfl hb ?_
    cases h
  obtain ⟨hsb1, h⟩ := j_gs h
  replace hsb1 := of_decide_eq_true hsb1
  refine j_getD 28 dX3_askAbout_25 rfl (sh_15 hL) cl3 (k := 6) (by decide) flX3_28 rfl hb ?_
  refine j_getGN 31 dX3_askAbout_28 rfl hsb1 cl1 (k := 0) (by decide) flX3_83 rfl (ly1_0 hL hsb1).1 ?_
  refine j_aload_n 32 dX3_askAbout_31 rfl rfl 0 rfl ?_
  rcases j_os h with ⟨hb, h⟩ | ⟨b2, hb, h⟩
  · refine j_getDn 35 dX3_askAbout_32 rfl (sh_15 hL) cl3 (k := 7) (by decide) flX3_37 rfl hb ?_
    cases h
  obtain ⟨hsb2, h⟩ := j_gs h
  replace hsb2 := of_decide_eq_true hsb2
  refine j_getD 35 dX3_askAbout_32 rfl (sh_15 hL) cl3 (k := 7) (by decide) flX3_37 rfl hb ?_
  refine j_getIN 38 dX3_askAbout_35 rfl hsb2 cl0 (k := 0) (by decide) flX3_53 rfl ?_
  refine j_bipush (v := (16 : Int32)) 40 dX3_askAbout_38 rfl (by decide) ?_
  refine j_imul 41 dX3_askAbout_40 rfl ?_
  refine j_iload_n 42 dX3_askAbout_41 rfl rfl 1 rfl ?_
  refine j_iadd 43 dX3_askAbout_42 rfl ?_
  obtain ⟨hg, h⟩ := j_gs h
  refine j_iald 44 dX3_askAbout_43 rfl (ly1_0 hL hsb1).2 (j_inv hg) ?_
  obtain ⟨hg, h⟩ := j_gs h
  refine j_iast 45 dX3_askAbout_44 rfl (sh_16 hL) (j_inv hg) ?_
  refine j_aload_n 46 dX3_askAbout_45 rfl rfl 0 rfl ?_
  refine j_getG 49 dX3_askAbout_46 rfl (sh_15 hL) cl3 (k := 1) (by decide) flX3_9 rfl (gs_15_1 hL) ?_
  refine j_bipush (v := (11 : Int32)) 51 dX3_askAbout_49 rfl (by decide) ?_
  refine j_aload_n 52 dX3_askAbout_51 rfl rfl 0 rfl ?_
  rcases j_os h with ⟨hb, h⟩ | ⟨b3, hb, h⟩
  · refine j_getDn 55 dX3_askAbout_52 rfl (sh_15 hL) cl3 (k := 6) (by decide) flX3_28 rfl hb ?_
    cases h
  obtain ⟨hsb3, h⟩ := j_gs h
  replace hsb3 := of_decide_eq_true hsb3
  refine j_getD 55 dX3_askAbout_52 rfl (sh_15 hL) cl3 (k := 6) (by decide) flX3_28 rfl hb ?_
  refine j_getGN 58 dX3_askAbout_55 rfl hsb3 cl1 (k := 2) (by decide) flX3_68 rfl (ly1_2 hL hsb3).1 ?_
  refine j_iload_n 59 dX3_askAbout_58 rfl rfl 1 rfl ?_
  obtain ⟨hg, h⟩ := j_gs h
  refine j_iald 60 dX3_askAbout_59 rfl (ly1_2 hL hsb3).2 (j_inv hg) ?_
  obtain ⟨hg, h⟩ := j_gs h
  refine j_iast 61 dX3_askAbout_60 rfl (sh_16 hL) (j_inv hg) ?_
  refine j_aload_n 62 dX3_askAbout_61 rfl rfl 0 rfl ?_
  refine j_getG 65 dX3_askAbout_62 rfl (sh_15 hL) cl3 (k := 1) (by decide) flX3_9 rfl (gs_15_1 hL) ?_
  refine j_bipush (v := (12 : Int32)) 67 dX3_askAbout_65 rfl (by decide) ?_
  refine j_aload_n 68 dX3_askAbout_67 rfl rfl 0 rfl ?_
  refine j_getG 71 dX3_askAbout_68 rfl (sh_15 hL) cl3 (k := 0) (by decide) flX3_24 rfl (gs_15_0 hL) ?_
  refine j_getGN 74 dX3_askAbout_71 rfl (sh_1 hL) cl9 (k := 3) (by decide) flX3_86 rfl (gs_1_3 hL) ?_
  refine j_iload_n 75 dX3_askAbout_74 rfl rfl 1 rfl ?_
  refine j_bipush (v := (16 : Int32)) 77 dX3_askAbout_75 rfl (by decide) ?_
  refine j_imul 78 dX3_askAbout_77 rfl ?_
  refine j_aload_n 79 dX3_askAbout_78 rfl rfl 0 rfl ?_
  rcases j_os h with ⟨hb, h⟩ | ⟨b4, hb, h⟩
  · refine j_getDn 82 dX3_askAbout_79 rfl (sh_15 hL) cl3 (k := 7) (by decide) flX3_37 rfl hb ?_
    cases h
  obtain ⟨hsb4, h⟩ := j_gs h
  replace hsb4 := of_decide_eq_true hsb4
  refine j_getD 82 dX3_askAbout_79 rfl (sh_15 hL) cl3 (k := 7) (by decide) flX3_37 rfl hb ?_
  refine j_getIN 85 dX3_askAbout_82 rfl hsb4 cl0 (k := 1) (by decide) flX3_56 rfl ?_
  refine j_iadd 86 dX3_askAbout_85 rfl ?_
  obtain ⟨hg, h⟩ := j_gs h
  refine j_iald 87 dX3_askAbout_86 rfl (sh_5 hL) (j_inv hg) ?_
  obtain ⟨hg, h⟩ := j_gs h
  refine j_iast 88 dX3_askAbout_87 rfl (sh_16 hL) (j_inv hg) ?_
  cases h
  exact j_vret dX3_askAbout_88 rfl
def fX3_holdsForOne_80 : Nat → Int32 → Int32 → Int32 → JI → JG → JS → Option (Int32 × JI)
  | 0, _, _, _, _, _, _ => none
  | n + 1, l1, l2, l3, I, D, S =>
    if (16 : Int32) ≤ l3 then (some ((0 : Int32), I)) else (if (l2 >>> (l3 &&& 31)) = 0 then (some ((0 : Int32), I)) else (if ((l2 >>> (l3 &&& 31)) &&& (1 : Int32)) = 0 then ((fX3_holdsForOne_80 n) l1 l2 (l3 + (1 : Int32)) I D S) else ((fX3_askAbout l3 I D S).bind (fun q7 => j_opt (D 15 5) (none) (fun b8 => j_g (decide (S[b8]? = some (4, 17))) (j_g (j_in l1 18) (j_opt (D 15 5) (none) (fun b9 => j_g (decide (S[b9]? = some (4, 17))) (j_g (j_in l1 18) ((fX3_value (q7 (b8 + 7) l1.toNatClampNeg) (q7 (b9 + 8) l1.toNatClampNeg) q7 D S).bind (fun q10 => if q10.1 = 0 then ((fX3_holdsForOne_80 n) l1 l2 (l3 + (1 : Int32)) q10.2 D S) else (some ((1 : Int32), q10.2)))))))))))))
set_option maxHeartbeats 4000000 in
set_option maxRecDepth 100000 in
theorem kX3_holdsForOne_80 {E : JE} {r : Int32 × JI} {L : JL} {G : JG} {S : JS} (hL : Lay G S) : ∀ (n : Nat) (l1 : Int32) (l2 : Int32) (l3 : Int32) (I : JI) (D : JG), fX3_holdsForOne_80 n l1 l2 l3 I D S = some r → AtJ E xX3_holdsForOne (Zr E (some (.int r.1)) r.2 L G D S) ((S).length, jm_sl S) 2 80 [(0, .ref (E.1 + 15)), (1, .int l1), (2, .int l2), (3, .int l3)] [] I L G D S := by
  intro n
  induction n with
  | zero => intro l1 l2 l3 I D  h; simp [fX3_holdsForOne_80] at h
  | succ n ih =>
    intro l1 l2 l3 I D  h
    rw [fX3_holdsForOne_80] at h
    refine j_iload_n 81 dX3_holdsForOne_80 rfl rfl 3 rfl ?_
    refine j_bipush (v := (16 : Int32)) 83 dX3_holdsForOne_81 rfl (by decide) ?_
    refine j_icmp_ge 138 86 dX3_holdsForOne_83 (by decide) rfl (fun hc => ?_) (fun hc => ?_)
    · replace h := j_pos hc h
      refine j_iconst (v := (0 : Int32)) 139 dX3_holdsForOne_138 rfl (by decide) ?_
      cases h
      exact j_zret dX3_holdsForOne_139 rfl j_b01_0
    · replace h := j_neg hc h
      refine j_iload_n 87 dX3_holdsForOne_86 rfl rfl 2 rfl ?_
      refine j_iload_n 88 dX3_holdsForOne_87 rfl rfl 3 rfl ?_
      refine j_ishr 89 dX3_holdsForOne_88 rfl ?_
      refine j_if_eq 138 92 dX3_holdsForOne_89 (by decide) rfl (fun hc => ?_) (fun hc => ?_)
      · replace h := j_pos hc h
        refine j_iconst (v := (0 : Int32)) 139 dX3_holdsForOne_138 rfl (by decide) ?_
        cases h
        exact j_zret dX3_holdsForOne_139 rfl j_b01_0
      · replace h := j_neg hc h
        refine j_iload_n 93 dX3_holdsForOne_92 rfl rfl 2 rfl ?_
        refine j_iload_n 94 dX3_holdsForOne_93 rfl rfl 3 rfl ?_
        refine j_ishr 95 dX3_holdsForOne_94 rfl ?_
        refine j_iconst (v := (1 : Int32)) 96 dX3_holdsForOne_95 rfl (by decide) ?_
        refine j_iand 97 dX3_holdsForOne_96 rfl ?_
        refine j_if_eq 132 100 dX3_holdsForOne_97 (by decide) rfl (fun hc => ?_) (fun hc => ?_)
        · replace h := j_pos hc h
          refine j_iinc (v := (l3 + (1 : Int32))) (lv' := [(3, .int (l3 + (1 : Int32))), (0, .ref (E.1 + 15)), (1, .int l1), (2, .int l2)]) (q := 3) 135 dX3_holdsForOne_132 rfl rfl rfl (by decide) rfl ?_
          refine j_goto 80 dX3_holdsForOne_135 (by decide) ?_
          refine j_sub [1, 2, 3, 0] rfl ?_
          exact ih _ _ _ _ _  h
        · replace h := j_neg hc h
          refine j_aload_n 101 dX3_holdsForOne_100 rfl rfl 0 rfl ?_
          refine j_iload_n 102 dX3_holdsForOne_101 rfl rfl 3 rfl ?_
          obtain ⟨q7, hq7, h⟩ := j_bs h
          refine j_callV (rest := []) (As := [.int l3]) 105 dX3_holdsForOne_102 rfl jyX3_askAbout (tcX3_askAbout hL  hq7) (sh_15 hL) cl3 flX3_108 wm958 wm16 (by decide) rfl rfl (Nat.le_of_ble_eq_true rfl) ?_
          refine j_aload_n 106 dX3_holdsForOne_105 rfl rfl 0 rfl ?_
          refine j_aload_n 107 dX3_holdsForOne_106 rfl rfl 0 rfl ?_
          rcases j_os h with ⟨hb, h⟩ | ⟨b8, hb, h⟩
          · refine j_getDn 110 dX3_holdsForOne_107 rfl (sh_15 hL) cl3 (k := 5) (by decide) flX3_89 rfl hb ?_
            cases h
          obtain ⟨hsb8, h⟩ := j_gs h
          replace hsb8 := of_decide_eq_true hsb8
          refine j_getD 110 dX3_holdsForOne_107 rfl (sh_15 hL) cl3 (k := 5) (by decide) flX3_89 rfl hb ?_
          refine j_getGN 113 dX3_holdsForOne_110 rfl hsb8 cl4 (k := 6) (by decide) flX3_93 rfl (ly4_6 hL hsb8).1 ?_
          refine j_iload_n 114 dX3_holdsForOne_113 rfl rfl 1 rfl ?_
          obtain ⟨hg, h⟩ := j_gs h
          refine j_iald 115 dX3_holdsForOne_114 rfl (ly4_6 hL hsb8).2 (j_inv hg) ?_
          refine j_aload_n 116 dX3_holdsForOne_115 rfl rfl 0 rfl ?_
          rcases j_os h with ⟨hb, h⟩ | ⟨b9, hb, h⟩
          · refine j_getDn 119 dX3_holdsForOne_116 rfl (sh_15 hL) cl3 (k := 5) (by decide) flX3_89 rfl hb ?_
            cases h
          obtain ⟨hsb9, h⟩ := j_gs h
          replace hsb9 := of_decide_eq_true hsb9
          refine j_getD 119 dX3_holdsForOne_116 rfl (sh_15 hL) cl3 (k := 5) (by decide) flX3_89 rfl hb ?_
          refine j_getGN 122 dX3_holdsForOne_119 rfl hsb9 cl4 (k := 7) (by decide) flX3_98 rfl (ly4_7 hL hsb9).1 ?_
          refine j_iload_n 123 dX3_holdsForOne_122 rfl rfl 1 rfl ?_
          obtain ⟨hg, h⟩ := j_gs h
          refine j_iald 124 dX3_holdsForOne_123 rfl (ly4_7 hL hsb9).2 (j_inv hg) ?_
          obtain ⟨q10, hq10, h⟩ := j_bs h
          refine j_callV (rest := []) (As := [.int (q7 (b8 + 7) l1.toNatClampNeg), .int (q7 (b9 + 8) l1.toNatClampNeg)]) 127 dX3_holdsForOne_124 rfl jyX3_value (tcX3_value hL  hq10) (sh_15 hL) cl3 flX3_105 wm954 wm15 (by decide) rfl rfl (Nat.le_of_ble_eq_true rfl) ?_
          refine j_if_eq 132 130 dX3_holdsForOne_127 (by decide) rfl (fun hc => ?_) (fun hc => ?_)
          · replace h := j_pos hc h
            refine j_iinc (v := (l3 + (1 : Int32))) (lv' := [(3, .int (l3 + (1 : Int32))), (0, .ref (E.1 + 15)), (1, .int l1), (2, .int l2)]) (q := 3) 135 dX3_holdsForOne_132 rfl rfl rfl (by decide) rfl ?_
            refine j_goto 80 dX3_holdsForOne_135 (by decide) ?_
            refine j_sub [1, 2, 3, 0] rfl ?_
            exact ih _ _ _ _ _  h
          · replace h := j_neg hc h
            refine j_iconst (v := (1 : Int32)) 131 dX3_holdsForOne_130 rfl (by decide) ?_
            cases h
            exact j_zret dX3_holdsForOne_131 rfl j_b01_1
def fX3_holdsForOne (l1 : Int32) (l2 : Int32) (I : JI) (D : JG) (S : JS) : Option (Int32 × JI) :=
  if l2 = 0 then (if l2 = 0 then (some ((0 : Int32), I)) else (some ((1 : Int32), I))) else (j_opt (D 15 5) (none) (fun b1 => j_g (decide (S[b1]? = some (4, 17))) (j_g (j_in l1 18) (j_opt (D 15 5) (none) (fun b2 => j_g (decide (S[b2]? = some (4, 17))) (j_g (j_in l1 18) (if (I (b1 + 7) l1.toNatClampNeg) = (I (b2 + 8) l1.toNatClampNeg) then (if l2 = 0 then (some ((0 : Int32), I)) else (some ((1 : Int32), I))) else (j_opt (D 15 5) (none) (fun b3 => j_g (decide (S[b3]? = some (4, 17))) (j_g (j_in l1 18) (if (jm_b01 (I (b3 + 9) l1.toNatClampNeg)) = 0 then (j_opt (D 15 5) (none) (fun b4 => j_g (decide (S[b4]? = some (4, 17))) (j_g (j_in l1 18) (j_opt (D 15 5) (none) (fun b5 => j_g (decide (S[b5]? = some (4, 17))) (j_g (j_in l1 18) ((fX3_value (I (b4 + 7) l1.toNatClampNeg) (I (b5 + 8) l1.toNatClampNeg) I D S).bind (fun q6 => if q6.1 = 0 then (some ((0 : Int32), q6.2)) else (some ((1 : Int32), q6.2)))))))))) else (fX3_holdsForOne_80 100000 l1 l2 (0 : Int32) I D S))))))))))))
set_option maxHeartbeats 4000000 in
set_option maxRecDepth 100000 in
theorem tcX3_holdsForOne {E : JE} {l1 : Int32} {l2 : Int32} {r : Int32 × JI} {I : JI} {L : JL} {G D : JG} {S : JS} (hL : Lay G S) (h : fX3_holdsForOne l1 l2 I D S = some r) : CallJ E xX3_holdsForOne 2 [.ref (E.1 + 15), .int l1, .int l2] I L G D S (some (.int r.1)) r.2 L G D S := by
  unfold fX3_holdsForOne at h
  refine j_entry (by decide) (Nat.le_of_ble_eq_true rfl) ?_
  show AtJ E xX3_holdsForOne (Zr E (some (.int r.1)) r.2 L G D S) ((S).length, jm_sl S) 2 0 [(0, .ref (E.1 + 15)), (1, .int l1), (2, .int l2)] [] I L G D S
  refine j_iload_n 1 dX3_holdsForOne_0 rfl rfl 2 rfl ?_
  refine j_if_eq 25 4 dX3_holdsForOne_1 (by decide) rfl (fun hc => ?_) (fun hc => ?_)
  · replace h := j_pos hc h
    refine j_iload_n 26 dX3_holdsForOne_25 rfl rfl 2 rfl ?_
    refine j_if_eq 33 29 dX3_holdsForOne_26 (by decide) rfl (fun hc => ?_) (fun hc => ?_)
    · replace h := j_pos hc h
      refine j_iconst (v := (0 : Int32)) 34 dX3_holdsForOne_33 rfl (by decide) ?_
      cases h
      exact j_zret dX3_holdsForOne_34 rfl j_b01_0
    · replace h := j_neg hc h
      refine j_iconst (v := (1 : Int32)) 30 dX3_holdsForOne_29 rfl (by decide) ?_
      refine j_goto 34 dX3_holdsForOne_30 (by decide) ?_
      cases h
      exact j_zret dX3_holdsForOne_34 rfl j_b01_1
  · replace h := j_neg hc h
    refine j_aload_n 5 dX3_holdsForOne_4 rfl rfl 0 rfl ?_
    rcases j_os h with ⟨hb, h⟩ | ⟨b1, hb, h⟩
    · refine j_getDn 8 dX3_holdsForOne_5 rfl (sh_15 hL) cl3 (k := 5) (by decide) flX3_89 rfl hb ?_
      cases h
    obtain ⟨hsb1, h⟩ := j_gs h
    replace hsb1 := of_decide_eq_true hsb1
    refine j_getD 8 dX3_holdsForOne_5 rfl (sh_15 hL) cl3 (k := 5) (by decide) flX3_89 rfl hb ?_
    refine j_getGN 11 dX3_holdsForOne_8 rfl hsb1 cl4 (k := 6) (by decide) flX3_93 rfl (ly4_6 hL hsb1).1 ?_
    refine j_iload_n 12 dX3_holdsForOne_11 rfl rfl 1 rfl ?_
    obtain ⟨hg, h⟩ := j_gs h
    refine j_iald 13 dX3_holdsForOne_12 rfl (ly4_6 hL hsb1).2 (j_inv hg) ?_
    refine j_aload_n 14 dX3_holdsForOne_13 rfl rfl 0 rfl ?_
    rcases j_os h with ⟨hb, h⟩ | ⟨b2, hb, h⟩
    · refine j_getDn 17 dX3_holdsForOne_14 rfl (sh_15 hL) cl3 (k := 5) (by decide) flX3_89 rfl hb ?_
      cases h
    obtain ⟨hsb2, h⟩ := j_gs h
    replace hsb2 := of_decide_eq_true hsb2
    refine j_getD 17 dX3_holdsForOne_14 rfl (sh_15 hL) cl3 (k := 5) (by decide) flX3_89 rfl hb ?_
    refine j_getGN 20 dX3_holdsForOne_17 rfl hsb2 cl4 (k := 7) (by decide) flX3_98 rfl (ly4_7 hL hsb2).1 ?_
    refine j_iload_n 21 dX3_holdsForOne_20 rfl rfl 1 rfl ?_
    obtain ⟨hg, h⟩ := j_gs h
    refine j_iald 22 dX3_holdsForOne_21 rfl (ly4_7 hL hsb2).2 (j_inv hg) ?_
    refine j_icmp_ne 35 25 dX3_holdsForOne_22 (by decide) rfl (fun hc => ?_) (fun hc => ?_)
    · replace h := j_neg hc h
      refine j_aload_n 36 dX3_holdsForOne_35 rfl rfl 0 rfl ?_
      rcases j_os h with ⟨hb, h⟩ | ⟨b3, hb, h⟩
      · refine j_getDn 39 dX3_holdsForOne_36 rfl (sh_15 hL) cl3 (k := 5) (by decide) flX3_89 rfl hb ?_
        cases h
      obtain ⟨hsb3, h⟩ := j_gs h
      replace hsb3 := of_decide_eq_true hsb3
      refine j_getD 39 dX3_holdsForOne_36 rfl (sh_15 hL) cl3 (k := 5) (by decide) flX3_89 rfl hb ?_
      refine j_getGN 42 dX3_holdsForOne_39 rfl hsb3 cl4 (k := 8) (by decide) flX3_101 rfl (ly4_8 hL hsb3).1 ?_
      refine j_iload_n 43 dX3_holdsForOne_42 rfl rfl 1 rfl ?_
      obtain ⟨hg, h⟩ := j_gs h
      refine j_zald 44 dX3_holdsForOne_43 rfl (ly4_8 hL hsb3).2 (j_inv hg) ?_
      refine j_if_ne 78 47 dX3_holdsForOne_44 (by decide) rfl (fun hc => ?_) (fun hc => ?_)
      · replace h := j_neg hc h
        refine j_iconst (v := (0 : Int32)) 79 dX3_holdsForOne_78 rfl (by decide) ?_
        refine j_istore_n (lv' := [(3, .int (0 : Int32)), (0, .ref (E.1 + 15)), (1, .int l1), (2, .int l2)]) 80 dX3_holdsForOne_79 rfl rfl (by decide) rfl ?_
        refine j_sub [1, 2, 3, 0] rfl ?_
        exact kX3_holdsForOne_80 hL    100000 _ _ _ _ _  h
      · replace h := j_pos hc h
        refine j_aload_n 48 dX3_holdsForOne_47 rfl rfl 0 rfl ?_
        refine j_aload_n 49 dX3_holdsForOne_48 rfl rfl 0 rfl ?_
        rcases j_os h with ⟨hb, h⟩ | ⟨b4, hb, h⟩
        · refine j_getDn 52 dX3_holdsForOne_49 rfl (sh_15 hL) cl3 (k := 5) (by decide) flX3_89 rfl hb ?_
          cases h
        obtain ⟨hsb4, h⟩ := j_gs h
        replace hsb4 := of_decide_eq_true hsb4
        refine j_getD 52 dX3_holdsForOne_49 rfl (sh_15 hL) cl3 (k := 5) (by decide) flX3_89 rfl hb ?_
        refine j_getGN 55 dX3_holdsForOne_52 rfl hsb4 cl4 (k := 6) (by decide) flX3_93 rfl (ly4_6 hL hsb4).1 ?_
        refine j_iload_n 56 dX3_holdsForOne_55 rfl rfl 1 rfl ?_
        obtain ⟨hg, h⟩ := j_gs h
        refine j_iald 57 dX3_holdsForOne_56 rfl (ly4_6 hL hsb4).2 (j_inv hg) ?_
        refine j_aload_n 58 dX3_holdsForOne_57 rfl rfl 0 rfl ?_
        rcases j_os h with ⟨hb, h⟩ | ⟨b5, hb, h⟩
        · refine j_getDn 61 dX3_holdsForOne_58 rfl (sh_15 hL) cl3 (k := 5) (by decide) flX3_89 rfl hb ?_
          cases h
        obtain ⟨hsb5, h⟩ := j_gs h
        replace hsb5 := of_decide_eq_true hsb5
        refine j_getD 61 dX3_holdsForOne_58 rfl (sh_15 hL) cl3 (k := 5) (by decide) flX3_89 rfl hb ?_
        refine j_getGN 64 dX3_holdsForOne_61 rfl hsb5 cl4 (k := 7) (by decide) flX3_98 rfl (ly4_7 hL hsb5).1 ?_
        refine j_iload_n 65 dX3_holdsForOne_64 rfl rfl 1 rfl ?_
        obtain ⟨hg, h⟩ := j_gs h
        refine j_iald 66 dX3_holdsForOne_65 rfl (ly4_7 hL hsb5).2 (j_inv hg) ?_
        obtain ⟨q6, hq6, h⟩ := j_bs h
        refine j_callV (rest := []) (As := [.int (I (b4 + 7) l1.toNatClampNeg), .int (I (b5 + 8) l1.toNatClampNeg)]) 69 dX3_holdsForOne_66 rfl jyX3_value (tcX3_value hL  hq6) (sh_15 hL) cl3 flX3_105 wm954 wm15 (by decide) rfl rfl (Nat.le_of_ble_eq_true rfl) ?_
        refine j_if_eq 76 72 dX3_holdsForOne_69 (by decide) rfl (fun hc => ?_) (fun hc => ?_)
        · replace h := j_pos hc h
          refine j_iconst (v := (0 : Int32)) 77 dX3_holdsForOne_76 rfl (by decide) ?_
          cases h
          exact j_zret dX3_holdsForOne_77 rfl j_b01_0
        · replace h := j_neg hc h
          refine j_iconst (v := (1 : Int32)) 73 dX3_holdsForOne_72 rfl (by decide) ?_
          refine j_goto 77 dX3_holdsForOne_73 (by decide) ?_
          cases h
          exact j_zret dX3_holdsForOne_77 rfl j_b01_1
    · replace h := j_pos hc h
      refine j_iload_n 26 dX3_holdsForOne_25 rfl rfl 2 rfl ?_
      refine j_if_eq 33 29 dX3_holdsForOne_26 (by decide) rfl (fun hc => ?_) (fun hc => ?_)
      · replace h := j_pos hc h
        refine j_iconst (v := (0 : Int32)) 34 dX3_holdsForOne_33 rfl (by decide) ?_
        cases h
        exact j_zret dX3_holdsForOne_34 rfl j_b01_0
      · replace h := j_neg hc h
        refine j_iconst (v := (1 : Int32)) 30 dX3_holdsForOne_29 rfl (by decide) ?_
        refine j_goto 34 dX3_holdsForOne_30 (by decide) ?_
        cases h
        exact j_zret dX3_holdsForOne_34 rfl j_b01_1
def fX3_openSets_186 : Nat → Int64 → Int32 → Int64 → Int32 → JI → JL → JG → JS → Option (Int64 × JI)
  | 0, _, _, _, _, _, _, _, _ => none
  | n + 1, l1, l4, l6, l10, I, L, D, S =>
    j_opt (D 15 5) (none) (fun b12 => j_g (decide (S[b12]? = some (4, 17))) (if (I b12 11) ≤ l10 then (some ((l1 &&& (l6 ^^^ (-1 : Int64))), I)) else (if (lg_cmp l6 (0 : Int64)) = 0 then (some ((l1 &&& (l6 ^^^ (-1 : Int64))), I)) else (j_opt (D 15 5) (none) (fun b13 => j_g (decide (S[b13]? = some (4, 17))) (j_g (j_in l10 18) (if (jm_b01 (I (b13 + 1) l10.toNatClampNeg)) = 0 then (j_opt (D 15 5) (none) (fun b14 => j_g (decide (S[b14]? = some (4, 17))) (j_g (j_in l10 18) (if (lg_cmp (l6 &&& (L (b14 + 2) l10.toNatClampNeg)) (0 : Int64)) = 0 then ((fX3_openSets_186 n) l1 l4 l6 (l10 + (1 : Int32)) I L D S) else ((fX3_holdsForOne l10 l4 I D S).bind (fun q15 => if q15.1 = 0 then ((fX3_openSets_186 n) l1 l4 l6 (l10 + (1 : Int32)) q15.2 L D S) else (j_opt (D 15 5) (none) (fun b16 => j_g (decide (S[b16]? = some (4, 17))) (j_g (j_in l10 18) ((fX3_openSets_186 n) l1 l4 (l6 &&& ((L (b16 + 2) l10.toNatClampNeg) ^^^ (-1 : Int64))) (l10 + (1 : Int32)) q15.2 L D S)))))))))) else ((fX3_openSets_186 n) l1 l4 l6 (l10 + (1 : Int32)) I L D S))))))))
set_option maxHeartbeats 4000000 in
set_option maxRecDepth 100000 in
theorem kX3_openSets_186 {E : JE} {r : Int64 × JI} {G : JG} {S : JS} (hL : Lay G S) : ∀ (n : Nat) (l1 : Int64) (l4 : Int32) (l6 : Int64) (l10 : Int32) (I : JI) (L : JL) (D : JG), fX3_openSets_186 n l1 l4 l6 l10 I L D S = some r → AtJ E xX3_openSets (Zr E (some (.long r.1)) r.2 L G D S) ((S).length, jm_sl S) 3 186 [(0, .ref (E.1 + 15)), (1, .long l1), (4, .int l4), (6, .long l6), (10, .int l10)] [] I L G D S := by
  intro n
  induction n with
  | zero => intro l1 l4 l6 l10 I L D  h; simp [fX3_openSets_186] at h
  | succ n ih =>
    intro l1 l4 l6 l10 I L D  h
    rw [fX3_openSets_186] at h
    refine j_iload 188 dX3_openSets_186 rfl 4 rfl ?_
    refine j_aload_n 189 dX3_openSets_188 rfl rfl 0 rfl ?_
    rcases j_os h with ⟨hb, h⟩ | ⟨b12, hb, h⟩
    · refine j_getDn 192 dX3_openSets_189 rfl (sh_15 hL) cl3 (k := 5) (by decide) flX3_89 rfl hb ?_
      cases h
    obtain ⟨hsb12, h⟩ := j_gs h
    replace hsb12 := of_decide_eq_true hsb12
    refine j_getD 192 dX3_openSets_189 rfl (sh_15 hL) cl3 (k := 5) (by decide) flX3_89 rfl hb ?_
    refine j_getIN 195 dX3_openSets_192 rfl hsb12 cl4 (k := 11) (by decide) flX3_127 rfl ?_
    refine j_icmp_ge 272 198 dX3_openSets_195 (by decide) rfl (fun hc => ?_) (fun hc => ?_)
    · replace h := j_pos hc h
      refine j_lload_n 273 dX3_openSets_272 rfl rfl 1 rfl ?_
      refine j_lload 275 dX3_openSets_273 rfl 3 rfl ?_
      refine j_ldc2 (v := (-1 : Int64)) 278 dX3_openSets_275 rfl wm947 ?_
      refine j_lxor 279 dX3_openSets_278 rfl ?_
      refine j_land 280 dX3_openSets_279 rfl ?_
      cases h
      exact j_lret dX3_openSets_280 rfl
    · replace h := j_neg hc h
      refine j_lload 200 dX3_openSets_198 rfl 3 rfl ?_
      refine j_lconst (v := (0 : Int64)) 201 dX3_openSets_200 rfl (by decide) ?_
      refine j_lcmp 202 dX3_openSets_201 rfl ?_
      refine j_if_eq 272 205 dX3_openSets_202 (by decide) rfl (fun hc => ?_) (fun hc => ?_)
      · replace h := j_pos hc h
        refine j_lload_n 273 dX3_openSets_272 rfl rfl 1 rfl ?_
        refine j_lload 275 dX3_openSets_273 rfl 3 rfl ?_
        refine j_ldc2 (v := (-1 : Int64)) 278 dX3_openSets_275 rfl wm947 ?_
        refine j_lxor 279 dX3_openSets_278 rfl ?_
        refine j_land 280 dX3_openSets_279 rfl ?_
        cases h
        exact j_lret dX3_openSets_280 rfl
      · replace h := j_neg hc h
        refine j_aload_n 206 dX3_openSets_205 rfl rfl 0 rfl ?_
        rcases j_os h with ⟨hb, h⟩ | ⟨b13, hb, h⟩
        · refine j_getDn 209 dX3_openSets_206 rfl (sh_15 hL) cl3 (k := 5) (by decide) flX3_89 rfl hb ?_
          cases h
        obtain ⟨hsb13, h⟩ := j_gs h
        replace hsb13 := of_decide_eq_true hsb13
        refine j_getD 209 dX3_openSets_206 rfl (sh_15 hL) cl3 (k := 5) (by decide) flX3_89 rfl hb ?_
        refine j_getGN 212 dX3_openSets_209 rfl hsb13 cl4 (k := 0) (by decide) flX3_130 rfl (ly4_0 hL hsb13).1 ?_
        refine j_iload 214 dX3_openSets_212 rfl 4 rfl ?_
        obtain ⟨hg, h⟩ := j_gs h
        refine j_zald 215 dX3_openSets_214 rfl (ly4_0 hL hsb13).2 (j_inv hg) ?_
        refine j_if_ne 266 218 dX3_openSets_215 (by decide) rfl (fun hc => ?_) (fun hc => ?_)
        · replace h := j_neg hc h
          refine j_iinc (v := (l10 + (1 : Int32))) (lv' := [(10, .int (l10 + (1 : Int32))), (0, .ref (E.1 + 15)), (1, .long l1), (4, .int l4), (6, .long l6)]) (q := 4) 269 dX3_openSets_266 rfl rfl rfl (by decide) rfl ?_
          refine j_goto 186 dX3_openSets_269 (by decide) ?_
          refine j_sub [1, 2, 3, 4, 0] rfl ?_
          exact ih _ _ _ _ _ _ _  h
        · replace h := j_pos hc h
          refine j_lload 220 dX3_openSets_218 rfl 3 rfl ?_
          refine j_aload_n 221 dX3_openSets_220 rfl rfl 0 rfl ?_
          rcases j_os h with ⟨hb, h⟩ | ⟨b14, hb, h⟩
          · refine j_getDn 224 dX3_openSets_221 rfl (sh_15 hL) cl3 (k := 5) (by decide) flX3_89 rfl hb ?_
            cases h
          obtain ⟨hsb14, h⟩ := j_gs h
          replace hsb14 := of_decide_eq_true hsb14
          refine j_getD 224 dX3_openSets_221 rfl (sh_15 hL) cl3 (k := 5) (by decide) flX3_89 rfl hb ?_
          refine j_getGN 227 dX3_openSets_224 rfl hsb14 cl4 (k := 1) (by decide) flX3_133 rfl (ly4_1 hL hsb14).1 ?_
          refine j_iload 229 dX3_openSets_227 rfl 4 rfl ?_
          obtain ⟨hg, h⟩ := j_gs h
          refine j_lald 230 dX3_openSets_229 rfl (ly4_1 hL hsb14).2 (j_inv hg) ?_
          refine j_land 231 dX3_openSets_230 rfl ?_
          refine j_lconst (v := (0 : Int64)) 232 dX3_openSets_231 rfl (by decide) ?_
          refine j_lcmp 233 dX3_openSets_232 rfl ?_
          refine j_if_eq 266 236 dX3_openSets_233 (by decide) rfl (fun hc => ?_) (fun hc => ?_)
          · replace h := j_pos hc h
            refine j_iinc (v := (l10 + (1 : Int32))) (lv' := [(10, .int (l10 + (1 : Int32))), (0, .ref (E.1 + 15)), (1, .long l1), (4, .int l4), (6, .long l6)]) (q := 4) 269 dX3_openSets_266 rfl rfl rfl (by decide) rfl ?_
            refine j_goto 186 dX3_openSets_269 (by decide) ?_
            refine j_sub [1, 2, 3, 4, 0] rfl ?_
            exact ih _ _ _ _ _ _ _  h
          · replace h := j_neg hc h
            refine j_aload_n 237 dX3_openSets_236 rfl rfl 0 rfl ?_
            refine j_iload 239 dX3_openSets_237 rfl 4 rfl ?_
            refine j_iload 241 dX3_openSets_239 rfl 2 rfl ?_
            obtain ⟨q15, hq15, h⟩ := j_bs h
            refine j_callV (rest := []) (As := [.int l10, .int l4]) 244 dX3_openSets_241 rfl jyX3_holdsForOne (tcX3_holdsForOne hL  hq15) (sh_15 hL) cl3 flX3_139 wm950 wm14 (by decide) rfl rfl (Nat.le_of_ble_eq_true rfl) ?_
            refine j_if_eq 266 247 dX3_openSets_244 (by decide) rfl (fun hc => ?_) (fun hc => ?_)
            · replace h := j_pos hc h
              refine j_iinc (v := (l10 + (1 : Int32))) (lv' := [(10, .int (l10 + (1 : Int32))), (0, .ref (E.1 + 15)), (1, .long l1), (4, .int l4), (6, .long l6)]) (q := 4) 269 dX3_openSets_266 rfl rfl rfl (by decide) rfl ?_
              refine j_goto 186 dX3_openSets_269 (by decide) ?_
              refine j_sub [1, 2, 3, 4, 0] rfl ?_
              exact ih _ _ _ _ _ _ _  h
            · replace h := j_neg hc h
              refine j_lload 249 dX3_openSets_247 rfl 3 rfl ?_
              refine j_aload_n 250 dX3_openSets_249 rfl rfl 0 rfl ?_
              rcases j_os h with ⟨hb, h⟩ | ⟨b16, hb, h⟩
              · refine j_getDn 253 dX3_openSets_250 rfl (sh_15 hL) cl3 (k := 5) (by decide) flX3_89 rfl hb ?_
                cases h
              obtain ⟨hsb16, h⟩ := j_gs h
              replace hsb16 := of_decide_eq_true hsb16
              refine j_getD 253 dX3_openSets_250 rfl (sh_15 hL) cl3 (k := 5) (by decide) flX3_89 rfl hb ?_
              refine j_getGN 256 dX3_openSets_253 rfl hsb16 cl4 (k := 1) (by decide) flX3_133 rfl (ly4_1 hL hsb16).1 ?_
              refine j_iload 258 dX3_openSets_256 rfl 4 rfl ?_
              obtain ⟨hg, h⟩ := j_gs h
              refine j_lald 259 dX3_openSets_258 rfl (ly4_1 hL hsb16).2 (j_inv hg) ?_
              refine j_ldc2 (v := (-1 : Int64)) 262 dX3_openSets_259 rfl wm947 ?_
              refine j_lxor 263 dX3_openSets_262 rfl ?_
              refine j_land 264 dX3_openSets_263 rfl ?_
              refine j_lstore (lv' := [(6, .long (l6 &&& ((L (b16 + 2) l10.toNatClampNeg) ^^^ (-1 : Int64)))), (0, .ref (E.1 + 15)), (1, .long l1), (4, .int l4), (10, .int l10)]) 266 dX3_openSets_264 rfl (by decide) rfl ?_
              refine j_iinc (v := (l10 + (1 : Int32))) (lv' := [(10, .int (l10 + (1 : Int32))), (6, .long (l6 &&& ((L (b16 + 2) l10.toNatClampNeg) ^^^ (-1 : Int64)))), (0, .ref (E.1 + 15)), (1, .long l1), (4, .int l4)]) (q := 4) 269 dX3_openSets_266 rfl rfl rfl (by decide) rfl ?_
              refine j_goto 186 dX3_openSets_269 (by decide) ?_
              refine j_sub [2, 3, 4, 1, 0] rfl ?_
              exact ih _ _ _ _ _ _ _  h
def fX3_openSets_183 (l1 : Int64) (l4 : Int32) (l6 : Int64) (I : JI) (L : JL) (D : JG) (S : JS) : Option (Int64 × JI) :=
  fX3_openSets_186 100000 l1 l4 l6 (0 : Int32) I L D S
set_option maxHeartbeats 4000000 in
set_option maxRecDepth 100000 in
theorem kX3_openSets_183 {E : JE} {r : Int64 × JI} {G : JG} {S : JS} (hL : Lay G S) : ∀ (l1 : Int64) (l4 : Int32) (l6 : Int64) (I : JI) (L : JL) (D : JG), fX3_openSets_183 l1 l4 l6 I L D S = some r → AtJ E xX3_openSets (Zr E (some (.long r.1)) r.2 L G D S) ((S).length, jm_sl S) 3 183 [(0, .ref (E.1 + 15)), (1, .long l1), (4, .int l4), (6, .long l6)] [] I L G D S := by
  intro l1 l4 l6 I L D  h
  unfold fX3_openSets_183 at h
  refine j_iconst (v := (0 : Int32)) 184 dX3_openSets_183 rfl (by decide) ?_
  refine j_istore (lv' := [(10, .int (0 : Int32)), (0, .ref (E.1 + 15)), (1, .long l1), (4, .int l4), (6, .long l6)]) 186 dX3_openSets_184 rfl (by decide) rfl ?_
  refine j_sub [1, 2, 3, 4, 0] rfl ?_
  exact kX3_openSets_186 hL    100000 _ _ _ _ _ _ _  h
def fX3_openSets_40 : Nat → Int64 → Int32 → Int32 → Int64 → Int64 → Int32 → JI → JL → JG → JS → Option (Int64 × JI)
  | 0, _, _, _, _, _, _, _, _, _, _ => none
  | n + 1, l1, l4, l5, l6, l8, l10, I, L, D, S =>
    j_opt (D 15 5) (none) (fun b3 => j_g (decide (S[b3]? = some (4, 17))) (if (I b3 11) ≤ l10 then (fX3_openSets_183 l1 l4 l6 I L D S) else (if (lg_cmp l8 (0 : Int64)) = 0 then (fX3_openSets_183 l1 l4 l6 I L D S) else (j_opt (D 15 5) (none) (fun b4 => j_g (decide (S[b4]? = some (4, 17))) (j_g (j_in l10 18) (if (lg_cmp (l8 &&& (L (b4 + 2) l10.toNatClampNeg)) (0 : Int64)) = 0 then ((fX3_openSets_40 n) l1 l4 l5 l6 l8 (l10 + (1 : Int32)) I L D S) else (j_opt (D 15 5) (j_opt (D 15 7) (none) (fun b6 => j_g (decide (S[b6]? = some (0, 7))) (none))) (fun b5 => j_g (decide (S[b5]? = some (4, 17))) (j_opt (D 15 7) (none) (fun b7 => j_g (decide (S[b7]? = some (0, 7))) ((fX4_isFirstOn b5 l10 (I b7 4) I).bind (fun q8 => if q8 = 0 then ((fX3_openSets_40 n) l1 l4 l5 l6 l8 (l10 + (1 : Int32)) I L D S) else (j_opt (D 15 5) (none) (fun b9 => j_g (decide (S[b9]? = some (4, 17))) (j_g (j_in l10 18) (j_g (j_in (I (b9 + 4) l10.toNatClampNeg) 4) ((fX3_holdsForOne l10 ((I 18 (I (b9 + 4) l10.toNatClampNeg).toNatClampNeg) &&& l4) I D S).bind (fun q10 => if q10.1 = 0 then ((fX3_holdsForOne l10 ((I 18 (I (b9 + 4) l10.toNatClampNeg).toNatClampNeg) &&& l5) q10.2 D S).bind (fun q11 => if q11.1 = 0 then ((fX3_openSets_40 n) l1 l4 l5 l6 l8 (l10 + (1 : Int32)) q11.2 L D S) else ((fX3_openSets_40 n) l1 l4 l5 (l6 ||| (l8 &&& (L (b4 + 2) l10.toNatClampNeg))) (l8 &&& ((l8 &&& (L (b4 + 2) l10.toNatClampNeg)) ^^^ (-1 : Int64))) (l10 + (1 : Int32)) q11.2 L D S))) else ((fX3_openSets_40 n) l1 l4 l5 l6 (l8 &&& ((l8 &&& (L (b4 + 2) l10.toNatClampNeg)) ^^^ (-1 : Int64))) (l10 + (1 : Int32)) q10.2 L D S))))))))))))))))))))
set_option maxHeartbeats 4000000 in
set_option maxRecDepth 100000 in
theorem kX3_openSets_40 {E : JE} {r : Int64 × JI} {G : JG} {S : JS} (hL : Lay G S) : ∀ (n : Nat) (l1 : Int64) (l4 : Int32) (l5 : Int32) (l6 : Int64) (l8 : Int64) (l10 : Int32) (I : JI) (L : JL) (D : JG), fX3_openSets_40 n l1 l4 l5 l6 l8 l10 I L D S = some r → AtJ E xX3_openSets (Zr E (some (.long r.1)) r.2 L G D S) ((S).length, jm_sl S) 3 40 [(0, .ref (E.1 + 15)), (1, .long l1), (4, .int l4), (5, .int l5), (6, .long l6), (8, .long l8), (10, .int l10)] [] I L G D S := by
  intro n
  induction n with
  | zero => intro l1 l4 l5 l6 l8 l10 I L D  h; simp [fX3_openSets_40] at h
  | succ n ih =>
    intro l1 l4 l5 l6 l8 l10 I L D  h
    rw [fX3_openSets_40] at h
    refine j_iload 42 dX3_openSets_40 rfl 6 rfl ?_
    refine j_aload_n 43 dX3_openSets_42 rfl rfl 0 rfl ?_
    rcases j_os h with ⟨hb, h⟩ | ⟨b3, hb, h⟩
    · refine j_getDn 46 dX3_openSets_43 rfl (sh_15 hL) cl3 (k := 5) (by decide) flX3_89 rfl hb ?_
      cases h
    obtain ⟨hsb3, h⟩ := j_gs h
    replace hsb3 := of_decide_eq_true hsb3
    refine j_getD 46 dX3_openSets_43 rfl (sh_15 hL) cl3 (k := 5) (by decide) flX3_89 rfl hb ?_
    refine j_getIN 49 dX3_openSets_46 rfl hsb3 cl4 (k := 11) (by decide) flX3_127 rfl ?_
    refine j_icmp_ge 183 52 dX3_openSets_49 (by decide) rfl (fun hc => ?_) (fun hc => ?_)
    · replace h := j_pos hc h
      refine j_sub [0, 1, 2, 4] rfl ?_
      exact kX3_openSets_183 hL    _ _ _ _ _ _  h
    · replace h := j_neg hc h
      refine j_lload 54 dX3_openSets_52 rfl 5 rfl ?_
      refine j_lconst (v := (0 : Int64)) 55 dX3_openSets_54 rfl (by decide) ?_
      refine j_lcmp 56 dX3_openSets_55 rfl ?_
      refine j_if_eq 183 59 dX3_openSets_56 (by decide) rfl (fun hc => ?_) (fun hc => ?_)
      · replace h := j_pos hc h
        refine j_sub [0, 1, 2, 4] rfl ?_
        exact kX3_openSets_183 hL    _ _ _ _ _ _  h
      · replace h := j_neg hc h
        refine j_lload 61 dX3_openSets_59 rfl 5 rfl ?_
        refine j_aload_n 62 dX3_openSets_61 rfl rfl 0 rfl ?_
        rcases j_os h with ⟨hb, h⟩ | ⟨b4, hb, h⟩
        · refine j_getDn 65 dX3_openSets_62 rfl (sh_15 hL) cl3 (k := 5) (by decide) flX3_89 rfl hb ?_
          cases h
        obtain ⟨hsb4, h⟩ := j_gs h
        replace hsb4 := of_decide_eq_true hsb4
        refine j_getD 65 dX3_openSets_62 rfl (sh_15 hL) cl3 (k := 5) (by decide) flX3_89 rfl hb ?_
        refine j_getGN 68 dX3_openSets_65 rfl hsb4 cl4 (k := 1) (by decide) flX3_133 rfl (ly4_1 hL hsb4).1 ?_
        refine j_iload 70 dX3_openSets_68 rfl 6 rfl ?_
        obtain ⟨hg, h⟩ := j_gs h
        refine j_lald 71 dX3_openSets_70 rfl (ly4_1 hL hsb4).2 (j_inv hg) ?_
        refine j_land 72 dX3_openSets_71 rfl ?_
        refine j_lstore (lv' := [(11, .long (l8 &&& (L (b4 + 2) l10.toNatClampNeg))), (0, .ref (E.1 + 15)), (1, .long l1), (4, .int l4), (5, .int l5), (6, .long l6), (8, .long l8), (10, .int l10)]) 74 dX3_openSets_72 rfl (by decide) rfl ?_
        refine j_lload 76 dX3_openSets_74 rfl 0 rfl ?_
        refine j_lconst (v := (0 : Int64)) 77 dX3_openSets_76 rfl (by decide) ?_
        refine j_lcmp 78 dX3_openSets_77 rfl ?_
        refine j_if_eq 177 81 dX3_openSets_78 (by decide) rfl (fun hc => ?_) (fun hc => ?_)
        · replace h := j_pos hc h
          refine j_iinc (v := (l10 + (1 : Int32))) (lv' := [(10, .int (l10 + (1 : Int32))), (11, .long (l8 &&& (L (b4 + 2) l10.toNatClampNeg))), (0, .ref (E.1 + 15)), (1, .long l1), (4, .int l4), (5, .int l5), (6, .long l6), (8, .long l8)]) (q := 7) 180 dX3_openSets_177 rfl rfl rfl (by decide) rfl ?_
          refine j_goto 40 dX3_openSets_180 (by decide) ?_
          refine j_sub [2, 3, 4, 5, 6, 7, 0] rfl ?_
          exact ih _ _ _ _ _ _ _ _ _  h
        · replace h := j_neg hc h
          refine j_aload_n 82 dX3_openSets_81 rfl rfl 1 rfl ?_
          rcases j_os h with ⟨hb, h⟩ | ⟨b5, hb, h⟩
          · refine j_getDn 85 dX3_openSets_82 rfl (sh_15 hL) cl3 (k := 5) (by decide) flX3_89 rfl hb ?_
            refine j_iload 87 dX3_openSets_85 rfl 7 rfl ?_
            refine j_aload_n 88 dX3_openSets_87 rfl rfl 1 rfl ?_
            rcases j_os h with ⟨hb, h⟩ | ⟨b6, hb, h⟩
            · refine j_getDn 91 dX3_openSets_88 rfl (sh_15 hL) cl3 (k := 7) (by decide) flX3_37 rfl hb ?_
              cases h
            obtain ⟨hsb6, h⟩ := j_gs h
            replace hsb6 := of_decide_eq_true hsb6
            refine j_getD 91 dX3_openSets_88 rfl (sh_15 hL) cl3 (k := 7) (by decide) flX3_37 rfl hb ?_
            refine j_getIN 94 dX3_openSets_91 rfl hsb6 cl0 (k := 4) (by decide) flX3_74 rfl ?_
            cases h
          obtain ⟨hsb5, h⟩ := j_gs h
          replace hsb5 := of_decide_eq_true hsb5
          refine j_getD 85 dX3_openSets_82 rfl (sh_15 hL) cl3 (k := 5) (by decide) flX3_89 rfl hb ?_
          refine j_iload 87 dX3_openSets_85 rfl 7 rfl ?_
          refine j_aload_n 88 dX3_openSets_87 rfl rfl 1 rfl ?_
          rcases j_os h with ⟨hb, h⟩ | ⟨b7, hb, h⟩
          · refine j_getDn 91 dX3_openSets_88 rfl (sh_15 hL) cl3 (k := 7) (by decide) flX3_37 rfl hb ?_
            cases h
          obtain ⟨hsb7, h⟩ := j_gs h
          replace hsb7 := of_decide_eq_true hsb7
          refine j_getD 91 dX3_openSets_88 rfl (sh_15 hL) cl3 (k := 7) (by decide) flX3_37 rfl hb ?_
          refine j_getIN 94 dX3_openSets_91 rfl hsb7 cl0 (k := 4) (by decide) flX3_74 rfl ?_
          obtain ⟨q8, hq8, h⟩ := j_bs h
          refine j_callV (rest := []) (As := [.int l10, .int (I b7 4)]) 97 dX3_openSets_94 rfl jyX4_isFirstOn (tcX4_isFirstOn hL hsb5 hq8) hsb5 cl4 flX3_153 wm965 wm966 (by decide) rfl rfl (Nat.le_of_ble_eq_true rfl) ?_
          refine j_if_eq 177 100 dX3_openSets_97 (by decide) rfl (fun hc => ?_) (fun hc => ?_)
          · replace h := j_pos hc h
            refine j_iinc (v := (l10 + (1 : Int32))) (lv' := [(10, .int (l10 + (1 : Int32))), (11, .long (l8 &&& (L (b4 + 2) l10.toNatClampNeg))), (0, .ref (E.1 + 15)), (1, .long l1), (4, .int l4), (5, .int l5), (6, .long l6), (8, .long l8)]) (q := 7) 180 dX3_openSets_177 rfl rfl rfl (by decide) rfl ?_
            refine j_goto 40 dX3_openSets_180 (by decide) ?_
            refine j_sub [2, 3, 4, 5, 6, 7, 0] rfl ?_
            exact ih _ _ _ _ _ _ _ _ _  h
          · replace h := j_neg hc h
            refine j_aload_n 101 dX3_openSets_100 rfl rfl 1 rfl ?_
            refine j_getG 104 dX3_openSets_101 rfl (sh_15 hL) cl3 (k := 3) (by decide) flX3_18 rfl (gs_15_3 hL) ?_
            refine j_aload_n 105 dX3_openSets_104 rfl rfl 1 rfl ?_
            rcases j_os h with ⟨hb, h⟩ | ⟨b9, hb, h⟩
            · refine j_getDn 108 dX3_openSets_105 rfl (sh_15 hL) cl3 (k := 5) (by decide) flX3_89 rfl hb ?_
              cases h
            obtain ⟨hsb9, h⟩ := j_gs h
            replace hsb9 := of_decide_eq_true hsb9
            refine j_getD 108 dX3_openSets_105 rfl (sh_15 hL) cl3 (k := 5) (by decide) flX3_89 rfl hb ?_
            refine j_getGN 111 dX3_openSets_108 rfl hsb9 cl4 (k := 3) (by decide) flX3_156 rfl (ly4_3 hL hsb9).1 ?_
            refine j_iload 113 dX3_openSets_111 rfl 7 rfl ?_
            obtain ⟨hg, h⟩ := j_gs h
            refine j_iald 114 dX3_openSets_113 rfl (ly4_3 hL hsb9).2 (j_inv hg) ?_
            obtain ⟨hg, h⟩ := j_gs h
            refine j_iald 115 dX3_openSets_114 rfl (sh_18 hL) (j_inv hg) ?_
            refine j_istore (lv' := [(13, .int (I 18 (I (b9 + 4) l10.toNatClampNeg).toNatClampNeg)), (11, .long (l8 &&& (L (b4 + 2) l10.toNatClampNeg))), (0, .ref (E.1 + 15)), (1, .long l1), (4, .int l4), (5, .int l5), (6, .long l6), (8, .long l8), (10, .int l10)]) 117 dX3_openSets_115 rfl (by decide) rfl ?_
            refine j_aload_n 118 dX3_openSets_117 rfl rfl 2 rfl ?_
            refine j_iload 120 dX3_openSets_118 rfl 8 rfl ?_
            refine j_iload 122 dX3_openSets_120 rfl 0 rfl ?_
            refine j_iload 124 dX3_openSets_122 rfl 4 rfl ?_
            refine j_iand 125 dX3_openSets_124 rfl ?_
            obtain ⟨q10, hq10, h⟩ := j_bs h
            refine j_callV (rest := []) (As := [.int l10, .int ((I 18 (I (b9 + 4) l10.toNatClampNeg).toNatClampNeg) &&& l4)]) 128 dX3_openSets_125 rfl jyX3_holdsForOne (tcX3_holdsForOne hL  hq10) (sh_15 hL) cl3 flX3_139 wm950 wm14 (by decide) rfl rfl (Nat.le_of_ble_eq_true rfl) ?_
            refine j_if_eq 145 131 dX3_openSets_128 (by decide) rfl (fun hc => ?_) (fun hc => ?_)
            · replace h := j_pos hc h
              refine j_aload_n 146 dX3_openSets_145 rfl rfl 2 rfl ?_
              refine j_iload 148 dX3_openSets_146 rfl 8 rfl ?_
              refine j_iload 150 dX3_openSets_148 rfl 0 rfl ?_
              refine j_iload 152 dX3_openSets_150 rfl 5 rfl ?_
              refine j_iand 153 dX3_openSets_152 rfl ?_
              obtain ⟨q11, hq11, h⟩ := j_bs h
              refine j_callV (rest := []) (As := [.int l10, .int ((I 18 (I (b9 + 4) l10.toNatClampNeg).toNatClampNeg) &&& l5)]) 156 dX3_openSets_153 rfl jyX3_holdsForOne (tcX3_holdsForOne hL  hq11) (sh_15 hL) cl3 flX3_139 wm950 wm14 (by decide) rfl rfl (Nat.le_of_ble_eq_true rfl) ?_
              refine j_if_eq 177 159 dX3_openSets_156 (by decide) rfl (fun hc => ?_) (fun hc => ?_)
              · replace h := j_pos hc h
                refine j_iinc (v := (l10 + (1 : Int32))) (lv' := [(10, .int (l10 + (1 : Int32))), (13, .int (I 18 (I (b9 + 4) l10.toNatClampNeg).toNatClampNeg)), (11, .long (l8 &&& (L (b4 + 2) l10.toNatClampNeg))), (0, .ref (E.1 + 15)), (1, .long l1), (4, .int l4), (5, .int l5), (6, .long l6), (8, .long l8)]) (q := 8) 180 dX3_openSets_177 rfl rfl rfl (by decide) rfl ?_
                refine j_goto 40 dX3_openSets_180 (by decide) ?_
                refine j_sub [3, 4, 5, 6, 7, 8, 0] rfl ?_
                exact ih _ _ _ _ _ _ _ _ _  h
              · replace h := j_neg hc h
                refine j_lload 161 dX3_openSets_159 rfl 7 rfl ?_
                refine j_lload 163 dX3_openSets_161 rfl 1 rfl ?_
                refine j_ldc2 (v := (-1 : Int64)) 166 dX3_openSets_163 rfl wm947 ?_
                refine j_lxor 167 dX3_openSets_166 rfl ?_
                refine j_land 168 dX3_openSets_167 rfl ?_
                refine j_lstore (lv' := [(8, .long (l8 &&& ((l8 &&& (L (b4 + 2) l10.toNatClampNeg)) ^^^ (-1 : Int64)))), (13, .int (I 18 (I (b9 + 4) l10.toNatClampNeg).toNatClampNeg)), (11, .long (l8 &&& (L (b4 + 2) l10.toNatClampNeg))), (0, .ref (E.1 + 15)), (1, .long l1), (4, .int l4), (5, .int l5), (6, .long l6), (10, .int l10)]) 170 dX3_openSets_168 rfl (by decide) rfl ?_
                refine j_lload 172 dX3_openSets_170 rfl 7 rfl ?_
                refine j_lload 174 dX3_openSets_172 rfl 2 rfl ?_
                refine j_lor 175 dX3_openSets_174 rfl ?_
                refine j_lstore (lv' := [(6, .long (l6 ||| (l8 &&& (L (b4 + 2) l10.toNatClampNeg)))), (8, .long (l8 &&& ((l8 &&& (L (b4 + 2) l10.toNatClampNeg)) ^^^ (-1 : Int64)))), (13, .int (I 18 (I (b9 + 4) l10.toNatClampNeg).toNatClampNeg)), (11, .long (l8 &&& (L (b4 + 2) l10.toNatClampNeg))), (0, .ref (E.1 + 15)), (1, .long l1), (4, .int l4), (5, .int l5), (10, .int l10)]) 177 dX3_openSets_175 rfl (by decide) rfl ?_
                refine j_iinc (v := (l10 + (1 : Int32))) (lv' := [(10, .int (l10 + (1 : Int32))), (6, .long (l6 ||| (l8 &&& (L (b4 + 2) l10.toNatClampNeg)))), (8, .long (l8 &&& ((l8 &&& (L (b4 + 2) l10.toNatClampNeg)) ^^^ (-1 : Int64)))), (13, .int (I 18 (I (b9 + 4) l10.toNatClampNeg).toNatClampNeg)), (11, .long (l8 &&& (L (b4 + 2) l10.toNatClampNeg))), (0, .ref (E.1 + 15)), (1, .long l1), (4, .int l4), (5, .int l5)]) (q := 8) 180 dX3_openSets_177 rfl rfl rfl (by decide) rfl ?_
                refine j_goto 40 dX3_openSets_180 (by decide) ?_
                refine j_sub [5, 6, 7, 8, 1, 2, 0] rfl ?_
                exact ih _ _ _ _ _ _ _ _ _  h
            · replace h := j_neg hc h
              refine j_lload 133 dX3_openSets_131 rfl 7 rfl ?_
              refine j_lload 135 dX3_openSets_133 rfl 1 rfl ?_
              refine j_ldc2 (v := (-1 : Int64)) 138 dX3_openSets_135 rfl wm947 ?_
              refine j_lxor 139 dX3_openSets_138 rfl ?_
              refine j_land 140 dX3_openSets_139 rfl ?_
              refine j_lstore (lv' := [(8, .long (l8 &&& ((l8 &&& (L (b4 + 2) l10.toNatClampNeg)) ^^^ (-1 : Int64)))), (13, .int (I 18 (I (b9 + 4) l10.toNatClampNeg).toNatClampNeg)), (11, .long (l8 &&& (L (b4 + 2) l10.toNatClampNeg))), (0, .ref (E.1 + 15)), (1, .long l1), (4, .int l4), (5, .int l5), (6, .long l6), (10, .int l10)]) 142 dX3_openSets_140 rfl (by decide) rfl ?_
              refine j_goto 177 dX3_openSets_142 (by decide) ?_
              refine j_iinc (v := (l10 + (1 : Int32))) (lv' := [(10, .int (l10 + (1 : Int32))), (8, .long (l8 &&& ((l8 &&& (L (b4 + 2) l10.toNatClampNeg)) ^^^ (-1 : Int64)))), (13, .int (I 18 (I (b9 + 4) l10.toNatClampNeg).toNatClampNeg)), (11, .long (l8 &&& (L (b4 + 2) l10.toNatClampNeg))), (0, .ref (E.1 + 15)), (1, .long l1), (4, .int l4), (5, .int l5), (6, .long l6)]) (q := 8) 180 dX3_openSets_177 rfl rfl rfl (by decide) rfl ?_
              refine j_goto 40 dX3_openSets_180 (by decide) ?_
              refine j_sub [4, 5, 6, 7, 8, 1, 0] rfl ?_
              exact ih _ _ _ _ _ _ _ _ _  h
def fX3_openSets (l1 : Int64) (l3 : Int32) (I : JI) (L : JL) (D : JG) (S : JS) : Option (Int64 × JI) :=
  j_opt (D 15 7) (none) (fun b1 => j_g (decide (S[b1]? = some (0, 7))) (j_opt (D 15 7) (none) (fun b2 => j_g (decide (S[b2]? = some (0, 7))) (fX3_openSets_40 100000 l1 ((1 : Int32) <<< ((I b1 2) &&& 31)) ((l3 &&& (((1 : Int32) <<< ((I b1 2) &&& 31)) ^^^ (-1 : Int32))) &&& (((1 : Int32) <<< ((I b2 1) &&& 31)) ^^^ (-1 : Int32))) (0 : Int64) l1 (0 : Int32) I L D S))))
set_option maxHeartbeats 4000000 in
set_option maxRecDepth 100000 in
theorem tcX3_openSets {E : JE} {l1 : Int64} {l3 : Int32} {r : Int64 × JI} {I : JI} {L : JL} {G D : JG} {S : JS} (hL : Lay G S) (h : fX3_openSets l1 l3 I L D S = some r) : CallJ E xX3_openSets 3 [.ref (E.1 + 15), .long l1, .int l3] I L G D S (some (.long r.1)) r.2 L G D S := by
  unfold fX3_openSets at h
  refine j_entry (by decide) (Nat.le_of_ble_eq_true rfl) ?_
  show AtJ E xX3_openSets (Zr E (some (.long r.1)) r.2 L G D S) ((S).length, jm_sl S) 3 0 [(0, .ref (E.1 + 15)), (1, .long l1), (3, .int l3)] [] I L G D S
  refine j_iconst (v := (1 : Int32)) 1 dX3_openSets_0 rfl (by decide) ?_
  refine j_aload_n 2 dX3_openSets_1 rfl rfl 0 rfl ?_
  rcases j_os h with ⟨hb, h⟩ | ⟨b1, hb, h⟩
  · refine j_getDn 5 dX3_openSets_2 rfl (sh_15 hL) cl3 (k := 7) (by decide) flX3_37 rfl hb ?_
    cases h
  obtain ⟨hsb1, h⟩ := j_gs h
  replace hsb1 := of_decide_eq_true hsb1
  refine j_getD 5 dX3_openSets_2 rfl (sh_15 hL) cl3 (k := 7) (by decide) flX3_37 rfl hb ?_
  refine j_getIN 8 dX3_openSets_5 rfl hsb1 cl0 (k := 2) (by decide) flX3_71 rfl ?_
  refine j_ishl 9 dX3_openSets_8 rfl ?_
  refine j_istore (lv' := [(4, .int ((1 : Int32) <<< ((I b1 2) &&& 31))), (0, .ref (E.1 + 15)), (1, .long l1), (3, .int l3)]) 11 dX3_openSets_9 rfl (by decide) rfl ?_
  refine j_iload_n 12 dX3_openSets_11 rfl rfl 3 rfl ?_
  refine j_iload 14 dX3_openSets_12 rfl 0 rfl ?_
  refine j_iconst (v := (-1 : Int32)) 15 dX3_openSets_14 rfl (by decide) ?_
  refine j_ixor 16 dX3_openSets_15 rfl ?_
  refine j_iand 17 dX3_openSets_16 rfl ?_
  refine j_iconst (v := (1 : Int32)) 18 dX3_openSets_17 rfl (by decide) ?_
  refine j_aload_n 19 dX3_openSets_18 rfl rfl 1 rfl ?_
  rcases j_os h with ⟨hb, h⟩ | ⟨b2, hb, h⟩
  · refine j_getDn 22 dX3_openSets_19 rfl (sh_15 hL) cl3 (k := 7) (by decide) flX3_37 rfl hb ?_
    cases h
  obtain ⟨hsb2, h⟩ := j_gs h
  replace hsb2 := of_decide_eq_true hsb2
  refine j_getD 22 dX3_openSets_19 rfl (sh_15 hL) cl3 (k := 7) (by decide) flX3_37 rfl hb ?_
  refine j_getIN 25 dX3_openSets_22 rfl hsb2 cl0 (k := 1) (by decide) flX3_56 rfl ?_
  refine j_ishl 26 dX3_openSets_25 rfl ?_
  refine j_iconst (v := (-1 : Int32)) 27 dX3_openSets_26 rfl (by decide) ?_
  refine j_ixor 28 dX3_openSets_27 rfl ?_
  refine j_iand 29 dX3_openSets_28 rfl ?_
  refine j_istore (lv' := [(5, .int ((l3 &&& (((1 : Int32) <<< ((I b1 2) &&& 31)) ^^^ (-1 : Int32))) &&& (((1 : Int32) <<< ((I b2 1) &&& 31)) ^^^ (-1 : Int32)))), (4, .int ((1 : Int32) <<< ((I b1 2) &&& 31))), (0, .ref (E.1 + 15)), (1, .long l1), (3, .int l3)]) 31 dX3_openSets_29 rfl (by decide) rfl ?_
  refine j_lconst (v := (0 : Int64)) 32 dX3_openSets_31 rfl (by decide) ?_
  refine j_lstore (lv' := [(6, .long (0 : Int64)), (5, .int ((l3 &&& (((1 : Int32) <<< ((I b1 2) &&& 31)) ^^^ (-1 : Int32))) &&& (((1 : Int32) <<< ((I b2 1) &&& 31)) ^^^ (-1 : Int32)))), (4, .int ((1 : Int32) <<< ((I b1 2) &&& 31))), (0, .ref (E.1 + 15)), (1, .long l1), (3, .int l3)]) 34 dX3_openSets_32 rfl (by decide) rfl ?_
  refine j_lload_n 35 dX3_openSets_34 rfl rfl 4 rfl ?_
  refine j_lstore (lv' := [(8, .long l1), (6, .long (0 : Int64)), (5, .int ((l3 &&& (((1 : Int32) <<< ((I b1 2) &&& 31)) ^^^ (-1 : Int32))) &&& (((1 : Int32) <<< ((I b2 1) &&& 31)) ^^^ (-1 : Int32)))), (4, .int ((1 : Int32) <<< ((I b1 2) &&& 31))), (0, .ref (E.1 + 15)), (1, .long l1), (3, .int l3)]) 37 dX3_openSets_35 rfl (by decide) rfl ?_
  refine j_iconst (v := (0 : Int32)) 38 dX3_openSets_37 rfl (by decide) ?_
  refine j_istore (lv' := [(10, .int (0 : Int32)), (8, .long l1), (6, .long (0 : Int64)), (5, .int ((l3 &&& (((1 : Int32) <<< ((I b1 2) &&& 31)) ^^^ (-1 : Int32))) &&& (((1 : Int32) <<< ((I b2 1) &&& 31)) ^^^ (-1 : Int32)))), (4, .int ((1 : Int32) <<< ((I b1 2) &&& 31))), (0, .ref (E.1 + 15)), (1, .long l1), (3, .int l3)]) 40 dX3_openSets_38 rfl (by decide) rfl ?_
  refine j_sub [5, 6, 4, 3, 2, 1, 0] rfl ?_
  exact kX3_openSets_40 hL    100000 _ _ _ _ _ _ _ _ _  h
def fX2_sells_20 : Nat → Int32 → Int32 → JI → JL → JG → JS → Option (Int32 × JI × JG)
  | 0, _, _, _, _, _, _ => none
  | n + 1, l1, l2, I, L, D, S =>
    if (3 : Int32) ≤ l2 then (some ((0 : Int32), I, D)) else (j_g (j_in l1 12) ((fX0_tellEach 39 l1 (I 40 l1.toNatClampNeg) (I 33 11) (12 : Int32) l2 (I 33 13) I).bind (fun q2 => (fX3_ask 39 q2 D S).bind (fun q3 => (fX3_openSets (1 : Int64) (q3.1 1 7) q3.1 L q3.2 S).bind (fun q4 => if (lg_cmp q4.1 (0 : Int64)) = 0 then ((fX2_sells_20 n) l1 (l2 + (1 : Int32)) q4.2 L q3.2 S) else (some ((1 : Int32), q4.2, q3.2)))))))
set_option maxHeartbeats 4000000 in
set_option maxRecDepth 100000 in
theorem kX2_sells_20 {E : JE} {r : Int32 × JI × JG} {G : JG} {S : JS} (hL : Lay G S) : ∀ (n : Nat) (l1 : Int32) (l2 : Int32) (I : JI) (L : JL) (D : JG), fX2_sells_20 n l1 l2 I L D S = some r → AtJ E xX2_sells (Zr E (some (.int r.1)) r.2.1 L G r.2.2 S) ((S).length, jm_sl S) 4 20 [(0, .ref (E.1 + 33)), (1, .int l1), (2, .int l2)] [] I L G D S := by
  intro n
  induction n with
  | zero => intro l1 l2 I L D  h; simp [fX2_sells_20] at h
  | succ n ih =>
    intro l1 l2 I L D  h
    rw [fX2_sells_20] at h
    refine j_iload_n 21 dX2_sells_20 rfl rfl 2 rfl ?_
    refine j_iconst (v := (3 : Int32)) 22 dX2_sells_21 rfl (by decide) ?_
    refine j_icmp_ge 89 25 dX2_sells_22 (by decide) rfl (fun hc => ?_) (fun hc => ?_)
    · replace h := j_pos hc h
      refine j_iconst (v := (0 : Int32)) 90 dX2_sells_89 rfl (by decide) ?_
      cases h
      exact j_zret dX2_sells_90 rfl j_b01_0
    · replace h := j_neg hc h
      refine j_aload_n 26 dX2_sells_25 rfl rfl 0 rfl ?_
      refine j_getG 29 dX2_sells_26 rfl (sh_33 hL) cl2 (k := 4) (by decide) flX2_21 rfl (gs_33_4 hL) ?_
      refine j_iload_n 30 dX2_sells_29 rfl rfl 1 rfl ?_
      refine j_aload_n 31 dX2_sells_30 rfl rfl 0 rfl ?_
      refine j_getG 34 dX2_sells_31 rfl (sh_33 hL) cl2 (k := 5) (by decide) flX2_25 rfl (gs_33_5 hL) ?_
      refine j_iload_n 35 dX2_sells_34 rfl rfl 1 rfl ?_
      obtain ⟨hg, h⟩ := j_gs h
      refine j_iald 36 dX2_sells_35 rfl (sh_40 hL) (j_inv hg) ?_
      refine j_aload_n 37 dX2_sells_36 rfl rfl 0 rfl ?_
      refine j_getI 40 dX2_sells_37 rfl (sh_33 hL) cl2 (k := 11) (by decide) flX2_48 rfl ?_
      refine j_bipush (v := (12 : Int32)) 42 dX2_sells_40 rfl (by decide) ?_
      refine j_iload_n 43 dX2_sells_42 rfl rfl 2 rfl ?_
      refine j_aload_n 44 dX2_sells_43 rfl rfl 0 rfl ?_
      refine j_getI 47 dX2_sells_44 rfl (sh_33 hL) cl2 (k := 13) (by decide) flX2_54 rfl ?_
      obtain ⟨q2, hq2, h⟩ := j_bs h
      refine j_callV (rest := []) (As := [.int l1, .int (I 40 l1.toNatClampNeg), .int (I 33 11), .int (12 : Int32), .int l2, .int (I 33 13)]) 50 dX2_sells_47 rfl jyX0_tellEach (tcX0_tellEach hL (sh_39 hL) hq2) (sh_39 hL) cl0 flX2_114 wm1129 wm1130 (by decide) rfl rfl (Nat.le_of_ble_eq_true rfl) ?_
      refine j_aload_n 51 dX2_sells_50 rfl rfl 0 rfl ?_
      refine j_getG 54 dX2_sells_51 rfl (sh_33 hL) cl2 (k := 2) (by decide) flX2_44 rfl (gs_33_2 hL) ?_
      refine j_aload_n 55 dX2_sells_54 rfl rfl 0 rfl ?_
      refine j_getG 58 dX2_sells_55 rfl (sh_33 hL) cl2 (k := 4) (by decide) flX2_21 rfl (gs_33_4 hL) ?_
      obtain ⟨q3, hq3, h⟩ := j_bs h
      refine j_callV (rest := []) (As := [.ref (E.1 + 39)]) 61 dX2_sells_58 rfl jyX3_ask (tcX3_ask hL (sh_39 hL) hq3) (sh_15 hL) cl3 flX2_118 wm943 wm944 (by decide) rfl rfl (Nat.le_of_ble_eq_true rfl) ?_
      refine j_aload_n 62 dX2_sells_61 rfl rfl 0 rfl ?_
      refine j_getG 65 dX2_sells_62 rfl (sh_33 hL) cl2 (k := 2) (by decide) flX2_44 rfl (gs_33_2 hL) ?_
      refine j_lconst (v := (1 : Int64)) 66 dX2_sells_65 rfl (by decide) ?_
      refine j_aload_n 67 dX2_sells_66 rfl rfl 0 rfl ?_
      refine j_getG 70 dX2_sells_67 rfl (sh_33 hL) cl2 (k := 0) (by decide) flX2_37 rfl (gs_33_0 hL) ?_
      refine j_getIN 73 dX2_sells_70 rfl (sh_1 hL) cl9 (k := 7) (by decide) flX2_122 rfl ?_
      obtain ⟨q4, hq4, h⟩ := j_bs h
      refine j_callV (rest := []) (As := [.long (1 : Int64), .int (q3.1 1 7)]) 76 dX2_sells_73 rfl jyX3_openSets (tcX3_openSets hL  hq4) (sh_15 hL) cl3 flX2_125 wm1135 wm1136 (by decide) rfl rfl (Nat.le_of_ble_eq_true rfl) ?_
      refine j_lconst (v := (0 : Int64)) 77 dX2_sells_76 rfl (by decide) ?_
      refine j_lcmp 78 dX2_sells_77 rfl ?_
      refine j_if_eq 83 81 dX2_sells_78 (by decide) rfl (fun hc => ?_) (fun hc => ?_)
      · replace h := j_pos hc h
        refine j_iinc (v := (l2 + (1 : Int32))) (lv' := [(2, .int (l2 + (1 : Int32))), (0, .ref (E.1 + 33)), (1, .int l1)]) (q := 2) 86 dX2_sells_83 rfl rfl rfl (by decide) rfl ?_
        refine j_goto 20 dX2_sells_86 (by decide) ?_
        refine j_sub [1, 2, 0] rfl ?_
        exact ih _ _ _ _ _  h
      · replace h := j_neg hc h
        refine j_iconst (v := (1 : Int32)) 82 dX2_sells_81 rfl (by decide) ?_
        cases h
        exact j_zret dX2_sells_82 rfl j_b01_1
def fX2_sells (l1 : Int32) (I : JI) (L : JL) (D : JG) (S : JS) : Option (Int32 × JI × JG) :=
  j_g (j_in l1 12) ((fX3_settle 34 l1 (I 40 l1.toNatClampNeg) I D S).bind (fun q1 => fX2_sells_20 100000 l1 (0 : Int32) q1.1 L q1.2 S))
set_option maxHeartbeats 4000000 in
set_option maxRecDepth 100000 in
theorem tcX2_sells {E : JE} {l1 : Int32} {r : Int32 × JI × JG} {I : JI} {L : JL} {G D : JG} {S : JS} (hL : Lay G S) (h : fX2_sells l1 I L D S = some r) : CallJ E xX2_sells 4 [.ref (E.1 + 33), .int l1] I L G D S (some (.int r.1)) r.2.1 L G r.2.2 S := by
  unfold fX2_sells at h
  refine j_entry (by decide) (Nat.le_of_ble_eq_true rfl) ?_
  show AtJ E xX2_sells (Zr E (some (.int r.1)) r.2.1 L G r.2.2 S) ((S).length, jm_sl S) 4 0 [(0, .ref (E.1 + 33)), (1, .int l1)] [] I L G D S
  refine j_aload_n 1 dX2_sells_0 rfl rfl 0 rfl ?_
  refine j_getG 4 dX2_sells_1 rfl (sh_33 hL) cl2 (k := 2) (by decide) flX2_44 rfl (gs_33_2 hL) ?_
  refine j_aload_n 5 dX2_sells_4 rfl rfl 0 rfl ?_
  refine j_getG 8 dX2_sells_5 rfl (sh_33 hL) cl2 (k := 3) (by decide) flX2_12 rfl (gs_33_3 hL) ?_
  refine j_iload_n 9 dX2_sells_8 rfl rfl 1 rfl ?_
  refine j_aload_n 10 dX2_sells_9 rfl rfl 0 rfl ?_
  refine j_getG 13 dX2_sells_10 rfl (sh_33 hL) cl2 (k := 5) (by decide) flX2_25 rfl (gs_33_5 hL) ?_
  refine j_iload_n 14 dX2_sells_13 rfl rfl 1 rfl ?_
  obtain ⟨hg, h⟩ := j_gs h
  refine j_iald 15 dX2_sells_14 rfl (sh_40 hL) (j_inv hg) ?_
  obtain ⟨q1, hq1, h⟩ := j_bs h
  refine j_callV (rest := []) (As := [.ref (E.1 + 34), .int l1, .int (I 40 l1.toNatClampNeg)]) 18 dX2_sells_15 rfl jyX3_settle (tcX3_settle hL (sh_34 hL) hq1) (sh_15 hL) cl3 flX2_108 wm938 wm939 (by decide) rfl rfl (Nat.le_of_ble_eq_true rfl) ?_
  refine j_iconst (v := (0 : Int32)) 19 dX2_sells_18 rfl (by decide) ?_
  refine j_istore_n (lv' := [(2, .int (0 : Int32)), (0, .ref (E.1 + 33)), (1, .int l1)]) 20 dX2_sells_19 rfl rfl (by decide) rfl ?_
  refine j_sub [1, 2, 0] rfl ?_
  exact kX2_sells_20 hL    100000 _ _ _ _ _  h
def fX2_comesAbout_2 : Nat → Int32 → Int32 → JI → JL → JG → JS → Option (Int32 × JI × JG)
  | 0, _, _, _, _, _, _ => none
  | n + 1, l1, l2, I, L, D, S =>
    if (12 : Int32) ≤ l2 then (some ((0 : Int32), I, D)) else (if (l1 &&& (((1 : Int32) <<< (l2 &&& 31)) ^^^ (-1 : Int32))) = l1 then ((fX2_comesAbout_2 n) l1 (l2 + (1 : Int32)) I L D S) else (j_g (j_in ((l1 &&& (((1 : Int32) <<< (l2 &&& 31)) ^^^ (-1 : Int32))) >>> ((6 : Int32) &&& 31)) 64) (if (lg_cmp (((L 41 ((l1 &&& (((1 : Int32) <<< (l2 &&& 31)) ^^^ (-1 : Int32))) >>> ((6 : Int32) &&& 31)).toNatClampNeg).toUInt64 >>> (((l1 &&& (((1 : Int32) <<< (l2 &&& 31)) ^^^ (-1 : Int32))) &&& (63 : Int32)).toInt64.toUInt64 &&& Int64.toUInt64 63)).toInt64 &&& (1 : Int64)) (0 : Int64)) = 0 then ((fX2_comesAbout_2 n) l1 (l2 + (1 : Int32)) I L D S) else ((fX2_place (l1 &&& (((1 : Int32) <<< (l2 &&& 31)) ^^^ (-1 : Int32))) I).bind (fun q1 => (fX2_sells l2 q1 L D S).bind (fun q2 => if q2.1 = 0 then ((fX2_comesAbout_2 n) l1 (l2 + (1 : Int32)) q2.2.1 L q2.2.2 S) else (some ((1 : Int32), q2.2.1, q2.2.2))))))))
set_option maxHeartbeats 4000000 in
set_option maxRecDepth 100000 in
theorem kX2_comesAbout_2 {E : JE} {r : Int32 × JI × JG} {G : JG} {S : JS} (hL : Lay G S) : ∀ (n : Nat) (l1 : Int32) (l2 : Int32) (I : JI) (L : JL) (D : JG), fX2_comesAbout_2 n l1 l2 I L D S = some r → AtJ E xX2_comesAbout (Zr E (some (.int r.1)) r.2.1 L G r.2.2 S) ((S).length, jm_sl S) 5 2 [(0, .ref (E.1 + 33)), (1, .int l1), (2, .int l2)] [] I L G D S := by
  intro n
  induction n with
  | zero => intro l1 l2 I L D  h; simp [fX2_comesAbout_2] at h
  | succ n ih =>
    intro l1 l2 I L D  h
    rw [fX2_comesAbout_2] at h
    refine j_iload_n 3 dX2_comesAbout_2 rfl rfl 2 rfl ?_
    refine j_bipush (v := (12 : Int32)) 5 dX2_comesAbout_3 rfl (by decide) ?_
    refine j_icmp_ge 63 8 dX2_comesAbout_5 (by decide) rfl (fun hc => ?_) (fun hc => ?_)
    · replace h := j_pos hc h
      refine j_iconst (v := (0 : Int32)) 64 dX2_comesAbout_63 rfl (by decide) ?_
      cases h
      exact j_zret dX2_comesAbout_64 rfl j_b01_0
    · replace h := j_neg hc h
      refine j_iload_n 9 dX2_comesAbout_8 rfl rfl 1 rfl ?_
      refine j_iconst (v := (1 : Int32)) 10 dX2_comesAbout_9 rfl (by decide) ?_
      refine j_iload_n 11 dX2_comesAbout_10 rfl rfl 2 rfl ?_
      refine j_ishl 12 dX2_comesAbout_11 rfl ?_
      refine j_iconst (v := (-1 : Int32)) 13 dX2_comesAbout_12 rfl (by decide) ?_
      refine j_ixor 14 dX2_comesAbout_13 rfl ?_
      refine j_iand 15 dX2_comesAbout_14 rfl ?_
      refine j_istore_n (lv' := [(3, .int (l1 &&& (((1 : Int32) <<< (l2 &&& 31)) ^^^ (-1 : Int32)))), (0, .ref (E.1 + 33)), (1, .int l1), (2, .int l2)]) 16 dX2_comesAbout_15 rfl rfl (by decide) rfl ?_
      refine j_iload_n 17 dX2_comesAbout_16 rfl rfl 0 rfl ?_
      refine j_iload_n 18 dX2_comesAbout_17 rfl rfl 2 rfl ?_
      refine j_icmp_eq 57 21 dX2_comesAbout_18 (by decide) rfl (fun hc => ?_) (fun hc => ?_)
      · replace h := j_pos hc h
        refine j_iinc (v := (l2 + (1 : Int32))) (lv' := [(2, .int (l2 + (1 : Int32))), (3, .int (l1 &&& (((1 : Int32) <<< (l2 &&& 31)) ^^^ (-1 : Int32)))), (0, .ref (E.1 + 33)), (1, .int l1)]) (q := 3) 60 dX2_comesAbout_57 rfl rfl rfl (by decide) rfl ?_
        refine j_goto 2 dX2_comesAbout_60 (by decide) ?_
        refine j_sub [2, 3, 0] rfl ?_
        exact ih _ _ _ _ _  h
      · replace h := j_neg hc h
        refine j_aload_n 22 dX2_comesAbout_21 rfl rfl 1 rfl ?_
        refine j_getG 25 dX2_comesAbout_22 rfl (sh_33 hL) cl2 (k := 6) (by decide) flX2_29 rfl (gs_33_6 hL) ?_
        refine j_iload_n 26 dX2_comesAbout_25 rfl rfl 0 rfl ?_
        refine j_bipush (v := (6 : Int32)) 28 dX2_comesAbout_26 rfl (by decide) ?_
        refine j_ishr 29 dX2_comesAbout_28 rfl ?_
        obtain ⟨hg, h⟩ := j_gs h
        refine j_lald 30 dX2_comesAbout_29 rfl (sh_41 hL) (j_inv hg) ?_
        refine j_iload_n 31 dX2_comesAbout_30 rfl rfl 0 rfl ?_
        refine j_bipush (v := (63 : Int32)) 33 dX2_comesAbout_31 rfl (by decide) ?_
        refine j_iand 34 dX2_comesAbout_33 rfl ?_
        refine j_lushr 35 dX2_comesAbout_34 rfl ?_
        refine j_lconst (v := (1 : Int64)) 36 dX2_comesAbout_35 rfl (by decide) ?_
        refine j_land 37 dX2_comesAbout_36 rfl ?_
        refine j_lconst (v := (0 : Int64)) 38 dX2_comesAbout_37 rfl (by decide) ?_
        refine j_lcmp 39 dX2_comesAbout_38 rfl ?_
        refine j_if_eq 57 42 dX2_comesAbout_39 (by decide) rfl (fun hc => ?_) (fun hc => ?_)
        · replace h := j_pos hc h
          refine j_iinc (v := (l2 + (1 : Int32))) (lv' := [(2, .int (l2 + (1 : Int32))), (3, .int (l1 &&& (((1 : Int32) <<< (l2 &&& 31)) ^^^ (-1 : Int32)))), (0, .ref (E.1 + 33)), (1, .int l1)]) (q := 3) 60 dX2_comesAbout_57 rfl rfl rfl (by decide) rfl ?_
          refine j_goto 2 dX2_comesAbout_60 (by decide) ?_
          refine j_sub [2, 3, 0] rfl ?_
          exact ih _ _ _ _ _  h
        · replace h := j_neg hc h
          refine j_aload_n 43 dX2_comesAbout_42 rfl rfl 1 rfl ?_
          refine j_iload_n 44 dX2_comesAbout_43 rfl rfl 0 rfl ?_
          obtain ⟨q1, hq1, h⟩ := j_bs h
          refine j_callV (rest := []) (As := [.int (l1 &&& (((1 : Int32) <<< (l2 &&& 31)) ^^^ (-1 : Int32)))]) 47 dX2_comesAbout_44 rfl jyX2_place (tcX2_place hL  hq1) (sh_33 hL) cl2 flX2_97 wm1197 wm32 (by decide) rfl rfl (Nat.le_of_ble_eq_true rfl) ?_
          refine j_aload_n 48 dX2_comesAbout_47 rfl rfl 1 rfl ?_
          refine j_iload_n 49 dX2_comesAbout_48 rfl rfl 3 rfl ?_
          obtain ⟨q2, hq2, h⟩ := j_bs h
          refine j_callV (rest := []) (As := [.int l2]) 52 dX2_comesAbout_49 rfl jyX2_sells (tcX2_sells hL  hq2) (sh_33 hL) cl2 flX2_101 wm1202 wm33 (by decide) rfl rfl (Nat.le_of_ble_eq_true rfl) ?_
          refine j_if_eq 57 55 dX2_comesAbout_52 (by decide) rfl (fun hc => ?_) (fun hc => ?_)
          · replace h := j_pos hc h
            refine j_iinc (v := (l2 + (1 : Int32))) (lv' := [(2, .int (l2 + (1 : Int32))), (3, .int (l1 &&& (((1 : Int32) <<< (l2 &&& 31)) ^^^ (-1 : Int32)))), (0, .ref (E.1 + 33)), (1, .int l1)]) (q := 3) 60 dX2_comesAbout_57 rfl rfl rfl (by decide) rfl ?_
            refine j_goto 2 dX2_comesAbout_60 (by decide) ?_
            refine j_sub [2, 3, 0] rfl ?_
            exact ih _ _ _ _ _  h
          · replace h := j_neg hc h
            refine j_iconst (v := (1 : Int32)) 56 dX2_comesAbout_55 rfl (by decide) ?_
            cases h
            exact j_zret dX2_comesAbout_56 rfl j_b01_1
def fX2_comesAbout (l1 : Int32) (I : JI) (L : JL) (D : JG) (S : JS) : Option (Int32 × JI × JG) :=
  fX2_comesAbout_2 100000 l1 (0 : Int32) I L D S
set_option maxHeartbeats 4000000 in
set_option maxRecDepth 100000 in
theorem tcX2_comesAbout {E : JE} {l1 : Int32} {r : Int32 × JI × JG} {I : JI} {L : JL} {G D : JG} {S : JS} (hL : Lay G S) (h : fX2_comesAbout l1 I L D S = some r) : CallJ E xX2_comesAbout 5 [.ref (E.1 + 33), .int l1] I L G D S (some (.int r.1)) r.2.1 L G r.2.2 S := by
  unfold fX2_comesAbout at h
  refine j_entry (by decide) (Nat.le_of_ble_eq_true rfl) ?_
  show AtJ E xX2_comesAbout (Zr E (some (.int r.1)) r.2.1 L G r.2.2 S) ((S).length, jm_sl S) 5 0 [(0, .ref (E.1 + 33)), (1, .int l1)] [] I L G D S
  refine j_iconst (v := (0 : Int32)) 1 dX2_comesAbout_0 rfl (by decide) ?_
  refine j_istore_n (lv' := [(2, .int (0 : Int32)), (0, .ref (E.1 + 33)), (1, .int l1)]) 2 dX2_comesAbout_1 rfl rfl (by decide) rfl ?_
  refine j_sub [1, 2, 0] rfl ?_
  exact kX2_comesAbout_2 hL    100000 _ _ _ _ _  h
def fX2_search_16 : Nat → Int32 → Int32 → JI → JL → JG → JS → Option (JI × JL × JG)
  | 0, _, _, _, _, _, _ => none
  | n + 1, l1, l2, I, L, D, S =>
    if (4096 : Int32) ≤ l2 then (some (I, L, D)) else (if ((l1 - (I 33 9)) &&& (I 33 9)) = 0 then (some (I, L, D)) else ((fJ6_bitCount_0f7a4 ((l1 - (I 33 9)) &&& (I 33 9))).bind (fun q1 => if (I 33 12) < q1 then ((fX2_search_16 n) ((l1 - (I 33 9)) &&& (I 33 9)) (l2 + (1 : Int32)) I L D S) else ((fX2_comesAbout ((l1 - (I 33 9)) &&& (I 33 9)) I L D S).bind (fun q2 => if q2.1 = 0 then ((fX2_search_16 n) ((l1 - (I 33 9)) &&& (I 33 9)) (l2 + (1 : Int32)) q2.2.1 L q2.2.2 S) else (j_g (j_in (((l1 - (I 33 9)) &&& (I 33 9)) >>> ((6 : Int32) &&& 31)) 64) (j_g (j_in (((l1 - (I 33 9)) &&& (I 33 9)) >>> ((6 : Int32) &&& 31)) 64) ((fJ6_bitCount_0f7a4 ((l1 - (I 33 9)) &&& (I 33 9))).bind (fun q3 => (fJ6_bitCount_0f7a4 (q2.2.1 33 10)).bind (fun q4 => if q3 ≤ q4 then ((fX2_search_16 n) ((l1 - (I 33 9)) &&& (I 33 9)) (l2 + (1 : Int32)) q2.2.1 (j_up L 41 (((l1 - (I 33 9)) &&& (I 33 9)) >>> ((6 : Int32) &&& 31)).toNatClampNeg ((L 41 (((l1 - (I 33 9)) &&& (I 33 9)) >>> ((6 : Int32) &&& 31)).toNatClampNeg) ||| ((1 : Int64) <<< ((((l1 - (I 33 9)) &&& (I 33 9)) &&& (63 : Int32)).toInt64 &&& 63)))) q2.2.2 S) else ((fX2_search_16 n) ((l1 - (I 33 9)) &&& (I 33 9)) (l2 + (1 : Int32)) (j_up q2.2.1 33 10 ((l1 - (I 33 9)) &&& (I 33 9))) (j_up L 41 (((l1 - (I 33 9)) &&& (I 33 9)) >>> ((6 : Int32) &&& 31)).toNatClampNeg ((L 41 (((l1 - (I 33 9)) &&& (I 33 9)) >>> ((6 : Int32) &&& 31)).toNatClampNeg) ||| ((1 : Int64) <<< ((((l1 - (I 33 9)) &&& (I 33 9)) &&& (63 : Int32)).toInt64 &&& 63)))) q2.2.2 S)))))))))))
set_option maxHeartbeats 4000000 in
set_option maxRecDepth 100000 in
theorem kX2_search_16 {E : JE} {r : JI × JL × JG} {G : JG} {S : JS} (hL : Lay G S) : ∀ (n : Nat) (l1 : Int32) (l2 : Int32) (I : JI) (L : JL) (D : JG), fX2_search_16 n l1 l2 I L D S = some r → AtJ E xX2_search (Zr E none r.1 r.2.1 G r.2.2 S) ((S).length, jm_sl S) 6 16 [(0, .ref (E.1 + 33)), (1, .int l1), (2, .int l2)] [] I L G D S := by
  intro n
  induction n with
  | zero => intro l1 l2 I L D  h; simp [fX2_search_16] at h
  | succ n ih =>
    intro l1 l2 I L D  h
    rw [fX2_search_16] at h
    refine j_iload_n 17 dX2_search_16 rfl rfl 2 rfl ?_
    refine j_sipush (v := (4096 : Int32)) 20 dX2_search_17 rfl (by decide) ?_
    refine j_icmp_ge 102 23 dX2_search_20 (by decide) rfl (fun hc => ?_) (fun hc => ?_)
    · replace h := j_pos hc h
      cases h
      exact j_vret dX2_search_102 rfl
    · replace h := j_neg hc h
      refine j_iload_n 24 dX2_search_23 rfl rfl 1 rfl ?_
      refine j_aload_n 25 dX2_search_24 rfl rfl 0 rfl ?_
      refine j_getI 28 dX2_search_25 rfl (sh_33 hL) cl2 (k := 9) (by decide) flX2_71 rfl ?_
      refine j_isub 29 dX2_search_28 rfl ?_
      refine j_aload_n 30 dX2_search_29 rfl rfl 0 rfl ?_
      refine j_getI 33 dX2_search_30 rfl (sh_33 hL) cl2 (k := 9) (by decide) flX2_71 rfl ?_
      refine j_iand 34 dX2_search_33 rfl ?_
      refine j_istore_n (lv' := [(1, .int ((l1 - (I 33 9)) &&& (I 33 9))), (0, .ref (E.1 + 33)), (2, .int l2)]) 35 dX2_search_34 rfl rfl (by decide) rfl ?_
      refine j_iload_n 36 dX2_search_35 rfl rfl 0 rfl ?_
      refine j_if_ne 40 39 dX2_search_36 (by decide) rfl (fun hc => ?_) (fun hc => ?_)
      · replace h := j_neg hc h
        refine j_iload_n 41 dX2_search_40 rfl rfl 0 rfl ?_
        obtain ⟨q1, hq1, h⟩ := j_bs h
        refine j_callS (rest := []) (As := [.int ((l1 - (I 33 9)) &&& (I 33 9))]) 44 dX2_search_41 rfl jyJ6_bitCount_0f7a4 (tcJ6_bitCount_0f7a4   hq1) flX2_88 wm1176 (by decide) rfl rfl (Nat.le_of_ble_eq_true rfl) ?_
        refine j_aload_n 45 dX2_search_44 rfl rfl 1 rfl ?_
        refine j_getI 48 dX2_search_45 rfl (sh_33 hL) cl2 (k := 12) (by decide) flX2_51 rfl ?_
        refine j_icmp_gt 96 51 dX2_search_48 (by decide) rfl (fun hc => ?_) (fun hc => ?_)
        · replace h := j_pos hc h
          refine j_iinc (v := (l2 + (1 : Int32))) (lv' := [(2, .int (l2 + (1 : Int32))), (1, .int ((l1 - (I 33 9)) &&& (I 33 9))), (0, .ref (E.1 + 33))]) (q := 2) 99 dX2_search_96 rfl rfl rfl (by decide) rfl ?_
          refine j_goto 16 dX2_search_99 (by decide) ?_
          refine j_sub [2, 1, 0] rfl ?_
          exact ih _ _ _ _ _  h
        · replace h := j_neg hc h
          refine j_aload_n 52 dX2_search_51 rfl rfl 1 rfl ?_
          refine j_iload_n 53 dX2_search_52 rfl rfl 0 rfl ?_
          obtain ⟨q2, hq2, h⟩ := j_bs h
          refine j_callV (rest := []) (As := [.int ((l1 - (I 33 9)) &&& (I 33 9))]) 56 dX2_search_53 rfl jyX2_comesAbout (tcX2_comesAbout hL  hq2) (sh_33 hL) cl2 flX2_93 wm1193 wm31 (by decide) rfl rfl (Nat.le_of_ble_eq_true rfl) ?_
          refine j_if_eq 96 59 dX2_search_56 (by decide) rfl (fun hc => ?_) (fun hc => ?_)
          · replace h := j_pos hc h
            refine j_iinc (v := (l2 + (1 : Int32))) (lv' := [(2, .int (l2 + (1 : Int32))), (1, .int ((l1 - (I 33 9)) &&& (I 33 9))), (0, .ref (E.1 + 33))]) (q := 2) 99 dX2_search_96 rfl rfl rfl (by decide) rfl ?_
            refine j_goto 16 dX2_search_99 (by decide) ?_
            refine j_sub [2, 1, 0] rfl ?_
            exact ih _ _ _ _ _  h
          · replace h := j_neg hc h
            refine j_aload_n 60 dX2_search_59 rfl rfl 1 rfl ?_
            refine j_getG 63 dX2_search_60 rfl (sh_33 hL) cl2 (k := 6) (by decide) flX2_29 rfl (gs_33_6 hL) ?_
            refine j_iload_n 64 dX2_search_63 rfl rfl 0 rfl ?_
            refine j_bipush (v := (6 : Int32)) 66 dX2_search_64 rfl (by decide) ?_
            refine j_ishr 67 dX2_search_66 rfl ?_
            refine j_dup2_11 68 dX2_search_67 rfl rfl rfl ?_
            obtain ⟨hg, h⟩ := j_gs h
            refine j_lald 69 dX2_search_68 rfl (sh_41 hL) (j_inv hg) ?_
            refine j_lconst (v := (1 : Int64)) 70 dX2_search_69 rfl (by decide) ?_
            refine j_iload_n 71 dX2_search_70 rfl rfl 0 rfl ?_
            refine j_bipush (v := (63 : Int32)) 73 dX2_search_71 rfl (by decide) ?_
            refine j_iand 74 dX2_search_73 rfl ?_
            refine j_lshl 75 dX2_search_74 rfl ?_
            refine j_lor 76 dX2_search_75 rfl ?_
            obtain ⟨hg, h⟩ := j_gs h
            refine j_last 77 dX2_search_76 rfl (sh_41 hL) (j_inv hg) ?_
            refine j_iload_n 78 dX2_search_77 rfl rfl 0 rfl ?_
            obtain ⟨q3, hq3, h⟩ := j_bs h
            refine j_callS (rest := []) (As := [.int ((l1 - (I 33 9)) &&& (I 33 9))]) 81 dX2_search_78 rfl jyJ6_bitCount_0f7a4 (tcJ6_bitCount_0f7a4   hq3) flX2_88 wm1176 (by decide) rfl rfl (Nat.le_of_ble_eq_true rfl) ?_
            refine j_aload_n 82 dX2_search_81 rfl rfl 1 rfl ?_
            refine j_getI 85 dX2_search_82 rfl (sh_33 hL) cl2 (k := 10) (by decide) flX2_85 rfl ?_
            obtain ⟨q4, hq4, h⟩ := j_bs h
            refine j_callS (rest := [.int q3]) (As := [.int (q2.2.1 33 10)]) 88 dX2_search_85 rfl jyJ6_bitCount_0f7a4 (tcJ6_bitCount_0f7a4   hq4) flX2_88 wm1176 (by decide) rfl rfl (Nat.le_of_ble_eq_true rfl) ?_
            refine j_icmp_le 96 91 dX2_search_88 (by decide) rfl (fun hc => ?_) (fun hc => ?_)
            · replace h := j_pos hc h
              refine j_iinc (v := (l2 + (1 : Int32))) (lv' := [(2, .int (l2 + (1 : Int32))), (1, .int ((l1 - (I 33 9)) &&& (I 33 9))), (0, .ref (E.1 + 33))]) (q := 2) 99 dX2_search_96 rfl rfl rfl (by decide) rfl ?_
              refine j_goto 16 dX2_search_99 (by decide) ?_
              refine j_sub [2, 1, 0] rfl ?_
              exact ih _ _ _ _ _  h
            · replace h := j_neg hc h
              refine j_aload_n 92 dX2_search_91 rfl rfl 1 rfl ?_
              refine j_iload_n 93 dX2_search_92 rfl rfl 0 rfl ?_
              refine j_putI 96 dX2_search_93 rfl (sh_33 hL) cl2 (k := 10) (by decide) flX2_85 rfl rfl rfl ?_
              refine j_iinc (v := (l2 + (1 : Int32))) (lv' := [(2, .int (l2 + (1 : Int32))), (1, .int ((l1 - (I 33 9)) &&& (I 33 9))), (0, .ref (E.1 + 33))]) (q := 2) 99 dX2_search_96 rfl rfl rfl (by decide) rfl ?_
              refine j_goto 16 dX2_search_99 (by decide) ?_
              refine j_sub [2, 1, 0] rfl ?_
              exact ih _ _ _ _ _  h
      · replace h := j_pos hc h
        cases h
        exact j_vret dX2_search_39 rfl
def fX2_search (I : JI) (L : JL) (D : JG) (S : JS) : Option (JI × JL × JG) :=
  j_g (j_in (0 : Int32) 64) (fX2_search_16 100000 (0 : Int32) (1 : Int32) (j_up I 33 10 (0 : Int32)) (j_up L 41 (0 : Int32).toNatClampNeg (1 : Int64)) D S)
set_option maxHeartbeats 4000000 in
set_option maxRecDepth 100000 in
theorem tcX2_search {E : JE} {r : JI × JL × JG} {I : JI} {L : JL} {G D : JG} {S : JS} (hL : Lay G S) (h : fX2_search I L D S = some r) : CallJ E xX2_search 6 [.ref (E.1 + 33)] I L G D S none r.1 r.2.1 G r.2.2 S := by
  unfold fX2_search at h
  refine j_entry (by decide) (Nat.le_of_ble_eq_true rfl) ?_
  show AtJ E xX2_search (Zr E none r.1 r.2.1 G r.2.2 S) ((S).length, jm_sl S) 6 0 [(0, .ref (E.1 + 33))] [] I L G D S
  refine j_aload_n 1 dX2_search_0 rfl rfl 0 rfl ?_
  refine j_iconst (v := (0 : Int32)) 2 dX2_search_1 rfl (by decide) ?_
  refine j_putI 5 dX2_search_2 rfl (sh_33 hL) cl2 (k := 10) (by decide) flX2_85 rfl rfl rfl ?_
  refine j_aload_n 6 dX2_search_5 rfl rfl 0 rfl ?_
  refine j_getG 9 dX2_search_6 rfl (sh_33 hL) cl2 (k := 6) (by decide) flX2_29 rfl (gs_33_6 hL) ?_
  refine j_iconst (v := (0 : Int32)) 10 dX2_search_9 rfl (by decide) ?_
  refine j_lconst (v := (1 : Int64)) 11 dX2_search_10 rfl (by decide) ?_
  obtain ⟨hg, h⟩ := j_gs h
  refine j_last 12 dX2_search_11 rfl (sh_41 hL) (j_inv hg) ?_
  refine j_iconst (v := (0 : Int32)) 13 dX2_search_12 rfl (by decide) ?_
  refine j_istore_n (lv' := [(1, .int (0 : Int32)), (0, .ref (E.1 + 33))]) 14 dX2_search_13 rfl rfl (by decide) rfl ?_
  refine j_iconst (v := (1 : Int32)) 15 dX2_search_14 rfl (by decide) ?_
  refine j_istore_n (lv' := [(2, .int (1 : Int32)), (1, .int (0 : Int32)), (0, .ref (E.1 + 33))]) 16 dX2_search_15 rfl rfl (by decide) rfl ?_
  refine j_sub [2, 1, 0] rfl ?_
  exact kX2_search_16 hL    100000 _ _ _ _ _  h
def fX2_find_50 (l1 : Int32) (l2 : Int32) (l3 : Int32) (I : JI) (L : JL) (D : JG) (S : JS) : Option (JI × JL × JG) :=
  (fX2_begin (j_up (j_up (j_up I 33 11 l1) 33 12 l2) 33 13 l3) L).bind (fun q1 => (fX2_search q1.1 q1.2 D S).bind (fun q2 => some ((j_up q2.1 33 14 (q2.1 1 9)), q2.2.1, q2.2.2)))
set_option maxHeartbeats 4000000 in
set_option maxRecDepth 100000 in
theorem kX2_find_50 {E : JE} {r : JI × JL × JG} {G : JG} {S : JS} (hL : Lay G S) : ∀ (l1 : Int32) (l2 : Int32) (l3 : Int32) (I : JI) (L : JL) (D : JG), fX2_find_50 l1 l2 l3 I L D S = some r → AtJ E xX2_find (Zr E none r.1 r.2.1 G r.2.2 S) ((S).length, jm_sl S) 7 50 [(0, .ref (E.1 + 33)), (1, .int l1), (2, .int l2), (3, .int l3)] [] I L G D S := by
  intro l1 l2 l3 I L D  h
  unfold fX2_find_50 at h
  refine j_aload_n 51 dX2_find_50 rfl rfl 0 rfl ?_
  refine j_iload_n 52 dX2_find_51 rfl rfl 1 rfl ?_
  refine j_putI 55 dX2_find_52 rfl (sh_33 hL) cl2 (k := 11) (by decide) flX2_48 rfl rfl rfl ?_
  refine j_aload_n 56 dX2_find_55 rfl rfl 0 rfl ?_
  refine j_iload_n 57 dX2_find_56 rfl rfl 2 rfl ?_
  refine j_putI 60 dX2_find_57 rfl (sh_33 hL) cl2 (k := 12) (by decide) flX2_51 rfl rfl rfl ?_
  refine j_aload_n 61 dX2_find_60 rfl rfl 0 rfl ?_
  refine j_iload_n 62 dX2_find_61 rfl rfl 3 rfl ?_
  refine j_putI 65 dX2_find_62 rfl (sh_33 hL) cl2 (k := 13) (by decide) flX2_54 rfl rfl rfl ?_
  refine j_aload_n 66 dX2_find_65 rfl rfl 0 rfl ?_
  obtain ⟨q1, hq1, h⟩ := j_bs h
  refine j_callV (rest := []) (As := []) 69 dX2_find_66 rfl jyX2_begin (tcX2_begin hL  hq1) (sh_33 hL) cl2 flX2_62 wm1169 wm29 (by decide) rfl rfl (Nat.le_of_ble_eq_true rfl) ?_
  refine j_aload_n 70 dX2_find_69 rfl rfl 0 rfl ?_
  obtain ⟨q2, hq2, h⟩ := j_bs h
  refine j_callV (rest := []) (As := []) 73 dX2_find_70 rfl jyX2_search (tcX2_search hL  hq2) (sh_33 hL) cl2 flX2_65 wm1188 wm30 (by decide) rfl rfl (Nat.le_of_ble_eq_true rfl) ?_
  refine j_aload_n 74 dX2_find_73 rfl rfl 0 rfl ?_
  refine j_aload_n 75 dX2_find_74 rfl rfl 0 rfl ?_
  refine j_getG 78 dX2_find_75 rfl (sh_33 hL) cl2 (k := 0) (by decide) flX2_37 rfl (gs_33_0 hL) ?_
  refine j_getIN 81 dX2_find_78 rfl (sh_1 hL) cl9 (k := 9) (by decide) flX2_57 rfl ?_
  refine j_putI 84 dX2_find_81 rfl (sh_33 hL) cl2 (k := 14) (by decide) flX2_33 rfl rfl rfl ?_
  cases h
  exact j_vret dX2_find_84 rfl
def fX2_find_29 (l1 : Int32) (l2 : Int32) (l3 : Int32) (s0 : Int32) (I : JI) (L : JL) (D : JG) (S : JS) : Option (JI × JL × JG) :=
  if s0 = 0 then (fX2_find_50 l1 l2 l3 I L D S) else (if (I 33 14) = (I 1 9) then (some (I, L, D)) else (fX2_find_50 l1 l2 l3 I L D S))
set_option maxHeartbeats 4000000 in
set_option maxRecDepth 100000 in
theorem kX2_find_29 {E : JE} {r : JI × JL × JG} {G : JG} {S : JS} (hL : Lay G S) : ∀ (l1 : Int32) (l2 : Int32) (l3 : Int32) (s0 : Int32) (I : JI) (L : JL) (D : JG), fX2_find_29 l1 l2 l3 s0 I L D S = some r → AtJ E xX2_find (Zr E none r.1 r.2.1 G r.2.2 S) ((S).length, jm_sl S) 7 29 [(0, .ref (E.1 + 33)), (1, .int l1), (2, .int l2), (3, .int l3)] [.int s0] I L G D S := by
  intro l1 l2 l3 s0 I L D  h
  unfold fX2_find_29 at h
  refine j_istore (lv' := [(4, .int s0), (0, .ref (E.1 + 33)), (1, .int l1), (2, .int l2), (3, .int l3)]) 31 dX2_find_29 rfl (by decide) rfl ?_
  refine j_iload 33 dX2_find_31 rfl 0 rfl ?_
  refine j_if_eq 50 36 dX2_find_33 (by decide) rfl (fun hc => ?_) (fun hc => ?_)
  · replace h := j_pos hc h
    refine j_sub [1, 2, 3, 4] rfl ?_
    exact kX2_find_50 hL    _ _ _ _ _ _  h
  · replace h := j_neg hc h
    refine j_aload_n 37 dX2_find_36 rfl rfl 1 rfl ?_
    refine j_getI 40 dX2_find_37 rfl (sh_33 hL) cl2 (k := 14) (by decide) flX2_33 rfl ?_
    refine j_aload_n 41 dX2_find_40 rfl rfl 1 rfl ?_
    refine j_getG 44 dX2_find_41 rfl (sh_33 hL) cl2 (k := 0) (by decide) flX2_37 rfl (gs_33_0 hL) ?_
    refine j_getIN 47 dX2_find_44 rfl (sh_1 hL) cl9 (k := 9) (by decide) flX2_57 rfl ?_
    refine j_icmp_eq 84 50 dX2_find_47 (by decide) rfl (fun hc => ?_) (fun hc => ?_)
    · replace h := j_pos hc h
      cases h
      exact j_vret dX2_find_84 rfl
    · replace h := j_neg hc h
      refine j_sub [1, 2, 3, 4] rfl ?_
      exact kX2_find_50 hL    _ _ _ _ _ _  h
def fX2_find (l1 : Int32) (l2 : Int32) (l3 : Int32) (I : JI) (L : JL) (D : JG) (S : JS) : Option (JI × JL × JG) :=
  if (I 33 11) = l1 then (if (I 33 12) = l2 then (if (I 33 13) = l3 then (fX2_find_29 l1 l2 l3 (1 : Int32) I L D S) else (fX2_find_29 l1 l2 l3 (0 : Int32) I L D S)) else (fX2_find_29 l1 l2 l3 (0 : Int32) I L D S)) else (fX2_find_29 l1 l2 l3 (0 : Int32) I L D S)
set_option maxHeartbeats 4000000 in
set_option maxRecDepth 100000 in
theorem tcX2_find {E : JE} {l1 : Int32} {l2 : Int32} {l3 : Int32} {r : JI × JL × JG} {I : JI} {L : JL} {G D : JG} {S : JS} (hL : Lay G S) (h : fX2_find l1 l2 l3 I L D S = some r) : CallJ E xX2_find 7 [.ref (E.1 + 33), .int l1, .int l2, .int l3] I L G D S none r.1 r.2.1 G r.2.2 S := by
  unfold fX2_find at h
  refine j_entry (by decide) (Nat.le_of_ble_eq_true rfl) ?_
  show AtJ E xX2_find (Zr E none r.1 r.2.1 G r.2.2 S) ((S).length, jm_sl S) 7 0 [(0, .ref (E.1 + 33)), (1, .int l1), (2, .int l2), (3, .int l3)] [] I L G D S
  refine j_aload_n 1 dX2_find_0 rfl rfl 0 rfl ?_
  refine j_getI 4 dX2_find_1 rfl (sh_33 hL) cl2 (k := 11) (by decide) flX2_48 rfl ?_
  refine j_iload_n 5 dX2_find_4 rfl rfl 1 rfl ?_
  refine j_icmp_ne 28 8 dX2_find_5 (by decide) rfl (fun hc => ?_) (fun hc => ?_)
  · replace h := j_neg hc h
    refine j_iconst (v := (0 : Int32)) 29 dX2_find_28 rfl (by decide) ?_
    exact kX2_find_29 hL    _ _ _ _ _ _ _  h
  · replace h := j_pos hc h
    refine j_aload_n 9 dX2_find_8 rfl rfl 0 rfl ?_
    refine j_getI 12 dX2_find_9 rfl (sh_33 hL) cl2 (k := 12) (by decide) flX2_51 rfl ?_
    refine j_iload_n 13 dX2_find_12 rfl rfl 2 rfl ?_
    refine j_icmp_ne 28 16 dX2_find_13 (by decide) rfl (fun hc => ?_) (fun hc => ?_)
    · replace h := j_neg hc h
      refine j_iconst (v := (0 : Int32)) 29 dX2_find_28 rfl (by decide) ?_
      exact kX2_find_29 hL    _ _ _ _ _ _ _  h
    · replace h := j_pos hc h
      refine j_aload_n 17 dX2_find_16 rfl rfl 0 rfl ?_
      refine j_getI 20 dX2_find_17 rfl (sh_33 hL) cl2 (k := 13) (by decide) flX2_54 rfl ?_
      refine j_iload_n 21 dX2_find_20 rfl rfl 3 rfl ?_
      refine j_icmp_ne 28 24 dX2_find_21 (by decide) rfl (fun hc => ?_) (fun hc => ?_)
      · replace h := j_neg hc h
        refine j_iconst (v := (0 : Int32)) 29 dX2_find_28 rfl (by decide) ?_
        exact kX2_find_29 hL    _ _ _ _ _ _ _  h
      · replace h := j_pos hc h
        refine j_iconst (v := (1 : Int32)) 25 dX2_find_24 rfl (by decide) ?_
        refine j_goto 29 dX2_find_25 (by decide) ?_
        exact kX2_find_29 hL    _ _ _ _ _ _ _  h
def fX3_init (t : Nat) (l1 : Nat) (I : JI) (G : JG) (S : JS) : Option (JI × JG × JS) :=
  some ((j_clr (j_clr (j_clr (j_clr I (S).length 0) ((S ++ [(20, 14)])).length 0) (((S ++ [(20, 14)]) ++ [(20, 64)])).length 0) ((((S ++ [(20, 14)]) ++ [(20, 64)]) ++ [(20, 4)])).length 0), (j_up (j_up (j_up (j_up (j_up G t 1 (some (S).length)) t 2 (some ((S ++ [(20, 14)])).length)) t 3 (some (((S ++ [(20, 14)]) ++ [(20, 64)])).length)) t 4 (some ((((S ++ [(20, 14)]) ++ [(20, 64)]) ++ [(20, 4)])).length)) t 0 (some l1)), ((((S ++ [(20, 14)]) ++ [(20, 64)]) ++ [(20, 4)]) ++ [(20, 16)]))
set_option maxHeartbeats 4000000 in
set_option maxRecDepth 100000 in
theorem tcX3_init {E : JE} {t : Nat} {l1 : Nat} {r : JI × JG × JS} {I : JI} {L : JL} {G D : JG} {S : JS} (ht : S[t]? = some (3, 10)) (h : fX3_init t l1 I G S = some r) : CallJ E xX3_init 1 [.ref (E.1 + t), .ref (E.1 + l1)] I L G D S none r.1 L r.2.1 D r.2.2 := by
  unfold fX3_init at h
  refine j_entry (by decide) (Nat.le_of_ble_eq_true rfl) ?_
  show AtJ E xX3_init (Zr E none r.1 L r.2.1 D r.2.2) ((r.2.2).length, jm_sl r.2.2) 1 0 [(0, .ref (E.1 + t)), (1, .ref (E.1 + l1))] [] I L G D S
  refine j_aload_n 1 dX3_init_0 rfl rfl 0 rfl ?_
  refine j_obj 4 dX3_init_1 rfl flX3_3 wm117 wm118 (by decide) (Nat.le_of_ble_eq_true rfl) ?_
  refine j_aload_n 5 dX3_init_4 rfl rfl 0 rfl ?_
  refine j_bipush (v := (14 : Int32)) 7 dX3_init_5 rfl (by decide) ?_
  refine j_nwI (N := 14) 9 dX3_init_7 rfl wm170 (by decide) (by decide) (by decide) ?_
  refine j_putF 12 dX3_init_9 rfl (jm_pre ht) cl3 (k := 1) (by decide) flX3_9 rfl rfl rfl rfl (fun _ => rfl) (fun _ => rfl) ?_
  refine j_aload_n 13 dX3_init_12 rfl rfl 0 rfl ?_
  refine j_bipush (v := (64 : Int32)) 15 dX3_init_13 rfl (by decide) ?_
  refine j_nwI (N := 64) 17 dX3_init_15 rfl wm170 (by decide) (by decide) (by decide) ?_
  refine j_putF 20 dX3_init_17 rfl (jm_pre (jm_pre ht)) cl3 (k := 2) (by decide) flX3_15 rfl rfl rfl rfl (fun _ => rfl) (fun _ => rfl) ?_
  refine j_aload_n 21 dX3_init_20 rfl rfl 0 rfl ?_
  refine j_iconst (v := (4 : Int32)) 22 dX3_init_21 rfl (by decide) ?_
  refine j_nwI (N := 4) 24 dX3_init_22 rfl wm170 (by decide) (by decide) (by decide) ?_
  refine j_putF 27 dX3_init_24 rfl (jm_pre (jm_pre (jm_pre ht))) cl3 (k := 3) (by decide) flX3_18 rfl rfl rfl rfl (fun _ => rfl) (fun _ => rfl) ?_
  refine j_aload_n 28 dX3_init_27 rfl rfl 0 rfl ?_
  refine j_bipush (v := (16 : Int32)) 30 dX3_init_28 rfl (by decide) ?_
  refine j_nwI (N := 16) 32 dX3_init_30 rfl wm170 (by decide) (by decide) (by decide) ?_
  refine j_putF 35 dX3_init_32 rfl (jm_pre (jm_pre (jm_pre (jm_pre ht)))) cl3 (k := 4) (by decide) flX3_21 rfl rfl rfl rfl (fun _ => rfl) (fun _ => rfl) ?_
  refine j_aload_n 36 dX3_init_35 rfl rfl 0 rfl ?_
  refine j_aload_n 37 dX3_init_36 rfl rfl 1 rfl ?_
  refine j_putF 40 dX3_init_37 rfl (jm_pre (jm_pre (jm_pre (jm_pre ht)))) cl3 (k := 0) (by decide) flX3_24 rfl rfl rfl rfl (fun _ => rfl) (fun _ => rfl) ?_
  cases h
  exact j_vret dX3_init_40 rfl
def fX3_lineFor_2 : Nat → Int32 → Int32 → JI → JG → JS → Option (Int32 × JI)
  | 0, _, _, _, _, _ => none
  | n + 1, l1, l2, I, D, S =>
    j_opt (D 15 5) (none) (fun b1 => j_g (decide (S[b1]? = some (4, 17))) (if (I b1 11) ≤ l2 then (some ((-1 : Int32), I)) else (j_opt (D 15 5) (none) (fun b2 => j_g (decide (S[b2]? = some (4, 17))) (j_g (j_in l2 18) (if (I (b2 + 3) l2.toNatClampNeg) = (-1 : Int32) then ((fX3_lineFor_2 n) l1 (l2 + (1 : Int32)) I D S) else (j_opt (D 15 5) (j_opt (D 15 7) (none) (fun b4 => j_g (decide (S[b4]? = some (0, 7))) (none))) (fun b3 => j_g (decide (S[b3]? = some (4, 17))) (j_opt (D 15 7) (none) (fun b5 => j_g (decide (S[b5]? = some (0, 7))) ((fX4_isFirstOn b3 l2 (I b5 4) I).bind (fun q6 => if q6 = 0 then ((fX3_lineFor_2 n) l1 (l2 + (1 : Int32)) I D S) else (j_opt (D 15 5) (none) (fun b7 => j_g (decide (S[b7]? = some (4, 17))) (j_g (j_in l2 18) (j_g (j_in (I (b7 + 4) l2.toNatClampNeg) 4) ((fX3_holdsForOne l2 ((I 18 (I (b7 + 4) l2.toNatClampNeg).toNatClampNeg) &&& ((1 : Int32) <<< (l1 &&& 31))) I D S).bind (fun q8 => if q8.1 = 0 then ((fX3_lineFor_2 n) l1 (l2 + (1 : Int32)) q8.2 D S) else (some (l2, q8.2))))))))))))))))))))
set_option maxHeartbeats 4000000 in
set_option maxRecDepth 100000 in
theorem kX3_lineFor_2 {E : JE} {r : Int32 × JI} {L : JL} {G : JG} {S : JS} (hL : Lay G S) : ∀ (n : Nat) (l1 : Int32) (l2 : Int32) (I : JI) (D : JG), fX3_lineFor_2 n l1 l2 I D S = some r → AtJ E xX3_lineFor (Zr E (some (.int r.1)) r.2 L G D S) ((S).length, jm_sl S) 3 2 [(0, .ref (E.1 + 15)), (1, .int l1), (2, .int l2)] [] I L G D S := by
  intro n
  induction n with
  | zero => intro l1 l2 I D  h; simp [fX3_lineFor_2] at h
  | succ n ih =>
    intro l1 l2 I D  h
    rw [fX3_lineFor_2] at h
    refine j_iload_n 3 dX3_lineFor_2 rfl rfl 2 rfl ?_
    refine j_aload_n 4 dX3_lineFor_3 rfl rfl 0 rfl ?_
    rcases j_os h with ⟨hb, h⟩ | ⟨b1, hb, h⟩
    · refine j_getDn 7 dX3_lineFor_4 rfl (sh_15 hL) cl3 (k := 5) (by decide) flX3_89 rfl hb ?_
      cases h
    obtain ⟨hsb1, h⟩ := j_gs h
    replace hsb1 := of_decide_eq_true hsb1
    refine j_getD 7 dX3_lineFor_4 rfl (sh_15 hL) cl3 (k := 5) (by decide) flX3_89 rfl hb ?_
    refine j_getIN 10 dX3_lineFor_7 rfl hsb1 cl4 (k := 11) (by decide) flX3_127 rfl ?_
    refine j_icmp_ge 80 13 dX3_lineFor_10 (by decide) rfl (fun hc => ?_) (fun hc => ?_)
    · replace h := j_pos hc h
      refine j_iconst (v := (-1 : Int32)) 81 dX3_lineFor_80 rfl (by decide) ?_
      cases h
      exact j_iret dX3_lineFor_81 rfl
    · replace h := j_neg hc h
      refine j_aload_n 14 dX3_lineFor_13 rfl rfl 0 rfl ?_
      rcases j_os h with ⟨hb, h⟩ | ⟨b2, hb, h⟩
      · refine j_getDn 17 dX3_lineFor_14 rfl (sh_15 hL) cl3 (k := 5) (by decide) flX3_89 rfl hb ?_
        cases h
      obtain ⟨hsb2, h⟩ := j_gs h
      replace hsb2 := of_decide_eq_true hsb2
      refine j_getD 17 dX3_lineFor_14 rfl (sh_15 hL) cl3 (k := 5) (by decide) flX3_89 rfl hb ?_
      refine j_getGN 20 dX3_lineFor_17 rfl hsb2 cl4 (k := 2) (by decide) flX3_150 rfl (ly4_2 hL hsb2).1 ?_
      refine j_iload_n 21 dX3_lineFor_20 rfl rfl 2 rfl ?_
      obtain ⟨hg, h⟩ := j_gs h
      refine j_iald 22 dX3_lineFor_21 rfl (ly4_2 hL hsb2).2 (j_inv hg) ?_
      refine j_iconst (v := (-1 : Int32)) 23 dX3_lineFor_22 rfl (by decide) ?_
      refine j_icmp_eq 74 26 dX3_lineFor_23 (by decide) rfl (fun hc => ?_) (fun hc => ?_)
      · replace h := j_pos hc h
        refine j_iinc (v := (l2 + (1 : Int32))) (lv' := [(2, .int (l2 + (1 : Int32))), (0, .ref (E.1 + 15)), (1, .int l1)]) (q := 2) 77 dX3_lineFor_74 rfl rfl rfl (by decide) rfl ?_
        refine j_goto 2 dX3_lineFor_77 (by decide) ?_
        refine j_sub [1, 2, 0] rfl ?_
        exact ih _ _ _ _  h
      · replace h := j_neg hc h
        refine j_aload_n 27 dX3_lineFor_26 rfl rfl 0 rfl ?_
        rcases j_os h with ⟨hb, h⟩ | ⟨b3, hb, h⟩
        · refine j_getDn 30 dX3_lineFor_27 rfl (sh_15 hL) cl3 (k := 5) (by decide) flX3_89 rfl hb ?_
          refine j_iload_n 31 dX3_lineFor_30 rfl rfl 2 rfl ?_
          refine j_aload_n 32 dX3_lineFor_31 rfl rfl 0 rfl ?_
          rcases j_os h with ⟨hb, h⟩ | ⟨b4, hb, h⟩
          · refine j_getDn 35 dX3_lineFor_32 rfl (sh_15 hL) cl3 (k := 7) (by decide) flX3_37 rfl hb ?_
            cases h
          obtain ⟨hsb4, h⟩ := j_gs h
          replace hsb4 := of_decide_eq_true hsb4
          refine j_getD 35 dX3_lineFor_32 rfl (sh_15 hL) cl3 (k := 7) (by decide) flX3_37 rfl hb ?_
          refine j_getIN 38 dX3_lineFor_35 rfl hsb4 cl0 (k := 4) (by decide) flX3_74 rfl ?_
          cases h
        obtain ⟨hsb3, h⟩ := j_gs h
        replace hsb3 := of_decide_eq_true hsb3
        refine j_getD 30 dX3_lineFor_27 rfl (sh_15 hL) cl3 (k := 5) (by decide) flX3_89 rfl hb ?_
        refine j_iload_n 31 dX3_lineFor_30 rfl rfl 2 rfl ?_
        refine j_aload_n 32 dX3_lineFor_31 rfl rfl 0 rfl ?_
        rcases j_os h with ⟨hb, h⟩ | ⟨b5, hb, h⟩
        · refine j_getDn 35 dX3_lineFor_32 rfl (sh_15 hL) cl3 (k := 7) (by decide) flX3_37 rfl hb ?_
          cases h
        obtain ⟨hsb5, h⟩ := j_gs h
        replace hsb5 := of_decide_eq_true hsb5
        refine j_getD 35 dX3_lineFor_32 rfl (sh_15 hL) cl3 (k := 7) (by decide) flX3_37 rfl hb ?_
        refine j_getIN 38 dX3_lineFor_35 rfl hsb5 cl0 (k := 4) (by decide) flX3_74 rfl ?_
        obtain ⟨q6, hq6, h⟩ := j_bs h
        refine j_callV (rest := []) (As := [.int l2, .int (I b5 4)]) 41 dX3_lineFor_38 rfl jyX4_isFirstOn (tcX4_isFirstOn hL hsb3 hq6) hsb3 cl4 flX3_153 wm965 wm966 (by decide) rfl rfl (Nat.le_of_ble_eq_true rfl) ?_
        refine j_if_eq 74 44 dX3_lineFor_41 (by decide) rfl (fun hc => ?_) (fun hc => ?_)
        · replace h := j_pos hc h
          refine j_iinc (v := (l2 + (1 : Int32))) (lv' := [(2, .int (l2 + (1 : Int32))), (0, .ref (E.1 + 15)), (1, .int l1)]) (q := 2) 77 dX3_lineFor_74 rfl rfl rfl (by decide) rfl ?_
          refine j_goto 2 dX3_lineFor_77 (by decide) ?_
          refine j_sub [1, 2, 0] rfl ?_
          exact ih _ _ _ _  h
        · replace h := j_neg hc h
          refine j_aload_n 45 dX3_lineFor_44 rfl rfl 0 rfl ?_
          refine j_getG 48 dX3_lineFor_45 rfl (sh_15 hL) cl3 (k := 3) (by decide) flX3_18 rfl (gs_15_3 hL) ?_
          refine j_aload_n 49 dX3_lineFor_48 rfl rfl 0 rfl ?_
          rcases j_os h with ⟨hb, h⟩ | ⟨b7, hb, h⟩
          · refine j_getDn 52 dX3_lineFor_49 rfl (sh_15 hL) cl3 (k := 5) (by decide) flX3_89 rfl hb ?_
            cases h
          obtain ⟨hsb7, h⟩ := j_gs h
          replace hsb7 := of_decide_eq_true hsb7
          refine j_getD 52 dX3_lineFor_49 rfl (sh_15 hL) cl3 (k := 5) (by decide) flX3_89 rfl hb ?_
          refine j_getGN 55 dX3_lineFor_52 rfl hsb7 cl4 (k := 3) (by decide) flX3_156 rfl (ly4_3 hL hsb7).1 ?_
          refine j_iload_n 56 dX3_lineFor_55 rfl rfl 2 rfl ?_
          obtain ⟨hg, h⟩ := j_gs h
          refine j_iald 57 dX3_lineFor_56 rfl (ly4_3 hL hsb7).2 (j_inv hg) ?_
          obtain ⟨hg, h⟩ := j_gs h
          refine j_iald 58 dX3_lineFor_57 rfl (sh_18 hL) (j_inv hg) ?_
          refine j_iconst (v := (1 : Int32)) 59 dX3_lineFor_58 rfl (by decide) ?_
          refine j_iload_n 60 dX3_lineFor_59 rfl rfl 1 rfl ?_
          refine j_ishl 61 dX3_lineFor_60 rfl ?_
          refine j_iand 62 dX3_lineFor_61 rfl ?_
          refine j_istore_n (lv' := [(3, .int ((I 18 (I (b7 + 4) l2.toNatClampNeg).toNatClampNeg) &&& ((1 : Int32) <<< (l1 &&& 31)))), (0, .ref (E.1 + 15)), (1, .int l1), (2, .int l2)]) 63 dX3_lineFor_62 rfl rfl (by decide) rfl ?_
          refine j_aload_n 64 dX3_lineFor_63 rfl rfl 1 rfl ?_
          refine j_iload_n 65 dX3_lineFor_64 rfl rfl 3 rfl ?_
          refine j_iload_n 66 dX3_lineFor_65 rfl rfl 0 rfl ?_
          obtain ⟨q8, hq8, h⟩ := j_bs h
          refine j_callV (rest := []) (As := [.int l2, .int ((I 18 (I (b7 + 4) l2.toNatClampNeg).toNatClampNeg) &&& ((1 : Int32) <<< (l1 &&& 31)))]) 69 dX3_lineFor_66 rfl jyX3_holdsForOne (tcX3_holdsForOne hL  hq8) (sh_15 hL) cl3 flX3_139 wm950 wm14 (by decide) rfl rfl (Nat.le_of_ble_eq_true rfl) ?_
          refine j_if_eq 74 72 dX3_lineFor_69 (by decide) rfl (fun hc => ?_) (fun hc => ?_)
          · replace h := j_pos hc h
            refine j_iinc (v := (l2 + (1 : Int32))) (lv' := [(2, .int (l2 + (1 : Int32))), (3, .int ((I 18 (I (b7 + 4) l2.toNatClampNeg).toNatClampNeg) &&& ((1 : Int32) <<< (l1 &&& 31)))), (0, .ref (E.1 + 15)), (1, .int l1)]) (q := 3) 77 dX3_lineFor_74 rfl rfl rfl (by decide) rfl ?_
            refine j_goto 2 dX3_lineFor_77 (by decide) ?_
            refine j_sub [2, 3, 0] rfl ?_
            exact ih _ _ _ _  h
          · replace h := j_neg hc h
            refine j_iload_n 73 dX3_lineFor_72 rfl rfl 3 rfl ?_
            cases h
            exact j_iret dX3_lineFor_73 rfl
def fX3_lineFor (l1 : Int32) (I : JI) (D : JG) (S : JS) : Option (Int32 × JI) :=
  fX3_lineFor_2 100000 l1 (0 : Int32) I D S
set_option maxHeartbeats 4000000 in
set_option maxRecDepth 100000 in
theorem tcX3_lineFor {E : JE} {l1 : Int32} {r : Int32 × JI} {I : JI} {L : JL} {G D : JG} {S : JS} (hL : Lay G S) (h : fX3_lineFor l1 I D S = some r) : CallJ E xX3_lineFor 3 [.ref (E.1 + 15), .int l1] I L G D S (some (.int r.1)) r.2 L G D S := by
  unfold fX3_lineFor at h
  refine j_entry (by decide) (Nat.le_of_ble_eq_true rfl) ?_
  show AtJ E xX3_lineFor (Zr E (some (.int r.1)) r.2 L G D S) ((S).length, jm_sl S) 3 0 [(0, .ref (E.1 + 15)), (1, .int l1)] [] I L G D S
  refine j_iconst (v := (0 : Int32)) 1 dX3_lineFor_0 rfl (by decide) ?_
  refine j_istore_n (lv' := [(2, .int (0 : Int32)), (0, .ref (E.1 + 15)), (1, .int l1)]) 2 dX3_lineFor_1 rfl rfl (by decide) rfl ?_
  refine j_sub [1, 2, 0] rfl ?_
  exact kX3_lineFor_2 hL    100000 _ _ _ _  h
def fX3_judgeAll_185 (l1 : Nat) (l2 : Nat) : Nat → Int32 → Int32 → JI → JL → JG → JS → Option (JI × JG)
  | 0, _, _, _, _, _, _ => none
  | n + 1, l3, l4, I, L, D, S =>
    if (16 : Int32) ≤ l4 then (some (I, D)) else (if (jm_b01 (I 15 8)) = 0 then (j_opt (D 15 7) (none) (fun b12 => j_g (decide (S[b12]? = some (0, 7))) (if l4 = (I b12 2) then ((fX3_judgeAll_185 l1 l2 n) l3 (l4 + (1 : Int32)) I L D S) else (j_g (j_in l4 16) (if (I 19 l4.toNatClampNeg) = (-1 : Int32) then ((fX3_judgeAll_185 l1 l2 n) l3 (l4 + (1 : Int32)) I L D S) else (j_g (j_in l4 16) (if l3 ≤ (I 19 l4.toNatClampNeg) then ((fX3_judgeAll_185 l1 l2 n) l3 (l4 + (1 : Int32)) I L D S) else ((fX3_judgeAll_185 l1 l2 n) l3 (l4 + (1 : Int32)) (j_up I 15 9 ((I 15 9) ||| ((1 : Int32) <<< (l4 &&& 31)))) L D S)))))))) else ((fX3_judgeAll_185 l1 l2 n) l3 (l4 + (1 : Int32)) I L D S))
set_option maxHeartbeats 4000000 in
set_option maxRecDepth 100000 in
theorem kX3_judgeAll_185 {E : JE} {l1 : Nat} {l2 : Nat} {r : JI × JG} {G : JG} {S : JS} (hL : Lay G S) (h1 : S[l1]? = some (1, 4)) (h2 : S[l2]? = some (0, 7)) : ∀ (n : Nat) (l3 : Int32) (l4 : Int32) (I : JI) (L : JL) (D : JG), fX3_judgeAll_185 l1 l2 n l3 l4 I L D S = some r → AtJ E xX3_judgeAll (Zr E none r.1 L G r.2 S) ((S).length, jm_sl S) 4 185 [(0, .ref (E.1 + 15)), (3, .int l3), (4, .int l4)] [] I L G D S := by
  intro n
  induction n with
  | zero => intro l3 l4 I L D  h; simp [fX3_judgeAll_185] at h
  | succ n ih =>
    intro l3 l4 I L D  h
    rw [fX3_judgeAll_185] at h
    refine j_iload 187 dX3_judgeAll_185 rfl 2 rfl ?_
    refine j_bipush (v := (16 : Int32)) 189 dX3_judgeAll_187 rfl (by decide) ?_
    refine j_icmp_ge 252 192 dX3_judgeAll_189 (by decide) rfl (fun hc => ?_) (fun hc => ?_)
    · replace h := j_pos hc h
      cases h
      exact j_vret dX3_judgeAll_252 rfl
    · replace h := j_neg hc h
      refine j_aload_n 193 dX3_judgeAll_192 rfl rfl 0 rfl ?_
      refine j_getZ 196 dX3_judgeAll_193 rfl (sh_15 hL) cl3 (k := 8) (by decide) flX3_123 rfl ?_
      refine j_if_ne 246 199 dX3_judgeAll_196 (by decide) rfl (fun hc => ?_) (fun hc => ?_)
      · replace h := j_neg hc h
        refine j_iinc (v := (l4 + (1 : Int32))) (lv' := [(4, .int (l4 + (1 : Int32))), (0, .ref (E.1 + 15)), (3, .int l3)]) (q := 2) 249 dX3_judgeAll_246 rfl rfl rfl (by decide) rfl ?_
        refine j_goto 185 dX3_judgeAll_249 (by decide) ?_
        refine j_sub [1, 2, 0] rfl ?_
        exact ih _ _ _ _ _  h
      · replace h := j_pos hc h
        refine j_iload 201 dX3_judgeAll_199 rfl 2 rfl ?_
        refine j_aload_n 202 dX3_judgeAll_201 rfl rfl 0 rfl ?_
        rcases j_os h with ⟨hb, h⟩ | ⟨b12, hb, h⟩
        · refine j_getDn 205 dX3_judgeAll_202 rfl (sh_15 hL) cl3 (k := 7) (by decide) flX3_37 rfl hb ?_
          cases h
        obtain ⟨hsb12, h⟩ := j_gs h
        replace hsb12 := of_decide_eq_true hsb12
        refine j_getD 205 dX3_judgeAll_202 rfl (sh_15 hL) cl3 (k := 7) (by decide) flX3_37 rfl hb ?_
        refine j_getIN 208 dX3_judgeAll_205 rfl hsb12 cl0 (k := 2) (by decide) flX3_71 rfl ?_
        refine j_icmp_eq 246 211 dX3_judgeAll_208 (by decide) rfl (fun hc => ?_) (fun hc => ?_)
        · replace h := j_pos hc h
          refine j_iinc (v := (l4 + (1 : Int32))) (lv' := [(4, .int (l4 + (1 : Int32))), (0, .ref (E.1 + 15)), (3, .int l3)]) (q := 2) 249 dX3_judgeAll_246 rfl rfl rfl (by decide) rfl ?_
          refine j_goto 185 dX3_judgeAll_249 (by decide) ?_
          refine j_sub [1, 2, 0] rfl ?_
          exact ih _ _ _ _ _  h
        · replace h := j_neg hc h
          refine j_aload_n 212 dX3_judgeAll_211 rfl rfl 0 rfl ?_
          refine j_getG 215 dX3_judgeAll_212 rfl (sh_15 hL) cl3 (k := 4) (by decide) flX3_21 rfl (gs_15_4 hL) ?_
          refine j_iload 217 dX3_judgeAll_215 rfl 2 rfl ?_
          obtain ⟨hg, h⟩ := j_gs h
          refine j_iald 218 dX3_judgeAll_217 rfl (sh_19 hL) (j_inv hg) ?_
          refine j_iconst (v := (-1 : Int32)) 219 dX3_judgeAll_218 rfl (by decide) ?_
          refine j_icmp_eq 246 222 dX3_judgeAll_219 (by decide) rfl (fun hc => ?_) (fun hc => ?_)
          · replace h := j_pos hc h
            refine j_iinc (v := (l4 + (1 : Int32))) (lv' := [(4, .int (l4 + (1 : Int32))), (0, .ref (E.1 + 15)), (3, .int l3)]) (q := 2) 249 dX3_judgeAll_246 rfl rfl rfl (by decide) rfl ?_
            refine j_goto 185 dX3_judgeAll_249 (by decide) ?_
            refine j_sub [1, 2, 0] rfl ?_
            exact ih _ _ _ _ _  h
          · replace h := j_neg hc h
            refine j_aload_n 223 dX3_judgeAll_222 rfl rfl 0 rfl ?_
            refine j_getG 226 dX3_judgeAll_223 rfl (sh_15 hL) cl3 (k := 4) (by decide) flX3_21 rfl (gs_15_4 hL) ?_
            refine j_iload 228 dX3_judgeAll_226 rfl 2 rfl ?_
            obtain ⟨hg, h⟩ := j_gs h
            refine j_iald 229 dX3_judgeAll_228 rfl (sh_19 hL) (j_inv hg) ?_
            refine j_iload_n 230 dX3_judgeAll_229 rfl rfl 1 rfl ?_
            refine j_icmp_ge 246 233 dX3_judgeAll_230 (by decide) rfl (fun hc => ?_) (fun hc => ?_)
            · replace h := j_pos hc h
              refine j_iinc (v := (l4 + (1 : Int32))) (lv' := [(4, .int (l4 + (1 : Int32))), (0, .ref (E.1 + 15)), (3, .int l3)]) (q := 2) 249 dX3_judgeAll_246 rfl rfl rfl (by decide) rfl ?_
              refine j_goto 185 dX3_judgeAll_249 (by decide) ?_
              refine j_sub [1, 2, 0] rfl ?_
              exact ih _ _ _ _ _  h
            · replace h := j_neg hc h
              refine j_aload_n 234 dX3_judgeAll_233 rfl rfl 0 rfl ?_
              refine j_dup 235 dX3_judgeAll_234 rfl rfl ?_
              refine j_getI 238 dX3_judgeAll_235 rfl (sh_15 hL) cl3 (k := 9) (by decide) flX3_147 rfl ?_
              refine j_iconst (v := (1 : Int32)) 239 dX3_judgeAll_238 rfl (by decide) ?_
              refine j_iload 241 dX3_judgeAll_239 rfl 2 rfl ?_
              refine j_ishl 242 dX3_judgeAll_241 rfl ?_
              refine j_ior 243 dX3_judgeAll_242 rfl ?_
              refine j_putI 246 dX3_judgeAll_243 rfl (sh_15 hL) cl3 (k := 9) (by decide) flX3_147 rfl rfl rfl ?_
              refine j_iinc (v := (l4 + (1 : Int32))) (lv' := [(4, .int (l4 + (1 : Int32))), (0, .ref (E.1 + 15)), (3, .int l3)]) (q := 2) 249 dX3_judgeAll_246 rfl rfl rfl (by decide) rfl ?_
              refine j_goto 185 dX3_judgeAll_249 (by decide) ?_
              refine j_sub [1, 2, 0] rfl ?_
              exact ih _ _ _ _ _  h
def fX3_judgeAll_143 (l1 : Nat) (l2 : Nat) (I : JI) (L : JL) (D : JG) (S : JS) : Option (JI × JG) :=
  j_opt (D 15 7) (none) (fun b10 => j_g (decide (S[b10]? = some (0, 7))) (j_g (j_in (I b10 2) 16) (if (I 19 (I b10 2).toNatClampNeg) = (-1 : Int32) then (fX3_judgeAll_185 l1 l2 100000 (18 : Int32) (0 : Int32) (j_up I 15 9 (0 : Int32)) L D S) else (j_opt (D 15 7) (none) (fun b11 => j_g (decide (S[b11]? = some (0, 7))) (j_g (j_in (I b11 2) 16) (fX3_judgeAll_185 l1 l2 100000 (I 19 (I b11 2).toNatClampNeg) (0 : Int32) (j_up I 15 9 (0 : Int32)) L D S)))))))
set_option maxHeartbeats 4000000 in
set_option maxRecDepth 100000 in
theorem kX3_judgeAll_143 {E : JE} {l1 : Nat} {l2 : Nat} {r : JI × JG} {G : JG} {S : JS} (hL : Lay G S) (h1 : S[l1]? = some (1, 4)) (h2 : S[l2]? = some (0, 7)) : ∀ (I : JI) (L : JL) (D : JG), fX3_judgeAll_143 l1 l2 I L D S = some r → AtJ E xX3_judgeAll (Zr E none r.1 L G r.2 S) ((S).length, jm_sl S) 4 143 [(0, .ref (E.1 + 15))] [] I L G D S := by
  intro I L D  h
  unfold fX3_judgeAll_143 at h
  refine j_aload_n 144 dX3_judgeAll_143 rfl rfl 0 rfl ?_
  refine j_getG 147 dX3_judgeAll_144 rfl (sh_15 hL) cl3 (k := 4) (by decide) flX3_21 rfl (gs_15_4 hL) ?_
  refine j_aload_n 148 dX3_judgeAll_147 rfl rfl 0 rfl ?_
  rcases j_os h with ⟨hb, h⟩ | ⟨b10, hb, h⟩
  · refine j_getDn 151 dX3_judgeAll_148 rfl (sh_15 hL) cl3 (k := 7) (by decide) flX3_37 rfl hb ?_
    cases h
  obtain ⟨hsb10, h⟩ := j_gs h
  replace hsb10 := of_decide_eq_true hsb10
  refine j_getD 151 dX3_judgeAll_148 rfl (sh_15 hL) cl3 (k := 7) (by decide) flX3_37 rfl hb ?_
  refine j_getIN 154 dX3_judgeAll_151 rfl hsb10 cl0 (k := 2) (by decide) flX3_71 rfl ?_
  obtain ⟨hg, h⟩ := j_gs h
  refine j_iald 155 dX3_judgeAll_154 rfl (sh_19 hL) (j_inv hg) ?_
  refine j_iconst (v := (-1 : Int32)) 156 dX3_judgeAll_155 rfl (by decide) ?_
  refine j_icmp_ne 164 159 dX3_judgeAll_156 (by decide) rfl (fun hc => ?_) (fun hc => ?_)
  · replace h := j_neg hc h
    refine j_aload_n 165 dX3_judgeAll_164 rfl rfl 0 rfl ?_
    refine j_getG 168 dX3_judgeAll_165 rfl (sh_15 hL) cl3 (k := 4) (by decide) flX3_21 rfl (gs_15_4 hL) ?_
    refine j_aload_n 169 dX3_judgeAll_168 rfl rfl 0 rfl ?_
    rcases j_os h with ⟨hb, h⟩ | ⟨b11, hb, h⟩
    · refine j_getDn 172 dX3_judgeAll_169 rfl (sh_15 hL) cl3 (k := 7) (by decide) flX3_37 rfl hb ?_
      cases h
    obtain ⟨hsb11, h⟩ := j_gs h
    replace hsb11 := of_decide_eq_true hsb11
    refine j_getD 172 dX3_judgeAll_169 rfl (sh_15 hL) cl3 (k := 7) (by decide) flX3_37 rfl hb ?_
    refine j_getIN 175 dX3_judgeAll_172 rfl hsb11 cl0 (k := 2) (by decide) flX3_71 rfl ?_
    obtain ⟨hg, h⟩ := j_gs h
    refine j_iald 176 dX3_judgeAll_175 rfl (sh_19 hL) (j_inv hg) ?_
    refine j_istore_n (lv' := [(3, .int (I 19 (I b11 2).toNatClampNeg)), (0, .ref (E.1 + 15))]) 177 dX3_judgeAll_176 rfl rfl (by decide) rfl ?_
    refine j_aload_n 178 dX3_judgeAll_177 rfl rfl 1 rfl ?_
    refine j_iconst (v := (0 : Int32)) 179 dX3_judgeAll_178 rfl (by decide) ?_
    refine j_putI 182 dX3_judgeAll_179 rfl (sh_15 hL) cl3 (k := 9) (by decide) flX3_147 rfl rfl rfl ?_
    refine j_iconst (v := (0 : Int32)) 183 dX3_judgeAll_182 rfl (by decide) ?_
    refine j_istore (lv' := [(4, .int (0 : Int32)), (3, .int (I 19 (I b11 2).toNatClampNeg)), (0, .ref (E.1 + 15))]) 185 dX3_judgeAll_183 rfl (by decide) rfl ?_
    refine j_sub [2, 1, 0] rfl ?_
    exact kX3_judgeAll_185 hL  h1 h2  100000 _ _ _ _ _  h
  · replace h := j_pos hc h
    refine j_bipush (v := (18 : Int32)) 161 dX3_judgeAll_159 rfl (by decide) ?_
    refine j_goto 176 dX3_judgeAll_161 (by decide) ?_
    refine j_istore_n (lv' := [(3, .int (18 : Int32)), (0, .ref (E.1 + 15))]) 177 dX3_judgeAll_176 rfl rfl (by decide) rfl ?_
    refine j_aload_n 178 dX3_judgeAll_177 rfl rfl 1 rfl ?_
    refine j_iconst (v := (0 : Int32)) 179 dX3_judgeAll_178 rfl (by decide) ?_
    refine j_putI 182 dX3_judgeAll_179 rfl (sh_15 hL) cl3 (k := 9) (by decide) flX3_147 rfl rfl rfl ?_
    refine j_iconst (v := (0 : Int32)) 183 dX3_judgeAll_182 rfl (by decide) ?_
    refine j_istore (lv' := [(4, .int (0 : Int32)), (3, .int (18 : Int32)), (0, .ref (E.1 + 15))]) 185 dX3_judgeAll_183 rfl (by decide) rfl ?_
    refine j_sub [2, 1, 0] rfl ?_
    exact kX3_judgeAll_185 hL  h1 h2  100000 _ _ _ _ _  h
def fX3_judgeAll_105 (l1 : Nat) (l2 : Nat) : Nat → Int32 → JI → JL → JG → JS → Option (JI × JG)
  | 0, _, _, _, _, _ => none
  | n + 1, l3, I, L, D, S =>
    if (16 : Int32) ≤ l3 then (fX3_judgeAll_143 l1 l2 I L D S) else (j_opt (D 15 7) (none) (fun b8 => j_g (decide (S[b8]? = some (0, 7))) (if l3 = (I b8 1) then (j_g (j_in l3 16) ((fX3_judgeAll_105 l1 l2 n) (l3 + (1 : Int32)) (j_up I 19 l3.toNatClampNeg (-1 : Int32)) L D S)) else ((fX3_lineFor l3 I D S).bind (fun q9 => j_g (j_in l3 16) ((fX3_judgeAll_105 l1 l2 n) (l3 + (1 : Int32)) (j_up q9.2 19 l3.toNatClampNeg q9.1) L D S))))))
set_option maxHeartbeats 4000000 in
set_option maxRecDepth 100000 in
theorem kX3_judgeAll_105 {E : JE} {l1 : Nat} {l2 : Nat} {r : JI × JG} {G : JG} {S : JS} (hL : Lay G S) (h1 : S[l1]? = some (1, 4)) (h2 : S[l2]? = some (0, 7)) : ∀ (n : Nat) (l3 : Int32) (I : JI) (L : JL) (D : JG), fX3_judgeAll_105 l1 l2 n l3 I L D S = some r → AtJ E xX3_judgeAll (Zr E none r.1 L G r.2 S) ((S).length, jm_sl S) 4 105 [(0, .ref (E.1 + 15)), (3, .int l3)] [] I L G D S := by
  intro n
  induction n with
  | zero => intro l3 I L D  h; simp [fX3_judgeAll_105] at h
  | succ n ih =>
    intro l3 I L D  h
    rw [fX3_judgeAll_105] at h
    refine j_iload_n 106 dX3_judgeAll_105 rfl rfl 1 rfl ?_
    refine j_bipush (v := (16 : Int32)) 108 dX3_judgeAll_106 rfl (by decide) ?_
    refine j_icmp_ge 143 111 dX3_judgeAll_108 (by decide) rfl (fun hc => ?_) (fun hc => ?_)
    · replace h := j_pos hc h
      refine j_sub [0] rfl ?_
      exact kX3_judgeAll_143 hL  h1 h2  _ _ _  h
    · replace h := j_neg hc h
      refine j_aload_n 112 dX3_judgeAll_111 rfl rfl 0 rfl ?_
      refine j_getG 115 dX3_judgeAll_112 rfl (sh_15 hL) cl3 (k := 4) (by decide) flX3_21 rfl (gs_15_4 hL) ?_
      refine j_iload_n 116 dX3_judgeAll_115 rfl rfl 1 rfl ?_
      refine j_iload_n 117 dX3_judgeAll_116 rfl rfl 1 rfl ?_
      refine j_aload_n 118 dX3_judgeAll_117 rfl rfl 0 rfl ?_
      rcases j_os h with ⟨hb, h⟩ | ⟨b8, hb, h⟩
      · refine j_getDn 121 dX3_judgeAll_118 rfl (sh_15 hL) cl3 (k := 7) (by decide) flX3_37 rfl hb ?_
        cases h
      obtain ⟨hsb8, h⟩ := j_gs h
      replace hsb8 := of_decide_eq_true hsb8
      refine j_getD 121 dX3_judgeAll_118 rfl (sh_15 hL) cl3 (k := 7) (by decide) flX3_37 rfl hb ?_
      refine j_getIN 124 dX3_judgeAll_121 rfl hsb8 cl0 (k := 1) (by decide) flX3_56 rfl ?_
      refine j_icmp_ne 131 127 dX3_judgeAll_124 (by decide) rfl (fun hc => ?_) (fun hc => ?_)
      · replace h := j_neg hc h
        refine j_aload_n 132 dX3_judgeAll_131 rfl rfl 0 rfl ?_
        refine j_iload_n 133 dX3_judgeAll_132 rfl rfl 1 rfl ?_
        obtain ⟨q9, hq9, h⟩ := j_bs h
        refine j_callV (rest := [.int l3, .ref (E.1 + 19)]) (As := [.int l3]) 136 dX3_judgeAll_133 rfl jyX3_lineFor (tcX3_lineFor hL  hq9) (sh_15 hL) cl3 flX3_143 wm962 wm17 (by decide) rfl rfl (Nat.le_of_ble_eq_true rfl) ?_
        obtain ⟨hg, h⟩ := j_gs h
        refine j_iast 137 dX3_judgeAll_136 rfl (sh_19 hL) (j_inv hg) ?_
        refine j_iinc (v := (l3 + (1 : Int32))) (lv' := [(3, .int (l3 + (1 : Int32))), (0, .ref (E.1 + 15))]) (q := 1) 140 dX3_judgeAll_137 rfl rfl rfl (by decide) rfl ?_
        refine j_goto 105 dX3_judgeAll_140 (by decide) ?_
        refine j_sub [1, 0] rfl ?_
        exact ih _ _ _ _  h
      · replace h := j_pos hc h
        refine j_iconst (v := (-1 : Int32)) 128 dX3_judgeAll_127 rfl (by decide) ?_
        refine j_goto 136 dX3_judgeAll_128 (by decide) ?_
        obtain ⟨hg, h⟩ := j_gs h
        refine j_iast 137 dX3_judgeAll_136 rfl (sh_19 hL) (j_inv hg) ?_
        refine j_iinc (v := (l3 + (1 : Int32))) (lv' := [(3, .int (l3 + (1 : Int32))), (0, .ref (E.1 + 15))]) (q := 1) 140 dX3_judgeAll_137 rfl rfl rfl (by decide) rfl ?_
        refine j_goto 105 dX3_judgeAll_140 (by decide) ?_
        refine j_sub [1, 0] rfl ?_
        exact ih _ _ _ _  h
def fX3_judgeAll_103 (l1 : Nat) (l2 : Nat) (I : JI) (L : JL) (D : JG) (S : JS) : Option (JI × JG) :=
  fX3_judgeAll_105 l1 l2 100000 (0 : Int32) I L D S
set_option maxHeartbeats 4000000 in
set_option maxRecDepth 100000 in
theorem kX3_judgeAll_103 {E : JE} {l1 : Nat} {l2 : Nat} {r : JI × JG} {G : JG} {S : JS} (hL : Lay G S) (h1 : S[l1]? = some (1, 4)) (h2 : S[l2]? = some (0, 7)) : ∀ (I : JI) (L : JL) (D : JG), fX3_judgeAll_103 l1 l2 I L D S = some r → AtJ E xX3_judgeAll (Zr E none r.1 L G r.2 S) ((S).length, jm_sl S) 4 103 [(0, .ref (E.1 + 15))] [] I L G D S := by
  intro I L D  h
  unfold fX3_judgeAll_103 at h
  refine j_iconst (v := (0 : Int32)) 104 dX3_judgeAll_103 rfl (by decide) ?_
  refine j_istore_n (lv' := [(3, .int (0 : Int32)), (0, .ref (E.1 + 15))]) 105 dX3_judgeAll_104 rfl rfl (by decide) rfl ?_
  refine j_sub [1, 0] rfl ?_
  exact kX3_judgeAll_105 hL  h1 h2  100000 _ _ _ _  h
def fX3_judgeAll_25 (l1 : Nat) (l2 : Nat) : Nat → Int32 → JI → JL → JG → JS → Option (JI × JG)
  | 0, _, _, _, _, _ => none
  | n + 1, l3, I, L, D, S =>
    j_opt (D 15 5) (none) (fun b3 => j_g (decide (S[b3]? = some (4, 17))) (if (I b3 11) ≤ l3 then (fX3_judgeAll_103 l1 l2 I L D S) else (j_opt (D 15 5) (none) (fun b4 => j_g (decide (S[b4]? = some (4, 17))) (j_g (j_in l3 18) (if (jm_b01 (I (b4 + 1) l3.toNatClampNeg)) = 0 then (j_opt (D 15 5) (none) (fun b5 => j_g (decide (S[b5]? = some (4, 17))) (j_g (j_in l3 18) (if (lg_cmp (L (b5 + 2) l3.toNatClampNeg) (-1 : Int64)) = 0 then (if (jm_b01 (I 15 8)) = 0 then (j_opt (D 15 7) (none) (fun b6 => j_g (decide (S[b6]? = some (0, 7))) ((fX3_holdsForOne l3 ((1 : Int32) <<< ((I b6 2) &&& 31)) I D S).bind (fun q7 => if q7.1 = 0 then ((fX3_judgeAll_25 l1 l2 n) (l3 + (1 : Int32)) (j_up q7.2 15 8 (0 : Int32)) L D S) else ((fX3_judgeAll_25 l1 l2 n) (l3 + (1 : Int32)) (j_up q7.2 15 8 (1 : Int32)) L D S))))) else ((fX3_judgeAll_25 l1 l2 n) (l3 + (1 : Int32)) (j_up I 15 8 (1 : Int32)) L D S)) else ((fX3_judgeAll_25 l1 l2 n) (l3 + (1 : Int32)) I L D S))))) else ((fX3_judgeAll_25 l1 l2 n) (l3 + (1 : Int32)) I L D S)))))))
set_option maxHeartbeats 4000000 in
set_option maxRecDepth 100000 in
theorem kX3_judgeAll_25 {E : JE} {l1 : Nat} {l2 : Nat} {r : JI × JG} {G : JG} {S : JS} (hL : Lay G S) (h1 : S[l1]? = some (1, 4)) (h2 : S[l2]? = some (0, 7)) : ∀ (n : Nat) (l3 : Int32) (I : JI) (L : JL) (D : JG), fX3_judgeAll_25 l1 l2 n l3 I L D S = some r → AtJ E xX3_judgeAll (Zr E none r.1 L G r.2 S) ((S).length, jm_sl S) 4 25 [(0, .ref (E.1 + 15)), (3, .int l3)] [] I L G D S := by
  intro n
  induction n with
  | zero => intro l3 I L D  h; simp [fX3_judgeAll_25] at h
  | succ n ih =>
    intro l3 I L D  h
    rw [fX3_judgeAll_25] at h
    refine j_iload_n 26 dX3_judgeAll_25 rfl rfl 1 rfl ?_
    refine j_aload_n 27 dX3_judgeAll_26 rfl rfl 0 rfl ?_
    rcases j_os h with ⟨hb, h⟩ | ⟨b3, hb, h⟩
    · refine j_getDn 30 dX3_judgeAll_27 rfl (sh_15 hL) cl3 (k := 5) (by decide) flX3_89 rfl hb ?_
      cases h
    obtain ⟨hsb3, h⟩ := j_gs h
    replace hsb3 := of_decide_eq_true hsb3
    refine j_getD 30 dX3_judgeAll_27 rfl (sh_15 hL) cl3 (k := 5) (by decide) flX3_89 rfl hb ?_
    refine j_getIN 33 dX3_judgeAll_30 rfl hsb3 cl4 (k := 11) (by decide) flX3_127 rfl ?_
    refine j_icmp_ge 103 36 dX3_judgeAll_33 (by decide) rfl (fun hc => ?_) (fun hc => ?_)
    · replace h := j_pos hc h
      refine j_sub [0] rfl ?_
      exact kX3_judgeAll_103 hL  h1 h2  _ _ _  h
    · replace h := j_neg hc h
      refine j_aload_n 37 dX3_judgeAll_36 rfl rfl 0 rfl ?_
      rcases j_os h with ⟨hb, h⟩ | ⟨b4, hb, h⟩
      · refine j_getDn 40 dX3_judgeAll_37 rfl (sh_15 hL) cl3 (k := 5) (by decide) flX3_89 rfl hb ?_
        cases h
      obtain ⟨hsb4, h⟩ := j_gs h
      replace hsb4 := of_decide_eq_true hsb4
      refine j_getD 40 dX3_judgeAll_37 rfl (sh_15 hL) cl3 (k := 5) (by decide) flX3_89 rfl hb ?_
      refine j_getGN 43 dX3_judgeAll_40 rfl hsb4 cl4 (k := 0) (by decide) flX3_130 rfl (ly4_0 hL hsb4).1 ?_
      refine j_iload_n 44 dX3_judgeAll_43 rfl rfl 1 rfl ?_
      obtain ⟨hg, h⟩ := j_gs h
      refine j_zald 45 dX3_judgeAll_44 rfl (ly4_0 hL hsb4).2 (j_inv hg) ?_
      refine j_if_ne 97 48 dX3_judgeAll_45 (by decide) rfl (fun hc => ?_) (fun hc => ?_)
      · replace h := j_neg hc h
        refine j_iinc (v := (l3 + (1 : Int32))) (lv' := [(3, .int (l3 + (1 : Int32))), (0, .ref (E.1 + 15))]) (q := 1) 100 dX3_judgeAll_97 rfl rfl rfl (by decide) rfl ?_
        refine j_goto 25 dX3_judgeAll_100 (by decide) ?_
        refine j_sub [1, 0] rfl ?_
        exact ih _ _ _ _  h
      · replace h := j_pos hc h
        refine j_aload_n 49 dX3_judgeAll_48 rfl rfl 0 rfl ?_
        rcases j_os h with ⟨hb, h⟩ | ⟨b5, hb, h⟩
        · refine j_getDn 52 dX3_judgeAll_49 rfl (sh_15 hL) cl3 (k := 5) (by decide) flX3_89 rfl hb ?_
          cases h
        obtain ⟨hsb5, h⟩ := j_gs h
        replace hsb5 := of_decide_eq_true hsb5
        refine j_getD 52 dX3_judgeAll_49 rfl (sh_15 hL) cl3 (k := 5) (by decide) flX3_89 rfl hb ?_
        refine j_getGN 55 dX3_judgeAll_52 rfl hsb5 cl4 (k := 1) (by decide) flX3_133 rfl (ly4_1 hL hsb5).1 ?_
        refine j_iload_n 56 dX3_judgeAll_55 rfl rfl 1 rfl ?_
        obtain ⟨hg, h⟩ := j_gs h
        refine j_lald 57 dX3_judgeAll_56 rfl (ly4_1 hL hsb5).2 (j_inv hg) ?_
        refine j_ldc2 (v := (-1 : Int64)) 60 dX3_judgeAll_57 rfl wm947 ?_
        refine j_lcmp 61 dX3_judgeAll_60 rfl ?_
        refine j_if_ne 97 64 dX3_judgeAll_61 (by decide) rfl (fun hc => ?_) (fun hc => ?_)
        · replace h := j_neg hc h
          refine j_iinc (v := (l3 + (1 : Int32))) (lv' := [(3, .int (l3 + (1 : Int32))), (0, .ref (E.1 + 15))]) (q := 1) 100 dX3_judgeAll_97 rfl rfl rfl (by decide) rfl ?_
          refine j_goto 25 dX3_judgeAll_100 (by decide) ?_
          refine j_sub [1, 0] rfl ?_
          exact ih _ _ _ _  h
        · replace h := j_pos hc h
          refine j_aload_n 65 dX3_judgeAll_64 rfl rfl 0 rfl ?_
          refine j_aload_n 66 dX3_judgeAll_65 rfl rfl 0 rfl ?_
          refine j_getZ 69 dX3_judgeAll_66 rfl (sh_15 hL) cl3 (k := 8) (by decide) flX3_123 rfl ?_
          refine j_if_ne 89 72 dX3_judgeAll_69 (by decide) rfl (fun hc => ?_) (fun hc => ?_)
          · replace h := j_neg hc h
            refine j_iconst (v := (1 : Int32)) 90 dX3_judgeAll_89 rfl (by decide) ?_
            refine j_goto 94 dX3_judgeAll_90 (by decide) ?_
            refine j_putZ 97 dX3_judgeAll_94 rfl (sh_15 hL) cl3 (k := 8) (by decide) flX3_123 rfl rfl rfl j_b01_1 ?_
            refine j_iinc (v := (l3 + (1 : Int32))) (lv' := [(3, .int (l3 + (1 : Int32))), (0, .ref (E.1 + 15))]) (q := 1) 100 dX3_judgeAll_97 rfl rfl rfl (by decide) rfl ?_
            refine j_goto 25 dX3_judgeAll_100 (by decide) ?_
            refine j_sub [1, 0] rfl ?_
            exact ih _ _ _ _  h
          · replace h := j_pos hc h
            refine j_aload_n 73 dX3_judgeAll_72 rfl rfl 0 rfl ?_
            refine j_iload_n 74 dX3_judgeAll_73 rfl rfl 1 rfl ?_
            refine j_iconst (v := (1 : Int32)) 75 dX3_judgeAll_74 rfl (by decide) ?_
            refine j_aload_n 76 dX3_judgeAll_75 rfl rfl 0 rfl ?_
            rcases j_os h with ⟨hb, h⟩ | ⟨b6, hb, h⟩
            · refine j_getDn 79 dX3_judgeAll_76 rfl (sh_15 hL) cl3 (k := 7) (by decide) flX3_37 rfl hb ?_
              cases h
            obtain ⟨hsb6, h⟩ := j_gs h
            replace hsb6 := of_decide_eq_true hsb6
            refine j_getD 79 dX3_judgeAll_76 rfl (sh_15 hL) cl3 (k := 7) (by decide) flX3_37 rfl hb ?_
            refine j_getIN 82 dX3_judgeAll_79 rfl hsb6 cl0 (k := 2) (by decide) flX3_71 rfl ?_
            refine j_ishl 83 dX3_judgeAll_82 rfl ?_
            obtain ⟨q7, hq7, h⟩ := j_bs h
            refine j_callV (rest := [.ref (E.1 + 15)]) (As := [.int l3, .int ((1 : Int32) <<< ((I b6 2) &&& 31))]) 86 dX3_judgeAll_83 rfl jyX3_holdsForOne (tcX3_holdsForOne hL  hq7) (sh_15 hL) cl3 flX3_139 wm950 wm14 (by decide) rfl rfl (Nat.le_of_ble_eq_true rfl) ?_
            refine j_if_eq 93 89 dX3_judgeAll_86 (by decide) rfl (fun hc => ?_) (fun hc => ?_)
            · replace h := j_pos hc h
              refine j_iconst (v := (0 : Int32)) 94 dX3_judgeAll_93 rfl (by decide) ?_
              refine j_putZ 97 dX3_judgeAll_94 rfl (sh_15 hL) cl3 (k := 8) (by decide) flX3_123 rfl rfl rfl j_b01_0 ?_
              refine j_iinc (v := (l3 + (1 : Int32))) (lv' := [(3, .int (l3 + (1 : Int32))), (0, .ref (E.1 + 15))]) (q := 1) 100 dX3_judgeAll_97 rfl rfl rfl (by decide) rfl ?_
              refine j_goto 25 dX3_judgeAll_100 (by decide) ?_
              refine j_sub [1, 0] rfl ?_
              exact ih _ _ _ _  h
            · replace h := j_neg hc h
              refine j_iconst (v := (1 : Int32)) 90 dX3_judgeAll_89 rfl (by decide) ?_
              refine j_goto 94 dX3_judgeAll_90 (by decide) ?_
              refine j_putZ 97 dX3_judgeAll_94 rfl (sh_15 hL) cl3 (k := 8) (by decide) flX3_123 rfl rfl rfl j_b01_1 ?_
              refine j_iinc (v := (l3 + (1 : Int32))) (lv' := [(3, .int (l3 + (1 : Int32))), (0, .ref (E.1 + 15))]) (q := 1) 100 dX3_judgeAll_97 rfl rfl rfl (by decide) rfl ?_
              refine j_goto 25 dX3_judgeAll_100 (by decide) ?_
              refine j_sub [1, 0] rfl ?_
              exact ih _ _ _ _  h
def fX3_judgeAll (l1 : Nat) (l2 : Nat) (I : JI) (L : JL) (D : JG) (S : JS) : Option (JI × JG) :=
  (fX3_settle l1 (I l2 0) (I l2 1) I D S).bind (fun q1 => (fX3_ask l2 q1.1 q1.2 S).bind (fun q2 => fX3_judgeAll_25 l1 l2 100000 (0 : Int32) (j_up q2.1 15 8 (0 : Int32)) L q2.2 S))
set_option maxHeartbeats 4000000 in
set_option maxRecDepth 100000 in
theorem tcX3_judgeAll {E : JE} {l1 : Nat} {l2 : Nat} {r : JI × JG} {I : JI} {L : JL} {G D : JG} {S : JS} (hL : Lay G S) (h1 : S[l1]? = some (1, 4)) (h2 : S[l2]? = some (0, 7)) (h : fX3_judgeAll l1 l2 I L D S = some r) : CallJ E xX3_judgeAll 4 [.ref (E.1 + 15), .ref (E.1 + l1), .ref (E.1 + l2)] I L G D S none r.1 L G r.2 S := by
  unfold fX3_judgeAll at h
  refine j_entry (by decide) (Nat.le_of_ble_eq_true rfl) ?_
  show AtJ E xX3_judgeAll (Zr E none r.1 L G r.2 S) ((S).length, jm_sl S) 4 0 [(0, .ref (E.1 + 15)), (1, .ref (E.1 + l1)), (2, .ref (E.1 + l2))] [] I L G D S
  refine j_aload_n 1 dX3_judgeAll_0 rfl rfl 0 rfl ?_
  refine j_aload_n 2 dX3_judgeAll_1 rfl rfl 1 rfl ?_
  refine j_aload_n 3 dX3_judgeAll_2 rfl rfl 2 rfl ?_
  refine j_getIN 6 dX3_judgeAll_3 rfl h2 cl0 (k := 0) (by decide) flX3_53 rfl ?_
  refine j_aload_n 7 dX3_judgeAll_6 rfl rfl 2 rfl ?_
  refine j_getIN 10 dX3_judgeAll_7 rfl h2 cl0 (k := 1) (by decide) flX3_56 rfl ?_
  obtain ⟨q1, hq1, h⟩ := j_bs h
  refine j_callV (rest := []) (As := [.ref (E.1 + l1), .int (I l2 0), .int (I l2 1)]) 13 dX3_judgeAll_10 rfl jyX3_settle (tcX3_settle hL h1 hq1) (sh_15 hL) cl3 flX3_115 wm938 wm939 (by decide) rfl rfl (Nat.le_of_ble_eq_true rfl) ?_
  refine j_aload_n 14 dX3_judgeAll_13 rfl rfl 0 rfl ?_
  refine j_aload_n 15 dX3_judgeAll_14 rfl rfl 2 rfl ?_
  obtain ⟨q2, hq2, h⟩ := j_bs h
  refine j_callV (rest := []) (As := [.ref (E.1 + l2)]) 18 dX3_judgeAll_15 rfl jyX3_ask (tcX3_ask hL h2 hq2) (sh_15 hL) cl3 flX3_119 wm943 wm944 (by decide) rfl rfl (Nat.le_of_ble_eq_true rfl) ?_
  refine j_aload_n 19 dX3_judgeAll_18 rfl rfl 0 rfl ?_
  refine j_iconst (v := (0 : Int32)) 20 dX3_judgeAll_19 rfl (by decide) ?_
  refine j_putZ 23 dX3_judgeAll_20 rfl (sh_15 hL) cl3 (k := 8) (by decide) flX3_123 rfl rfl rfl j_b01_0 ?_
  refine j_iconst (v := (0 : Int32)) 24 dX3_judgeAll_23 rfl (by decide) ?_
  refine j_istore_n (lv' := [(3, .int (0 : Int32)), (0, .ref (E.1 + 15)), (1, .ref (E.1 + l1)), (2, .ref (E.1 + l2))]) 25 dX3_judgeAll_24 rfl rfl (by decide) rfl ?_
  refine j_sub [1, 0] rfl ?_
  exact kX3_judgeAll_25 hL  h1 h2  100000 _ _ _ _  h
def fX3_rankBy (l1 : Int32) (I : JI) (D : JG) (S : JS) : Option (Int32) :=
  j_g (j_in l1 16) (if (I 19 l1.toNatClampNeg) = (-1 : Int32) then (some ((-1 : Int32))) else (j_opt (D 15 5) (none) (fun b1 => j_g (decide (S[b1]? = some (4, 17))) (j_g (j_in l1 16) (j_g (j_in (I 19 l1.toNatClampNeg) 18) (some ((I (b1 + 3) (I 19 l1.toNatClampNeg).toNatClampNeg))))))))
set_option maxHeartbeats 4000000 in
set_option maxRecDepth 100000 in
theorem tcX3_rankBy {E : JE} {l1 : Int32} {r : Int32} {I : JI} {L : JL} {G D : JG} {S : JS} (hL : Lay G S) (h : fX3_rankBy l1 I D S = some r) : CallJ E xX3_rankBy 1 [.ref (E.1 + 15), .int l1] I L G D S (some (.int r)) I L G D S := by
  unfold fX3_rankBy at h
  refine j_entry (by decide) (Nat.le_of_ble_eq_true rfl) ?_
  show AtJ E xX3_rankBy (Zr E (some (.int r)) I L G D S) ((S).length, jm_sl S) 1 0 [(0, .ref (E.1 + 15)), (1, .int l1)] [] I L G D S
  refine j_aload_n 1 dX3_rankBy_0 rfl rfl 0 rfl ?_
  refine j_getG 4 dX3_rankBy_1 rfl (sh_15 hL) cl3 (k := 4) (by decide) flX3_21 rfl (gs_15_4 hL) ?_
  refine j_iload_n 5 dX3_rankBy_4 rfl rfl 1 rfl ?_
  obtain ⟨hg, h⟩ := j_gs h
  refine j_iald 6 dX3_rankBy_5 rfl (sh_19 hL) (j_inv hg) ?_
  refine j_iconst (v := (-1 : Int32)) 7 dX3_rankBy_6 rfl (by decide) ?_
  refine j_icmp_ne 14 10 dX3_rankBy_7 (by decide) rfl (fun hc => ?_) (fun hc => ?_)
  · replace h := j_neg hc h
    refine j_aload_n 15 dX3_rankBy_14 rfl rfl 0 rfl ?_
    rcases j_os h with ⟨hb, h⟩ | ⟨b1, hb, h⟩
    · refine j_getDn 18 dX3_rankBy_15 rfl (sh_15 hL) cl3 (k := 5) (by decide) flX3_89 rfl hb ?_
      cases h
    obtain ⟨hsb1, h⟩ := j_gs h
    replace hsb1 := of_decide_eq_true hsb1
    refine j_getD 18 dX3_rankBy_15 rfl (sh_15 hL) cl3 (k := 5) (by decide) flX3_89 rfl hb ?_
    refine j_getGN 21 dX3_rankBy_18 rfl hsb1 cl4 (k := 2) (by decide) flX3_150 rfl (ly4_2 hL hsb1).1 ?_
    refine j_aload_n 22 dX3_rankBy_21 rfl rfl 0 rfl ?_
    refine j_getG 25 dX3_rankBy_22 rfl (sh_15 hL) cl3 (k := 4) (by decide) flX3_21 rfl (gs_15_4 hL) ?_
    refine j_iload_n 26 dX3_rankBy_25 rfl rfl 1 rfl ?_
    obtain ⟨hg, h⟩ := j_gs h
    refine j_iald 27 dX3_rankBy_26 rfl (sh_19 hL) (j_inv hg) ?_
    obtain ⟨hg, h⟩ := j_gs h
    refine j_iald 28 dX3_rankBy_27 rfl (ly4_2 hL hsb1).2 (j_inv hg) ?_
    cases h
    exact j_iret dX3_rankBy_28 rfl
  · replace h := j_pos hc h
    refine j_iconst (v := (-1 : Int32)) 11 dX3_rankBy_10 rfl (by decide) ?_
    refine j_goto 28 dX3_rankBy_11 (by decide) ?_
    cases h
    exact j_iret dX3_rankBy_28 rfl
def fX4_init (t : Nat) (I : JI) (L : JL) (G : JG) (S : JS) : Option (JI × JL × JG × JS) :=
  some ((j_clr (j_clr (j_clr (j_clr (j_clr (j_clr (j_clr (j_clr (j_clr I (S).length 0) (((S ++ [(21, 18)]) ++ [(23, 18)])).length 0) ((((S ++ [(21, 18)]) ++ [(23, 18)]) ++ [(20, 18)])).length 0) (((((S ++ [(21, 18)]) ++ [(23, 18)]) ++ [(20, 18)]) ++ [(20, 18)])).length 0) ((((((S ++ [(21, 18)]) ++ [(23, 18)]) ++ [(20, 18)]) ++ [(20, 18)]) ++ [(20, 18)])).length 0) (((((((S ++ [(21, 18)]) ++ [(23, 18)]) ++ [(20, 18)]) ++ [(20, 18)]) ++ [(20, 18)]) ++ [(20, 18)])).length 0) ((((((((S ++ [(21, 18)]) ++ [(23, 18)]) ++ [(20, 18)]) ++ [(20, 18)]) ++ [(20, 18)]) ++ [(20, 18)]) ++ [(20, 18)])).length 0) (((((((((S ++ [(21, 18)]) ++ [(23, 18)]) ++ [(20, 18)]) ++ [(20, 18)]) ++ [(20, 18)]) ++ [(20, 18)]) ++ [(20, 18)]) ++ [(20, 18)])).length 0) ((((((((((S ++ [(21, 18)]) ++ [(23, 18)]) ++ [(20, 18)]) ++ [(20, 18)]) ++ [(20, 18)]) ++ [(20, 18)]) ++ [(20, 18)]) ++ [(20, 18)]) ++ [(21, 18)])).length 0), (j_clr L ((S ++ [(21, 18)])).length 0), (j_up (j_up (j_up (j_up (j_up (j_up (j_up (j_up (j_up (j_up G t 0 (some (S).length)) t 1 (some ((S ++ [(21, 18)])).length)) t 2 (some (((S ++ [(21, 18)]) ++ [(23, 18)])).length)) t 3 (some ((((S ++ [(21, 18)]) ++ [(23, 18)]) ++ [(20, 18)])).length)) t 4 (some (((((S ++ [(21, 18)]) ++ [(23, 18)]) ++ [(20, 18)]) ++ [(20, 18)])).length)) t 5 (some ((((((S ++ [(21, 18)]) ++ [(23, 18)]) ++ [(20, 18)]) ++ [(20, 18)]) ++ [(20, 18)])).length)) t 6 (some (((((((S ++ [(21, 18)]) ++ [(23, 18)]) ++ [(20, 18)]) ++ [(20, 18)]) ++ [(20, 18)]) ++ [(20, 18)])).length)) t 7 (some ((((((((S ++ [(21, 18)]) ++ [(23, 18)]) ++ [(20, 18)]) ++ [(20, 18)]) ++ [(20, 18)]) ++ [(20, 18)]) ++ [(20, 18)])).length)) t 8 (some (((((((((S ++ [(21, 18)]) ++ [(23, 18)]) ++ [(20, 18)]) ++ [(20, 18)]) ++ [(20, 18)]) ++ [(20, 18)]) ++ [(20, 18)]) ++ [(20, 18)])).length)) t 9 (some ((((((((((S ++ [(21, 18)]) ++ [(23, 18)]) ++ [(20, 18)]) ++ [(20, 18)]) ++ [(20, 18)]) ++ [(20, 18)]) ++ [(20, 18)]) ++ [(20, 18)]) ++ [(21, 18)])).length)), ((((((((((S ++ [(21, 18)]) ++ [(23, 18)]) ++ [(20, 18)]) ++ [(20, 18)]) ++ [(20, 18)]) ++ [(20, 18)]) ++ [(20, 18)]) ++ [(20, 18)]) ++ [(21, 18)]) ++ [(20, 1000)]))
set_option maxHeartbeats 4000000 in
set_option maxRecDepth 100000 in
theorem tcX4_init {E : JE} {t : Nat} {r : JI × JL × JG × JS} {I : JI} {L : JL} {G D : JG} {S : JS} (ht : S[t]? = some (4, 17)) (h : fX4_init t I L G S = some r) : CallJ E xX4_init 1 [.ref (E.1 + t)] I L G D S none r.1 r.2.1 r.2.2.1 D r.2.2.2 := by
  unfold fX4_init at h
  refine j_entry (by decide) (Nat.le_of_ble_eq_true rfl) ?_
  show AtJ E xX4_init (Zr E none r.1 r.2.1 r.2.2.1 D r.2.2.2) ((r.2.2.2).length, jm_sl r.2.2.2) 1 0 [(0, .ref (E.1 + t))] [] I L G D S
  refine j_aload_n 1 dX4_init_0 rfl rfl 0 rfl ?_
  refine j_obj 4 dX4_init_1 rfl flX4_3 wm117 wm118 (by decide) (Nat.le_of_ble_eq_true rfl) ?_
  refine j_aload_n 5 dX4_init_4 rfl rfl 0 rfl ?_
  refine j_bipush (v := (18 : Int32)) 7 dX4_init_5 rfl (by decide) ?_
  refine j_nwZ (N := 18) 9 dX4_init_7 rfl wm593 (by decide) (by decide) (by decide) ?_
  refine j_putF 12 dX4_init_9 rfl (jm_pre ht) cl4 (k := 0) (by decide) flX4_9 rfl rfl rfl rfl (fun _ => rfl) (fun _ => rfl) ?_
  refine j_aload_n 13 dX4_init_12 rfl rfl 0 rfl ?_
  refine j_bipush (v := (18 : Int32)) 15 dX4_init_13 rfl (by decide) ?_
  refine j_nwL (N := 18) 17 dX4_init_15 rfl wm448 (by decide) (by decide) (by decide) ?_
  refine j_putF 20 dX4_init_17 rfl (jm_pre (jm_pre ht)) cl4 (k := 1) (by decide) flX4_15 rfl rfl rfl rfl (fun _ => rfl) (fun _ => rfl) ?_
  refine j_aload_n 21 dX4_init_20 rfl rfl 0 rfl ?_
  refine j_bipush (v := (18 : Int32)) 23 dX4_init_21 rfl (by decide) ?_
  refine j_nwI (N := 18) 25 dX4_init_23 rfl wm170 (by decide) (by decide) (by decide) ?_
  refine j_putF 28 dX4_init_25 rfl (jm_pre (jm_pre (jm_pre ht))) cl4 (k := 2) (by decide) flX4_19 rfl rfl rfl rfl (fun _ => rfl) (fun _ => rfl) ?_
  refine j_aload_n 29 dX4_init_28 rfl rfl 0 rfl ?_
  refine j_bipush (v := (18 : Int32)) 31 dX4_init_29 rfl (by decide) ?_
  refine j_nwI (N := 18) 33 dX4_init_31 rfl wm170 (by decide) (by decide) (by decide) ?_
  refine j_putF 36 dX4_init_33 rfl (jm_pre (jm_pre (jm_pre (jm_pre ht)))) cl4 (k := 3) (by decide) flX4_23 rfl rfl rfl rfl (fun _ => rfl) (fun _ => rfl) ?_
  refine j_aload_n 37 dX4_init_36 rfl rfl 0 rfl ?_
  refine j_bipush (v := (18 : Int32)) 39 dX4_init_37 rfl (by decide) ?_
  refine j_nwI (N := 18) 41 dX4_init_39 rfl wm170 (by decide) (by decide) (by decide) ?_
  refine j_putF 44 dX4_init_41 rfl (jm_pre (jm_pre (jm_pre (jm_pre (jm_pre ht))))) cl4 (k := 4) (by decide) flX4_26 rfl rfl rfl rfl (fun _ => rfl) (fun _ => rfl) ?_
  refine j_aload_n 45 dX4_init_44 rfl rfl 0 rfl ?_
  refine j_bipush (v := (18 : Int32)) 47 dX4_init_45 rfl (by decide) ?_
  refine j_nwI (N := 18) 49 dX4_init_47 rfl wm170 (by decide) (by decide) (by decide) ?_
  refine j_putF 52 dX4_init_49 rfl (jm_pre (jm_pre (jm_pre (jm_pre (jm_pre (jm_pre ht)))))) cl4 (k := 5) (by decide) flX4_29 rfl rfl rfl rfl (fun _ => rfl) (fun _ => rfl) ?_
  refine j_aload_n 53 dX4_init_52 rfl rfl 0 rfl ?_
  refine j_bipush (v := (18 : Int32)) 55 dX4_init_53 rfl (by decide) ?_
  refine j_nwI (N := 18) 57 dX4_init_55 rfl wm170 (by decide) (by decide) (by decide) ?_
  refine j_putF 60 dX4_init_57 rfl (jm_pre (jm_pre (jm_pre (jm_pre (jm_pre (jm_pre (jm_pre ht))))))) cl4 (k := 6) (by decide) flX4_32 rfl rfl rfl rfl (fun _ => rfl) (fun _ => rfl) ?_
  refine j_aload_n 61 dX4_init_60 rfl rfl 0 rfl ?_
  refine j_bipush (v := (18 : Int32)) 63 dX4_init_61 rfl (by decide) ?_
  refine j_nwI (N := 18) 65 dX4_init_63 rfl wm170 (by decide) (by decide) (by decide) ?_
  refine j_putF 68 dX4_init_65 rfl (jm_pre (jm_pre (jm_pre (jm_pre (jm_pre (jm_pre (jm_pre (jm_pre ht)))))))) cl4 (k := 7) (by decide) flX4_35 rfl rfl rfl rfl (fun _ => rfl) (fun _ => rfl) ?_
  refine j_aload_n 69 dX4_init_68 rfl rfl 0 rfl ?_
  refine j_bipush (v := (18 : Int32)) 71 dX4_init_69 rfl (by decide) ?_
  refine j_nwZ (N := 18) 73 dX4_init_71 rfl wm593 (by decide) (by decide) (by decide) ?_
  refine j_putF 76 dX4_init_73 rfl (jm_pre (jm_pre (jm_pre (jm_pre (jm_pre (jm_pre (jm_pre (jm_pre (jm_pre ht))))))))) cl4 (k := 8) (by decide) flX4_38 rfl rfl rfl rfl (fun _ => rfl) (fun _ => rfl) ?_
  refine j_aload_n 77 dX4_init_76 rfl rfl 0 rfl ?_
  refine j_sipush (v := (1000 : Int32)) 80 dX4_init_77 rfl (by decide) ?_
  refine j_nwI (N := 1000) 82 dX4_init_80 rfl wm170 (by decide) (by decide) (by decide) ?_
  refine j_putF 85 dX4_init_82 rfl (jm_pre (jm_pre (jm_pre (jm_pre (jm_pre (jm_pre (jm_pre (jm_pre (jm_pre (jm_pre ht)))))))))) cl4 (k := 9) (by decide) flX4_41 rfl rfl rfl rfl (fun _ => rfl) (fun _ => rfl) ?_
  cases h
  exact j_vret dX4_init_85 rfl
def fX4_empty (t : Nat) (I : JI) : Option (JI) :=
  some ((j_up (j_up (j_up (j_up (j_up (j_up (j_up I t 10 (0 : Int32)) t 11 (0 : Int32)) t 12 (0 : Int32)) t 13 (0 : Int32)) t 14 (0 : Int32)) t 15 (0 : Int32)) t 16 (0 : Int32)))
set_option maxHeartbeats 4000000 in
set_option maxRecDepth 100000 in
theorem tcX4_empty {E : JE} {t : Nat} {r : JI} {I : JI} {L : JL} {G D : JG} {S : JS} (hL : Lay G S) (ht : S[t]? = some (4, 17)) (h : fX4_empty t I = some r) : CallJ E xX4_empty 1 [.ref (E.1 + t)] I L G D S none r L G D S := by
  unfold fX4_empty at h
  refine j_entry (by decide) (Nat.le_of_ble_eq_true rfl) ?_
  show AtJ E xX4_empty (Zr E none r L G D S) ((S).length, jm_sl S) 1 0 [(0, .ref (E.1 + t))] [] I L G D S
  refine j_aload_n 1 dX4_empty_0 rfl rfl 0 rfl ?_
  refine j_iconst (v := (0 : Int32)) 2 dX4_empty_1 rfl (by decide) ?_
  refine j_putI 5 dX4_empty_2 rfl ht cl4 (k := 10) (by decide) flX4_44 rfl rfl rfl ?_
  refine j_aload_n 6 dX4_empty_5 rfl rfl 0 rfl ?_
  refine j_iconst (v := (0 : Int32)) 7 dX4_empty_6 rfl (by decide) ?_
  refine j_putI 10 dX4_empty_7 rfl ht cl4 (k := 11) (by decide) flX4_48 rfl rfl rfl ?_
  refine j_aload_n 11 dX4_empty_10 rfl rfl 0 rfl ?_
  refine j_iconst (v := (0 : Int32)) 12 dX4_empty_11 rfl (by decide) ?_
  refine j_putI 15 dX4_empty_12 rfl ht cl4 (k := 12) (by decide) flX4_51 rfl rfl rfl ?_
  refine j_aload_n 16 dX4_empty_15 rfl rfl 0 rfl ?_
  refine j_iconst (v := (0 : Int32)) 17 dX4_empty_16 rfl (by decide) ?_
  refine j_putI 20 dX4_empty_17 rfl ht cl4 (k := 13) (by decide) flX4_54 rfl rfl rfl ?_
  refine j_aload_n 21 dX4_empty_20 rfl rfl 0 rfl ?_
  refine j_iconst (v := (0 : Int32)) 22 dX4_empty_21 rfl (by decide) ?_
  refine j_putI 25 dX4_empty_22 rfl ht cl4 (k := 14) (by decide) flX4_57 rfl rfl rfl ?_
  refine j_aload_n 26 dX4_empty_25 rfl rfl 0 rfl ?_
  refine j_iconst (v := (0 : Int32)) 27 dX4_empty_26 rfl (by decide) ?_
  refine j_putZ 30 dX4_empty_27 rfl ht cl4 (k := 15) (by decide) flX4_60 rfl rfl rfl j_b01_0 ?_
  refine j_aload_n 31 dX4_empty_30 rfl rfl 0 rfl ?_
  refine j_iconst (v := (0 : Int32)) 32 dX4_empty_31 rfl (by decide) ?_
  refine j_putZ 35 dX4_empty_32 rfl ht cl4 (k := 16) (by decide) flX4_64 rfl rfl rfl j_b01_0 ?_
  cases h
  exact j_vret dX4_empty_35 rfl
def fX4_addLine (t : Nat) (l1 : Int32) (l2 : Int32) (I : JI) (L : JL) : Option (Int32 × JI × JL) :=
  j_g (j_in (I t 11) 18) (j_g (decide (jm_b01 l1 = l1)) (j_g (j_in (I t 11) 18) (j_g (j_in (I t 11) 18) (j_g (j_in (I t 11) 18) (j_g (j_in (I t 11) 18) (j_g (j_in (I t 11) 18) (if l2 = 0 then (j_g (j_in (I t 11) 18) (if l1 = 0 then (some ((I t 11), (j_up (j_up (j_up (j_up (j_up (j_up (j_up (j_up I (t + 1) (I t 11).toNatClampNeg l1) (t + 5) (I t 11).toNatClampNeg (0 : Int32)) (t + 7) (I t 11).toNatClampNeg ((j_up (j_up I (t + 1) (I t 11).toNatClampNeg l1) (t + 5) (I t 11).toNatClampNeg (0 : Int32)) t 10)) (t + 8) (I t 11).toNatClampNeg ((j_up (j_up (j_up I (t + 1) (I t 11).toNatClampNeg l1) (t + 5) (I t 11).toNatClampNeg (0 : Int32)) (t + 7) (I t 11).toNatClampNeg ((j_up (j_up I (t + 1) (I t 11).toNatClampNeg l1) (t + 5) (I t 11).toNatClampNeg (0 : Int32)) t 10)) t 10)) (t + 9) (I t 11).toNatClampNeg (0 : Int32)) (t + 3) (I t 11).toNatClampNeg (-1 : Int32)) t 12 (((j_up (j_up (j_up (j_up (j_up (j_up I (t + 1) (I t 11).toNatClampNeg l1) (t + 5) (I t 11).toNatClampNeg (0 : Int32)) (t + 7) (I t 11).toNatClampNeg ((j_up (j_up I (t + 1) (I t 11).toNatClampNeg l1) (t + 5) (I t 11).toNatClampNeg (0 : Int32)) t 10)) (t + 8) (I t 11).toNatClampNeg ((j_up (j_up (j_up I (t + 1) (I t 11).toNatClampNeg l1) (t + 5) (I t 11).toNatClampNeg (0 : Int32)) (t + 7) (I t 11).toNatClampNeg ((j_up (j_up I (t + 1) (I t 11).toNatClampNeg l1) (t + 5) (I t 11).toNatClampNeg (0 : Int32)) t 10)) t 10)) (t + 9) (I t 11).toNatClampNeg (0 : Int32)) (t + 3) (I t 11).toNatClampNeg (-1 : Int32)) t 12) + (1 : Int32))) t 11 (((j_up (j_up (j_up (j_up (j_up (j_up (j_up I (t + 1) (I t 11).toNatClampNeg l1) (t + 5) (I t 11).toNatClampNeg (0 : Int32)) (t + 7) (I t 11).toNatClampNeg ((j_up (j_up I (t + 1) (I t 11).toNatClampNeg l1) (t + 5) (I t 11).toNatClampNeg (0 : Int32)) t 10)) (t + 8) (I t 11).toNatClampNeg ((j_up (j_up (j_up I (t + 1) (I t 11).toNatClampNeg l1) (t + 5) (I t 11).toNatClampNeg (0 : Int32)) (t + 7) (I t 11).toNatClampNeg ((j_up (j_up I (t + 1) (I t 11).toNatClampNeg l1) (t + 5) (I t 11).toNatClampNeg (0 : Int32)) t 10)) t 10)) (t + 9) (I t 11).toNatClampNeg (0 : Int32)) (t + 3) (I t 11).toNatClampNeg (-1 : Int32)) t 12 (((j_up (j_up (j_up (j_up (j_up (j_up I (t + 1) (I t 11).toNatClampNeg l1) (t + 5) (I t 11).toNatClampNeg (0 : Int32)) (t + 7) (I t 11).toNatClampNeg ((j_up (j_up I (t + 1) (I t 11).toNatClampNeg l1) (t + 5) (I t 11).toNatClampNeg (0 : Int32)) t 10)) (t + 8) (I t 11).toNatClampNeg ((j_up (j_up (j_up I (t + 1) (I t 11).toNatClampNeg l1) (t + 5) (I t 11).toNatClampNeg (0 : Int32)) (t + 7) (I t 11).toNatClampNeg ((j_up (j_up I (t + 1) (I t 11).toNatClampNeg l1) (t + 5) (I t 11).toNatClampNeg (0 : Int32)) t 10)) t 10)) (t + 9) (I t 11).toNatClampNeg (0 : Int32)) (t + 3) (I t 11).toNatClampNeg (-1 : Int32)) t 12) + (1 : Int32))) t 11) + (1 : Int32))), (j_up L (t + 2) (I t 11).toNatClampNeg (-1 : Int64)))) else (j_g (j_in (I t 11) 18) (some ((I t 11), (j_up (j_up (j_up (j_up (j_up (j_up (j_up (j_up (j_up (j_up I (t + 1) (I t 11).toNatClampNeg l1) (t + 5) (I t 11).toNatClampNeg (0 : Int32)) (t + 7) (I t 11).toNatClampNeg ((j_up (j_up I (t + 1) (I t 11).toNatClampNeg l1) (t + 5) (I t 11).toNatClampNeg (0 : Int32)) t 10)) (t + 8) (I t 11).toNatClampNeg ((j_up (j_up (j_up I (t + 1) (I t 11).toNatClampNeg l1) (t + 5) (I t 11).toNatClampNeg (0 : Int32)) (t + 7) (I t 11).toNatClampNeg ((j_up (j_up I (t + 1) (I t 11).toNatClampNeg l1) (t + 5) (I t 11).toNatClampNeg (0 : Int32)) t 10)) t 10)) (t + 9) (I t 11).toNatClampNeg (0 : Int32)) (t + 3) (I t 11).toNatClampNeg (-1 : Int32)) t 12 (((j_up (j_up (j_up (j_up (j_up (j_up I (t + 1) (I t 11).toNatClampNeg l1) (t + 5) (I t 11).toNatClampNeg (0 : Int32)) (t + 7) (I t 11).toNatClampNeg ((j_up (j_up I (t + 1) (I t 11).toNatClampNeg l1) (t + 5) (I t 11).toNatClampNeg (0 : Int32)) t 10)) (t + 8) (I t 11).toNatClampNeg ((j_up (j_up (j_up I (t + 1) (I t 11).toNatClampNeg l1) (t + 5) (I t 11).toNatClampNeg (0 : Int32)) (t + 7) (I t 11).toNatClampNeg ((j_up (j_up I (t + 1) (I t 11).toNatClampNeg l1) (t + 5) (I t 11).toNatClampNeg (0 : Int32)) t 10)) t 10)) (t + 9) (I t 11).toNatClampNeg (0 : Int32)) (t + 3) (I t 11).toNatClampNeg (-1 : Int32)) t 12) + (1 : Int32))) (t + 3) (I t 11).toNatClampNeg ((j_up (j_up (j_up (j_up (j_up (j_up (j_up I (t + 1) (I t 11).toNatClampNeg l1) (t + 5) (I t 11).toNatClampNeg (0 : Int32)) (t + 7) (I t 11).toNatClampNeg ((j_up (j_up I (t + 1) (I t 11).toNatClampNeg l1) (t + 5) (I t 11).toNatClampNeg (0 : Int32)) t 10)) (t + 8) (I t 11).toNatClampNeg ((j_up (j_up (j_up I (t + 1) (I t 11).toNatClampNeg l1) (t + 5) (I t 11).toNatClampNeg (0 : Int32)) (t + 7) (I t 11).toNatClampNeg ((j_up (j_up I (t + 1) (I t 11).toNatClampNeg l1) (t + 5) (I t 11).toNatClampNeg (0 : Int32)) t 10)) t 10)) (t + 9) (I t 11).toNatClampNeg (0 : Int32)) (t + 3) (I t 11).toNatClampNeg (-1 : Int32)) t 12 (((j_up (j_up (j_up (j_up (j_up (j_up I (t + 1) (I t 11).toNatClampNeg l1) (t + 5) (I t 11).toNatClampNeg (0 : Int32)) (t + 7) (I t 11).toNatClampNeg ((j_up (j_up I (t + 1) (I t 11).toNatClampNeg l1) (t + 5) (I t 11).toNatClampNeg (0 : Int32)) t 10)) (t + 8) (I t 11).toNatClampNeg ((j_up (j_up (j_up I (t + 1) (I t 11).toNatClampNeg l1) (t + 5) (I t 11).toNatClampNeg (0 : Int32)) (t + 7) (I t 11).toNatClampNeg ((j_up (j_up I (t + 1) (I t 11).toNatClampNeg l1) (t + 5) (I t 11).toNatClampNeg (0 : Int32)) t 10)) t 10)) (t + 9) (I t 11).toNatClampNeg (0 : Int32)) (t + 3) (I t 11).toNatClampNeg (-1 : Int32)) t 12) + (1 : Int32))) t 13)) t 13 (((j_up (j_up (j_up (j_up (j_up (j_up (j_up (j_up I (t + 1) (I t 11).toNatClampNeg l1) (t + 5) (I t 11).toNatClampNeg (0 : Int32)) (t + 7) (I t 11).toNatClampNeg ((j_up (j_up I (t + 1) (I t 11).toNatClampNeg l1) (t + 5) (I t 11).toNatClampNeg (0 : Int32)) t 10)) (t + 8) (I t 11).toNatClampNeg ((j_up (j_up (j_up I (t + 1) (I t 11).toNatClampNeg l1) (t + 5) (I t 11).toNatClampNeg (0 : Int32)) (t + 7) (I t 11).toNatClampNeg ((j_up (j_up I (t + 1) (I t 11).toNatClampNeg l1) (t + 5) (I t 11).toNatClampNeg (0 : Int32)) t 10)) t 10)) (t + 9) (I t 11).toNatClampNeg (0 : Int32)) (t + 3) (I t 11).toNatClampNeg (-1 : Int32)) t 12 (((j_up (j_up (j_up (j_up (j_up (j_up I (t + 1) (I t 11).toNatClampNeg l1) (t + 5) (I t 11).toNatClampNeg (0 : Int32)) (t + 7) (I t 11).toNatClampNeg ((j_up (j_up I (t + 1) (I t 11).toNatClampNeg l1) (t + 5) (I t 11).toNatClampNeg (0 : Int32)) t 10)) (t + 8) (I t 11).toNatClampNeg ((j_up (j_up (j_up I (t + 1) (I t 11).toNatClampNeg l1) (t + 5) (I t 11).toNatClampNeg (0 : Int32)) (t + 7) (I t 11).toNatClampNeg ((j_up (j_up I (t + 1) (I t 11).toNatClampNeg l1) (t + 5) (I t 11).toNatClampNeg (0 : Int32)) t 10)) t 10)) (t + 9) (I t 11).toNatClampNeg (0 : Int32)) (t + 3) (I t 11).toNatClampNeg (-1 : Int32)) t 12) + (1 : Int32))) (t + 3) (I t 11).toNatClampNeg ((j_up (j_up (j_up (j_up (j_up (j_up (j_up I (t + 1) (I t 11).toNatClampNeg l1) (t + 5) (I t 11).toNatClampNeg (0 : Int32)) (t + 7) (I t 11).toNatClampNeg ((j_up (j_up I (t + 1) (I t 11).toNatClampNeg l1) (t + 5) (I t 11).toNatClampNeg (0 : Int32)) t 10)) (t + 8) (I t 11).toNatClampNeg ((j_up (j_up (j_up I (t + 1) (I t 11).toNatClampNeg l1) (t + 5) (I t 11).toNatClampNeg (0 : Int32)) (t + 7) (I t 11).toNatClampNeg ((j_up (j_up I (t + 1) (I t 11).toNatClampNeg l1) (t + 5) (I t 11).toNatClampNeg (0 : Int32)) t 10)) t 10)) (t + 9) (I t 11).toNatClampNeg (0 : Int32)) (t + 3) (I t 11).toNatClampNeg (-1 : Int32)) t 12 (((j_up (j_up (j_up (j_up (j_up (j_up I (t + 1) (I t 11).toNatClampNeg l1) (t + 5) (I t 11).toNatClampNeg (0 : Int32)) (t + 7) (I t 11).toNatClampNeg ((j_up (j_up I (t + 1) (I t 11).toNatClampNeg l1) (t + 5) (I t 11).toNatClampNeg (0 : Int32)) t 10)) (t + 8) (I t 11).toNatClampNeg ((j_up (j_up (j_up I (t + 1) (I t 11).toNatClampNeg l1) (t + 5) (I t 11).toNatClampNeg (0 : Int32)) (t + 7) (I t 11).toNatClampNeg ((j_up (j_up I (t + 1) (I t 11).toNatClampNeg l1) (t + 5) (I t 11).toNatClampNeg (0 : Int32)) t 10)) t 10)) (t + 9) (I t 11).toNatClampNeg (0 : Int32)) (t + 3) (I t 11).toNatClampNeg (-1 : Int32)) t 12) + (1 : Int32))) t 13)) t 13) + (1 : Int32))) t 11 (((j_up (j_up (j_up (j_up (j_up (j_up (j_up (j_up (j_up I (t + 1) (I t 11).toNatClampNeg l1) (t + 5) (I t 11).toNatClampNeg (0 : Int32)) (t + 7) (I t 11).toNatClampNeg ((j_up (j_up I (t + 1) (I t 11).toNatClampNeg l1) (t + 5) (I t 11).toNatClampNeg (0 : Int32)) t 10)) (t + 8) (I t 11).toNatClampNeg ((j_up (j_up (j_up I (t + 1) (I t 11).toNatClampNeg l1) (t + 5) (I t 11).toNatClampNeg (0 : Int32)) (t + 7) (I t 11).toNatClampNeg ((j_up (j_up I (t + 1) (I t 11).toNatClampNeg l1) (t + 5) (I t 11).toNatClampNeg (0 : Int32)) t 10)) t 10)) (t + 9) (I t 11).toNatClampNeg (0 : Int32)) (t + 3) (I t 11).toNatClampNeg (-1 : Int32)) t 12 (((j_up (j_up (j_up (j_up (j_up (j_up I (t + 1) (I t 11).toNatClampNeg l1) (t + 5) (I t 11).toNatClampNeg (0 : Int32)) (t + 7) (I t 11).toNatClampNeg ((j_up (j_up I (t + 1) (I t 11).toNatClampNeg l1) (t + 5) (I t 11).toNatClampNeg (0 : Int32)) t 10)) (t + 8) (I t 11).toNatClampNeg ((j_up (j_up (j_up I (t + 1) (I t 11).toNatClampNeg l1) (t + 5) (I t 11).toNatClampNeg (0 : Int32)) (t + 7) (I t 11).toNatClampNeg ((j_up (j_up I (t + 1) (I t 11).toNatClampNeg l1) (t + 5) (I t 11).toNatClampNeg (0 : Int32)) t 10)) t 10)) (t + 9) (I t 11).toNatClampNeg (0 : Int32)) (t + 3) (I t 11).toNatClampNeg (-1 : Int32)) t 12) + (1 : Int32))) (t + 3) (I t 11).toNatClampNeg ((j_up (j_up (j_up (j_up (j_up (j_up (j_up I (t + 1) (I t 11).toNatClampNeg l1) (t + 5) (I t 11).toNatClampNeg (0 : Int32)) (t + 7) (I t 11).toNatClampNeg ((j_up (j_up I (t + 1) (I t 11).toNatClampNeg l1) (t + 5) (I t 11).toNatClampNeg (0 : Int32)) t 10)) (t + 8) (I t 11).toNatClampNeg ((j_up (j_up (j_up I (t + 1) (I t 11).toNatClampNeg l1) (t + 5) (I t 11).toNatClampNeg (0 : Int32)) (t + 7) (I t 11).toNatClampNeg ((j_up (j_up I (t + 1) (I t 11).toNatClampNeg l1) (t + 5) (I t 11).toNatClampNeg (0 : Int32)) t 10)) t 10)) (t + 9) (I t 11).toNatClampNeg (0 : Int32)) (t + 3) (I t 11).toNatClampNeg (-1 : Int32)) t 12 (((j_up (j_up (j_up (j_up (j_up (j_up I (t + 1) (I t 11).toNatClampNeg l1) (t + 5) (I t 11).toNatClampNeg (0 : Int32)) (t + 7) (I t 11).toNatClampNeg ((j_up (j_up I (t + 1) (I t 11).toNatClampNeg l1) (t + 5) (I t 11).toNatClampNeg (0 : Int32)) t 10)) (t + 8) (I t 11).toNatClampNeg ((j_up (j_up (j_up I (t + 1) (I t 11).toNatClampNeg l1) (t + 5) (I t 11).toNatClampNeg (0 : Int32)) (t + 7) (I t 11).toNatClampNeg ((j_up (j_up I (t + 1) (I t 11).toNatClampNeg l1) (t + 5) (I t 11).toNatClampNeg (0 : Int32)) t 10)) t 10)) (t + 9) (I t 11).toNatClampNeg (0 : Int32)) (t + 3) (I t 11).toNatClampNeg (-1 : Int32)) t 12) + (1 : Int32))) t 13)) t 13 (((j_up (j_up (j_up (j_up (j_up (j_up (j_up (j_up I (t + 1) (I t 11).toNatClampNeg l1) (t + 5) (I t 11).toNatClampNeg (0 : Int32)) (t + 7) (I t 11).toNatClampNeg ((j_up (j_up I (t + 1) (I t 11).toNatClampNeg l1) (t + 5) (I t 11).toNatClampNeg (0 : Int32)) t 10)) (t + 8) (I t 11).toNatClampNeg ((j_up (j_up (j_up I (t + 1) (I t 11).toNatClampNeg l1) (t + 5) (I t 11).toNatClampNeg (0 : Int32)) (t + 7) (I t 11).toNatClampNeg ((j_up (j_up I (t + 1) (I t 11).toNatClampNeg l1) (t + 5) (I t 11).toNatClampNeg (0 : Int32)) t 10)) t 10)) (t + 9) (I t 11).toNatClampNeg (0 : Int32)) (t + 3) (I t 11).toNatClampNeg (-1 : Int32)) t 12 (((j_up (j_up (j_up (j_up (j_up (j_up I (t + 1) (I t 11).toNatClampNeg l1) (t + 5) (I t 11).toNatClampNeg (0 : Int32)) (t + 7) (I t 11).toNatClampNeg ((j_up (j_up I (t + 1) (I t 11).toNatClampNeg l1) (t + 5) (I t 11).toNatClampNeg (0 : Int32)) t 10)) (t + 8) (I t 11).toNatClampNeg ((j_up (j_up (j_up I (t + 1) (I t 11).toNatClampNeg l1) (t + 5) (I t 11).toNatClampNeg (0 : Int32)) (t + 7) (I t 11).toNatClampNeg ((j_up (j_up I (t + 1) (I t 11).toNatClampNeg l1) (t + 5) (I t 11).toNatClampNeg (0 : Int32)) t 10)) t 10)) (t + 9) (I t 11).toNatClampNeg (0 : Int32)) (t + 3) (I t 11).toNatClampNeg (-1 : Int32)) t 12) + (1 : Int32))) (t + 3) (I t 11).toNatClampNeg ((j_up (j_up (j_up (j_up (j_up (j_up (j_up I (t + 1) (I t 11).toNatClampNeg l1) (t + 5) (I t 11).toNatClampNeg (0 : Int32)) (t + 7) (I t 11).toNatClampNeg ((j_up (j_up I (t + 1) (I t 11).toNatClampNeg l1) (t + 5) (I t 11).toNatClampNeg (0 : Int32)) t 10)) (t + 8) (I t 11).toNatClampNeg ((j_up (j_up (j_up I (t + 1) (I t 11).toNatClampNeg l1) (t + 5) (I t 11).toNatClampNeg (0 : Int32)) (t + 7) (I t 11).toNatClampNeg ((j_up (j_up I (t + 1) (I t 11).toNatClampNeg l1) (t + 5) (I t 11).toNatClampNeg (0 : Int32)) t 10)) t 10)) (t + 9) (I t 11).toNatClampNeg (0 : Int32)) (t + 3) (I t 11).toNatClampNeg (-1 : Int32)) t 12 (((j_up (j_up (j_up (j_up (j_up (j_up I (t + 1) (I t 11).toNatClampNeg l1) (t + 5) (I t 11).toNatClampNeg (0 : Int32)) (t + 7) (I t 11).toNatClampNeg ((j_up (j_up I (t + 1) (I t 11).toNatClampNeg l1) (t + 5) (I t 11).toNatClampNeg (0 : Int32)) t 10)) (t + 8) (I t 11).toNatClampNeg ((j_up (j_up (j_up I (t + 1) (I t 11).toNatClampNeg l1) (t + 5) (I t 11).toNatClampNeg (0 : Int32)) (t + 7) (I t 11).toNatClampNeg ((j_up (j_up I (t + 1) (I t 11).toNatClampNeg l1) (t + 5) (I t 11).toNatClampNeg (0 : Int32)) t 10)) t 10)) (t + 9) (I t 11).toNatClampNeg (0 : Int32)) (t + 3) (I t 11).toNatClampNeg (-1 : Int32)) t 12) + (1 : Int32))) t 13)) t 13) + (1 : Int32))) t 11) + (1 : Int32))), (j_up L (t + 2) (I t 11).toNatClampNeg (-1 : Int64))))))) else (j_g (j_in ((j_up (j_up (j_up (j_up (j_up (j_up I (t + 1) (I t 11).toNatClampNeg l1) (t + 5) (I t 11).toNatClampNeg (0 : Int32)) (t + 7) (I t 11).toNatClampNeg ((j_up (j_up I (t + 1) (I t 11).toNatClampNeg l1) (t + 5) (I t 11).toNatClampNeg (0 : Int32)) t 10)) (t + 8) (I t 11).toNatClampNeg ((j_up (j_up (j_up I (t + 1) (I t 11).toNatClampNeg l1) (t + 5) (I t 11).toNatClampNeg (0 : Int32)) (t + 7) (I t 11).toNatClampNeg ((j_up (j_up I (t + 1) (I t 11).toNatClampNeg l1) (t + 5) (I t 11).toNatClampNeg (0 : Int32)) t 10)) t 10)) (t + 9) (I t 11).toNatClampNeg (0 : Int32)) (t + 3) (I t 11).toNatClampNeg (-1 : Int32)) t 14) 6) (j_g (j_in (I t 11) 18) (some ((I t 11), (j_up (j_up (j_up (j_up (j_up (j_up (j_up (j_up I (t + 1) (I t 11).toNatClampNeg l1) (t + 5) (I t 11).toNatClampNeg (0 : Int32)) (t + 7) (I t 11).toNatClampNeg ((j_up (j_up I (t + 1) (I t 11).toNatClampNeg l1) (t + 5) (I t 11).toNatClampNeg (0 : Int32)) t 10)) (t + 8) (I t 11).toNatClampNeg ((j_up (j_up (j_up I (t + 1) (I t 11).toNatClampNeg l1) (t + 5) (I t 11).toNatClampNeg (0 : Int32)) (t + 7) (I t 11).toNatClampNeg ((j_up (j_up I (t + 1) (I t 11).toNatClampNeg l1) (t + 5) (I t 11).toNatClampNeg (0 : Int32)) t 10)) t 10)) (t + 9) (I t 11).toNatClampNeg (0 : Int32)) (t + 3) (I t 11).toNatClampNeg (-1 : Int32)) t 14 (((j_up (j_up (j_up (j_up (j_up (j_up I (t + 1) (I t 11).toNatClampNeg l1) (t + 5) (I t 11).toNatClampNeg (0 : Int32)) (t + 7) (I t 11).toNatClampNeg ((j_up (j_up I (t + 1) (I t 11).toNatClampNeg l1) (t + 5) (I t 11).toNatClampNeg (0 : Int32)) t 10)) (t + 8) (I t 11).toNatClampNeg ((j_up (j_up (j_up I (t + 1) (I t 11).toNatClampNeg l1) (t + 5) (I t 11).toNatClampNeg (0 : Int32)) (t + 7) (I t 11).toNatClampNeg ((j_up (j_up I (t + 1) (I t 11).toNatClampNeg l1) (t + 5) (I t 11).toNatClampNeg (0 : Int32)) t 10)) t 10)) (t + 9) (I t 11).toNatClampNeg (0 : Int32)) (t + 3) (I t 11).toNatClampNeg (-1 : Int32)) t 14) + (1 : Int32))) t 11 (((j_up (j_up (j_up (j_up (j_up (j_up (j_up I (t + 1) (I t 11).toNatClampNeg l1) (t + 5) (I t 11).toNatClampNeg (0 : Int32)) (t + 7) (I t 11).toNatClampNeg ((j_up (j_up I (t + 1) (I t 11).toNatClampNeg l1) (t + 5) (I t 11).toNatClampNeg (0 : Int32)) t 10)) (t + 8) (I t 11).toNatClampNeg ((j_up (j_up (j_up I (t + 1) (I t 11).toNatClampNeg l1) (t + 5) (I t 11).toNatClampNeg (0 : Int32)) (t + 7) (I t 11).toNatClampNeg ((j_up (j_up I (t + 1) (I t 11).toNatClampNeg l1) (t + 5) (I t 11).toNatClampNeg (0 : Int32)) t 10)) t 10)) (t + 9) (I t 11).toNatClampNeg (0 : Int32)) (t + 3) (I t 11).toNatClampNeg (-1 : Int32)) t 14 (((j_up (j_up (j_up (j_up (j_up (j_up I (t + 1) (I t 11).toNatClampNeg l1) (t + 5) (I t 11).toNatClampNeg (0 : Int32)) (t + 7) (I t 11).toNatClampNeg ((j_up (j_up I (t + 1) (I t 11).toNatClampNeg l1) (t + 5) (I t 11).toNatClampNeg (0 : Int32)) t 10)) (t + 8) (I t 11).toNatClampNeg ((j_up (j_up (j_up I (t + 1) (I t 11).toNatClampNeg l1) (t + 5) (I t 11).toNatClampNeg (0 : Int32)) (t + 7) (I t 11).toNatClampNeg ((j_up (j_up I (t + 1) (I t 11).toNatClampNeg l1) (t + 5) (I t 11).toNatClampNeg (0 : Int32)) t 10)) t 10)) (t + 9) (I t 11).toNatClampNeg (0 : Int32)) (t + 3) (I t 11).toNatClampNeg (-1 : Int32)) t 14) + (1 : Int32))) t 11) + (1 : Int32))), (j_up L (t + 2) (I t 11).toNatClampNeg (jm_sets ((j_up (j_up (j_up (j_up (j_up (j_up I (t + 1) (I t 11).toNatClampNeg l1) (t + 5) (I t 11).toNatClampNeg (0 : Int32)) (t + 7) (I t 11).toNatClampNeg ((j_up (j_up I (t + 1) (I t 11).toNatClampNeg l1) (t + 5) (I t 11).toNatClampNeg (0 : Int32)) t 10)) (t + 8) (I t 11).toNatClampNeg ((j_up (j_up (j_up I (t + 1) (I t 11).toNatClampNeg l1) (t + 5) (I t 11).toNatClampNeg (0 : Int32)) (t + 7) (I t 11).toNatClampNeg ((j_up (j_up I (t + 1) (I t 11).toNatClampNeg l1) (t + 5) (I t 11).toNatClampNeg (0 : Int32)) t 10)) t 10)) (t + 9) (I t 11).toNatClampNeg (0 : Int32)) (t + 3) (I t 11).toNatClampNeg (-1 : Int32)) t 14).toNatClampNeg)))))))))))))
set_option maxHeartbeats 4000000 in
set_option maxRecDepth 100000 in
theorem tcX4_addLine {E : JE} {t : Nat} {l1 : Int32} {l2 : Int32} {r : Int32 × JI × JL} {I : JI} {L : JL} {G D : JG} {S : JS} (hL : Lay G S) (ht : S[t]? = some (4, 17)) (h : fX4_addLine t l1 l2 I L = some r) : CallJ E xX4_addLine 1 [.ref (E.1 + t), .int l1, .int l2] I L G D S (some (.int r.1)) r.2.1 r.2.2 G D S := by
  unfold fX4_addLine at h
  refine j_entry (by decide) (Nat.le_of_ble_eq_true rfl) ?_
  show AtJ E xX4_addLine (Zr E (some (.int r.1)) r.2.1 r.2.2 G D S) ((S).length, jm_sl S) 1 0 [(0, .ref (E.1 + t)), (1, .int l1), (2, .int l2)] [] I L G D S
  refine j_aload_n 1 dX4_addLine_0 rfl rfl 0 rfl ?_
  refine j_getI 4 dX4_addLine_1 rfl ht cl4 (k := 11) (by decide) flX4_48 rfl ?_
  refine j_istore_n (lv' := [(3, .int (I t 11)), (0, .ref (E.1 + t)), (1, .int l1), (2, .int l2)]) 5 dX4_addLine_4 rfl rfl (by decide) rfl ?_
  refine j_aload_n 6 dX4_addLine_5 rfl rfl 1 rfl ?_
  refine j_getG 9 dX4_addLine_6 rfl ht cl4 (k := 0) (by decide) flX4_9 rfl (ly4_0 hL ht).1 ?_
  refine j_iload_n 10 dX4_addLine_9 rfl rfl 0 rfl ?_
  refine j_iload_n 11 dX4_addLine_10 rfl rfl 2 rfl ?_
  obtain ⟨hg, h⟩ := j_gs h
  obtain ⟨hz, h⟩ := j_gs h
  refine j_zast 12 dX4_addLine_11 rfl (ly4_0 hL ht).2 (j_inv hg) (of_decide_eq_true hz) ?_
  refine j_aload_n 13 dX4_addLine_12 rfl rfl 1 rfl ?_
  refine j_getG 16 dX4_addLine_13 rfl ht cl4 (k := 4) (by decide) flX4_26 rfl (ly4_4 hL ht).1 ?_
  refine j_iload_n 17 dX4_addLine_16 rfl rfl 0 rfl ?_
  refine j_iconst (v := (0 : Int32)) 18 dX4_addLine_17 rfl (by decide) ?_
  obtain ⟨hg, h⟩ := j_gs h
  refine j_iast 19 dX4_addLine_18 rfl (ly4_4 hL ht).2 (j_inv hg) ?_
  refine j_aload_n 20 dX4_addLine_19 rfl rfl 1 rfl ?_
  refine j_getG 23 dX4_addLine_20 rfl ht cl4 (k := 6) (by decide) flX4_32 rfl (ly4_6 hL ht).1 ?_
  refine j_iload_n 24 dX4_addLine_23 rfl rfl 0 rfl ?_
  refine j_aload_n 25 dX4_addLine_24 rfl rfl 1 rfl ?_
  refine j_getI 28 dX4_addLine_25 rfl ht cl4 (k := 10) (by decide) flX4_44 rfl ?_
  obtain ⟨hg, h⟩ := j_gs h
  refine j_iast 29 dX4_addLine_28 rfl (ly4_6 hL ht).2 (j_inv hg) ?_
  refine j_aload_n 30 dX4_addLine_29 rfl rfl 1 rfl ?_
  refine j_getG 33 dX4_addLine_30 rfl ht cl4 (k := 7) (by decide) flX4_35 rfl (ly4_7 hL ht).1 ?_
  refine j_iload_n 34 dX4_addLine_33 rfl rfl 0 rfl ?_
  refine j_aload_n 35 dX4_addLine_34 rfl rfl 1 rfl ?_
  refine j_getI 38 dX4_addLine_35 rfl ht cl4 (k := 10) (by decide) flX4_44 rfl ?_
  obtain ⟨hg, h⟩ := j_gs h
  refine j_iast 39 dX4_addLine_38 rfl (ly4_7 hL ht).2 (j_inv hg) ?_
  refine j_aload_n 40 dX4_addLine_39 rfl rfl 1 rfl ?_
  refine j_getG 43 dX4_addLine_40 rfl ht cl4 (k := 8) (by decide) flX4_38 rfl (ly4_8 hL ht).1 ?_
  refine j_iload_n 44 dX4_addLine_43 rfl rfl 0 rfl ?_
  refine j_iconst (v := (0 : Int32)) 45 dX4_addLine_44 rfl (by decide) ?_
  obtain ⟨hg, h⟩ := j_gs h
  refine j_zast 46 dX4_addLine_45 rfl (ly4_8 hL ht).2 (j_inv hg) j_b01_0 ?_
  refine j_aload_n 47 dX4_addLine_46 rfl rfl 1 rfl ?_
  refine j_getG 50 dX4_addLine_47 rfl ht cl4 (k := 2) (by decide) flX4_19 rfl (ly4_2 hL ht).1 ?_
  refine j_iload_n 51 dX4_addLine_50 rfl rfl 0 rfl ?_
  refine j_iconst (v := (-1 : Int32)) 52 dX4_addLine_51 rfl (by decide) ?_
  obtain ⟨hg, h⟩ := j_gs h
  refine j_iast 53 dX4_addLine_52 rfl (ly4_2 hL ht).2 (j_inv hg) ?_
  refine j_iload_n 54 dX4_addLine_53 rfl rfl 3 rfl ?_
  refine j_if_eq 84 57 dX4_addLine_54 (by decide) rfl (fun hc => ?_) (fun hc => ?_)
  · replace h := j_pos hc h
    refine j_aload_n 85 dX4_addLine_84 rfl rfl 1 rfl ?_
    refine j_getG 88 dX4_addLine_85 rfl ht cl4 (k := 1) (by decide) flX4_15 rfl (ly4_1 hL ht).1 ?_
    refine j_iload_n 89 dX4_addLine_88 rfl rfl 0 rfl ?_
    refine j_ldc2 (v := (-1 : Int64)) 92 dX4_addLine_89 rfl wm810 ?_
    obtain ⟨hg, h⟩ := j_gs h
    refine j_last 93 dX4_addLine_92 rfl (ly4_1 hL ht).2 (j_inv hg) ?_
    refine j_aload_n 94 dX4_addLine_93 rfl rfl 1 rfl ?_
    refine j_dup 95 dX4_addLine_94 rfl rfl ?_
    refine j_getI 98 dX4_addLine_95 rfl ht cl4 (k := 12) (by decide) flX4_51 rfl ?_
    refine j_iconst (v := (1 : Int32)) 99 dX4_addLine_98 rfl (by decide) ?_
    refine j_iadd 100 dX4_addLine_99 rfl ?_
    refine j_putI 103 dX4_addLine_100 rfl ht cl4 (k := 12) (by decide) flX4_51 rfl rfl rfl ?_
    refine j_iload_n 104 dX4_addLine_103 rfl rfl 2 rfl ?_
    refine j_if_eq 127 107 dX4_addLine_104 (by decide) rfl (fun hc => ?_) (fun hc => ?_)
    · replace h := j_pos hc h
      refine j_aload_n 128 dX4_addLine_127 rfl rfl 1 rfl ?_
      refine j_dup 129 dX4_addLine_128 rfl rfl ?_
      refine j_getI 132 dX4_addLine_129 rfl ht cl4 (k := 11) (by decide) flX4_48 rfl ?_
      refine j_iconst (v := (1 : Int32)) 133 dX4_addLine_132 rfl (by decide) ?_
      refine j_iadd 134 dX4_addLine_133 rfl ?_
      refine j_putI 137 dX4_addLine_134 rfl ht cl4 (k := 11) (by decide) flX4_48 rfl rfl rfl ?_
      refine j_iload_n 138 dX4_addLine_137 rfl rfl 0 rfl ?_
      cases h
      exact j_iret dX4_addLine_138 rfl
    · replace h := j_neg hc h
      refine j_aload_n 108 dX4_addLine_107 rfl rfl 1 rfl ?_
      refine j_getG 111 dX4_addLine_108 rfl ht cl4 (k := 2) (by decide) flX4_19 rfl (ly4_2 hL ht).1 ?_
      refine j_iload_n 112 dX4_addLine_111 rfl rfl 0 rfl ?_
      refine j_aload_n 113 dX4_addLine_112 rfl rfl 1 rfl ?_
      refine j_getI 116 dX4_addLine_113 rfl ht cl4 (k := 13) (by decide) flX4_54 rfl ?_
      obtain ⟨hg, h⟩ := j_gs h
      refine j_iast 117 dX4_addLine_116 rfl (ly4_2 hL ht).2 (j_inv hg) ?_
      refine j_aload_n 118 dX4_addLine_117 rfl rfl 1 rfl ?_
      refine j_dup 119 dX4_addLine_118 rfl rfl ?_
      refine j_getI 122 dX4_addLine_119 rfl ht cl4 (k := 13) (by decide) flX4_54 rfl ?_
      refine j_iconst (v := (1 : Int32)) 123 dX4_addLine_122 rfl (by decide) ?_
      refine j_iadd 124 dX4_addLine_123 rfl ?_
      refine j_putI 127 dX4_addLine_124 rfl ht cl4 (k := 13) (by decide) flX4_54 rfl rfl rfl ?_
      refine j_aload_n 128 dX4_addLine_127 rfl rfl 1 rfl ?_
      refine j_dup 129 dX4_addLine_128 rfl rfl ?_
      refine j_getI 132 dX4_addLine_129 rfl ht cl4 (k := 11) (by decide) flX4_48 rfl ?_
      refine j_iconst (v := (1 : Int32)) 133 dX4_addLine_132 rfl (by decide) ?_
      refine j_iadd 134 dX4_addLine_133 rfl ?_
      refine j_putI 137 dX4_addLine_134 rfl ht cl4 (k := 11) (by decide) flX4_48 rfl rfl rfl ?_
      refine j_iload_n 138 dX4_addLine_137 rfl rfl 0 rfl ?_
      cases h
      exact j_iret dX4_addLine_138 rfl
  · replace h := j_neg hc h
    refine j_aload_n 58 dX4_addLine_57 rfl rfl 1 rfl ?_
    refine j_getG 61 dX4_addLine_58 rfl ht cl4 (k := 1) (by decide) flX4_15 rfl (ly4_1 hL ht).1 ?_
    refine j_iload_n 62 dX4_addLine_61 rfl rfl 0 rfl ?_
    refine j_gets 65 dX4_addLine_62 rfl flX4_67 ?_
    refine j_aload_n 66 dX4_addLine_65 rfl rfl 1 rfl ?_
    refine j_getI 69 dX4_addLine_66 rfl ht cl4 (k := 14) (by decide) flX4_57 rfl ?_
    obtain ⟨hg, h⟩ := j_gs h
    refine j_slald 70 dX4_addLine_69 rfl (j_inv hg) ?_
    obtain ⟨hg, h⟩ := j_gs h
    refine j_last 71 dX4_addLine_70 rfl (ly4_1 hL ht).2 (j_inv hg) ?_
    refine j_aload_n 72 dX4_addLine_71 rfl rfl 1 rfl ?_
    refine j_dup 73 dX4_addLine_72 rfl rfl ?_
    refine j_getI 76 dX4_addLine_73 rfl ht cl4 (k := 14) (by decide) flX4_57 rfl ?_
    refine j_iconst (v := (1 : Int32)) 77 dX4_addLine_76 rfl (by decide) ?_
    refine j_iadd 78 dX4_addLine_77 rfl ?_
    refine j_putI 81 dX4_addLine_78 rfl ht cl4 (k := 14) (by decide) flX4_57 rfl rfl rfl ?_
    refine j_goto 127 dX4_addLine_81 (by decide) ?_
    refine j_aload_n 128 dX4_addLine_127 rfl rfl 1 rfl ?_
    refine j_dup 129 dX4_addLine_128 rfl rfl ?_
    refine j_getI 132 dX4_addLine_129 rfl ht cl4 (k := 11) (by decide) flX4_48 rfl ?_
    refine j_iconst (v := (1 : Int32)) 133 dX4_addLine_132 rfl (by decide) ?_
    refine j_iadd 134 dX4_addLine_133 rfl ?_
    refine j_putI 137 dX4_addLine_134 rfl ht cl4 (k := 11) (by decide) flX4_48 rfl rfl rfl ?_
    refine j_iload_n 138 dX4_addLine_137 rfl rfl 0 rfl ?_
    cases h
    exact j_iret dX4_addLine_138 rfl
def fX4_addCode (t : Nat) (l1 : Int32) (I : JI) : Option (JI) :=
  if (1000 : Int32) ≤ (I t 10) then (some (I)) else (j_g (j_in (I t 10) 1000) (some ((j_up (j_up I (t + 10) (I t 10).toNatClampNeg l1) t 10 (((j_up I (t + 10) (I t 10).toNatClampNeg l1) t 10) + (1 : Int32))))))
set_option maxHeartbeats 4000000 in
set_option maxRecDepth 100000 in
theorem tcX4_addCode {E : JE} {t : Nat} {l1 : Int32} {r : JI} {I : JI} {L : JL} {G D : JG} {S : JS} (hL : Lay G S) (ht : S[t]? = some (4, 17)) (h : fX4_addCode t l1 I = some r) : CallJ E xX4_addCode 1 [.ref (E.1 + t), .int l1] I L G D S none r L G D S := by
  unfold fX4_addCode at h
  refine j_entry (by decide) (Nat.le_of_ble_eq_true rfl) ?_
  show AtJ E xX4_addCode (Zr E none r L G D S) ((S).length, jm_sl S) 1 0 [(0, .ref (E.1 + t)), (1, .int l1)] [] I L G D S
  refine j_aload_n 1 dX4_addCode_0 rfl rfl 0 rfl ?_
  refine j_getI 4 dX4_addCode_1 rfl ht cl4 (k := 10) (by decide) flX4_44 rfl ?_
  refine j_sipush (v := (1000 : Int32)) 7 dX4_addCode_4 rfl (by decide) ?_
  refine j_icmp_ge 30 10 dX4_addCode_7 (by decide) rfl (fun hc => ?_) (fun hc => ?_)
  · replace h := j_pos hc h
    cases h
    exact j_vret dX4_addCode_30 rfl
  · replace h := j_neg hc h
    refine j_aload_n 11 dX4_addCode_10 rfl rfl 0 rfl ?_
    refine j_getG 14 dX4_addCode_11 rfl ht cl4 (k := 9) (by decide) flX4_41 rfl (ly4_9 hL ht).1 ?_
    refine j_aload_n 15 dX4_addCode_14 rfl rfl 0 rfl ?_
    refine j_getI 18 dX4_addCode_15 rfl ht cl4 (k := 10) (by decide) flX4_44 rfl ?_
    refine j_iload_n 19 dX4_addCode_18 rfl rfl 1 rfl ?_
    obtain ⟨hg, h⟩ := j_gs h
    refine j_iast 20 dX4_addCode_19 rfl (ly4_9 hL ht).2 (j_inv hg) ?_
    refine j_aload_n 21 dX4_addCode_20 rfl rfl 0 rfl ?_
    refine j_dup 22 dX4_addCode_21 rfl rfl ?_
    refine j_getI 25 dX4_addCode_22 rfl ht cl4 (k := 10) (by decide) flX4_44 rfl ?_
    refine j_iconst (v := (1 : Int32)) 26 dX4_addCode_25 rfl (by decide) ?_
    refine j_iadd 27 dX4_addCode_26 rfl ?_
    refine j_putI 30 dX4_addCode_27 rfl ht cl4 (k := 10) (by decide) flX4_44 rfl rfl rfl ?_
    cases h
    exact j_vret dX4_addCode_30 rfl
def fX4_endCondition_54 (t : Nat) (k17 : Int32 → Int32 → JI → Option (JI)) (l1 : Int32) (l2 : Int32) (s0 : Int32) (I : JI) : Option (JI) :=
  j_g (j_in l1 18) (if (jm_b01 (I (t + 9) l1.toNatClampNeg)) = 0 then (if s0 = 0 then (j_g (j_in l1 18) (k17 l1 (l2 + (1 : Int32)) (j_up I (t + 9) l1.toNatClampNeg (0 : Int32)))) else (j_g (j_in l1 18) (k17 l1 (l2 + (1 : Int32)) (j_up I (t + 9) l1.toNatClampNeg (1 : Int32))))) else (j_g (j_in l1 18) (k17 l1 (l2 + (1 : Int32)) (j_up I (t + 9) l1.toNatClampNeg (1 : Int32)))))
set_option maxHeartbeats 4000000 in
set_option maxRecDepth 100000 in
theorem kX4_endCondition_54 {E : JE} {t : Nat} {k17 : Int32 → Int32 → JI → Option (JI)} {r : JI} {L : JL} {G : JG} {D : JG} {S : JS} (hL : Lay G S) (ht : S[t]? = some (4, 17)) (H17 : ∀ (l1 : Int32) (l2 : Int32) (I : JI), k17 l1 l2 I = some r → AtJ E xX4_endCondition (Zr E none r L G D S) ((S).length, jm_sl S) 1 17 [(0, .ref (E.1 + t)), (1, .int l1), (2, .int l2)] [] I L G D S) : ∀ (l1 : Int32) (l2 : Int32) (s0 : Int32) (I : JI), fX4_endCondition_54 t k17 l1 l2 s0 I = some r → AtJ E xX4_endCondition (Zr E none r L G D S) ((S).length, jm_sl S) 1 54 [(0, .ref (E.1 + t)), (1, .int l1), (2, .int l2)] [.int s0] I L G D S := by
  intro l1 l2 s0 I  h
  unfold fX4_endCondition_54 at h
  refine j_istore_n (lv' := [(3, .int s0), (0, .ref (E.1 + t)), (1, .int l1), (2, .int l2)]) 55 dX4_endCondition_54 rfl rfl (by decide) rfl ?_
  refine j_aload_n 56 dX4_endCondition_55 rfl rfl 1 rfl ?_
  refine j_getG 59 dX4_endCondition_56 rfl ht cl4 (k := 8) (by decide) flX4_38 rfl (ly4_8 hL ht).1 ?_
  refine j_iload_n 60 dX4_endCondition_59 rfl rfl 2 rfl ?_
  refine j_aload_n 61 dX4_endCondition_60 rfl rfl 1 rfl ?_
  refine j_getG 64 dX4_endCondition_61 rfl ht cl4 (k := 8) (by decide) flX4_38 rfl (ly4_8 hL ht).1 ?_
  refine j_iload_n 65 dX4_endCondition_64 rfl rfl 2 rfl ?_
  obtain ⟨hg, h⟩ := j_gs h
  refine j_zald 66 dX4_endCondition_65 rfl (ly4_8 hL ht).2 (j_inv hg) ?_
  refine j_if_ne 73 69 dX4_endCondition_66 (by decide) rfl (fun hc => ?_) (fun hc => ?_)
  · replace h := j_neg hc h
    refine j_iconst (v := (1 : Int32)) 74 dX4_endCondition_73 rfl (by decide) ?_
    refine j_goto 78 dX4_endCondition_74 (by decide) ?_
    obtain ⟨hg, h⟩ := j_gs h
    refine j_zast 79 dX4_endCondition_78 rfl (ly4_8 hL ht).2 (j_inv hg) j_b01_1 ?_
    refine j_iinc (v := (l2 + (1 : Int32))) (lv' := [(2, .int (l2 + (1 : Int32))), (3, .int s0), (0, .ref (E.1 + t)), (1, .int l1)]) (q := 3) 82 dX4_endCondition_79 rfl rfl rfl (by decide) rfl ?_
    refine j_goto 17 dX4_endCondition_82 (by decide) ?_
    refine j_sub [2, 3, 0] rfl ?_
    exact H17 _ _ _  h
  · replace h := j_pos hc h
    refine j_iload_n 70 dX4_endCondition_69 rfl rfl 0 rfl ?_
    refine j_if_eq 77 73 dX4_endCondition_70 (by decide) rfl (fun hc => ?_) (fun hc => ?_)
    · replace h := j_pos hc h
      refine j_iconst (v := (0 : Int32)) 78 dX4_endCondition_77 rfl (by decide) ?_
      obtain ⟨hg, h⟩ := j_gs h
      refine j_zast 79 dX4_endCondition_78 rfl (ly4_8 hL ht).2 (j_inv hg) j_b01_0 ?_
      refine j_iinc (v := (l2 + (1 : Int32))) (lv' := [(2, .int (l2 + (1 : Int32))), (3, .int s0), (0, .ref (E.1 + t)), (1, .int l1)]) (q := 3) 82 dX4_endCondition_79 rfl rfl rfl (by decide) rfl ?_
      refine j_goto 17 dX4_endCondition_82 (by decide) ?_
      refine j_sub [2, 3, 0] rfl ?_
      exact H17 _ _ _  h
    · replace h := j_neg hc h
      refine j_iconst (v := (1 : Int32)) 74 dX4_endCondition_73 rfl (by decide) ?_
      refine j_goto 78 dX4_endCondition_74 (by decide) ?_
      obtain ⟨hg, h⟩ := j_gs h
      refine j_zast 79 dX4_endCondition_78 rfl (ly4_8 hL ht).2 (j_inv hg) j_b01_1 ?_
      refine j_iinc (v := (l2 + (1 : Int32))) (lv' := [(2, .int (l2 + (1 : Int32))), (3, .int s0), (0, .ref (E.1 + t)), (1, .int l1)]) (q := 3) 82 dX4_endCondition_79 rfl rfl rfl (by decide) rfl ?_
      refine j_goto 17 dX4_endCondition_82 (by decide) ?_
      refine j_sub [2, 3, 0] rfl ?_
      exact H17 _ _ _  h
def fX4_endCondition_17 (t : Nat) : Nat → Int32 → Int32 → JI → Option (JI)
  | 0, _, _, _ => none
  | n + 1, l1, l2, I =>
    if (I t 10) ≤ l2 then (some (I)) else (j_g (j_in l2 1000) (if (I (t + 10) l2.toNatClampNeg) < (10009 : Int32) then (fX4_endCondition_54 t (fX4_endCondition_17 t n) l1 l2 (0 : Int32) I) else (j_g (j_in l2 1000) (if (10012 : Int32) < (I (t + 10) l2.toNatClampNeg) then (fX4_endCondition_54 t (fX4_endCondition_17 t n) l1 l2 (0 : Int32) I) else (fX4_endCondition_54 t (fX4_endCondition_17 t n) l1 l2 (1 : Int32) I)))))
set_option maxHeartbeats 4000000 in
set_option maxRecDepth 100000 in
theorem kX4_endCondition_17 {E : JE} {t : Nat} {r : JI} {L : JL} {G : JG} {D : JG} {S : JS} (hL : Lay G S) (ht : S[t]? = some (4, 17)) : ∀ (n : Nat) (l1 : Int32) (l2 : Int32) (I : JI), fX4_endCondition_17 t n l1 l2 I = some r → AtJ E xX4_endCondition (Zr E none r L G D S) ((S).length, jm_sl S) 1 17 [(0, .ref (E.1 + t)), (1, .int l1), (2, .int l2)] [] I L G D S := by
  intro n
  induction n with
  | zero => intro l1 l2 I  h; simp [fX4_endCondition_17] at h
  | succ n ih =>
    intro l1 l2 I  h
    rw [fX4_endCondition_17] at h
    refine j_iload_n 18 dX4_endCondition_17 rfl rfl 2 rfl ?_
    refine j_aload_n 19 dX4_endCondition_18 rfl rfl 0 rfl ?_
    refine j_getI 22 dX4_endCondition_19 rfl ht cl4 (k := 10) (by decide) flX4_44 rfl ?_
    refine j_icmp_ge 85 25 dX4_endCondition_22 (by decide) rfl (fun hc => ?_) (fun hc => ?_)
    · replace h := j_pos hc h
      cases h
      exact j_vret dX4_endCondition_85 rfl
    · replace h := j_neg hc h
      refine j_aload_n 26 dX4_endCondition_25 rfl rfl 0 rfl ?_
      refine j_getG 29 dX4_endCondition_26 rfl ht cl4 (k := 9) (by decide) flX4_41 rfl (ly4_9 hL ht).1 ?_
      refine j_iload_n 30 dX4_endCondition_29 rfl rfl 2 rfl ?_
      obtain ⟨hg, h⟩ := j_gs h
      refine j_iald 31 dX4_endCondition_30 rfl (ly4_9 hL ht).2 (j_inv hg) ?_
      refine j_sipush (v := (10009 : Int32)) 34 dX4_endCondition_31 rfl (by decide) ?_
      refine j_icmp_lt 53 37 dX4_endCondition_34 (by decide) rfl (fun hc => ?_) (fun hc => ?_)
      · replace h := j_pos hc h
        refine j_iconst (v := (0 : Int32)) 54 dX4_endCondition_53 rfl (by decide) ?_
        exact kX4_endCondition_54 hL  ht ih _ _ _ _  h
      · replace h := j_neg hc h
        refine j_aload_n 38 dX4_endCondition_37 rfl rfl 0 rfl ?_
        refine j_getG 41 dX4_endCondition_38 rfl ht cl4 (k := 9) (by decide) flX4_41 rfl (ly4_9 hL ht).1 ?_
        refine j_iload_n 42 dX4_endCondition_41 rfl rfl 2 rfl ?_
        obtain ⟨hg, h⟩ := j_gs h
        refine j_iald 43 dX4_endCondition_42 rfl (ly4_9 hL ht).2 (j_inv hg) ?_
        refine j_sipush (v := (10012 : Int32)) 46 dX4_endCondition_43 rfl (by decide) ?_
        refine j_icmp_gt 53 49 dX4_endCondition_46 (by decide) rfl (fun hc => ?_) (fun hc => ?_)
        · replace h := j_pos hc h
          refine j_iconst (v := (0 : Int32)) 54 dX4_endCondition_53 rfl (by decide) ?_
          exact kX4_endCondition_54 hL  ht ih _ _ _ _  h
        · replace h := j_neg hc h
          refine j_iconst (v := (1 : Int32)) 50 dX4_endCondition_49 rfl (by decide) ?_
          refine j_goto 54 dX4_endCondition_50 (by decide) ?_
          exact kX4_endCondition_54 hL  ht ih _ _ _ _  h
def fX4_endCondition (t : Nat) (l1 : Int32) (I : JI) : Option (JI) :=
  j_g (j_in l1 18) (j_g (j_in l1 18) (fX4_endCondition_17 t 100000 l1 ((j_up I (t + 8) l1.toNatClampNeg (I t 10)) (t + 7) l1.toNatClampNeg) (j_up I (t + 8) l1.toNatClampNeg (I t 10))))
set_option maxHeartbeats 4000000 in
set_option maxRecDepth 100000 in
theorem tcX4_endCondition {E : JE} {t : Nat} {l1 : Int32} {r : JI} {I : JI} {L : JL} {G D : JG} {S : JS} (hL : Lay G S) (ht : S[t]? = some (4, 17)) (h : fX4_endCondition t l1 I = some r) : CallJ E xX4_endCondition 1 [.ref (E.1 + t), .int l1] I L G D S none r L G D S := by
  unfold fX4_endCondition at h
  refine j_entry (by decide) (Nat.le_of_ble_eq_true rfl) ?_
  show AtJ E xX4_endCondition (Zr E none r L G D S) ((S).length, jm_sl S) 1 0 [(0, .ref (E.1 + t)), (1, .int l1)] [] I L G D S
  refine j_aload_n 1 dX4_endCondition_0 rfl rfl 0 rfl ?_
  refine j_getG 4 dX4_endCondition_1 rfl ht cl4 (k := 7) (by decide) flX4_35 rfl (ly4_7 hL ht).1 ?_
  refine j_iload_n 5 dX4_endCondition_4 rfl rfl 1 rfl ?_
  refine j_aload_n 6 dX4_endCondition_5 rfl rfl 0 rfl ?_
  refine j_getI 9 dX4_endCondition_6 rfl ht cl4 (k := 10) (by decide) flX4_44 rfl ?_
  obtain ⟨hg, h⟩ := j_gs h
  refine j_iast 10 dX4_endCondition_9 rfl (ly4_7 hL ht).2 (j_inv hg) ?_
  refine j_aload_n 11 dX4_endCondition_10 rfl rfl 0 rfl ?_
  refine j_getG 14 dX4_endCondition_11 rfl ht cl4 (k := 6) (by decide) flX4_32 rfl (ly4_6 hL ht).1 ?_
  refine j_iload_n 15 dX4_endCondition_14 rfl rfl 1 rfl ?_
  obtain ⟨hg, h⟩ := j_gs h
  refine j_iald 16 dX4_endCondition_15 rfl (ly4_6 hL ht).2 (j_inv hg) ?_
  refine j_istore_n (lv' := [(2, .int ((j_up I (t + 8) l1.toNatClampNeg (I t 10)) (t + 7) l1.toNatClampNeg)), (0, .ref (E.1 + t)), (1, .int l1)]) 17 dX4_endCondition_16 rfl rfl (by decide) rfl ?_
  refine j_sub [1, 2, 0] rfl ?_
  exact kX4_endCondition_17 hL  ht  100000 _ _ _  h
