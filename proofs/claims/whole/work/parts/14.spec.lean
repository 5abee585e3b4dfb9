theorem ws754 : (Jvm.Cond.fieldLink "java/lang/String" (38 : Nat) "java/lang/String" "COMPACT_STRINGS" "Z") ∈ jm_tbl := jm_in (List.mem_of_getElem? (i := 754) (by decide +kernel)) (by decide +kernel)
theorem ws2061 : (Jvm.Cond.fieldLink "java/lang/String" (15 : Nat) "java/lang/String" "coder" "B") ∈ jm_tbl := jm_in (List.mem_of_getElem? (i := 2061) (by decide +kernel)) (by decide +kernel)
theorem ws2062 : (Jvm.Cond.fieldLink "java/lang/String" (9 : Nat) "java/lang/String" "value" "[B") ∈ jm_tbl := jm_in (List.mem_of_getElem? (i := 2062) (by decide +kernel)) (by decide +kernel)
theorem ws762 : (Jvm.Cond.fieldLink "java/lang/String" (1053 : Nat) "jdk/internal/util/Preconditions" "SIOOBE_FORMATTER" "Ljava/util/function/BiFunction;") ∈ jm_tbl := jm_in (List.mem_of_getElem? (i := 762) (by decide +kernel)) (by decide +kernel)
theorem ws750 : (Jvm.Cond.methodLink "java/lang/String" (492 : Nat) ({ cls := "java/lang/String", name := "isLatin1", desc := "()Z" } : Jvm.MethodName)) ∈ jm_tbl := jm_in (List.mem_of_getElem? (i := 750) (by decide +kernel)) (by decide +kernel)
theorem ws756 : (Jvm.Cond.methodLink "java/lang/String" (495 : Nat) ({ cls := "java/lang/StringLatin1", name := "charAt", desc := "([BI)C" } : Jvm.MethodName)) ∈ jm_tbl := jm_in (List.mem_of_getElem? (i := 756) (by decide +kernel)) (by decide +kernel)
theorem ws764 : (Jvm.Cond.methodLink "java/lang/String" (1059 : Nat) ({ cls := "jdk/internal/util/Preconditions", name := "checkIndex", desc := "(IILjava/util/function/BiFunction;)I" } : Jvm.MethodName)) ∈ jm_tbl := jm_in (List.mem_of_getElem? (i := 764) (by decide +kernel)) (by decide +kernel)
theorem ws759 : (Jvm.Cond.methodLink "java/lang/StringLatin1" (9 : Nat) ({ cls := "java/lang/String", name := "checkIndex", desc := "(II)V" } : Jvm.MethodName)) ∈ jm_tbl := jm_in (List.mem_of_getElem? (i := 759) (by decide +kernel)) (by decide +kernel)
theorem ws749 : (Jvm.Cond.code ({ cls := "java/lang/String", name := "charAt", desc := "(I)C" } : Jvm.MethodName) prog_21_method_56_code (2 : Nat) (Option.some Jvm.ClassFile.FieldType.char)) ∈ jm_tbl := jm_in (List.mem_of_getElem? (i := 749) (by decide +kernel)) (by decide +kernel)
theorem ws747 : (Jvm.Cond.instanceMethod ({ cls := "java/lang/String", name := "charAt", desc := "(I)C" } : Jvm.MethodName)) ∈ jm_tbl := jm_in (List.mem_of_getElem? (i := 747) (by decide +kernel)) (by decide +kernel)
theorem ws748 : (Jvm.Cond.selects "java/lang/String" ({ cls := "java/lang/String", name := "charAt", desc := "(I)C" } : Jvm.MethodName) ({ cls := "java/lang/String", name := "charAt", desc := "(I)C" } : Jvm.MethodName)) ∈ jm_tbl := jm_in (List.mem_of_getElem? (i := 748) (by decide +kernel)) (by decide +kernel)
theorem ws99 : (Jvm.Cond.initialized "java/lang/String") ∈ jm_tbl := jm_in (List.mem_of_getElem? (i := 99) (by decide +kernel)) (by decide +kernel)
theorem ws753 : (Jvm.Cond.code ({ cls := "java/lang/String", name := "isLatin1", desc := "()Z" } : Jvm.MethodName) prog_21_method_154_code (1 : Nat) (Option.some Jvm.ClassFile.FieldType.boolean)) ∈ jm_tbl := jm_in (List.mem_of_getElem? (i := 753) (by decide +kernel)) (by decide +kernel)
theorem ws751 : (Jvm.Cond.instanceMethod ({ cls := "java/lang/String", name := "isLatin1", desc := "()Z" } : Jvm.MethodName)) ∈ jm_tbl := jm_in (List.mem_of_getElem? (i := 751) (by decide +kernel)) (by decide +kernel)
theorem ws752 : (Jvm.Cond.selects "java/lang/String" ({ cls := "java/lang/String", name := "isLatin1", desc := "()Z" } : Jvm.MethodName) ({ cls := "java/lang/String", name := "isLatin1", desc := "()Z" } : Jvm.MethodName)) ∈ jm_tbl := jm_in (List.mem_of_getElem? (i := 752) (by decide +kernel)) (by decide +kernel)
theorem ws761 : (Jvm.Cond.code ({ cls := "java/lang/String", name := "checkIndex", desc := "(II)V" } : Jvm.MethodName) prog_21_method_155_code (2 : Nat) (Option.none : Option Jvm.ClassFile.FieldType)) ∈ jm_tbl := jm_in (List.mem_of_getElem? (i := 761) (by decide +kernel)) (by decide +kernel)
theorem ws760 : (Jvm.Cond.static ({ cls := "java/lang/String", name := "checkIndex", desc := "(II)V" } : Jvm.MethodName)) ∈ jm_tbl := jm_in (List.mem_of_getElem? (i := 760) (by decide +kernel)) (by decide +kernel)
theorem ws758 : (Jvm.Cond.code ({ cls := "java/lang/StringLatin1", name := "charAt", desc := "([BI)C" } : Jvm.MethodName) prog_22_method_2_code (2 : Nat) (Option.some Jvm.ClassFile.FieldType.char)) ∈ jm_tbl := jm_in (List.mem_of_getElem? (i := 758) (by decide +kernel)) (by decide +kernel)
theorem ws757 : (Jvm.Cond.static ({ cls := "java/lang/StringLatin1", name := "charAt", desc := "([BI)C" } : Jvm.MethodName)) ∈ jm_tbl := jm_in (List.mem_of_getElem? (i := 757) (by decide +kernel)) (by decide +kernel)
theorem ws100 : (Jvm.Cond.initialized "java/lang/StringLatin1") ∈ jm_tbl := jm_in (List.mem_of_getElem? (i := 100) (by decide +kernel)) (by decide +kernel)
theorem ws766 : (Jvm.Cond.code ({ cls := "jdk/internal/util/Preconditions", name := "checkIndex", desc := "(IILjava/util/function/BiFunction;)I" } : Jvm.MethodName) prog_29_method_11_code (3 : Nat) (Option.some Jvm.ClassFile.FieldType.int)) ∈ jm_tbl := jm_in (List.mem_of_getElem? (i := 766) (by decide +kernel)) (by decide +kernel)
theorem ws765 : (Jvm.Cond.static ({ cls := "jdk/internal/util/Preconditions", name := "checkIndex", desc := "(IILjava/util/function/BiFunction;)I" } : Jvm.MethodName)) ∈ jm_tbl := jm_in (List.mem_of_getElem? (i := 765) (by decide +kernel)) (by decide +kernel)
theorem ws101 : (Jvm.Cond.initialized "jdk/internal/util/Preconditions") ∈ jm_tbl := jm_in (List.mem_of_getElem? (i := 101) (by decide +kernel)) (by decide +kernel)
def xJ0_charAt_5068e : JX := (yJ0_charAt_5068e, cJ0_charAt_5068e, 2, some .char)
def xJ0_isLatin1_aae02 : JX := (yJ0_isLatin1_aae02, cJ0_isLatin1_aae02, 1, some .boolean)
def xJ0_checkIndex_df160 : JX := (yJ0_checkIndex_df160, cJ0_checkIndex_df160, 2, none)
def xJ1_charAt_3b067 : JX := (yJ1_charAt_3b067, cJ1_charAt_3b067, 2, some .char)
def xJ3_checkIndex_8e157 : JX := (yJ3_checkIndex_8e157, cJ3_checkIndex_8e157, 3, some .int)
theorem jyJ0_charAt_5068e : jm_Y xJ0_charAt_5068e 1 := ⟨ws749, ws99, by decide +kernel, by decide⟩
theorem jyJ0_isLatin1_aae02 : jm_Y xJ0_isLatin1_aae02 0 := ⟨ws753, ws99, by decide +kernel, by decide⟩
theorem jyJ0_checkIndex_df160 : jm_Y xJ0_checkIndex_df160 2 := ⟨ws761, ws99, by decide +kernel, by decide⟩
theorem jyJ1_charAt_3b067 : jm_Y xJ1_charAt_3b067 2 := ⟨ws758, ws100, by decide +kernel, by decide⟩
theorem jyJ3_checkIndex_8e157 : jm_Y xJ3_checkIndex_8e157 3 := ⟨ws766, ws101, by decide +kernel, by decide⟩
section JSP
variable {E : JE} {X : JX} {Z : JZ} {U : Nat × Nat} {d pc : Nat} {lv : List (Nat × Value)} {st : List Value} {I : JI} {L : JL} {G D : JG} {S : JS}
theorem j_gets {idx : Nat} {host : String} (pc' : Nat) (hd : decode X.2.1 pc = .ok (.getstatic idx, 3)) (hp : pc + 3 = pc') (hlink : Cond.fieldLinkNest X.1.cls idx "FirstComer" "SETS_WITH" "[J" host ∈ lw_tbl) (kk : AtJ E X Z U d pc' lv (.ref (E.2.2.2 100) :: st) I L G D S) : AtJ E X Z U d pc lv st I L G D S := by
  subst hp
  exact ⟨kk.1, fun p e Rm s m args below meth c H locs n0 z0 ls hC hR hU hN hP hS hl => va_getsN hC.1 hC.2.1 hC.2.2.2.2.2.2.2.2.2.2.2.1 hS hC.2.2.2.2.2.2.1 (va_Nw.use rfl (hC.2.2.2.2.2.2.2.2.2.1 _ hlink rfl)) (fun x h => h) hd (kk.2 p e Rm s m args below meth c H locs n0 z0 ls hC hR hU hN hP hS hl)⟩
theorem j_slald {i : Int32} (pc' : Nat) (hd : decode X.2.1 pc = .ok (.laload, 1)) (hp : pc + 1 = pc') (hin : vp_in i 6) (kk : AtJ E X Z U d pc' lv (.long (jm_sets i.toNatClampNeg) :: st) I L G D S) : AtJ E X Z U d pc lv (.int i :: .ref (E.2.2.2 100) :: st) I L G D S := by
  subst hp
  exact ⟨kk.1, fun p e Rm s m args below meth c H locs n0 z0 ls hC hR hU hN hP hS hl => va_tl hC.1 hC.2.1 hC.2.2.2.2.2.2.2.2.2.2.2.2.1 hS hin rfl hd (kk.2 p e Rm s m args below meth c H locs n0 z0 ls hC hR hU hN hP hS hl)⟩
theorem j_ldcs (pc' : Nat) (hd : decode X.2.1 pc = .ok (.ldc 86, 2)) (hp : pc + 2 = pc') (hX : X.1.cls = "FirstComer$Reader") (kk : AtJ E X Z U d pc' lv (.ref (E.2.2.2 101) :: st) I L G D S) : AtJ E X Z U d pc lv st I L G D S := by
  subst hp
  exact ⟨kk.1, fun p e Rm s m args below meth c H locs n0 z0 ls hC hR hU hN hP hS hl => va_ldcS hC.1 hC.2.1 hC.2.2.2.2.2.2.1 (by rw [hX]; exact hC.2.2.2.2.2.2.2.2.2.2.2.2.2.1) hd (kk.2 p e Rm s m args below meth c H locs n0 z0 ls hC hR hU hN hP hS hl)⟩
theorem j_sld {i : Int32} (pc' : Nat) (hd : decode X.2.1 pc = .ok (.iaload, 1)) (hp : pc + 1 = pc') (hin : vp_in i (E.2.2.2 104)) (kk : AtJ E X Z U d pc' lv (.int (nI (E.2.2.2 (1000 + i.toNatClampNeg))) :: st) I L G D S) : AtJ E X Z U d pc lv (.int i :: .ref (E.2.2.2 103) :: st) I L G D S := by
  subst hp
  refine ⟨kk.1, fun p e Rm s m args below meth c H locs n0 z0 ls hC hR hU hN hP hS hl => ?_⟩
  have hCC := hC
  obtain ⟨hx, hb, hml, -, -, -, hown, hts, hK⟩ := hCC
  obtain ⟨-, -, -, -, -, -, h7, h8, h9, -⟩ := hK.2.2.2
  exact va_sld hx hb h7 h9 (Nat.not_le.mpr h8) hS hin hd (kk.2 p e Rm s m args below meth c H locs n0 z0 ls hC hR hU hN hP hS hl)
theorem j_slen (pc' : Nat) (hd : decode X.2.1 pc = .ok (.arraylength, 1)) (hp : pc + 1 = pc') (kk : AtJ E X Z U d pc' lv (.int (Int32.ofNat (E.2.2.2 104)) :: st) I L G D S) : AtJ E X Z U d pc lv (.ref (E.2.2.2 103) :: st) I L G D S := by
  subst hp
  refine ⟨kk.1, fun p e Rm s m args below meth c H locs n0 z0 ls hC hR hU hN hP hS hl => ?_⟩
  have hCC := hC
  obtain ⟨hx, hb, hml, -, -, -, hown, hts, hK⟩ := hCC
  obtain ⟨-, -, -, -, -, -, h7, h8, h9, -⟩ := hK.2.2.2
  exact va_slen hx hb h7 h9 (Nat.not_le.mpr h8) hS hd (kk.2 p e Rm s m args below meth c H locs n0 z0 ls hC hR hU hN hP hS hl)
-- ===== String.charAt of the one text, by its own code =====
theorem js_compact {idx : Nat} (pc' : Nat) (hd : decode X.2.1 pc = .ok (.getstatic idx, 3)) (hp : pc + 3 = pc') (hlink : Cond.fieldLink X.1.cls idx "java/lang/String" "COMPACT_STRINGS" "Z" ∈ jm_tbl) (kk : AtJ E X Z U d pc' lv (.int 1 :: st) I L G D S) : AtJ E X Z U d pc lv st I L G D S := by
  subst hp
  refine ⟨kk.1, fun p e Rm s m args below meth c H locs n0 z0 ls hC hR hU hN hP hS hl => ?_⟩
  have hCC := hC
  obtain ⟨hx, hb, hml, -, -, -, hown, hts, hK⟩ := hCC
  exact va_gets hx hb hK.2.2.2.2.2.2.2.1 hS hown (hts _ hlink) (fun x h => h) hd (kk.2 p e Rm s m args below meth c H locs n0 z0 ls hC hR hU hN hP hS hl)
theorem js_form {idx : Nat} (pc' : Nat) (hd : decode X.2.1 pc = .ok (.getstatic idx, 3)) (hp : pc + 3 = pc') (hlink : Cond.fieldLink X.1.cls idx "jdk/internal/util/Preconditions" "SIOOBE_FORMATTER" "Ljava/util/function/BiFunction;" ∈ jm_tbl) (k1 : AtJ E X Z U d pc' lv (.null :: st) I L G D S) (k2 : ∀ t, AtJ E X Z U d pc' lv (.ref t :: st) I L G D S) : AtJ E X Z U d pc lv st I L G D S := by
  subst hp
  refine ⟨k1.1, fun p e Rm s m args below meth c H locs n0 z0 ls hC hR hU hN hP hS hl => ?_⟩
  have hCC := hC
  obtain ⟨hx, hb, hml, -, -, -, hown, hts, hK⟩ := hCC
  rcases hK.2.2.2.2.2.2.2.2.1 with hz | ⟨t, hz⟩
  · exact va_gets hx hb hz hS hown (hts _ hlink) (fun x h => h) hd (k1.2 p e Rm s m args below meth c H locs n0 z0 ls hC hR hU hN hP hS hl)
  · exact va_gets hx hb hz hS hown (hts _ hlink) (fun x h => h) hd ((k2 t).2 p e Rm s m args below meth c H locs n0 z0 ls hC hR hU hN hP hS hl)
theorem js_coder {idx : Nat} (pc' : Nat) (hd : decode X.2.1 pc = .ok (.getfield idx, 3)) (hp : pc + 3 = pc') (hlink : Cond.fieldLink X.1.cls idx "java/lang/String" "coder" "B" ∈ jm_tbl) (kk : AtJ E X Z U d pc' lv (.int 0 :: st) I L G D S) : AtJ E X Z U d pc lv (.ref (E.2.2.2 101) :: st) I L G D S := by
  subst hp
  refine ⟨kk.1, fun p e Rm s m args below meth c H locs n0 z0 ls hC hR hU hN hP hS hl => ?_⟩
  have hCC := hC
  obtain ⟨hx, hb, hml, -, -, -, hown, hts, hK⟩ := hCC
  exact vk_getf hx hb (hK.2.2.2.2.2.2.1.1 0 (by decide)).2.1 hS hown (hts _ hlink) (fun x h => h) hd (kk.2 p e Rm s m args below meth c H locs n0 z0 ls hC hR hU hN hP hS hl)
theorem js_value {idx : Nat} (pc' : Nat) (hd : decode X.2.1 pc = .ok (.getfield idx, 3)) (hp : pc + 3 = pc') (hlink : Cond.fieldLink X.1.cls idx "java/lang/String" "value" "[B" ∈ jm_tbl) (kk : AtJ E X Z U d pc' lv (.ref (E.2.2.2 102) :: st) I L G D S) : AtJ E X Z U d pc lv (.ref (E.2.2.2 101) :: st) I L G D S := by
  subst hp
  refine ⟨kk.1, fun p e Rm s m args below meth c H locs n0 z0 ls hC hR hU hN hP hS hl => ?_⟩
  have hCC := hC
  obtain ⟨hx, hb, hml, -, -, -, hown, hts, hK⟩ := hCC
  exact vk_getf hx hb (hK.2.2.2.2.2.2.1.1 0 (by decide)).2.2.1 hS hown (hts _ hlink) (fun x h => h) hd (kk.2 p e Rm s m args below meth c H locs n0 z0 ls hC hR hU hN hP hS hl)
theorem js_len (pc' : Nat) (hd : decode X.2.1 pc = .ok (.arraylength, 1)) (hp : pc + 1 = pc') (kk : AtJ E X Z U d pc' lv (.int 248 :: st) I L G D S) : AtJ E X Z U d pc lv (.ref (E.2.2.2 102) :: st) I L G D S := by
  subst hp
  refine ⟨kk.1, fun p e Rm s m args below meth c H locs n0 z0 ls hC hR hU hN hP hS hl => ?_⟩
  have hCC := hC
  obtain ⟨hx, hb, hml, -, -, -, hown, hts, hK⟩ := hCC
  exact va_tlen hx hb (hK.2.2.2.2.2.2.1.1 0 (by decide)).2.2.2 hS (v := 248) (by decide) hd (kk.2 p e Rm s m args below meth c H locs n0 z0 ls hC hR hU hN hP hS hl)
theorem js_byte {i : Int32} (pc' : Nat) (hd : decode X.2.1 pc = .ok (.baload, 1)) (hp : pc + 1 = pc') (hin : vp_in i 248) (kk : AtJ E X Z U d pc' lv (.int (jm_wb.getD i.toNatClampNeg 0) :: st) I L G D S) : AtJ E X Z U d pc lv (.int i :: .ref (E.2.2.2 102) :: st) I L G D S := by
  subst hp
  refine ⟨kk.1, fun p e Rm s m args below meth c H locs n0 z0 ls hC hR hU hN hP hS hl => ?_⟩
  have hCC := hC
  obtain ⟨hx, hb, hml, -, -, -, hown, hts, hK⟩ := hCC
  exact va_tb hx hb (hK.2.2.2.2.2.2.1.1 0 (by decide)).2.2.2 hS hin rfl hd (kk.2 p e Rm s m args below meth c H locs n0 z0 ls hC hR hU hN hP hS hl)
theorem js_i2c {x : Int32} (pc' : Nat) (hd : decode X.2.1 pc = .ok (.i2c, 1)) (hp : pc + 1 = pc') (kk : AtJ E X Z U d pc' lv (.int (x.toUInt32 % 65536).toInt32 :: st) I L G D S) : AtJ E X Z U d pc lv (.int x :: st) I L G D S := by
  subst hp
  exact ⟨kk.1, fun p e Rm s m args below meth c H locs n0 z0 ls hC hR hU hN hP hS hl => lv_i2c hC.1 hC.2.1 hd rfl (kk.2 p e Rm s m args below meth c H locs n0 z0 ls hC hR hU hN hP hS hl)⟩
theorem js_cret {v : Int32} (hd : decode X.2.1 pc = .ok (.ireturn, 1)) (hr : X.2.2.2 = some .char) (hv : narrow .char (.int v) = .int v) : AtJ E X (Zr E (some (.int v)) I L G D S) (S.length, jm_sl S) d pc lv [.int v] I L G D S :=
  ⟨⟨Nat.le_refl _, Nat.le_refl _⟩, fun p e Rm s m args below meth c H locs n0 z0 ls hC hR hU hN hP hS hl => W.zret hC.1 hC.2.1 (hC.2.2.2.1.trans hr) hv (fun t ht _ => ⟨rfl, by rw [ht]; exact hP, jm_F hS ht⟩) hS.2.2 hd hC.2.2.2.2.1⟩
theorem js_callV {Y : JX} {d' idx n : Nat} {As rest : List Value} {r : Option Value} {I' : JI} {L' : JL} {G' D' : JG} {S' : JS} (pc' : Nat) (hd : decode X.2.1 pc = .ok (.invokevirtual idx, 3)) (hp : pc + 3 = pc') (hY : jm_Y Y n) (hM : CallJ E Y d' (.ref (E.2.2.2 101) :: As) I L G D S r I' L' G' D' S') (hyc : Y.1.cls = "java/lang/String") (hl1 : Cond.methodLink X.1.cls idx Y.1 ∈ jm_tbl) (hl2 : Cond.instanceMethod Y.1 ∈ jm_tbl) (hl3 : Cond.selects Y.1.cls Y.1 Y.1 ∈ jm_tbl) (hdd : d' + 1 ≤ d) (hn : As.length = n) (hst : st = As.reverse ++ .ref (E.2.2.2 101) :: rest) (hrest : (rest.map fun v => v.category).sum ≤ 8) (kk : AtJ E X Z U d pc' lv (r.toList ++ rest) I' L' G' D' S') : AtJ E X Z U d pc lv st I L G D S := by
  subst hp hst
  refine ⟨⟨Nat.le_trans hM.1.1 kk.1.1, Nat.le_trans hM.1.2 kk.1.2⟩, fun p e Rm s m args below meth c H locs n0 z0 ls hC hR hU hN hP hS hl => ?_⟩
  have hCC := hC
  obtain ⟨hx, hb, hml, -, -, -, hown, hts, hK⟩ := hCC
  have hz := jm_cells hN.1 hM.1.1 kk.1.1 hU.1
  have hw := jm_cells hN.2.1 hM.1.2 kk.1.2 hU.2
  have hY4 := hY.2.2.2
  refine jm_run (va_runV (cc := X.2.1) (nL := X.2.2.1) (Ts := jm_tbl) (own := X.1.cls) (C := Y.1.cls) (bytes := Y.2.1) (maxL := Y.2.2.1) (ret := Y.2.2.2) (n := n) (As := As) (rest := rest) (b := E.2.2.2 101) ⟨hx, hb, hml, hown, hts⟩ hM.2 ⟨callB_of n hts (jm_gic hY.1) rfl rfl rfl (hts _ hY.2.1) (hts _ hl1) hY.2.2.1 ⟨by show d' + 1 ≤ _; omega, by show 8 + (Y.2.2.1 + 11) + 64 * d' ≤ _; omega⟩, hts _ hl2, hts _ hl3⟩ ⟨jm_blind _, by rw [hyc]; exact vk_recv hK.2.2.2.2.2.2.1 (i := 0) (by decide) hS, fun U0 hU0 hWm => ⟨rfl, jm_K_warm hWm hS hU0 hK, by rw [hU0]; exact hP⟩⟩ rfl hn hl.1 rfl (lv_room hrest) hd ⟨hz.1, hw.1⟩) hS fun H1 locs1 hP1 hS1 => ?_
  rw [hz.2, hw.2]
  exact kk.2 p e Rm s m args below meth c H1 locs1 n0 z0 ls hC hR hU ⟨Nat.le_trans hN.1 hM.1.1, Nat.le_trans hN.2.1 hM.1.2, hN.2.2⟩ hP1 hS1 hl
theorem js_isLatin1 : CallJ E xJ0_isLatin1_aae02 1 [.ref (E.2.2.2 101)] I L G D S (some (.int 1)) I L G D S := by
  refine j_entry (by decide) (Nat.le_of_ble_eq_true rfl) ?_
  show AtJ E xJ0_isLatin1_aae02 _ _ 1 0 [(0, .ref (E.2.2.2 101))] [] I L G D S
  refine js_compact 3 dJ0_isLatin1_aae02_0 rfl ws754 ?_
  refine j_if_eq 17 6 dJ0_isLatin1_aae02_3 (by decide) rfl (fun hc => absurd hc (by decide)) (fun hc => ?_)
  refine j_aload_n 7 dJ0_isLatin1_aae02_6 rfl rfl 0 rfl ?_
  refine js_coder 10 dJ0_isLatin1_aae02_7 rfl ws2061 ?_
  refine j_if_ne 17 13 dJ0_isLatin1_aae02_10 (by decide) rfl (fun hc => absurd rfl hc) (fun hc => ?_)
  refine j_iconst (v := 1) 14 dJ0_isLatin1_aae02_13 rfl (by decide) ?_
  refine j_goto 18 dJ0_isLatin1_aae02_14 (by decide) ?_
  exact j_zret dJ0_isLatin1_aae02_18 rfl j_b01_1
theorem js_lt {i : Int32} (h : vp_in i 248) : ¬ i < 0 ∧ i < 248 := by
  refine ⟨fun q => h (Or.inl q), ?_⟩
  obtain ⟨j, hj, rfl⟩ := vp_in_of h (by decide)
  have : nI j < nI 248 := nI_lt hj (by decide)
  exact this
theorem js_pre {i : Int32} (h : vp_in i 248) {v : Value} (hv : v = .null ∨ ∃ t, v = .ref t) : CallJ E xJ3_checkIndex_8e157 1 [.int i, .int 248, v] I L G D S (some (.int i)) I L G D S := by
  obtain ⟨h1, h2⟩ := js_lt h
  rcases hv with rfl | ⟨t, rfl⟩
  · refine j_entry (by decide) (Nat.le_of_ble_eq_true rfl) ?_
    show AtJ E xJ3_checkIndex_8e157 _ _ 1 0 [(0, .int i), (1, .int 248), (2, .null)] [] I L G D S
    refine j_iload_n 1 dJ3_checkIndex_8e157_0 rfl rfl 0 rfl ?_
    refine j_if_lt 9 4 dJ3_checkIndex_8e157_1 (by decide) rfl (fun hc => absurd hc h1) (fun hc => ?_)
    refine j_iload_n 5 dJ3_checkIndex_8e157_4 rfl rfl 0 rfl ?_
    refine j_iload_n 6 dJ3_checkIndex_8e157_5 rfl rfl 1 rfl ?_
    refine j_icmp_lt 16 9 dJ3_checkIndex_8e157_6 (by decide) rfl (fun hc => ?_) (fun hc => absurd h2 hc)
    refine j_iload_n 17 dJ3_checkIndex_8e157_16 rfl rfl 0 rfl ?_
    exact j_iret dJ3_checkIndex_8e157_17 rfl
  · refine j_entry (by decide) (Nat.le_of_ble_eq_true rfl) ?_
    show AtJ E xJ3_checkIndex_8e157 _ _ 1 0 [(0, .int i), (1, .int 248), (2, .ref t)] [] I L G D S
    refine j_iload_n 1 dJ3_checkIndex_8e157_0 rfl rfl 0 rfl ?_
    refine j_if_lt 9 4 dJ3_checkIndex_8e157_1 (by decide) rfl (fun hc => absurd hc h1) (fun hc => ?_)
    refine j_iload_n 5 dJ3_checkIndex_8e157_4 rfl rfl 0 rfl ?_
    refine j_iload_n 6 dJ3_checkIndex_8e157_5 rfl rfl 1 rfl ?_
    refine j_icmp_lt 16 9 dJ3_checkIndex_8e157_6 (by decide) rfl (fun hc => ?_) (fun hc => absurd h2 hc)
    refine j_iload_n 17 dJ3_checkIndex_8e157_16 rfl rfl 0 rfl ?_
    exact j_iret dJ3_checkIndex_8e157_17 rfl
theorem js_check {i : Int32} (h : vp_in i 248) : CallJ E xJ0_checkIndex_df160 2 [.int i, .int 248] I L G D S none I L G D S := by
  refine j_entry (by decide) (Nat.le_of_ble_eq_true rfl) ?_
  show AtJ E xJ0_checkIndex_df160 _ _ 2 0 [(0, .int i), (1, .int 248)] [] I L G D S
  refine j_iload_n 1 dJ0_checkIndex_df160_0 rfl rfl 0 rfl ?_
  refine j_iload_n 2 dJ0_checkIndex_df160_1 rfl rfl 1 rfl ?_
  refine js_form 5 dJ0_checkIndex_df160_2 rfl ws762 ?_ (fun t => ?_)
  · refine j_callS (rest := []) (As := [.int i, .int 248, .null]) 8 dJ0_checkIndex_df160_5 rfl jyJ3_checkIndex_8e157 (js_pre h (Or.inl rfl)) ws764 ws765 (by decide) rfl rfl (Nat.le_of_ble_eq_true rfl) ?_
    refine j_pop 9 dJ0_checkIndex_df160_8 rfl rfl ?_
    exact j_vret dJ0_checkIndex_df160_9 rfl
  · refine j_callS (rest := []) (As := [.int i, .int 248, .ref t]) 8 dJ0_checkIndex_df160_5 rfl jyJ3_checkIndex_8e157 (js_pre h (Or.inr ⟨t, rfl⟩)) ws764 ws765 (by decide) rfl rfl (Nat.le_of_ble_eq_true rfl) ?_
    refine j_pop 9 dJ0_checkIndex_df160_8 rfl rfl ?_
    exact j_vret dJ0_checkIndex_df160_9 rfl
theorem js_chr : ∀ j, j < 248 → (((jm_wb.getD j 0) &&& 255).toUInt32 % 65536).toInt32 = jm_wb.getD j 0 ∧ narrow .char (.int (jm_wb.getD j 0)) = .int (jm_wb.getD j 0) := by decide +kernel
theorem js_latin {i : Int32} (h : vp_in i 248) : CallJ E xJ1_charAt_3b067 3 [.ref (E.2.2.2 102), .int i] I L G D S (some (.int (jm_wb.getD i.toNatClampNeg 0))) I L G D S := by
  have hc := js_chr i.toNatClampNeg (jm_lt h)
  refine j_entry (by decide) (Nat.le_of_ble_eq_true rfl) ?_
  show AtJ E xJ1_charAt_3b067 _ _ 3 0 [(0, .ref (E.2.2.2 102)), (1, .int i)] [] I L G D S
  refine j_iload_n 1 dJ1_charAt_3b067_0 rfl rfl 1 rfl ?_
  refine j_aload_n 2 dJ1_charAt_3b067_1 rfl rfl 0 rfl ?_
  refine js_len 3 dJ1_charAt_3b067_2 rfl ?_
  refine j_callS (rest := []) (As := [.int i, .int 248]) 6 dJ1_charAt_3b067_3 rfl jyJ0_checkIndex_df160 (js_check h) ws759 ws760 (by decide) rfl rfl (Nat.le_of_ble_eq_true rfl) ?_
  refine j_aload_n 7 dJ1_charAt_3b067_6 rfl rfl 0 rfl ?_
  refine j_iload_n 8 dJ1_charAt_3b067_7 rfl rfl 1 rfl ?_
  refine js_byte 9 dJ1_charAt_3b067_8 rfl h ?_
  refine j_sipush (v := 255) 12 dJ1_charAt_3b067_9 rfl (by decide) ?_
  refine j_iand 13 dJ1_charAt_3b067_12 rfl ?_
  refine js_i2c 14 dJ1_charAt_3b067_13 rfl ?_
  rw [hc.1]
  exact js_cret dJ1_charAt_3b067_14 rfl hc.2
theorem js_charAt {i : Int32} (h : vp_in i 248) : CallJ E xJ0_charAt_5068e 4 [.ref (E.2.2.2 101), .int i] I L G D S (some (.int (jm_wb.getD i.toNatClampNeg 0))) I L G D S := by
  have hc := js_chr i.toNatClampNeg (jm_lt h)
  refine j_entry (by decide) (Nat.le_of_ble_eq_true rfl) ?_
  show AtJ E xJ0_charAt_5068e _ _ 4 0 [(0, .ref (E.2.2.2 101)), (1, .int i)] [] I L G D S
  refine j_aload_n 1 dJ0_charAt_5068e_0 rfl rfl 0 rfl ?_
  refine js_callV (rest := []) (As := []) 4 dJ0_charAt_5068e_1 rfl jyJ0_isLatin1_aae02 js_isLatin1 rfl ws750 ws751 ws752 (by decide) rfl rfl (Nat.le_of_ble_eq_true rfl) ?_
  refine j_if_eq 16 7 dJ0_charAt_5068e_4 (by decide) rfl (fun hc => absurd hc (by decide)) (fun _ => ?_)
  refine j_aload_n 8 dJ0_charAt_5068e_7 rfl rfl 0 rfl ?_
  refine js_value 11 dJ0_charAt_5068e_8 rfl ws2062 ?_
  refine j_iload_n 12 dJ0_charAt_5068e_11 rfl rfl 1 rfl ?_
  refine j_callS (rest := []) (As := [.ref (E.2.2.2 102), .int i]) 15 dJ0_charAt_5068e_12 rfl jyJ1_charAt_3b067 (js_latin h) ws756 ws757 (by decide) rfl rfl (Nat.le_of_ble_eq_true rfl) ?_
  exact js_cret dJ0_charAt_5068e_15 rfl hc.2
theorem j_charAt {i : Int32} {idx : Nat} (pc' : Nat) (hd : decode X.2.1 pc = .ok (.invokevirtual idx, 3)) (hp : pc + 3 = pc') (hlink : Cond.methodLink X.1.cls idx yJ0_charAt_5068e ∈ jm_tbl) (hin : vp_in i 248) (hdd : 5 ≤ d) (hrest : (st.map fun v => v.category).sum ≤ 8) (kk : AtJ E X Z U d pc' lv (.int (jm_wb.getD i.toNatClampNeg 0) :: st) I L G D S) : AtJ E X Z U d pc lv (.int i :: .ref (E.2.2.2 101) :: st) I L G D S :=
  js_callV (rest := st) (As := [.int i]) pc' hd hp jyJ0_charAt_5068e (js_charAt hin) rfl hlink ws747 ws748 (by omega) rfl rfl hrest kk
end JSP

