def st_F : List Cond := flatC (Jvm.Cond.and given_1 narrow_1)
theorem st_1 : Cond.arrayOf (.static "FirstComer" "SETS_WITH" "[J") .long ∈ st_F := List.mem_of_getElem? (i := 10) (by decide +kernel)
theorem st_2 : Cond.eq (.length (.static "FirstComer" "SETS_WITH" "[J")) (.int 6) ∈ st_F := List.mem_of_getElem? (i := 11) (by decide +kernel)
theorem st_3 : ∀ j, j < 6 → Cond.eq (.elem (.static "FirstComer" "SETS_WITH" "[J") (.int (Int32.ofNat j))) (.long (jm_sets j)) ∈ st_F := by
  have h : ∀ j, j < 6 → st_F[([12, 13, 14, 15, 16, 17] : List Nat).getD j 0]? = some (Cond.eq (.elem (.static "FirstComer" "SETS_WITH" "[J") (.int (Int32.ofNat j))) (.long (jm_sets j))) := by decide +kernel
  exact fun j hj => List.mem_of_getElem? (h j hj)
theorem st_4 : Cond.eq (.static "java/lang/String" "COMPACT_STRINGS" "Z") (.int 1) ∈ st_F := List.mem_of_getElem? (i := 4) (by decide +kernel)
theorem st_5 : Cond.isRef (.static "jdk/internal/util/Preconditions" "SIOOBE_FORMATTER" "Ljava/util/function/BiFunction;") ∈ st_F := List.mem_of_getElem? (i := 5) (by decide +kernel)
theorem st_11 : Cond.isRef (.static Bundle.tN "UNASSIGNED_STACK" Bundle.steD) ∈ st_F := List.mem_of_getElem? (i := 18) (by decide +kernel)
theorem st_12 : Cond.isRef (.static Bundle.tN "SUPPRESSED_SENTINEL" Bundle.listD) ∈ st_F := List.mem_of_getElem? (i := 19) (by decide +kernel)
theorem st_6 : Cond.exactly (.string "FirstComer$Reader" 86) "java/lang/String" ∈ st_F := List.mem_of_getElem? (i := 78) (by decide +kernel)
theorem st_7 : Cond.eq (.field (.string "FirstComer$Reader" 86) "java/lang/String" "coder" "B") (.int 0) ∈ st_F := List.mem_of_getElem? (i := 79) (by decide +kernel)
theorem st_8 : Cond.arrayOf (.field (.string "FirstComer$Reader" 86) "java/lang/String" "value" "[B") .byte ∈ st_F := List.mem_of_getElem? (i := 80) (by decide +kernel)
theorem st_9 : Cond.eq (.length (.field (.string "FirstComer$Reader" 86) "java/lang/String" "value" "[B")) (.int 248) ∈ st_F := List.mem_of_getElem? (i := 81) (by decide +kernel)
theorem st_10 : ∀ j, j < 248 → Cond.eq (.elem (.field (.string "FirstComer$Reader" 86) "java/lang/String" "value" "[B") (.int (Int32.ofNat j))) (.int (jm_wb.getD j 0)) ∈ st_F := by
  have h : ∀ j, j < 248 → st_F[82 + j]? = some (Cond.eq (.elem (.field (.string "FirstComer$Reader" 86) "java/lang/String" "value" "[B") (.int (Int32.ofNat j))) (.int (jm_wb.getD j 0))) := by decide +kernel
  exact fun j hj => List.mem_of_getElem? (h j hj)
theorem si_0 : Cond.instantiable RX0 7 ∈ lw_tbl := (tb1 (List.mem_of_getElem? (i := 147) rfl))
theorem si_1 : Cond.instantiable RX1 4 ∈ lw_tbl := (tb1 (List.mem_of_getElem? (i := 85) rfl))
theorem si_2 : Cond.instantiable RX2 15 ∈ lw_tbl := (tb2 (List.mem_of_getElem? (i := 123) rfl))
theorem si_3 : Cond.instantiable RX3 10 ∈ lw_tbl := (tb1 (List.mem_of_getElem? (i := 195) rfl))
theorem si_4 : Cond.instantiable RX4 17 ∈ lw_tbl := (tb2 (List.mem_of_getElem? (i := 185) rfl))
theorem si_5 : Cond.instantiable RX5 6 ∈ lw_tbl := (tb5 (List.mem_of_getElem? (i := 226) rfl))
theorem si_6 : Cond.instantiable RX6 13 ∈ lw_tbl := (tb2 (List.mem_of_getElem? (i := 73) rfl))
theorem si_7 : Cond.instantiable RX7 9 ∈ lw_tbl := (tb4 (List.mem_of_getElem? (i := 85) rfl))
theorem si_8 : Cond.instantiable RX8 10 ∈ lw_tbl := (tb1 (List.mem_of_getElem? (i := 108) rfl))
theorem si_9 : Cond.instantiable RX9 10 ∈ lw_tbl := (tb1 (List.mem_of_getElem? (i := 33) rfl))
theorem si_10 : Cond.instantiable RX10 20 ∈ lw_tbl := (tb2 (List.mem_of_getElem? (i := 1) rfl))
theorem si_11 : Cond.instantiable RX11 14 ∈ lw_tbl := (tb1 (List.mem_of_getElem? (i := 25) rfl))
theorem si_12 : Cond.instantiable RX12 98 ∈ lw_tbl := (tb6 (List.mem_of_getElem? (i := 101) rfl))
theorem sa_int : (Jvm.Cond.arrayClass Jvm.ClassFile.FieldType.int) ∈ lw_tbl := (tb1 (List.mem_of_getElem? (i := 83) rfl))
theorem sa_boolean : (Jvm.Cond.arrayClass Jvm.ClassFile.FieldType.boolean) ∈ lw_tbl := (tb3 (List.mem_of_getElem? (i := 26) rfl))
theorem sa_byte : (Jvm.Cond.arrayClass Jvm.ClassFile.FieldType.byte) ∈ lw_tbl := (tb1 (List.mem_of_getElem? (i := 145) rfl))
theorem sa_long : (Jvm.Cond.arrayClass Jvm.ClassFile.FieldType.long) ∈ lw_tbl := (tb2 (List.mem_of_getElem? (i := 121) rfl))
theorem so_0 : (Jvm.Cond.arrayOver (Jvm.ClassFile.FieldType.object "FirstComer$Deal")) ∈ lw_tbl := (tb2 (List.mem_of_getElem? (i := 79) rfl))
theorem so_5 : (Jvm.Cond.arrayOver (Jvm.ClassFile.FieldType.object "FirstComer$Mark")) ∈ lw_tbl := (tb2 (List.mem_of_getElem? (i := 183) rfl))
theorem so_7 : (Jvm.Cond.arrayOver (Jvm.ClassFile.FieldType.object "FirstComer$Passing")) ∈ lw_tbl := (tb2 (List.mem_of_getElem? (i := 181) rfl))
theorem sl_sets : (Jvm.Cond.laysStatic "FirstComer" "SETS_WITH" "[J") ∈ lw_tbl := (tb4 (List.mem_of_getElem? (i := 2) rfl))
theorem sl_comp : (Jvm.Cond.laysStatic "java/lang/String" "COMPACT_STRINGS" "Z") ∈ lw_tbl := (tb3 (List.mem_of_getElem? (i := 188) rfl))
theorem sl_form : (Jvm.Cond.laysStatic "jdk/internal/util/Preconditions" "SIOOBE_FORMATTER" "Ljava/util/function/BiFunction;") ∈ lw_tbl := (tb3 (List.mem_of_getElem? (i := 196) rfl))
theorem sl_un : (Jvm.Cond.laysStatic "java/lang/Throwable" "UNASSIGNED_STACK" "[Ljava/lang/StackTraceElement;") ∈ lw_tbl := (tb6 (List.mem_of_getElem? (i := 62) rfl))
theorem sl_su : (Jvm.Cond.laysStatic "java/lang/Throwable" "SUPPRESSED_SENTINEL" "Ljava/util/List;") ∈ lw_tbl := (tb6 (List.mem_of_getElem? (i := 64) rfl))
theorem sn_th : Cond.initialized "java/lang/Throwable" ∈ lw_tbl := (tb1 (List.mem_of_getElem? (i := 17) rfl))
theorem sl_str : (Jvm.Cond.stringRef "FirstComer$Reader" (86 : Nat) "n       price   paid    keeps   estate  has     sale    gift    swap    need    holds   owns    degree  day     kin     share   side    water   first   free    maybe   parts   on      within  when    told    heads   shares  and     or      not     ") ∈ lw_tbl := (tb3 (List.mem_of_getElem? (i := 178) rfl))
theorem sn_fc : Cond.initialized "FirstComer" ∈ lw_tbl := (tb1 (List.mem_of_getElem? (i := 1) rfl))
theorem sn_st : Cond.initialized "java/lang/String" ∈ lw_tbl := (tb1 (List.mem_of_getElem? (i := 12) rfl))
theorem sn_pr : Cond.initialized "jdk/internal/util/Preconditions" ∈ lw_tbl := (tb1 (List.mem_of_getElem? (i := 14) rfl))
theorem st_arr {args : Array Value} {s : State} {ty : FieldType} (h : (Cond.arrayClass ty).before args s = true) (hra : ∀ cA : ClassId, va_RA s cA ty = (s.vm.findClass ("[" ++ ty.toString) = some cA)) : ∃ cA : ClassId, ArrOfT s cA ty ∧ va_RA s cA ty := by
  obtain ⟨c, k, comp, h1, h2, h3⟩ := Cond.arrayClass_spec h
  exact ⟨c, fun n z => ⟨fun k h => (by cases h), k, h2, comp, h3⟩, by rw [hra]; exact h1⟩
theorem st_arO {args : Array Value} {s : State} {C : String} (h : (Cond.arrayOver (.object C)).before args s = true) : ∃ cA : ClassId, ArrOfT s cA (.object C) ∧ va_RA s cA (.object C) := by
  obtain ⟨comp, c, k, h1, h2, h3, h4, h5⟩ := Cond.arrayOver_spec h
  exact ⟨c, fun n z => ⟨fun k h => (by cases h), k, h3, comp, h4⟩, k, comp, h3, h4, h1, h5⟩
theorem st_isN {args : Array Value} {s : State} {w : Cond} (hn : jm_isN w = true) (h : w.before args s = true) : va_Nw w s :=
  va_Nw.of (by cases w <;> first | rfl | (simp [jm_isN] at hn)) h
/-- at the law's entry: the numbers of the classes, the constants, the script -/
theorem jm_start {p : Program} {s : State} {m : MethodId} {meth : Method} {c : Code} (l : Launch) (hlt : l.stackTraces = false) {b L : Nat} {xs : Nat → Int32} (C0 : lw_At p s m meth c b L xs) : ∃ E : JE, E.1 = s.heap.size ∧ E.2.1 = l ∧ E.2.2.2 103 = b ∧ E.2.2.2 104 = L ∧ (∀ j, xs j = nI (E.2.2.2 (1000 + j))) ∧ jm_K E s := by
  obtain ⟨hx, hb, hr, hml, hown, hts, hX, hbl, hlocks, hgv⟩ := C0
  have hfl : ∀ w ∈ st_F, w.before #[Value.ref b] s = true := flat_of_before _ hgv
  have hA : ∀ a : Nat, a < s.heap.size → ¬ (fun q : Nat => s.heap.size ≤ q) a := fun a h => Nat.not_le.mpr h
  have hcls : ∀ ci : Nat, ∃ q : ClassId × (Nat → Nat), ∀ r : vw_C, vwCl[ci]? = some r → u_Kn s r.1 r.2.1 r.2.2 q.1 q.2 := by
    intro ci
    match ci with
    | 0 =>
      obtain ⟨cC, iS, h⟩ := u_known (C := RX0) (T := TX0) (N := 7) (n := 7) hts (fun w hw => (jm_good (cl0.2.2.1 w hw)).1) (hts _ si_0)
      exact ⟨(cC, iS), fun r hr => by cases hr; exact h⟩
    | 1 =>
      obtain ⟨cC, iS, h⟩ := u_known (C := RX1) (T := TX1) (N := 4) (n := 4) hts (fun w hw => (jm_good (cl1.2.2.1 w hw)).1) (hts _ si_1)
      exact ⟨(cC, iS), fun r hr => by cases hr; exact h⟩
    | 2 =>
      obtain ⟨cC, iS, h⟩ := u_known (C := RX2) (T := TX2) (N := 15) (n := 15) hts (fun w hw => (jm_good (cl2.2.2.1 w hw)).1) (hts _ si_2)
      exact ⟨(cC, iS), fun r hr => by cases hr; exact h⟩
    | 3 =>
      obtain ⟨cC, iS, h⟩ := u_known (C := RX3) (T := TX3) (N := 10) (n := 10) hts (fun w hw => (jm_good (cl3.2.2.1 w hw)).1) (hts _ si_3)
      exact ⟨(cC, iS), fun r hr => by cases hr; exact h⟩
    | 4 =>
      obtain ⟨cC, iS, h⟩ := u_known (C := RX4) (T := TX4) (N := 17) (n := 17) hts (fun w hw => (jm_good (cl4.2.2.1 w hw)).1) (hts _ si_4)
      exact ⟨(cC, iS), fun r hr => by cases hr; exact h⟩
    | 5 =>
      obtain ⟨cC, iS, h⟩ := u_known (C := RX5) (T := TX5) (N := 6) (n := 6) hts (fun w hw => (jm_good (cl5.2.2.1 w hw)).1) (hts _ si_5)
      exact ⟨(cC, iS), fun r hr => by cases hr; exact h⟩
    | 6 =>
      obtain ⟨cC, iS, h⟩ := u_known (C := RX6) (T := TX6) (N := 13) (n := 13) hts (fun w hw => (jm_good (cl6.2.2.1 w hw)).1) (hts _ si_6)
      exact ⟨(cC, iS), fun r hr => by cases hr; exact h⟩
    | 7 =>
      obtain ⟨cC, iS, h⟩ := u_known (C := RX7) (T := TX7) (N := 9) (n := 9) hts (fun w hw => (jm_good (cl7.2.2.1 w hw)).1) (hts _ si_7)
      exact ⟨(cC, iS), fun r hr => by cases hr; exact h⟩
    | 8 =>
      obtain ⟨cC, iS, h⟩ := u_known (C := RX8) (T := TX8) (N := 10) (n := 10) hts (fun w hw => (jm_good (cl8.2.2.1 w hw)).1) (hts _ si_8)
      exact ⟨(cC, iS), fun r hr => by cases hr; exact h⟩
    | 9 =>
      obtain ⟨cC, iS, h⟩ := u_known (C := RX9) (T := TX9) (N := 10) (n := 10) hts (fun w hw => (jm_good (cl9.2.2.1 w hw)).1) (hts _ si_9)
      exact ⟨(cC, iS), fun r hr => by cases hr; exact h⟩
    | 10 =>
      obtain ⟨cC, iS, h⟩ := u_known (C := RX10) (T := TX10) (N := 20) (n := 20) hts (fun w hw => (jm_good (cl10.2.2.1 w hw)).1) (hts _ si_10)
      exact ⟨(cC, iS), fun r hr => by cases hr; exact h⟩
    | 11 =>
      obtain ⟨cC, iS, h⟩ := u_known (C := RX11) (T := TX11) (N := 14) (n := 14) hts (fun w hw => (jm_good (cl11.2.2.1 w hw)).1) (hts _ si_11)
      exact ⟨(cC, iS), fun r hr => by cases hr; exact h⟩
    | 12 =>
      obtain ⟨cC, iS, h⟩ := u_known (C := RX12) (T := TX12) (N := 98) (n := 98) hts (fun w hw => (jm_good (cl12.2.2.1 w hw)).1) (hts _ si_12)
      exact ⟨(cC, iS), fun r hr => by cases hr; exact h⟩
    | ci + 13 => exact ⟨(0, fun _ => 0), fun r hr => by simp [vwCl] at hr⟩
  obtain ⟨fc, hfc⟩ := Classical.axiomOfChoice hcls
  obtain ⟨aI, hI⟩ := st_arr (ty := .int) (hts _ sa_int) (fun _ => rfl)
  obtain ⟨aZ, hZ⟩ := st_arr (ty := .boolean) (hts _ sa_boolean) (fun _ => rfl)
  obtain ⟨aB, hB⟩ := st_arr (ty := .byte) (hts _ sa_byte) (fun _ => rfl)
  obtain ⟨aJ, hJ⟩ := st_arr (ty := .long) (hts _ sa_long) (fun _ => rfl)
  obtain ⟨a0, h0⟩ := st_arO (C := RX0) (hts _ so_0)
  obtain ⟨a5, h5⟩ := st_arO (C := RX5) (hts _ so_5)
  obtain ⟨a7, h7⟩ := st_arO (C := RX7) (hts _ so_7)
  obtain ⟨tS, hS1, hS2⟩ := va_Tof (tm := .static "FirstComer" "SETS_WITH" "[J") (ty := .long) (N := 6) (f := fun j => .long (jm_sets j)) (A := fun q => s.heap.size ≤ q) (by decide) (hfl _ st_1) (va_eqt (hfl _ st_2)) (fun j hj => va_eqtl (hfl _ (st_3 j hj))) hA
  have e1 : ∀ i : Nat, i < 1 → ([248] : List Nat).getD i 0 < 2 ^ 31 := fun i hi => by
    rw [show i = 0 by omega]
    decide
  have e2 : ∀ i : Nat, i < 1 → (Cond.eq (.length (.field (.string "FirstComer$Reader" 86) "java/lang/String" "value" "[B")) (.int (Int32.ofNat (([248] : List Nat).getD i 0)))).before #[Value.ref b] s = true := fun i hi => by
    rw [show i = 0 by omega]
    exact hfl _ st_9
  have e3 : ∀ i : Nat, i < 1 → ∀ j : Nat, j < ([248] : List Nat).getD i 0 → (Cond.eq (.elem (.field (.string "FirstComer$Reader" 86) "java/lang/String" "value" "[B") (.int (Int32.ofNat j))) (.int ((([jm_wb] : List (List Int32)).getD i []).getD j 0))).before #[Value.ref b] s = true := fun i hi j hj => by
    have h0 : i = 0 := by omega
    subst h0
    exact hfl _ (st_10 j hj)
  obtain ⟨adK, adV, hK1, hK2⟩ := vk_Sof (N := 1) (tm := fun _ => .string "FirstComer$Reader" 86) (len := [248]) (byt := [jm_wb]) (A := fun q => s.heap.size ≤ q) (args := #[Value.ref b]) (s := s) e1 (fun i hi => hfl _ st_6) (fun i hi => hfl _ st_7) (fun i hi => hfl _ st_8) e2 e3 (fun i j hi hj hne => absurd (show i = j by omega) hne) hA
  refine ⟨(s.heap.size, l, (fun ci => (fc ci).1, fun ci => (fc ci).2), fun k => if k = 20 then aI else if k = 21 then aZ else if k = 22 then aB else if k = 23 then aJ else if k = 30 then a0 else if k = 35 then a5 else if k = 37 then a7 else if k = 100 then tS else if k = 101 then adK 0 else if k = 102 then adV 0 else if k = 103 then b else if k = 104 then L else (xs (k - 1000)).toBitVec.toNat), rfl, rfl, by simp, by simp, fun j => ?_, ⟨fun ci q hq => hfc ci q hq, ?_⟩, fun w hw hn => st_isN hn (hts w hw), ⟨va_AO.of (hts _ so_0), va_AO.of (hts _ so_5), va_AO.of (hts _ so_7)⟩, ?_⟩
  · simp [show ¬ 1000 + j = 20 by omega, show ¬ 1000 + j = 21 by omega, show ¬ 1000 + j = 22 by omega, show ¬ 1000 + j = 23 by omega, show ¬ 1000 + j = 30 by omega, show ¬ 1000 + j = 35 by omega, show ¬ 1000 + j = 37 by omega, show ¬ 1000 + j = 100 by omega, show ¬ 1000 + j = 101 by omega, show ¬ 1000 + j = 102 by omega, show ¬ 1000 + j = 103 by omega, show ¬ 1000 + j = 104 by omega, nI]
  · intro k q hq
    match k, hq with
    | 0, hq => cases hq; exact hI
    | 1, hq => cases hq; exact hZ
    | 2, hq => cases hq; exact hB
    | 3, hq => cases hq; exact hJ
    | 4, hq => cases hq; exact h0
    | 5, hq => cases hq; exact h5
    | 6, hq => cases hq; exact h7
    | k + 7, hq => simp [jm_tyl] at hq
  · refine ⟨va_Zref (hts _ sl_sets) (hts _ sn_fc) hS1 hA, hS2, vk_R.of (hts _ sl_str) (hK2 0 (by decide)), ⟨fun i hi => ?_, fun i j hi hj _ => by omega⟩, va_Zof (hts _ sl_comp) (hts _ sn_st) (va_eqt (hfl _ st_4)) hA, va_Zqof (hts _ sl_form) (hts _ sn_pr) (hfl _ st_5) hA, ?_, hbl, hbl, vx_Zqof (hts _ sl_un) (hts _ sn_th) (hfl _ st_11) hA, vx_Zqof (hts _ sl_su) (hts _ sn_th) (hfl _ st_12) hA, hlt⟩
    · have : i = 0 := by omega
      subst this
      exact hK1.1 0 (by decide)
    · obtain ⟨scr, g1, g2, g3, g4, g5⟩ := hX
      refine ⟨scr, g1, g2, g3, g4, fun j hj => ?_⟩
      rw [g5 j hj]
      simp [show ¬ 1000 + j = 20 by omega, show ¬ 1000 + j = 21 by omega, show ¬ 1000 + j = 22 by omega, show ¬ 1000 + j = 23 by omega, show ¬ 1000 + j = 30 by omega, show ¬ 1000 + j = 35 by omega, show ¬ 1000 + j = 37 by omega, show ¬ 1000 + j = 100 by omega, show ¬ 1000 + j = 101 by omega, show ¬ 1000 + j = 102 by omega, show ¬ 1000 + j = 103 by omega, show ¬ 1000 + j = 104 by omega, nI]

