/-! ===== FirstComer.look: it answers or throws; FirstComerLaw.look: it catches ===== -/
theorem jl_st : Cond.static yL_look ∈ jm_tbl := jm_in (tb6 (List.mem_of_getElem? (i := 28) rfl)) rfl
theorem jl_cw : Cond.codeWith yL_look cL_look 5 (some .int) [(0, 10, 13, 13)] ∈ jm_tbl := jm_in (tb6 (List.mem_of_getElem? (i := 29) rfl)) rfl
theorem jl_13 : Cond.classLink RL 13 "java/util/NoSuchElementException" ∈ jm_tbl := jm_in (tb6 (List.mem_of_getElem? (i := 30) rfl)) rfl
theorem jl_7 : Cond.methodLink RL 7 yX11_look ∈ jm_tbl := jm_in (tb6 (List.mem_of_getElem? (i := 31) rfl)) rfl
theorem jl_7i : Cond.instanceMethod yX11_look ∈ jm_tbl := jm_in (tb6 (List.mem_of_getElem? (i := 32) rfl)) rfl
theorem jl_7s : Cond.selects RX11 yX11_look yX11_look ∈ jm_tbl := jm_in (tb6 (List.mem_of_getElem? (i := 33) rfl)) rfl
theorem jl_code : Cond.code yX11_look cX11_look 4 (some .int) ∈ jm_tbl := jm_in (tb6 (List.mem_of_getElem? (i := 34) rfl)) rfl
theorem jl_cast : Cond.castable "java/util/NoSuchElementException" "java/util/NoSuchElementException" ∈ lw_tbl := tb6 (List.mem_of_getElem? (i := 37) rfl)
theorem jl_200 : Cond.methodLink RX11 200 yX7_tells ∈ jm_tbl := jm_in (tb6 (List.mem_of_getElem? (i := 96) rfl)) rfl
theorem jl_200i : Cond.instanceMethod yX7_tells ∈ jm_tbl := jm_in (tb6 (List.mem_of_getElem? (i := 97) rfl)) rfl
theorem jl_200s : Cond.selects RX7 yX7_tells yX7_tells ∈ jm_tbl := jm_in (tb6 (List.mem_of_getElem? (i := 98) rfl)) rfl
theorem jl_ini : Cond.initialized RL ∈ jm_tbl := jm_in (tb1 (List.mem_of_getElem? (i := 0) rfl)) rfl
def xX11_look : JX := (yX11_look, cX11_look, 4, some .int)
def xL_look : JX := (yL_look, cL_look, 5, some .int)
theorem jyX11_look : jm_Y xX11_look 2 := ⟨jl_code, wm88, by decide +kernel, by decide⟩
set_option maxHeartbeats 4000000 in
set_option maxRecDepth 100000 in
theorem tcX11_look {E : JE} {l1 l2 r : Int32} {b : Nat} {I : JI} {L : JL} {G D : JG} {S : JS} (hL : Lay G S) (h1 : fX11_passingAt l1 I D S = some (some b)) (hb : S[b]? = some (7, 9)) (h2 : ¬ l2 < 0) (h3 : l2 ≤ 11) (h4 : fX7_tells b l2 I = some r) : CallJ E xX11_look 3 [.ref (E.1 + 0), .int l1, .int l2] I L G D S (some (.int r)) I L G D S := by
  refine j_entry (by decide) (Nat.le_of_ble_eq_true rfl) ?_
  show AtJ E xX11_look (Zr E (some (.int r)) I L G D S) ((S).length, jm_sl S) 3 0 [(0, .ref (E.1 + 0)), (1, .int l1), (2, .int l2)] [] I L G D S
  refine j_aload_n 1 dX11_look_0 rfl rfl 0 rfl ?_
  refine j_iload_n 2 dX11_look_1 rfl rfl 1 rfl ?_
  refine j_callV (rest := []) (As := [.int l1]) 5 dX11_look_2 rfl jyX11_passingAt (tcX11_passingAt hL h1) (sh_0 hL) cl11 flX11_193 wm1005 wm19 (by decide) rfl rfl (Nat.le_of_ble_eq_true rfl) ?_
  refine j_astore_n (lv' := [(3, .ref (E.1 + b)), (0, .ref (E.1 + 0)), (1, .int l1), (2, .int l2)]) 6 dX11_look_5 rfl rfl (by decide) rfl ?_
  refine j_aload_n 7 dX11_look_6 rfl rfl 0 rfl ?_
  refine j_ifnull 10 dX11_look_7 rfl ?_
  refine j_iload_n 11 dX11_look_10 rfl rfl 3 rfl ?_
  refine j_if_lt 20 14 dX11_look_11 (by decide) rfl (fun hc => absurd hc h2) (fun hc => ?_)
  refine j_iload_n 15 dX11_look_14 rfl rfl 3 rfl ?_
  refine j_bipush (v := (11 : Int32)) 17 dX11_look_15 rfl (by decide) ?_
  refine j_icmp_le 28 20 dX11_look_17 (by decide) rfl (fun hc => ?_) (fun hc => absurd h3 hc)
  refine j_aload_n 29 dX11_look_28 rfl rfl 0 rfl ?_
  refine j_iload_n 30 dX11_look_29 rfl rfl 3 rfl ?_
  refine j_callV (rest := []) (As := [.int l2]) 33 dX11_look_30 rfl jyX7_tells (tcX7_tells hL hb h4) hb cl7 jl_200 jl_200i jl_200s (by decide) rfl rfl (Nat.le_of_ble_eq_true rfl) ?_
  exact j_iret dX11_look_33 rfl
/-- the end of a method that may throw -/
def ZX (E : JE) (Qc : Array Value → State → Outcome → State → Prop) (XC : String → State → State → Prop) (S : JS) : JZ := fun _ s args below n0 z0 => vx_MQ below Qc XC args s (S.length - n0) (jm_sl S - z0) (fun q => E.1 ≤ q)
def XCl (E : JE) (I : JI) (L : JL) (G D : JG) (S : JS) : String → State → State → Prop := fun C st t => C = "java/util/NoSuchElementException" ∧ jm_rep E I L G D S t.heap ∧ va_F (fun q => E.1 ≤ q) st t
theorem jz_before {E : JE} {args : Array Value} {s : State} (hts : ∀ w ∈ jm_tbl, w.before args s = true) (hK : jm_K E s) : ∀ w ∈ vx_at0 "FirstComer" 199 "java/util/NoSuchElementException" ["java/lang/RuntimeException", "java/lang/Exception"], w.before args s = true := by
  intro w hw
  have h := jz_words w hw
  rw [Bool.or_eq_true] at h
  rcases h with h | h
  · exact hts w (jm_in (jz_at w hw) h)
  · refine va_Nw.use ?_ (hK.2.1 w (jz_at w hw) h)
    cases w <;> first | rfl | (simp [jm_isN] at h)
theorem j_throw {E : JE} {d : Nat} {lv : List (Nat × Value)} {Qc : Array Value → State → Outcome → State → Prop} {I : JI} {L : JL} {G D : JG} {S : JS} (hd : 6 ≤ d) : AtJ E xX11_look (ZX E Qc (XCl E I L G D (S ++ [(90, 6)])) (S ++ [(90, 6)])) ((S ++ [(90, 6)]).length, jm_sl (S ++ [(90, 6)])) d 20 lv [] I L G D S := by
  have e1 : (S ++ [((90, 6) : Nat × Nat)]).length = S.length + 1 := by rw [List.length_append]; rfl
  have e2 : jm_sl (S ++ [((90, 6) : Nat × Nat)]) = jm_sl S + 6 := jm_sl_app S (90, 6)
  refine ⟨⟨by rw [e1]; omega, by rw [e2]; omega⟩, fun p e Rm s m args below meth c H locs n0 z0 ls hC hR hU hN hP hS hl => ?_⟩
  have hCC := hC
  obtain ⟨hx, hb, hml, -, hlk, ⟨-, hT⟩, hown, hts, hK⟩ := hCC
  obtain ⟨s1, s2, s3, s4, s5, s6, s7, s8, s9, s10, s11, s12⟩ := hK.2.2.2
  have hU1 : n0 + Rm.cells = S.length + 1 := hU.1.trans e1
  have hU2 : z0 + Rm.slots = jm_sl S + 6 := hU.2.trans e2
  obtain ⟨hN1, hN2, hN3⟩ := hN
  refine jz_throw0 (own := "FirstComer") (cls := "java/util/NoSuchElementException") (names := ["java/lang/RuntimeException", "java/lang/Exception"]) (ik := 197) (ic := 199) (A := fun q => E.1 ≤ q) hx hb s12 hown (by decide +kernel) (by decide +kernel) (hts _ (jm_in jz_c1 rfl)) (hts _ (jm_in jz_c2 rfl)) (jz_before hts hK) jz_ot s10 s11 hS (hl.1.trans hml.symm) dX11_look_20 dX11_look_23 dX11_look_24 dX11_look_27 (fun x hx => (hT.1 ⟨rfl, rfl⟩ x hx).elim) (by show 5 < Rm.frames; omega) (by show 0 + 81 ≤ Rm.locals; omega) (by omega) (by omega) hlk (fun t hA hz hq => ⟨rfl, ?_, ?_⟩) hS.2.2 (by rw [e1]; omega) (by rw [e2]; omega)
  · exact jm_app E I L G D S (90, 6) hP hz hq ⟨fun h => absurd h (by decide), fun _ h => absurd h (by decide)⟩
  · exact ⟨by rw [hz]; exact Nat.le_succ_of_le hS.1, fun q h1 h2 => by rw [hq q (Nat.lt_of_lt_of_le h1 hS.1)]; exact hS.2.1 q h1 h2⟩
theorem jx_entry {E : JE} {Y : JX} {d : Nat} {as : List Value} {Qc : Array Value → State → Outcome → State → Prop} {XC : String → State → State → Prop} {I : JI} {L : JL} {G D : JG} {S S' : JS} (hy : plainName Y.1.cls = true ∧ Y.1.cls ≠ "FirstComerLaw") (hlen : (lg_sl as).length ≤ Y.2.2.1) (k : AtJ E Y (ZX E Qc XC S') (S'.length, jm_sl S') d 0 (lv_args 0 as) [] I L G D S) : vx_Met E.2.1 Y.1 (Cond.code Y.1 Y.2.1 Y.2.2.1 Y.2.2.2 :: jm_tbl) { frames := d, cells := S'.length - S.length, slots := jm_sl S' - jm_sl S, locals := 64 * d } (va_Pc as (fun U => jm_K E U ∧ jm_rep E I L G D S U.heap)) Qc XC (S'.length - S.length) (jm_sl S' - jm_sl S) (fun q => E.1 ≤ q) := by
  refine vx_ofW (cc := Y.2.1) (maxL := Y.2.2.1) (ret := Y.2.2.2) hy.1 rfl ?_
  intro p e s m args below meth c s₁ B hml hno hv
  obtain ⟨rfl, hK, hP⟩ := hv
  have hts := atoms_spec B.pre
  have hl := lv_entry as (n := Y.2.2.1) hlen
  rw [lg_entry_eq]
  have hW := k.2 p e { frames := d, cells := S'.length - S.length, slots := jm_sl S' - jm_sl S, locals := 64 * d } s m as.toArray below meth c s.heap [] S.length (jm_sl S) _ ⟨B.exec, B.bytes, hml, B.returns, B.notSynchronized, ⟨fun hi => (name_of_methodNamed B.named B.method).1.trans hi, fun _ => hno, fun h => absurd h.1 hy.2⟩, findClass_of_methodNamed B.named, fun w hw => hts w (List.mem_cons_of_mem _ hw), hK⟩ ⟨Nat.le_refl _, Nat.le_refl _⟩ ⟨Nat.add_sub_of_le k.1.1, Nat.add_sub_of_le k.1.2⟩ ⟨Nat.le_refl _, Nat.le_refl _, hP.1.symm⟩ hP va_S.rf hl
  rw [Nat.sub_self, Nat.sub_self] at hW
  exact hW
theorem jx_entryL {E : JE} {d : Nat} {as : List Value} {Qc : Array Value → State → Outcome → State → Prop} {XC : String → State → State → Prop} {I : JI} {L : JL} {G D : JG} {S S' : JS} (hlen : (lg_sl as).length ≤ 5) (k : AtJ E xL_look (ZX E Qc XC S') (S'.length, jm_sl S') d 0 (lv_args 0 as) [] I L G D S) : vx_Met E.2.1 yL_look (Cond.codeWith yL_look cL_look 5 (some .int) [(0, 10, 13, 13)] :: jm_tbl) { frames := d, cells := S'.length - S.length, slots := jm_sl S' - jm_sl S, locals := 64 * d } (va_Pc as (fun U => jm_K E U ∧ jm_rep E I L G D S U.heap)) Qc XC (S'.length - S.length) (jm_sl S' - jm_sl S) (fun q => E.1 ≤ q) := by
  refine vx_ofWH (cc := cL_look) (maxL := 5) (ret := some .int) (hh := [(0, 10, 13, 13)]) (by decide) rfl ?_
  intro p e s m args below meth c s₁ B hml hv
  obtain ⟨rfl, hK, hP⟩ := hv
  have hts := atoms_spec B.pre
  have hl := lv_entry as (n := 5) hlen
  have htb := vx_table (x := yL_look) B (hts _ List.mem_cons_self)
  rw [lg_entry_eq]
  have hW := k.2 p e { frames := d, cells := S'.length - S.length, slots := jm_sl S' - jm_sl S, locals := 64 * d } s m as.toArray below meth c s.heap [] S.length (jm_sl S) _ ⟨B.exec, B.bytes, hml, B.returns, B.notSynchronized, ⟨fun hi => (name_of_methodNamed B.named B.method).1.trans hi, fun h => absurd h.1 (by decide), fun _ => htb⟩, findClass_of_methodNamed B.named, fun w hw => hts w (List.mem_cons_of_mem _ hw), hK⟩ ⟨Nat.le_refl _, Nat.le_refl _⟩ ⟨Nat.add_sub_of_le k.1.1, Nat.add_sub_of_le k.1.2⟩ ⟨Nat.le_refl _, Nat.le_refl _, hP.1.symm⟩ hP va_S.rf hl
  rw [Nat.sub_self, Nat.sub_self] at hW
  exact hW
theorem jx_ret {E : JE} {X : JX} {U : Nat × Nat} {d pc : Nat} {lv : List (Nat × Value)} {st : List Value} {r : Option Value} {XC : String → State → State → Prop} {I I' : JI} {L L' : JL} {G G' D D' : JG} {S S' : JS} (k : AtJ E X (Zr E r I' L' G' D' S') U d pc lv st I L G D S) : AtJ E X (ZX E (jm_Q E r I' L' G' D' S') XC S') U d pc lv st I L G D S :=
  ⟨k.1, fun p e Rm s m args below meth c H locs n0 z0 ls hC hR hU hN hP hS hl => vx_ret (k.2 p e Rm s m args below meth c H locs n0 z0 ls hC hR hU hN hP hS hl)⟩
/-- where FirstComer.look throws -/
def jl_thr (l1 l2 : Int32) (I : JI) (D : JG) (S : JS) : Prop := fX11_passingAt l1 I D S = some none ∨ ∃ b, fX11_passingAt l1 I D S = some (some b) ∧ (l2 < 0 ∨ ¬ l2 ≤ 11)
set_option maxHeartbeats 4000000 in
set_option maxRecDepth 100000 in
theorem tX11_lookX {E : JE} {l1 l2 : Int32} {I : JI} {L : JL} {G D : JG} {S : JS} (hL : Lay G S) (h : jl_thr l1 l2 I D S) : AtJ E xX11_look (ZX E (fun _ _ _ _ => False) (XCl E I L G D (S ++ [(90, 6)])) (S ++ [(90, 6)])) ((S ++ [(90, 6)]).length, jm_sl (S ++ [(90, 6)])) 6 0 [(0, .ref (E.1 + 0)), (1, .int l1), (2, .int l2)] [] I L G D S := by
  refine j_aload_n 1 dX11_look_0 rfl rfl 0 rfl ?_
  refine j_iload_n 2 dX11_look_1 rfl rfl 1 rfl ?_
  rcases h with h1 | ⟨b, h1, h2⟩
  · refine j_callV (rest := []) (As := [.int l1]) 5 dX11_look_2 rfl jyX11_passingAt (tcX11_passingAt hL h1) (sh_0 hL) cl11 flX11_193 wm1005 wm19 (by decide) rfl rfl (Nat.le_of_ble_eq_true rfl) ?_
    refine j_astore_nN (lv' := [(3, .null), (0, .ref (E.1 + 0)), (1, .int l1), (2, .int l2)]) 6 dX11_look_5 rfl rfl (by decide) rfl ?_
    refine j_aload_nN 7 dX11_look_6 rfl rfl 0 rfl ?_
    refine j_ifnullN 20 dX11_look_7 (by decide) ?_
    exact j_throw (Nat.le_refl _)
  · refine j_callV (rest := []) (As := [.int l1]) 5 dX11_look_2 rfl jyX11_passingAt (tcX11_passingAt hL h1) (sh_0 hL) cl11 flX11_193 wm1005 wm19 (by decide) rfl rfl (Nat.le_of_ble_eq_true rfl) ?_
    refine j_astore_n (lv' := [(3, .ref (E.1 + b)), (0, .ref (E.1 + 0)), (1, .int l1), (2, .int l2)]) 6 dX11_look_5 rfl rfl (by decide) rfl ?_
    refine j_aload_n 7 dX11_look_6 rfl rfl 0 rfl ?_
    refine j_ifnull 10 dX11_look_7 rfl ?_
    refine j_iload_n 11 dX11_look_10 rfl rfl 3 rfl ?_
    refine j_if_lt 20 14 dX11_look_11 (by decide) rfl (fun hc => j_throw (Nat.le_refl _)) (fun hc => ?_)
    refine j_iload_n 15 dX11_look_14 rfl rfl 3 rfl ?_
    refine j_bipush (v := (11 : Int32)) 17 dX11_look_15 rfl (by decide) ?_
    refine j_icmp_le 28 20 dX11_look_17 (by decide) rfl (fun hc2 => ?_) (fun hc2 => j_throw (Nat.le_refl _))
    rcases h2 with h2 | h2
    · exact absurd h2 hc
    · exact absurd hc2 h2
/-- the call that throws, and its catching -/
theorem j_callX {E : JE} {Z : JZ} {U : Nat × Nat} {d : Nat} {lv : List (Nat × Value)} {rest : List Value} {l1 l2 : Int32} {I : JI} {L : JL} {G D : JG} {S : JS} (hL : Lay G S) (h : jl_thr l1 l2 I D S) (hdd : 7 ≤ d) (hrest : (rest.map fun v => v.category).sum ≤ 8) (kk : ∀ q : Nat, AtJ E xL_look Z U d 13 lv [.ref q] I L G D (S ++ [(90, 6)])) : AtJ E xL_look Z U d 5 lv (.int l2 :: .int l1 :: .ref (E.1 + 0) :: rest) I L G D S := by
  have hM := jx_entry (Y := xX11_look) (as := [.ref (E.1 + 0), .int l1, .int l2]) (by decide) (Nat.le_of_ble_eq_true rfl) (tX11_lookX (E := E) (L := L) hL h)
  have e1 : (S ++ [((90, 6) : Nat × Nat)]).length = S.length + 1 := by rw [List.length_append]; rfl
  have e2 : jm_sl (S ++ [((90, 6) : Nat × Nat)]) = jm_sl S + 6 := jm_sl_app S (90, 6)
  have hS1 : S.length ≤ (S ++ [((90, 6) : Nat × Nat)]).length := by rw [e1]; omega
  have hS2 : jm_sl S ≤ jm_sl (S ++ [((90, 6) : Nat × Nat)]) := by rw [e2]; omega
  generalize hS' : S ++ [((90, 6) : Nat × Nat)] = S' at *
  refine ⟨⟨Nat.le_trans hS1 (kk 0).1.1, Nat.le_trans hS2 (kk 0).1.2⟩, fun p e Rm s m args below meth c H locs n0 z0 ls hC hR hU hN hP hS hl => ?_⟩
  have hCC := hC
  obtain ⟨hx, hb, hml, -, -, ⟨-, hT⟩, hown, hts, hK⟩ := hCC
  obtain ⟨cell, q1, q2, q3, -⟩ := jm_ob hP (sh_0 hL) cl11
  have hz := jm_cells hN.1 hS1 (kk 0).1.1 hU.1
  have hw := jm_cells hN.2.1 hS2 (kk 0).1.2 hU.2
  have htb := hT.2 ⟨rfl, rfl⟩
  have hr := vx_runV (e := e) (below := below) (meth := meth) (locs := locs) (cells := S.length - n0) (slots := jm_sl S - z0) (H := H) (g := F0 m 5 ls (.int l2 :: .int l1 :: .ref (E.1 + 0) :: rest)) (cc := cL_look) (nL := 5) (Ts := jm_tbl) (own := RL) (C := RX11) (index := 7) (bytes := cX11_look) (maxL := 4) (ret := some .int) (n := 2) (As := [.int l1, .int l2]) (rest := rest) (b := E.1 + 0) ⟨hx, hb, hml, hown, hts⟩ hM ⟨callB_of 2 hts (jm_gic jl_code) rfl rfl rfl (hts _ jyX11_look.2.1) (hts _ jl_7) jyX11_look.2.2.1 ⟨by show 6 + 1 ≤ Rm.frames; omega, by show 8 + (4 + 11) + 64 * 6 ≤ Rm.locals; omega⟩, hts _ jl_7i, hts _ jl_7s⟩ ⟨jm_blind _, ⟨cell, q1, by rw [q3]; rfl, by rw [q2]; exact (hK.1.1 11 _ cl11.2.1).2.1⟩, fun U0 hU0 hWm => ⟨rfl, jm_K_warm hWm hS hU0 hK, by rw [hU0]; exact hP⟩⟩ rfl rfl hl.1 rfl (lv_room hrest) dL_look_5 ⟨hz.1, hw.1⟩
  intro T hT' X
  rcases hr T hT' X with ⟨v, st₀, t, T', L', h0, X', hL', g1, g2, hq, st⟩ | ⟨q, st₀, t, T', L', C, ce, h0, X', hL', g1, g2, ⟨hCn, hrep, hz1, hk1⟩, hce, hcv, hcl, st⟩
  · exact hq.elim
  · subst hCn
    rw [h0] at hz1 hk1
    rw [hz.2, hw.2] at X'
    have hS3 : va_S (fun q => E.1 ≤ q) s.heap T'.heap (locs ++ L') := ⟨Nat.le_trans hS.1 (by rw [g1]; exact hz1), fun q h1 h2 => by rw [g1, hk1 q (Nat.lt_of_lt_of_le h1 hS.1) h2]; exact hS.2.1 q h1 h2, fun q hq => by
      rcases List.mem_append.mp hq with h | h
      · exact hS.2.2 q h
      · exact hL' q h⟩
    have hk := (kk q).2 p e Rm s m args below meth c T'.heap (locs ++ L') n0 z0 ls hC hR hU ⟨Nat.le_trans hN.1 hS1, Nat.le_trans hN.2.1 hS2, hN.2.2⟩ (by rw [g1]; exact hrep) hS3 hl
    have hc := vx_catch (pc := 5) (rest := rest) (own := RL) (name := "java/util/NoSuchElementException") (E := "java/util/NoSuchElementException") hown [] ⟨0, 10, 13, 13⟩ [] htb (fun z hz => nomatch hz) (by decide) (by decide) (hts _ jl_13) (va_Nw.use rfl (hK.2.1 _ jl_cast rfl)) (by rw [g1]; exact hce) hcv hcl hk
    obtain ⟨t2, a1, b1⟩ := hc T' rfl X'
    exact ⟨t2, st.trans a1, b1⟩
