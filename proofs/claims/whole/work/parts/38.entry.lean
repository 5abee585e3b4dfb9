def lay_b1 (G : JG) (S : JS) (t : Nat) : Bool := (!decide (S[t]? = some (1, 4)) || (decide (G t 0 = some (t + 1)) && decide (S[t + 1]? = some (20, 192))) && (decide (G t 1 = some (t + 2)) && decide (S[t + 2]? = some (20, 12))) && (decide (G t 2 = some (t + 3)) && decide (S[t + 3]? = some (20, 16))) && (decide (G t 3 = some (t + 4)) && decide (S[t + 4]? = some (20, 16)))) && (!decide (S[t]? = some (4, 17)) || (decide (G t 0 = some (t + 1)) && decide (S[t + 1]? = some (21, 18))) && (decide (G t 1 = some (t + 2)) && decide (S[t + 2]? = some (23, 18))) && (decide (G t 2 = some (t + 3)) && decide (S[t + 3]? = some (20, 18))) && (decide (G t 3 = some (t + 4)) && decide (S[t + 4]? = some (20, 18))) && (decide (G t 4 = some (t + 5)) && decide (S[t + 5]? = some (20, 18))) && (decide (G t 5 = some (t + 6)) && decide (S[t + 6]? = some (20, 18))) && (decide (G t 6 = some (t + 7)) && decide (S[t + 7]? = some (20, 18))) && (decide (G t 7 = some (t + 8)) && decide (S[t + 8]? = some (20, 18))) && (decide (G t 8 = some (t + 9)) && decide (S[t + 9]? = some (21, 18))) && (decide (G t 9 = some (t + 10)) && decide (S[t + 10]? = some (20, 1000)))) && (!decide (S[t]? = some (5, 6)) || (decide (G t 0 = some (t + 1)) && decide (S[t + 1]? = some (1, 4))) && (decide (G t 1 = some (t + 6)) && decide (S[t + 6]? = some (20, 760)))) && (!decide (S[t]? = some (7, 9)) || (decide (G t 0 = some (t + 1)) && decide (S[t + 1]? = some (0, 7))) && (decide (G t 1 = some (t + 2)) && decide (S[t + 2]? = some (20, 16))) && (decide (G t 2 = some (t + 3)) && decide (S[t + 3]? = some (20, 16))) && (decide (G t 3 = some (t + 4)) && decide (S[t + 4]? = some (20, 16))) && (decide (G t 4 = some (t + 5)) && decide (S[t + 5]? = some (20, 19))))
def lay_b (G : JG) (S : JS) : Bool := lay_G.all (fun q => decide (G q.1 q.2.1 = some q.2.2)) && (List.range S.length).all (lay_b1 G S)
theorem lay_of_b {G : JG} {S : JS} (h : lay_b G S = true) (hS : ∃ S1, S = lay_S ++ S1) : Lay G S := by
  unfold lay_b at h
  rw [Bool.and_eq_true] at h
  have h2 : ∀ (t : Nat) (sh : Nat × Nat), S[t]? = some sh → lay_b1 G S t = true := fun t sh ht => List.all_eq_true.mp h.2 t (List.mem_range.mpr (jm_ltS ht))
  refine ⟨fun q hq => of_decide_eq_true (List.all_eq_true.mp h.1 q hq), hS, fun t ht => ?_, fun t ht => ?_, fun t ht => ?_, fun t ht => ?_⟩
  · have hb := h2 t _ ht
    unfold lay_b1 at hb
    simp [ht] at hb
    simp [hb]
  · have hb := h2 t _ ht
    unfold lay_b1 at hb
    simp [ht] at hb
    simp [hb]
  · have hb := h2 t _ ht
    unfold lay_b1 at hb
    simp [ht] at hb
    simp [hb]
  · have hb := h2 t _ ht
    unfold lay_b1 at hb
    simp [ht] at hb
    simp [hb]

theorem en_8 : Cond.classLink RL 8 RX11 ∈ jm_tbl := jm_in (tb1 (List.mem_of_getElem? (i := 24) rfl)) rfl
theorem en_16 : Cond.classLink RL 16 RX12 ∈ jm_tbl := jm_in (tb6 (List.mem_of_getElem? (i := 100) rfl)) rfl
theorem en_15 : Cond.methodLink RL 15 yX11_init ∈ jm_tbl := jm_in (tb1 (List.mem_of_getElem? (i := 26) rfl)) rfl
theorem en_18 : Cond.methodLink RL 18 yX12_init ∈ jm_tbl := jm_in (tb6 (List.mem_of_getElem? (i := 102) rfl)) rfl
theorem en_i11 : Cond.instanceMethod yX11_init ∈ jm_tbl := jm_in (tb1 (List.mem_of_getElem? (i := 27) rfl)) rfl
theorem en_i11n : Cond.instantiable RX11 14 ∈ jm_tbl := jm_in (tb1 (List.mem_of_getElem? (i := 25) rfl)) rfl
theorem en_i11z : Cond.initialized RX11 ∈ jm_tbl := jm_in (tb1 (List.mem_of_getElem? (i := 1) rfl)) rfl
theorem en_i12 : Cond.instanceMethod yX12_init ∈ jm_tbl := jm_in (tb6 (List.mem_of_getElem? (i := 103) rfl)) rfl
theorem en_i12n : Cond.instantiable RX12 98 ∈ jm_tbl := jm_in (tb6 (List.mem_of_getElem? (i := 101) rfl)) rfl
theorem en_i12z : Cond.initialized RX12 ∈ jm_tbl := jm_in (tb1 (List.mem_of_getElem? (i := 11) rfl)) rfl
theorem en_arr : Cond.arrayClass .long ∈ jm_tbl := jm_in (tb2 (List.mem_of_getElem? (i := 121) rfl)) rfl
def z_I : JI := fun _ _ => 0
def z_L : JL := fun _ _ => 0
def z_G : JG := fun _ _ => none
/-- the memory behind FirstComer's constructor -/
def i_1 : Option (JI × JL × JG × JG × JS) := fX11_init 0 (j_clr z_I 0 0) (j_clr z_L 0 0) (j_clr z_G 0 none) (j_clr z_G 0 none) [(11, 14)]
/-- and behind FirstComerModel's -/
def i_2 (q : JI × JL × JG × JG × JS) : Option (JI × JG × JS) := fX12_init 66 (j_clr q.1 66 0) (j_clr q.2.2.1 66 none) (q.2.2.2.2 ++ [(12, 98)])
def i_3 : Option (JI × JL × JG × JG × JS) := i_1.bind (fun q1 => (i_2 q1).bind (fun q2 => some (q2.1, j_clr (j_clr q1.2.1 66 0) 136 0, q2.2.1, j_clr q1.2.2.2.1 66 none, q2.2.2 ++ [(23, 1)])))
theorem i_1S : i_1.map (fun q => decide (q.2.2.2.2 = lay_S.take 66)) = some true := by decide +kernel
theorem i_3S : i_3.map (fun q => decide (q.2.2.2.2 = lay_S ++ [(23, 1)]) && lay_b q.2.2.1 q.2.2.2.2) = some true := by decide +kernel
/-- WHAT IS LEFT: the law over the functional forms, a pure statement -/
def PureLaw : Prop := ∀ (e : Nat → Nat) (q : JI × JL × JG × JG × JS), e 104 ≤ 4096 → i_3 = some q → fL_law_23 e 100000 0 q.1 q.2.1 q.2.2.1 q.2.2.2.1 q.2.2.2.2 = some 1
set_option maxHeartbeats 4000000 in
set_option maxRecDepth 100000 in
theorem entry_at {E : JE} (hp : PureLaw) (hE : E.2.2.2 104 ≤ 4096) : AtJ E xL_law Zlaw (601024, 7293034) 200 0 [(0, .ref (E.2.2.2 103))] [] z_I z_L z_G z_G [] := by
  obtain ⟨q1, h1, hb1⟩ := Option.map_eq_some_iff.mp i_1S
  replace hb1 := of_decide_eq_true hb1
  obtain ⟨q3, h3, hb3⟩ := Option.map_eq_some_iff.mp i_3S
  rw [Bool.and_eq_true] at hb3
  obtain ⟨hS3, hl3⟩ := hb3
  replace hS3 := of_decide_eq_true hS3
  have hpure := hp E.2.2.2 q3 hE h3
  have hLay : Lay q3.2.2.1 q3.2.2.2.2 := lay_of_b hl3 ⟨_, hS3⟩
  have hd3 := h3
  unfold i_3 at hd3
  obtain ⟨q1', h1', hd3⟩ := j_bs hd3
  cases h1.symm.trans h1'
  obtain ⟨q2, h2, hd3⟩ := j_bs hd3
  cases hd3
  have h66 : q1.2.2.2.2.length = 66 := by rw [hb1]; decide +kernel
  have h136 : q2.2.2.length = 136 := by
    have hh := congrArg List.length hS3
    simp only [List.length_append, List.length_singleton] at hh
    have : lay_S.length = 136 := by decide +kernel
    omega
  have h12 : (q1.2.2.2.2 ++ [(12, 98)])[66]? = some (12, 98) := by rw [← h66]; exact jm_last
  refine j_nwO 3 dL_law_0 rfl cl11 en_8 en_i11n en_i11z (by decide) ?_
  show AtJ E xL_law Zlaw (601024, 7293034) 200 3 [(0, .ref (E.2.2.2 103))] [.ref (E.1 + 0)] (j_clr z_I 0 0) (j_clr z_L 0 0) (j_clr z_G 0 none) (j_clr z_G 0 none) [(11, 14)]
  refine j_dup 4 dL_law_3 rfl rfl ?_
  refine j_callI (y := yX11_init) (cy := cX11_init) (my := 1) (rest := [.ref (E.1 + 0)]) (As := []) 7 dL_law_4 rfl jyX11_init (tcX11_init rfl h1) en_15 en_i11 rfl (by decide) rfl rfl (Nat.le_of_ble_eq_true rfl) ?_
  refine j_astore_n (lv' := [(1, .ref (E.1 + 0)), (0, .ref (E.2.2.2 103))]) 8 dL_law_7 rfl rfl (by decide) rfl ?_
  refine j_nwO 11 dL_law_8 rfl cl12 en_16 en_i12n en_i12z (by decide) ?_
  rw [h66]
  refine j_dup 12 dL_law_11 rfl rfl ?_
  refine j_callI (y := yX12_init) (cy := cX12_init) (my := 2) (rest := [.ref (E.1 + 66)]) (As := []) 15 dL_law_12 rfl jyX12_init (tcX12_init h12 h2) en_18 en_i12 rfl (by decide) rfl rfl (Nat.le_of_ble_eq_true rfl) ?_
  refine j_astore_n (lv' := [(2, .ref (E.1 + 66)), (1, .ref (E.1 + 0)), (0, .ref (E.2.2.2 103))]) 16 dL_law_15 rfl rfl (by decide) rfl ?_
  refine j_iconst (v := 1) 17 dL_law_16 rfl (by decide) ?_
  refine j_nwL (N := 1) 19 dL_law_17 rfl en_arr (by decide) (by decide) (by decide) ?_
  rw [h136]
  refine j_astore_n (lv' := [(3, .ref (E.1 + 136)), (2, .ref (E.1 + 66)), (1, .ref (E.1 + 0)), (0, .ref (E.2.2.2 103))]) 20 dL_law_19 rfl rfl (by decide) rfl ?_
  refine j_iconst (v := 0) 21 dL_law_20 rfl (by decide) ?_
  refine j_istore (lv' := [(4, .int 0), (3, .ref (E.1 + 136)), (2, .ref (E.1 + 66)), (1, .ref (E.1 + 0)), (0, .ref (E.2.2.2 103))]) 23 dL_law_21 rfl (by decide) rfl ?_
  refine j_sub [4, 3, 2, 1, 0] rfl ?_
  exact kL_law_23 100000 _ _ _ _ _ _ hLay (by rw [← h136]; exact jm_last) hpure
/-- the law from its entry, once the pure statement is shown -/
theorem whole_start_open (hp : PureLaw) {p : Program} {e : Env} {s : State} {m : MethodId} {below : List Frame} {meth : Method} {c : Code} (l : Launch) (hlt : l.stackTraces = false) {b L : Nat} {xs : Nat → Int32} (hL : L ≤ 4096) (C0 : lw_At p s m meth c b L xs) : W p l e room_1 s m #[Value.ref b] below meth c s.heap [] 0 0 (lw_Z below #[Value.ref b] s) (entryFrame m ([Value.ref b] : List Value).toArray 7) := by
  obtain ⟨E, e1, e2, e3, e4, -, hK⟩ := jm_start l hlt C0
  obtain ⟨hx, hb, hr, hml, hown, hts, hX, hbl, hlocks, hgv⟩ := C0
  have hat := entry_at (E := E) hp (by rw [e4]; exact hL)
  have hl := lv_entry ([.ref b]) (n := 7) (Nat.le_of_ble_eq_true rfl)
  rw [lg_entry_eq]
  have hW := hat.2 p e room_1 s m #[Value.ref b] below meth c s.heap [] 0 0 _ ⟨hx, hb, hml, hr, hlocks, ⟨fun h => absurd h (by decide), fun h => absurd h.1 (by decide), fun h => absurd h.2 (by decide)⟩, hown, fun w hw => hts w (jm_good hw).1, hK⟩ ⟨by decide, by decide⟩ ⟨rfl, rfl⟩ ⟨Nat.le_refl _, Nat.le_refl _, e1⟩ ⟨by rw [← e1]; rfl, fun a sh h => by simp at h⟩ va_S.rf (by rw [e3]; exact hl)
  rw [e2] at hW
  intro T hT X0
  obtain ⟨t, a1, a2⟩ := hW T hT X0
  exact ⟨t, a1, a2 ⟨rfl, rfl, rfl, b, rfl⟩⟩

