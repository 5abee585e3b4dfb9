/-- FirstComerLaw.look: 1 where FirstComer.look throws, else 0 and what it answers in the array -/
def fL_look (l1 l2 : Int32) (l3 : Nat) (I : JI) (L : JL) (D : JG) (S : JS) : Option (Int32 × JL × JS) :=
  (fX11_passingAt l1 I D S).bind (fun q1 => j_opt q1 (some (1, L, S ++ [(90, 6)])) (fun b => j_g (decide (S[b]? = some (7, 9))) (if l2 < 0 then some (1, L, S ++ [(90, 6)]) else if l2 ≤ 11 then (fX7_tells b l2 I).bind (fun q => some (0, j_up L l3 0 q.toInt64, S)) else some (1, L, S ++ [(90, 6)]))))
theorem jx_look {l1 l2 : Int32} {l3 : Nat} {I : JI} {L : JL} {D : JG} {S : JS} {q : Int32 × JL × JS} (h : fL_look l1 l2 l3 I L D S = some q) : q.2.2 = S ∨ q.2.2 = S ++ [(90, 6)] := by
  unfold fL_look at h
  obtain ⟨q1, _, h⟩ := j_bs h
  rcases j_os h with ⟨_, h⟩ | ⟨b, _, h⟩
  · cases h
    exact Or.inr rfl
  obtain ⟨_, h⟩ := j_gs h
  by_cases hc : l2 < 0
  · replace h := j_pos hc h
    cases h
    exact Or.inr rfl
  replace h := j_neg hc h
  by_cases hc : l2 ≤ 11
  · replace h := j_pos hc h
    obtain ⟨q2, _, h⟩ := j_bs h
    cases h
    exact Or.inl rfl
  · replace h := j_neg hc h
    cases h
    exact Or.inr rfl
theorem lyL_look {l1 l2 : Int32} {l3 : Nat} {I : JI} {L : JL} {G D : JG} {S : JS} {q : Int32 × JL × JS} (hL : Lay G S) (h : fL_look l1 l2 l3 I L D S = some q) : Lay G q.2.2 := by
  rcases jx_look h with e | e
  · rw [e]
    exact hL
  · rw [e]
    refine lay_app hL (fun _ _ _ => rfl) ?_ ?_ ?_ ?_ <;>
    · intro j hj
      match j, hj with
      | 0, hj => simp at hj
      | j + 1, hj => simp at hj
theorem preL_look {l1 l2 : Int32} {l3 a : Nat} {sh : Nat × Nat} {I : JI} {L : JL} {G D : JG} {S : JS} {q : Int32 × JL × JS} (hL : Lay G S) (h3 : S[a]? = some sh) (h : fL_look l1 l2 l3 I L D S = some q) : q.2.2[a]? = some sh := by
  rcases jx_look h with e | e
  · rw [e]
    exact h3
  · rw [e]
    exact jm_pre h3
set_option maxHeartbeats 4000000 in
set_option maxRecDepth 100000 in
theorem tL_lookR {E : JE} {l1 l2 r : Int32} {b l3 : Nat} {I : JI} {L : JL} {G D : JG} {S : JS} (hL : Lay G S) (h3 : S[l3]? = some (23, 1)) (h1 : fX11_passingAt l1 I D S = some (some b)) (hb : S[b]? = some (7, 9)) (h2 : ¬ l2 < 0) (h5 : l2 ≤ 11) (h4 : fX7_tells b l2 I = some r) : AtJ E xL_look (Zr E (some (.int 0)) I (j_up L l3 0 r.toInt64) G D S) (S.length, jm_sl S) 8 0 [(0, .ref (E.1 + 0)), (1, .int l1), (2, .int l2), (3, .ref (E.1 + l3))] [] I L G D S := by
  refine j_aload_n 1 dL_look_0 rfl rfl 3 rfl ?_
  refine j_iconst (v := (0 : Int32)) 2 dL_look_1 rfl (by decide) ?_
  refine j_aload_n 3 dL_look_2 rfl rfl 0 rfl ?_
  refine j_iload_n 4 dL_look_3 rfl rfl 1 rfl ?_
  refine j_iload_n 5 dL_look_4 rfl rfl 2 rfl ?_
  refine j_callV (rest := [.int 0, .ref (E.1 + l3)]) (As := [.int l1, .int l2]) 8 dL_look_5 rfl jyX11_look (tcX11_look hL h1 hb h2 h5 h4) (sh_0 hL) cl11 jl_7 jl_7i jl_7s (by decide) rfl rfl (Nat.le_of_ble_eq_true rfl) ?_
  refine j_i2l 9 dL_look_8 rfl ?_
  refine j_last 10 dL_look_9 rfl h3 (j_inv (show j_in (0 : Int32) 1 = true by decide)) ?_
  refine j_goto 17 dL_look_10 (by decide) ?_
  refine j_iconst (v := (0 : Int32)) 18 dL_look_17 rfl (by decide) ?_
  exact j_iret dL_look_18 rfl
set_option maxHeartbeats 4000000 in
set_option maxRecDepth 100000 in
theorem tL_lookX {E : JE} {l1 l2 : Int32} {l3 : Nat} {XC : String → State → State → Prop} {I : JI} {L : JL} {G D : JG} {S : JS} (hL : Lay G S) (h : jl_thr l1 l2 I D S) : AtJ E xL_look (ZX E (jm_Q E (some (.int 1)) I L G D (S ++ [(90, 6)])) XC (S ++ [(90, 6)])) ((S ++ [(90, 6)]).length, jm_sl (S ++ [(90, 6)])) 8 0 [(0, .ref (E.1 + 0)), (1, .int l1), (2, .int l2), (3, .ref (E.1 + l3))] [] I L G D S := by
  refine j_aload_n 1 dL_look_0 rfl rfl 3 rfl ?_
  refine j_iconst (v := (0 : Int32)) 2 dL_look_1 rfl (by decide) ?_
  refine j_aload_n 3 dL_look_2 rfl rfl 0 rfl ?_
  refine j_iload_n 4 dL_look_3 rfl rfl 1 rfl ?_
  refine j_iload_n 5 dL_look_4 rfl rfl 2 rfl ?_
  refine j_callX hL h (by decide) (Nat.le_of_ble_eq_true rfl) (fun q => ?_)
  refine j_astore (lv' := [(4, .ref q), (0, .ref (E.1 + 0)), (1, .int l1), (2, .int l2), (3, .ref (E.1 + l3))]) 15 dL_look_13 rfl (by decide) rfl ?_
  refine j_iconst (v := (1 : Int32)) 16 dL_look_15 rfl (by decide) ?_
  exact jx_ret (j_iret dL_look_16 rfl)
theorem tL_look {E : JE} {l1 l2 : Int32} {l3 : Nat} {I : JI} {L : JL} {G D : JG} {S : JS} {q : Int32 × JL × JS} (hL : Lay G S) (h3 : S[l3]? = some (23, 1)) (h : fL_look l1 l2 l3 I L D S = some q) : AtJ E xL_look (ZX E (jm_Q E (some (.int q.1)) I q.2.1 G D q.2.2) (fun _ _ _ => False) q.2.2) (q.2.2.length, jm_sl q.2.2) 8 0 [(0, .ref (E.1 + 0)), (1, .int l1), (2, .int l2), (3, .ref (E.1 + l3))] [] I L G D S := by
  unfold fL_look at h
  obtain ⟨q1, hq1, h⟩ := j_bs h
  rcases j_os h with ⟨hn, h⟩ | ⟨b, hn, h⟩
  · cases h
    rw [hn] at hq1
    exact tL_lookX hL (Or.inl hq1)
  rw [hn] at hq1
  obtain ⟨hb, h⟩ := j_gs h
  replace hb := of_decide_eq_true hb
  by_cases hc : l2 < 0
  · replace h := j_pos hc h
    cases h
    exact tL_lookX hL (Or.inr ⟨b, hq1, Or.inl hc⟩)
  replace h := j_neg hc h
  by_cases hc2 : l2 ≤ 11
  · replace h := j_pos hc2 h
    obtain ⟨q2, hq2, h⟩ := j_bs h
    cases h
    exact jx_ret (tL_lookR hL h3 hq1 hb hc hc2 hq2)
  · replace h := j_neg hc2 h
    cases h
    exact tL_lookX hL (Or.inr ⟨b, hq1, Or.inr hc2⟩)
theorem jl_good : GoodIn jm_tbl (va_wsS RL 86 yL_look (Cond.codeWith yL_look cL_look 5 (some .int) [(0, 10, 13, 13)] :: jm_tbl)) := by
  intro w h
  unfold va_wsS at h
  rcases List.mem_append.mp h with h | h
  · rcases List.mem_cons.mp h with rfl | h
    · exact ⟨flL_86, (jm_good flL_86).2⟩
    rcases List.mem_cons.mp h with rfl | h
    · exact ⟨jl_st, (jm_good jl_st).2⟩
    rcases List.mem_cons.mp h with rfl | h
    · exact ⟨jl_ini, (jm_good jl_ini).2⟩
    · cases h
  · exact jm_gic jl_cw w h
theorem j_look {E : JE} {X : JX} {Z : JZ} {U : Nat × Nat} {d pc l3 : Nat} {lv : List (Nat × Value)} {st rest : List Value} {I : JI} {L : JL} {G D : JG} {S : JS} {l1 l2 : Int32} {q : Int32 × JL × JS} (pc' : Nat) (hd : decode X.2.1 pc = .ok (.invokestatic 86, 3)) (hp : pc + 3 = pc') (hX : X.1.cls = "FirstComerLaw") (hL : Lay G S) (h3 : S[l3]? = some (23, 1)) (hq : fL_look l1 l2 l3 I L D S = some q) (hst : st = .ref (E.1 + l3) :: .int l2 :: .int l1 :: .ref (E.1 + 0) :: rest) (hrest : (rest.map fun v => v.category).sum ≤ 8) (hdd : 30 ≤ d) (kk : AtJ E X Z U d pc' lv (.int q.1 :: rest) I q.2.1 G D q.2.2) : AtJ E X Z U d pc lv st I L G D S := by
  subst hp hst
  have hM := jx_entryL (as := [.ref (E.1 + 0), .int l1, .int l2, .ref (E.1 + l3)]) (Nat.le_of_ble_eq_true rfl) (tL_look (E := E) hL h3 hq)
  have hS12 : S.length ≤ q.2.2.length ∧ jm_sl S ≤ jm_sl q.2.2 := by
    rcases jx_look hq with e | e
    · rw [e]; exact ⟨Nat.le_refl _, Nat.le_refl _⟩
    · rw [e, jm_sl_app, List.length_append]; exact ⟨Nat.le_add_right _ _, Nat.le_add_right _ _⟩
  obtain ⟨hS1, hS2⟩ := hS12
  refine ⟨⟨Nat.le_trans hS1 kk.1.1, Nat.le_trans hS2 kk.1.2⟩, fun p e Rm s m args below meth c H locs n0 z0 ls hC hR hU hN hP hS hl => ?_⟩
  have hCC := hC
  obtain ⟨hx, hb, hml, -, -, -, hown, hts, hK⟩ := hCC
  rw [hX] at hown
  have hz := jm_cells hN.1 hS1 kk.1.1 hU.1
  have hw := jm_cells hN.2.1 hS2 kk.1.2 hU.2
  have hr := vx_runSX (e := e) (below := below) (meth := meth) (locs := locs) (cells := S.length - n0) (slots := jm_sl S - z0) (H := H) (g := F0 m pc ls (.ref (E.1 + l3) :: .int l2 :: .int l1 :: .ref (E.1 + 0) :: rest)) (cc := X.2.1) (nL := X.2.2.1) (Ts := jm_tbl) (own := RL) (index := 86) (bytes := cL_look) (maxL := 5) (ret := some .int) (hh := [(0, 10, 13, 13)]) (n := 4) (As := [.ref (E.1 + 0), .int l1, .int l2, .ref (E.1 + l3)]) (rest := rest) ⟨hx, hb, hml, hown, hts⟩ hM (vx_cwSW 4 hts jl_good rfl rfl rfl (by decide +kernel) ⟨by show 8 + 1 ≤ Rm.frames; omega, by show 8 + (5 + 11) + 64 * 8 ≤ Rm.locals; omega⟩) ⟨jm_blind _, fun U0 hU0 hWm => ⟨rfl, jm_K_warm hWm hS hU0 hK, by rw [hU0]; exact hP⟩⟩ rfl rfl hl.1 rfl (lv_room hrest) hd ⟨hz.1, hw.1⟩
  intro T hT' X9
  rcases hr T hT' X9 with ⟨v, st₀, t, T', L', h0, X', hL', g1, g2, ⟨hv, hrep, hz1, hk1⟩, st⟩ | ⟨q9, st₀, t, T', L', C, ce, h0, X', hL', g1, g2, hq9, hce, hcv, hcl, st⟩
  · cases hv
    rw [h0] at hz1 hk1
    rw [hz.2, hw.2] at X'
    have hS3 : va_S (fun q => E.1 ≤ q) s.heap T'.heap (locs ++ L') := ⟨Nat.le_trans hS.1 (by rw [g1]; exact hz1), fun q h1 h2 => by rw [g1, hk1 q (Nat.lt_of_lt_of_le h1 hS.1) h2]; exact hS.2.1 q h1 h2, fun q hq => by
      rcases List.mem_append.mp hq with h | h
      · exact hS.2.2 q h
      · exact hL' q h⟩
    obtain ⟨t2, a1, b1⟩ := kk.2 p e Rm s m args below meth c T'.heap (locs ++ L') n0 z0 ls hC hR hU ⟨Nat.le_trans hN.1 hS1, Nat.le_trans hN.2.1 hS2, hN.2.2⟩ (by rw [g1]; exact hrep) hS3 hl T' rfl X'
    exact ⟨t2, st t2 a1, b1⟩
  · exact hq9.elim
