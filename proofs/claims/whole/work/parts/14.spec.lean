section JSP
variable {E : JE} {X : JX} {Z : JZ} {U : Nat × Nat} {d pc : Nat} {lv : List (Nat × Value)} {st : List Value} {I : JI} {L : JL} {G D : JG} {S : JS}
theorem j_gets {idx : Nat} {host : String} (pc' : Nat) (hd : decode X.2.1 pc = .ok (.getstatic idx, 3)) (hp : pc + 3 = pc') (hlink : Cond.fieldLinkNest X.1.cls idx "FirstComer" "SETS_WITH" "[J" host ∈ lw_tbl) (kk : AtJ E X Z U d pc' lv (.ref (E.2.2.2 100) :: st) I L G D S) : AtJ E X Z U d pc lv st I L G D S := by
  subst hp
  exact ⟨kk.1, fun p e Rm s m args below meth c H locs n0 z0 ls hC hR hU hN hP hS hl => va_getsN hC.1 hC.2.1 hC.2.2.2.2.2.2.2.2.2.2.2.1 hS hC.2.2.2.2.2.2.1 (va_Nw.use rfl (hC.2.2.2.2.2.2.2.2.2.1 _ hlink rfl)) (fun x h => h) hd (kk.2 p e Rm s m args below meth c H locs n0 z0 ls hC hR hU hN hP hS hl)⟩
theorem j_slald {i : Int32} (pc' : Nat) (hd : decode X.2.1 pc = .ok (.laload, 1)) (hp : pc + 1 = pc') (hin : vp_in i 6) (kk : AtJ E X Z U d pc' lv (.long (jm_sets i.toNatClampNeg) :: st) I L G D S) : AtJ E X Z U d pc lv (.int i :: .ref (E.2.2.2 100) :: st) I L G D S := by
  subst hp
  exact ⟨kk.1, fun p e Rm s m args below meth c H locs n0 z0 ls hC hR hU hN hP hS hl => va_tl hC.1 hC.2.1 hC.2.2.2.2.2.2.2.2.2.2.2.2.1 hS hin rfl hd (kk.2 p e Rm s m args below meth c H locs n0 z0 ls hC hR hU hN hP hS hl)⟩
theorem j_ldcs (pc' : Nat) (hd : decode X.2.1 pc = .ok (.ldc 86, 2)) (hp : pc + 2 = pc') (hX : X.1.cls = "FirstComer$Reader") (kk : AtJ E X Z U d pc' lv (.ref (E.2.2.2 101) :: st) I L G D S) : AtJ E X Z U d pc lv st I L G D S := by
  subst hp
  exact ⟨kk.1, fun p e Rm s m args below meth c H locs n0 z0 ls hC hR hU hN hP hS hl => va_ldcS hC.1 hC.2.1 hC.2.2.2.2.2.2.1 (by rw [hX]; exact hC.2.2.2.2.2.2.2.2.2.2.2.2.2.1) hd (kk.2 p e Rm s m args below meth c H locs n0 z0 ls hC hR hU hN hP hS hl)⟩
theorem j_charAt {i : Int32} {idx : Nat} (pc' : Nat) (hd : decode X.2.1 pc = .ok (.invokevirtual idx, 3)) (hp : pc + 3 = pc') (hlink : Cond.methodLink X.1.cls idx yJ0_charAt_5068e ∈ jm_tbl) (hin : vp_in i 248) (hdd : 7 ≤ d) (hrest : (st.map fun v => v.category).sum ≤ 8) (kk : AtJ E X Z U d pc' lv (.int (jm_wb.getD i.toNatClampNeg 0) :: st) I L G D S) : AtJ E X Z U d pc lv (.int i :: .ref (E.2.2.2 101) :: st) I L G D S := sorry
end JSP
