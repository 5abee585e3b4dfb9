theorem ka_ff {N M : JI} (h75 : N 75 = M 75) (h76 : N 76 = M 76) : kaR N (nI 0) = lwFf M := by
  funext i
  unfold kaR lwFf
  rw [ac0]
  unfold kdR lwMb
  rw [h75, h76]
theorem lfG_le {M : JI} {h : Nat → Nat → Nat} {ln p f fm : Nat} {sm : Int32} {fb : Nat → Int32} {E : Nat → (Nat → Int32) → Int32} (q : Nat) : lfG M h ln p f fm sm fb E q ≤ ln := by
  unfold lfG
  split
  · exact Nat.le_refl _
  · exact fa_first_le _ _
theorem lfG_qy {M : JI} {h : Nat → Nat → Nat} {ln p f fm : Nat} {sm : Int32} {fb : Nat → Int32} {E : Nat → (Nat → Int32) → Int32} {q : Nat} (hlt : lfG M h ln p f fm sm fb E q < ln) : qyG M h p f fm sm fb E q (lfG M h ln p f fm sm fb E q) = true := by
  unfold lfG at hlt ⊢
  split at hlt
  · omega
  · rename_i e
    rw [if_neg e]
    exact fa_first_yes _ _ hlt
set_option maxHeartbeats 4000000 in
theorem pass_core {n : Nat} {M : JI} {L : JL} {G D : JG} {S : JS} (h : Inv n M L D S) {m b p f g w fm pr pd : Nat} (hm : m < 40) (e012 : M 0 12 = nI m) (hb : D 42 m = some b) (hp : p < 12) (hf : f < 16) (hg : g < 16) (hne : f ≠ g) (hw1 : 1 ≤ w) (hw2 : w ≤ 12) (hfm : fm < 3) (hpr : pr ≤ 9999) (hpd : pd ≤ 9999) (q0 : M 14 0 = nI p) (q1 : M 14 1 = nI f) (q2 : M 14 2 = nI g) (q3 : M 14 3 = nI w) (q4 : M 14 4 = nI fm) (q5 : M 14 5 = nI pr) (q6 : M 14 6 = nI pd) (hw : w ≤ hN (M 68) p f) (s2 : ∀ N : JI, N 67 = M 67 → fX12_isPassing (nI p) (nI f) (nI g) (nI w) (nI fm) (nI pr) (nI pd) N = some (nI 1)) (off1 : M 20 19 ≠ M 1 9) (off2 : M 30 12 ≠ M 1 9) (off3 : M 33 14 ≠ M 1 9) :
    ∃ M1 D1 N, fX11_pass_88 (nI p) (nI f) (nI g) (nI w) M L G D S = some (nI m, M1, L, G, D1, S) ∧ fX12_pass (nI p) (nI f) (nI g) (nI w) (nI fm) (nI pr) (nI pd) M1 = some (nI m, N) ∧ Inv (n + 1) N L D1 S := by
  have hh := h
  obtain ⟨h1, h2, h3, h4, h5, h6, h7, h8, h9, h10, h11, h12, h13, h14, h15, h16, h17, h18, h19⟩ := hh
  obtain ⟨X, Y, y1, y2, y3, hXY, hlw⟩ := h12
  have hX : X = 44 ∨ X = 55 := by omega
  obtain ⟨ln, E, hln, e18, e11, hl, hLs, hE, ⟨bp, bp1, bp2⟩, ⟨sh, sh1, sh2⟩, hwi⟩ := lw_use hX hlw
  have h12 : vLaw (rg pL M) (L 46) (L 57) (D 0 10) (D 0 11) (D 15 5) := ⟨X, Y, y1, y2, y3, hXY, hlw⟩
  have hb12 : ∀ p q, p < 12 → q < 16 → hN (M 68) p q ≤ 12 := fun p q a b => (h2.1 p q a b).2
  have hslot := h16.2.2.2.1 m b (by omega) (by unfold slA; rw [if_pos hm]; exact hb)
  have h137 : 137 ≤ b := hslot.1
  have hSb : S[b]? = some (7, 9) := by rw [hslot.2.2]; unfold slS; rw [if_pos hm]
  have hSX : S[X]? = some (4, 17) := lay_at_S h16 (by rcases hX with rfl | rfl <;> decide +kernel)
  have hS7 : S[7]? = some (1, 4) := lay_at_S h16 (by decide +kernel)
  have hS14 : S[14]? = some (0, 7) := lay_at_S h16 (by decide +kernel)
  obtain ⟨Ma, j1, j2, j3, j4, j5, j6⟩ := ja_eq (M := M) (L := L) (D := D) (S := S) (X := X) (t := 7) (dq := 14) (h := hN (M 68)) (ln := ln) (p := p) (f := f) (g := g) (fm := fm) (E := E) ⟨hX, Or.inl rfl, Or.inl rfl⟩ y3 hSX hS7 hS14 q0 q1 q2 q4 hp hf hg hfm hln hne h3 hb12 h4 h5 h6 h7 e11 hl hLs
  rw [q3, q5, q6] at j4 j5 j6
  generalize hfb : fbS (hN (M 68)) p f g fm (nI w) (nI pr) (nI pd) (M 1 8) = fb at j4 j5 j6
  generalize hlf : lfG M (hN (M 68)) ln p f fm (nI 0) fb E = lf at j5 j6
  generalize hfr : frG M (hN (M 68)) ln p f g (nI 0) fb E = fr at j4 j6
  generalize hmy : (fun q => !fr && (!decide (q = g) && decide (lf q < lf g))) = may
  have hmy' : ∀ q, may q = (!fr && (!decide (q = g) && decide (lf q < lf g))) := fun q => by rw [← hmy]
  have hlfle : ∀ q, lf q ≤ ln := fun q => by rw [← hlf]; exact lfG_le q
  have hmayF : ∀ q, q < 16 → may q = true → lf q < ln ∧ q ≠ g ∧ M 75 (lf q) = nI 0 ∧ lwFf M (lf q) = true ∧ 0 < wtS (M 69) (M 70) (M 71) (hN (M 68)) (M 77 (lf q)).toNatClampNeg p f q := by
    intro q hq hc
    rw [hmy'] at hc
    simp at hc
    have h1 := hlfle g
    have hlt : lf q < ln := by omega
    have hqy : qyG M (hN (M 68)) p f fm (nI 0) fb E q (lf q) = true := by
      rw [← hlf] at hlt ⊢
      exact lfG_qy hlt
    unfold qyG at hqy
    simp only [Bool.and_eq_true] at hqy
    obtain ⟨⟨⟨⟨k1, k2⟩, k3⟩, k4⟩, k5⟩ := hqy
    refine ⟨hlt, hc.2.1, ?_, ?_, ?_⟩
    · unfold kdR at k1; simpa using k1
    · unfold lwFf
      rw [ac0] at k2
      unfold kdR at k1
      rw [k1, k2]; rfl
    · unfold wtR at k4; simpa using k4
  have ra : ∀ a, (a < 15 ∨ 19 < a) → Ma a = M a := j2
  have emba : lwMb Ma = lwMb M := by funext i; unfold lwMb; rw [ra 76 (by omega)]
  have effa : lwFf Ma = lwFf M := by funext i; unfold lwFf; rw [emba, ra 75 (by omega)]
  have hla : ∀ i, i < ln → LWl X Ma E i := by
    intro i hi
    have hh := hl i hi
    unfold LWl kdR cE at hh ⊢
    rw [effa, ra 75 (by omega), ra 76 (by omega), ra 77 (by omega), ra 78 (by omega), ra 80 (by omega), ra (X + 1) (by omega), ra (X + 3) (by omega), ra (X + 4) (by omega), ra (X + 5) (by omega), ra (X + 7) (by omega), ra (X + 8) (by omega), ra (X + 9) (by omega), ra (X + 10) (by omega)]
    exact hh
  have hD1 : ∀ a, a ≠ 15 → (j_up (j_up D 15 6 (some 7)) 15 7 (some 14)) a = D a := fun a ha => by rw [ju_row _ _ ha, ju_row _ _ ha]
  have hD15 : (j_up (j_up D 15 6 (some 7)) 15 7 (some 14)) 15 5 = some X := by rw [ju_cell _ _ (by omega), ju_cell _ _ (by omega)]; exact y3
  have hD156 : (j_up (j_up D 15 6 (some 7)) 15 7 (some 14)) 15 6 = some 7 := by rw [ju_cell _ _ (by omega), ju_same]
  generalize hDd : j_up (j_up D 15 6 (some 7)) 15 7 (some 14) = D1 at hD1 hD15 hD156 j1
  obtain ⟨Mb, b1, b2, b3, b4, b5, b6, b7, b8, b9, b10, b11⟩ := bg_eq (M := Ma) (D := D1) (S := S) (X := X) (b := b) (h := hN (M 68)) (ln := ln) (p := p) (f := f) (g := g) (E := E) (now := Ma 1 8) hX h137 hD15 hD156 hSX hS7 hln hp hg (sh := sh) (by rw [ra X (by omega)]; exact sh1) (by rw [ra 8 (by omega), ra 9 (by omega), ra 10 (by omega), ra 11 (by omega)]; exact h3) (by rw [ra 2 (by omega), ra 3 (by omega), ra 69 (by omega)]; exact h4) (by rw [ra 4 (by omega), ra 70 (by omega)]; exact h5) hla (by rw [ra 14 (by omega)]; exact q0) (by rw [ra 14 (by omega)]; exact q2) (may := may) (lf := lf) (fun i => by rw [j6 i, hmy']) (fun q hq hc => by
    obtain ⟨k1, k2, k3, k4, k5⟩ := hmayF q hq hc
    refine ⟨k1, ?_, ?_, ?_⟩
    · rw [ra 75 (by omega)]; exact k3
    · rw [j5 q hq]; unfold lnV; rw [if_pos k1]
    · rw [ra 69 (by omega), ra 70 (by omega), ra 71 (by omega), ra 77 (by omega)]; exact k5) (j5 g hg)
  rw [ra 1 (by omega)] at b3
  rw [ra (X + 3) (by omega)] at b5
  rw [ra X (by omega)] at b6
  rw [ra 14 (by omega)] at b7 b11
  have rb : ∀ a, a < 137 → Mb a = Ma a := fun a ha => b2 a (by omega)
  have hle12g := hb12 p g hp hg
  have hle12f := hb12 p f hp hf
  obtain ⟨t1, t2, t3, t4, mv1, mv2⟩ := hdr_move (M := Mb) (t := 7) (h := hN (M 68)) (by rw [rb 8 (by omega), rb 9 (by omega), rb 10 (by omega), rb 11 (by omega), ra 8 (by omega), ra 9 (by omega), ra 10 (by omega), ra 11 (by omega)]; exact h3) hp hf hg hne hw (by omega) (by omega)
  generalize hMc : jr4 Mb 7 t1 t2 t3 t4 = Mc at mv1
  have rc : ∀ a, (a < 8 ∨ 11 < a) → Mc a = Mb a := by
    intro a ha
    rw [← hMc]; unfold jr4
    rw [jr_ne _ _ (by omega), jr_ne _ _ (by omega), jr_ne _ _ (by omega), jr_ne _ _ (by omega)]
  have ec12 : Mc 0 12 = nI m := by rw [rc 0 (by omega), rb 0 (by omega), ra 0 (by omega)]; exact e012
  have e1m : nI m + (1 : Int32) = nI (m + 1) := nI_1 m
  generalize hMd : j_up Mc 0 12 (nI (m + 1)) = Md
  have rd : ∀ a, a ≠ 0 → Md a = Mc a := fun a ha => by rw [← hMd, ju_row _ _ ha]
  -- rows of the class's result
  have rdM : ∀ a, a < 137 → a ≠ 0 → (a < 8 ∨ 11 < a) → (a < 15 ∨ 19 < a) → Md a = M a := by
    intro a a1 a2 a3 a4
    rw [rd a a2, rc a a3, rb a a1, ra a a4]
  -- the reference
  generalize hN1 : j_up (j_up Md 66 0 (nI 0)) 66 50 (nI 0) = N1
  have rN : ∀ a, a ≠ 66 → N1 a = Md a := by
    intro a ha
    rw [← hN1, ju_row _ _ ha, ju_row _ _ ha]
  have rN66 : ∀ k, k ≠ 0 → k ≠ 50 → N1 66 k = M 66 k := by
    intro k k1 k2
    rw [← hN1, ju_cell _ _ k2, ju_cell _ _ k1, rdM 66 (by omega) (by omega) (by omega) (by omega)]
  obtain ⟨N0, l1, l2, l3, l4, l5, l6, l7, l8⟩ := lays_eq (N := N1) (h := hN (M 68)) (by rw [rN 68 (by omega), rdM 68 (by omega) (by omega) (by omega) (by omega)]; exact tw_rep h2) hb12 hp hf hg hfm (nI w) (nI pr) (nI pd)
  have h98 : N1 66 8 = M 1 8 := by rw [rN66 8 (by omega) (by omega), ← h9.1]
  rw [h98, hfb] at l8
  have r0 : ∀ a, (19 < a ∧ a < 86) → a ≠ 66 → N0 a = M a := by
    intro a ha h66
    rw [l2 a h66 (by omega), rN a h66, rdM a (by omega) (by omega) (by omega) (by omega)]
  have B : RB N0 (hN (M 68)) ln p f g fm (nI 0) E := rb_mk (M := M) (L := L) (X := X) (fun a ha => r0 a (by omega) (by omega)) (by rw [r0 68 (by omega) (by omega)]; exact tw_rep h2) hb12 hp hf hg hln hfm (by rw [l3 18 (by omega), rN66 18 (by omega) (by omega)]; exact e18) l4 l5 l6 l7 (by rw [l3 50 (by omega), ← hN1, ju_same]) h4 h5 h6 h7 hl hE
  obtain ⟨c1, c2⟩ := br_eq (N0 := N0) (M := M) (h := hN (M 68)) (ln := ln) (p := p) (f := f) (g := g) (fm := fm) (sm := nI 0) (fb := fb) (E := E) (fun a ha => r0 a (by omega) (by omega)) l8 hE
  rw [hlf] at c1
  rw [hfr] at c2
  have ecm : cmR N0 (hN (M 68)) ln p f g fm (nI 0) E = may := by
    funext q
    unfold cmR
    rw [c1, c1, c2, hmy']
  have elfR : lfR N0 (hN (M 68)) ln p f fm (nI 0) E = lf := funext c1
  have e52 : N0 66 52 = nI m := by
    obtain ⟨m', hm', k0, k66, -⟩ := h13
    have : m' = m := ((nI_eq (by omega) (by omega)).mp (e012.symm.trans k0)).symm
    rw [l3 52 (by omega), rN66 52 (by omega) (by omega), k66, this]
  have em : (nI m).toNatClampNeg = m := nI_clamp (by omega)
  have gm : ∀ {α : Type} (z : Option α), j_g (j_in (nI m) 40) z = z := fun z => jg_in hm (by decide)
  have e08 : N0 66 8 = M 1 8 := by rw [l3 8 (by omega)]; exact h98
  generalize hNa : j_up (j_up (j_up (j_up (j_up (j_up (j_up (j_up N0 96 m (nI p)) 97 m (nI f)) 98 m (nI g)) 99 m (nI w)) 100 m (nI fm)) 101 m (nI pr)) 102 m (nI pd)) 103 m (M 1 8) = Na
  have sa : rs2 N0 Na := by
    rw [← hNa]
    exact rs2_up (rs2_up (rs2_up (rs2_up (rs2_up (rs2_up (rs2_up (rs2_up ⟨fun _ _ _ => rfl, fun _ _ => rfl, fun _ _ => rfl⟩ (by omega)) (by omega)) (by omega)) (by omega)) (by omega)) (by omega)) (by omega)) (by omega)
  obtain ⟨Nb, f1, f2⟩ := fr_eq (RB_2 B sa) (rSame_rfl Na)
  rw [(sp_2 B sa).2.1, c2] at f1
  have sb := rs2_r sa f2
  have sb' : rs2 N0 (j_up Nb 104 m (bI fr)) := rs2_up sb (by omega)
  obtain ⟨Nc, k1, k2, k3⟩ := rk_eq (RB_2 B sb') (q := g) hg (rSame_rfl _)
  have erk : ∀ l, rkR (j_up Nb 104 m (bI fr)) (nI 0) ln l = rkR N0 (nI 0) ln l := fun l => by unfold rkR; rw [(sp_2 B sb').2.2]
  rw [(sp_2 B sb').1, erk, c1] at k1
  have sc := rs2_r sb' k2
  generalize hrv : rkR N0 (nI 0) ln (lf g) = rv at k1
  have e29 : (j_up (j_up Nc 105 m rv) 106 m (-1 : Int32)) 66 29 = bI bp := by
    rw [ju_row _ _ (by omega), ju_row _ _ (by omega), sc.2.1 29 (by omega), l3 29 (by omega), rN66 29 (by omega) (by omega)]; exact bp2
  have e30 : (j_up (j_up (j_up Nc 105 m rv) 106 m (-1 : Int32)) 107 m (bI bp)) 66 30 = bI sh := by
    rw [ju_row _ _ (by omega), ju_row _ _ (by omega), ju_row _ _ (by omega), sc.2.1 30 (by omega), l3 30 (by omega), rN66 30 (by omega) (by omega)]; exact sh2
  generalize hNd : j_up (j_up (j_up (j_up Nc 105 m rv) 106 m (-1 : Int32)) 107 m (bI bp)) 108 m (bI sh) = Nd
  have sd : rs2 N0 Nd := by
    rw [← hNd]
    exact rs2_up (rs2_up (rs2_up (rs2_up sc (by omega)) (by omega)) (by omega)) (by omega)
  obtain ⟨Ne, p1, p2, p3, p4, p5⟩ := rp_loop (nw := nI w) B hm 16 0 (by omega) 100000 (by omega) Nd sd (by
    rw [← hNd, ju_row _ _ (by omega), ju_row _ _ (by omega), ju_row _ _ (by omega), ju_row _ _ (by omega), k2.1 104 (by omega) (by omega), ju_same, c2]) (by
    rw [← hNd, ju_row _ _ (by omega), ju_row _ _ (by omega), ju_row _ _ (by omega), ju_same, ← hrv, c1]) (fun q hq => absurd hq (by omega))
  rw [ecm, elfR] at p3
  obtain ⟨rt, v1, v2⟩ := rfr_moves (M := Ne) (h := hN (M 68)) (by rw [p2.1 68 (by omega) (by omega), r0 68 (by omega) (by omega)]; exact tw_rep h2) hp hf hg hne hw
  obtain ⟨w1, w2⟩ := mv_fin h2 hp hf hg hne hw v2
  have eE52 : (jr Ne 68 rt) 66 52 = nI m := by rw [jr_ne _ _ (by omega), p2.2.1 52 (by omega)]; exact e52
  refine ⟨Md, D1, j_up (jr Ne 68 rt) 66 52 (nI (m + 1)), ?_, ?_, ?_⟩
  · unfold fX11_pass_88
    rw [j1, Option.bind_some]
    show j_g (j_in (Ma 0 12) 40) (j_opt (D1 42 (Ma 0 12).toNatClampNeg) none (fun b7 => j_g (decide (S[b7]? = some (7, 9))) ((fX7_begin b7 14 (Ma 1 8) Ma D1 S).bind (fun q8 => (fX1_move 7 (nI p) (nI f) (nI g) (nI w) q8).bind (fun q9 => some ((((j_up q9 0 12 ((q9 0 12) + (1 : Int32))) 0 12) - (1 : Int32)), (j_up q9 0 12 ((q9 0 12) + (1 : Int32))), L, G, D1, S)))))) = _
    rw [ra 0 (by omega), e012, gm, em, hD1 42 (by omega), hb, jo_s, jg_d hSb, b1, Option.bind_some, mv1, Option.bind_some, ec12, e1m, hMd, ← hMd, ju_same]
    have : nI (m + 1) - (1 : Int32) = nI m := nI_pred m
    rw [this]
  · unfold fX12_pass
    have hcc : ∀ v, (j_up Md 66 0 v) 67 = M 67 := fun v => by rw [ju_row _ _ (by omega), rdM 67 (by omega) (by omega) (by omega) (by omega)]
    have h52 : (j_up Md 66 0 (0 : Int32)) 66 52 = nI m := by
      rw [ju_cell _ _ (by omega), rdM 66 (by omega) (by omega) (by omega) (by omega)]
      have := e52
      rw [l3 52 (by omega), rN66 52 (by omega) (by omega)] at this
      exact this
    rw [s2 _ (hcc _), Option.bind_some, if_neg (by decide), at16, jg_in (by omega) (by decide), nI_clamp (by omega), ju_row _ _ (show (68 : Nat) ≠ 66 by omega), rdM 68 (by omega) (by omega) (by omega) (by omega), (h2.1 p f hp hf).1, if_neg (nI_nlt hw (by omega)), h52, if_neg (show ¬ nI m = (40 : Int32) from fun e => by have := (nI_eq (b := 40) (by omega) (by omega)).mp e; omega)]
    have l1' : fX12_lays (nI p) (nI f) (nI g) (nI w) (nI fm) (nI pr) (nI pd) (j_up (j_up Md 66 0 (0 : Int32)) 66 50 (0 : Int32)) = some N0 := by rw [← hN1] at l1; exact l1
    have e668 : (j_up (j_up (j_up (j_up (j_up (j_up (j_up N0 96 m (nI p)) 97 m (nI f)) 98 m (nI g)) 99 m (nI w)) 100 m (nI fm)) 101 m (nI pr)) 102 m (nI pd)) 66 8 = M 1 8 := by
      rw [ju_row _ _ (by omega), ju_row _ _ (by omega), ju_row _ _ (by omega), ju_row _ _ (by omega), ju_row _ _ (by omega), ju_row _ _ (by omega), ju_row _ _ (by omega)]; exact e08
    rw [l1', Option.bind_some, e52, em]
    simp only [gm]
    rw [e668, hNa, f1, Option.bind_some]
    show j_g (decide (jm_b01 (bI fr) = bI fr)) ((fX12_rankOf (nI g) (j_up Nb 104 m (bI fr))).bind _) = _
    rw [jg_d (bI_b01 fr), k1, Option.bind_some]
    show fX12_pass_203 100000 (nI p) (nI f) (nI g) (nI w) (nI m) (0 : Int32) (j_up (j_up (j_up (j_up Nc 105 m rv) 106 m (-1 : Int32)) 107 m (jm_b01 ((j_up (j_up Nc 105 m rv) 106 m (-1 : Int32)) 66 29))) 108 m (jm_b01 ((j_up (j_up (j_up Nc 105 m rv) 106 m (-1 : Int32)) 107 m (jm_b01 ((j_up (j_up Nc 105 m rv) 106 m (-1 : Int32)) 66 29))) 66 30))) = _
    rw [e29, bI_b01, e30, bI_b01, hNd]
    refine Eq.trans p1 ?_
    unfold fX12_pass_381
    rw [v1, Option.bind_some, eE52, e1m]
  · -- the invariant again
    generalize hNN : j_up (jr Ne 68 rt) 66 52 (nI (m + 1)) = N
    have ne66 : ∀ a, a ≠ 66 → a ≠ 68 → N a = Ne a := by
      intro a a1 a2
      rw [← hNN, ju_row _ _ a1, jr_ne _ _ a2]
    have n66 : ∀ k, k ≠ 52 → N 66 k = Ne 66 k := by
      intro k hk
      rw [← hNN, ju_cell _ _ hk, jr_ne _ _ (by omega)]
    have nlow : ∀ a, a < 86 → a ≠ 66 → a ≠ 68 → N a = Md a := by
      intro a a1 a2 a3
      rw [ne66 a a2 a3, p2.1 a a1 a2, l2 a a2 (by omega), rN a a2]
    have n66M : ∀ k, k ≠ 0 → (k < 46 ∨ 52 < k) → N 66 k = M 66 k := by
      intro k k1 k2
      rw [n66 k (by omega), p2.2.1 k (by omega), l3 k (by omega), rN66 k k1 (by omega)]
    have nM : ∀ a, a < 86 → a ≠ 0 → (a < 8 ∨ 11 < a) → (a < 15 ∨ 19 < a) → a ≠ 66 → a ≠ 68 → N a = M a := by
      intro a a1 a2 a3 a4 a5 a6
      rw [nlow a a1 a5 a6, rdM a (by omega) a2 a3 a4]
    -- rows 96 and up
    have nP : ∀ a, 95 < a → (a < 109 ∨ 113 < a) → N a = Nd a := fun a a1 a2 => by rw [ne66 a (by omega) (by omega), p4 a a1 a2]
    have ndNc : ∀ a, (a < 105 ∨ 108 < a) → Nd a = Nc a := fun a ha => by rw [← hNd, ju_row _ _ (by omega), ju_row _ _ (by omega), ju_row _ _ (by omega), ju_row _ _ (by omega)]
    have ncNa : ∀ a, 95 < a → a ≠ 104 → Nc a = Na a := fun a a1 a2 => by rw [k2.1 a (by omega) (by omega), ju_row _ _ a2, f2.1 a (by omega) (by omega)]
    have n0Md : ∀ a, 95 < a → N0 a = Md a := fun a a1 => by rw [l2 a (by omega) (by omega), rN a (by omega)]
    have naN0 : ∀ a, (a < 96 ∨ 103 < a) → Na a = N0 a := fun a ha => by
      rw [← hNa, ju_row _ _ (by omega), ju_row _ _ (by omega), ju_row _ _ (by omega), ju_row _ _ (by omega), ju_row _ _ (by omega), ju_row _ _ (by omega), ju_row _ _ (by omega), ju_row _ _ (by omega)]
    have naj : ∀ a j, j ≠ m → Na a j = N0 a j := fun a j hj => by
      rw [← hNa, j_up_ne _ _ (fun e => hj e.2), j_up_ne _ _ (fun e => hj e.2), j_up_ne _ _ (fun e => hj e.2), j_up_ne _ _ (fun e => hj e.2), j_up_ne _ _ (fun e => hj e.2), j_up_ne _ _ (fun e => hj e.2), j_up_ne _ _ (fun e => hj e.2), j_up_ne _ _ (fun e => hj e.2)]
    have ndj : ∀ a j, j ≠ m → Nd a j = Nc a j := fun a j hj => by
      rw [← hNd, j_up_ne _ _ (fun e => hj e.2), j_up_ne _ _ (fun e => hj e.2), j_up_ne _ _ (fun e => hj e.2), j_up_ne _ _ (fun e => hj e.2)]
    have ncj : ∀ a j, 95 < a → j ≠ m → Nc a j = Na a j := fun a j a1 hj => by
      rw [k2.1 a (by omega) (by omega), j_up_ne _ _ (fun e => hj e.2), f2.1 a (by omega) (by omega)]
    have nhi : ∀ a, 113 < a → N a = Md a := fun a ha => by
      rw [nP a (by omega) (by omega), ndNc a (by omega), ncNa a (by omega) (by omega), naN0 a (by omega), n0Md a (by omega)]
    have nrow : ∀ a j, 96 ≤ a → a ≤ 108 → j ≠ m → N a j = M a j := fun a j a1 a2 hj => by
      rw [nP a (by omega) (by omega), ndj a j hj, ncj a j (by omega) hj, naj a j hj, n0Md a (by omega), rdM a (by omega) (by omega) (by omega) (by omega)]
    have nrq : ∀ a j q, 109 ≤ a → a ≤ 113 → j ≠ m → q < 16 → N a (16 * j + q) = M a (16 * j + q) := fun a j q a1 a2 hj hq => by
      rw [ne66 a (by omega) (by omega), p5 a _ a1 a2 (by omega), ndNc a (by omega), ncNa a (by omega) (by omega), naN0 a (by omega), n0Md a (by omega), rdM a (by omega) (by omega) (by omega) (by omega)]
    have ndyn : ∀ a, 137 ≤ a → N a = Mb a := fun a ha => by rw [nhi a (by omega), rd a (by omega), rc a (by omega)]
    have nm : ∀ a v, 96 ≤ a → a ≤ 103 → Na a m = v → N a m = v := fun a v a1 a2 hv => by
      rw [nP a (by omega) (by omega), ndNc a (by omega), ncNa a (by omega) (by omega)]; exact hv
    obtain ⟨e9, dn, hdn, edn⟩ := h9
    have self : vP1 m (N b) (N (b + 1)) (N (b + 2)) (N (b + 3)) (N (b + 4)) (N (b + 5)) N := by
      rw [ndyn b (by omega), ndyn (b + 1) (by omega), ndyn (b + 2) (by omega), ndyn (b + 3) (by omega), ndyn (b + 4) (by omega), ndyn (b + 5) (by omega)]
      have a96 : N 96 m = nI p := nm 96 _ (by omega) (by omega) (by rw [← hNa, ju_row _ _ (by omega), ju_row _ _ (by omega), ju_row _ _ (by omega), ju_row _ _ (by omega), ju_row _ _ (by omega), ju_row _ _ (by omega), ju_row _ _ (by omega), ju_same])
      have a97 : N 97 m = nI f := nm 97 _ (by omega) (by omega) (by rw [← hNa, ju_row _ _ (by omega), ju_row _ _ (by omega), ju_row _ _ (by omega), ju_row _ _ (by omega), ju_row _ _ (by omega), ju_row _ _ (by omega), ju_same])
      have a98 : N 98 m = nI g := nm 98 _ (by omega) (by omega) (by rw [← hNa, ju_row _ _ (by omega), ju_row _ _ (by omega), ju_row _ _ (by omega), ju_row _ _ (by omega), ju_row _ _ (by omega), ju_same])
      have a99 : N 99 m = nI w := nm 99 _ (by omega) (by omega) (by rw [← hNa, ju_row _ _ (by omega), ju_row _ _ (by omega), ju_row _ _ (by omega), ju_row _ _ (by omega), ju_same])
      have a100 : N 100 m = nI fm := nm 100 _ (by omega) (by omega) (by rw [← hNa, ju_row _ _ (by omega), ju_row _ _ (by omega), ju_row _ _ (by omega), ju_same])
      have a101 : N 101 m = nI pr := nm 101 _ (by omega) (by omega) (by rw [← hNa, ju_row _ _ (by omega), ju_row _ _ (by omega), ju_same])
      have a102 : N 102 m = nI pd := nm 102 _ (by omega) (by omega) (by rw [← hNa, ju_row _ _ (by omega), ju_same])
      have a103 : N 103 m = nI dn := nm 103 _ (by omega) (by omega) (by rw [← hNa, ju_same]; exact edn)
      have a104 : N 104 m = bI fr := by rw [nP 104 (by omega) (by omega), ndNc 104 (by omega), k2.1 104 (by omega) (by omega), ju_same]
      have a105 : N 105 m = rv := by rw [nP 105 (by omega) (by omega), ← hNd, ju_row _ _ (by omega), ju_row _ _ (by omega), ju_row _ _ (by omega), ju_same]
      have a106 : N 106 m = -nI 1 := by rw [nP 106 (by omega) (by omega), ← hNd, ju_row _ _ (by omega), ju_row _ _ (by omega), ju_same]; rfl
      have a107 : N 107 m = bI bp := by rw [nP 107 (by omega) (by omega), ← hNd, ju_row _ _ (by omega), ju_same]
      have a108 : N 108 m = bI sh := by rw [nP 108 (by omega) (by omega), ← hNd, ju_same]
      have eka : kaR N0 (nI 0) = lwFf M := ka_ff (r0 75 (by omega) (by omega)) (r0 76 (by omega) (by omega))
      have erank : ∀ l, l < ln → lwFf M l = true → M (X + 3) l = rkR N0 (nI 0) ln l := by
        intro l hlt hff
        have := (hl l hlt).2.2.2.1
        rw [this, if_pos hff]
        unfold rkR
        rw [if_pos hlt, eka]
      have okl : ∀ l, okR (rkR N0 (nI 0) ln l) 18 := by
        intro l
        unfold rkR
        by_cases c : l < ln
        · rw [if_pos c]
          exact Or.inr ⟨_, by have := fb_ct_le (kaR N0 (nI 0)) l; omega, rfl⟩
        · rw [if_neg c]; exact Or.inl rfl
      refine ⟨⟨p, hp, a96, by rw [b7 0 (by omega)]; exact q0⟩, ⟨f, hf, a97, by rw [b7 1 (by omega)]; exact q1⟩, ⟨g, hg, a98, by rw [b7 2 (by omega)]; exact q2⟩, ⟨w, hw1, hw2, a99, by rw [b7 3 (by omega)]; exact q3⟩, ⟨fm, hfm, a100, by rw [b7 4 (by omega)]; exact q4⟩, ⟨pr, hpr, a101, by rw [b7 5 (by omega)]; exact q5⟩, ⟨pd, hpd, a102, by rw [b11]; exact q6⟩, ⟨dn, hdn, a103, by rw [b3]; exact edn⟩, ⟨fr, a104, by rw [b4]; exact j4⟩, ⟨?_, ?_⟩, ⟨by rw [a106, b10], Or.inl a106⟩, ⟨bp, a107, by rw [b6]; exact bp1⟩, sh, a108, fun q hq => ?_⟩
      · rw [a105, b5, ← hrv]
        by_cases c : lf g < ln
        · rw [if_pos c]
          have hqy : qyG M (hN (M 68)) p f fm (nI 0) fb E g (lf g) = true := by
            have c' := c
            rw [← hlf] at c' ⊢
            exact lfG_qy c'
          unfold qyG at hqy
          simp only [Bool.and_eq_true] at hqy
          obtain ⟨⟨⟨⟨u1, u2⟩, -⟩, -⟩, -⟩ := hqy
          rw [ac0] at u2
          exact (erank _ c (by unfold lwFf; unfold kdR at u1; rw [u1, u2]; rfl)).symm
        · rw [if_neg c]
          unfold rkR
          rw [if_neg c]
      · rw [a105, ← hrv]; exact okl _
      · obtain ⟨g1, g2, g3⟩ := b8 q hq
        obtain ⟨i1, i2, i3, i4, i5⟩ := p3 q hq
        have nq : ∀ a, 109 ≤ a → a ≤ 113 → N a (16 * m + q) = Ne a (16 * m + q) := fun a x1 x2 => by rw [ne66 a (by omega) (by omega)]
        rw [ra (X + 3) (by omega)] at g2
        rw [ra (X + 6) (by omega), ra 69 (by omega), ra 70 (by omega), ra 71 (by omega), ra 77 (by omega)] at g3
        rw [r0 79 (by omega) (by omega)] at i2
        rw [r0 69 (by omega) (by omega), r0 70 (by omega) (by omega), r0 71 (by omega) (by omega), r0 77 (by omega) (by omega)] at i3
        refine ⟨?_, ?_, ?_, ?_, ?_, fun hr => ?_⟩
        · rw [nq 109 (by omega) (by omega), i1, g2]
          by_cases c : may q = true
          · rw [if_pos c, if_pos c]
            obtain ⟨x1, x2, x3, x4, x5⟩ := hmayF q hq c
            exact (erank _ x1 x4).symm
          · rw [if_neg c, if_neg c]
        · rw [nq 109 (by omega) (by omega), i1]
          by_cases c : may q = true
          · rw [if_pos c]; exact okl _
          · rw [if_neg c]; exact Or.inl rfl
        · rw [nq 112 (by omega) (by omega), i4, g1]
        · rw [nq 112 (by omega) (by omega), i4]; exact Or.inl rfl
        · rw [nq 113 (by omega) (by omega), i5, b9, bt_zero]; rfl
        · rw [nq 109 (by omega) (by omega), i1] at hr
          have c : may q = true := by
            cases hc : may q with
            | true => rfl
            | false => rw [hc] at hr; exact absurd rfl hr
          obtain ⟨x1, x2, x3, x4, x5⟩ := hmayF q hq c
          obtain ⟨y1, y2⟩ := g3 c
          obtain ⟨d, hd, d1, d2⟩ := hwi _ x1 x3
          have hwl := wt_le (r69 := M 69) (r70 := M 70) (r71 := M 71) hb12 (who := (M 77 (lf q)).toNatClampNeg) (s := f) hp hq
          refine ⟨⟨d, hd, ?_, by rw [y1, d2]⟩, _, x5, hwl, ?_, y2, ?_⟩
          · rw [nq 110 (by omega) (by omega), i2, if_pos c, d1]
          · rw [nq 111 (by omega) (by omega), i3, if_pos c]
          · rw [a98]
            intro e
            exact x2 ((nI_eq (by omega) (by omega)).mp e).symm
    obtain ⟨z1, z2, z3⟩ := ps_new (M2 := N) h13 h16 hm e012 hb h137 (fun a a1 a2 => by rw [ndyn a a1, b2 a (by omega), ra a (by omega)]) nrow nrq self
    have gE : rg pL N = rg pL M := rg_cong (fun a k hp => by
      unfold pL at hp
      simp at hp
      by_cases e : a = 66
      · subst e; rw [n66M k (by omega) (by omega)]
      · rw [nM a (by omega) (by omega) (by omega) (by omega) e (by omega)])
    have gM : rg pM N = rg pM M := rg_cong (fun a k hp => by
      unfold pM at hp
      simp at hp
      rw [nhi a (by omega), rdM a (by omega) (by omega) (by omega) (by omega)])
    have gH : rg pH N = rg pH M := rg_cong (fun a k hp => by
      unfold pH at hp
      simp at hp
      rw [nhi a (by omega), rdM a (by omega) (by omega) (by omega) (by omega)])
    have n012 : N 0 12 = nI (m + 1) := by rw [nlow 0 (by omega) (by omega) (by omega), ← hMd, ju_same]
    have n013 : N 0 13 = M 0 13 := by rw [nlow 0 (by omega) (by omega) (by omega), ← hMd, ju_cell _ _ (by omega), rc 0 (by omega), rb 0 (by omega), ra 0 (by omega)]
    have n52 : N 66 52 = nI (m + 1) := by rw [← hNN, ju_same]
    have n68 : N 68 = rt := by rw [← hNN, ju_row _ _ (by omega), jr_at]
    have n8 : ∀ a, 8 ≤ a → a ≤ 11 → N a = Mc a := fun a a1 a2 => by rw [nlow a (by omega) (by omega) (by omega), rd a (by omega)]
    have mc8 : Mc 8 = t1 ∧ Mc 9 = t2 ∧ Mc 10 = t3 ∧ Mc 11 = t4 := by
      rw [← hMc]
      unfold jr4
      refine ⟨?_, ?_, ?_, ?_⟩
      · rw [jr_ne _ _ (by omega), jr_ne _ _ (by omega), jr_ne _ _ (by omega)]; exact jr_at _ _ _
      · rw [jr_ne _ _ (by omega), jr_ne _ _ (by omega)]; exact jr_at _ _ _
      · rw [jr_ne _ _ (by omega)]; exact jr_at _ _ _
      · exact jr_at _ _ _
    unfold Inv
    rw [gE, gM, gH, n012, n013, n52, n68, n8 8 (by omega) (by omega), n8 9 (by omega) (by omega), n8 10 (by omega) (by omega), n8 11 (by omega) (by omega), mc8.1, mc8.2.1, mc8.2.2.1, mc8.2.2.2, hD1 42 (by omega), hD1 43 (by omega), hD1 31 (by omega), hD1 0 (by omega), hD15, ← y3, nM 1 (by omega) (by omega) (by omega) (by omega) (by omega) (by omega), nM 2 (by omega) (by omega) (by omega) (by omega) (by omega) (by omega), nM 3 (by omega) (by omega) (by omega) (by omega) (by omega) (by omega), nM 4 (by omega) (by omega) (by omega) (by omega) (by omega) (by omega), nM 5 (by omega) (by omega) (by omega) (by omega) (by omega) (by omega), nM 6 (by omega) (by omega) (by omega) (by omega) (by omega) (by omega), nM 12 (by omega) (by omega) (by omega) (by omega) (by omega) (by omega), nM 13 (by omega) (by omega) (by omega) (by omega) (by omega) (by omega), nM 20 (by omega) (by omega) (by omega) (by omega) (by omega) (by omega), nM 28 (by omega) (by omega) (by omega) (by omega) (by omega) (by omega), nM 29 (by omega) (by omega) (by omega) (by omega) (by omega) (by omega), nM 30 (by omega) (by omega) (by omega) (by omega) (by omega) (by omega), nM 33 (by omega) (by omega) (by omega) (by omega) (by omega) (by omega), nM 67 (by omega) (by omega) (by omega) (by omega) (by omega) (by omega), nM 69 (by omega) (by omega) (by omega) (by omega) (by omega) (by omega), nM 70 (by omega) (by omega) (by omega) (by omega) (by omega) (by omega), nM 71 (by omega) (by omega) (by omega) (by omega) (by omega) (by omega), nM 72 (by omega) (by omega) (by omega) (by omega) (by omega) (by omega), nM 73 (by omega) (by omega) (by omega) (by omega) (by omega) (by omega), nM 74 (by omega) (by omega) (by omega) (by omega) (by omega) (by omega), n66M 8 (by omega) (by omega), n66M 9 (by omega) (by omega), n66M 81 (by omega) (by omega), n66M 88 (by omega) (by omega)]
    exact ⟨h1, w1, w2 _ _ _ _ mv2, h4, h5, h6, h7, h8, ⟨e9, dn, hdn, edn⟩, h10, vChg_n h11, h12, z1, z2 _ _ _ _ h14, z3 _ _ _ _ _ (vMk_n (e012 ▸ h15)), vOb_n h16, fun e => absurd e off1, fun e => absurd e off2, fun e => absurd e off3⟩
