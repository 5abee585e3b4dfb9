theorem op_mark {n : Nat} {M : JI} {L : JL} {G D : JG} {S : JS} (h : Inv n M L D S) (hn : n < 4000) (x : Int32) (bk : Bool) : ∃ r M1 L1 G1 D1 S1 M2, fX11_mark x (bI bk) M L G D S = some (r, M1, L1, G1, D1, S1) ∧ fX12_mark x (bI bk) M1 = some (r, M2) ∧ Inv (n + 3) M2 L1 D1 S1 := by
  have hh := h
  obtain ⟨h1, h2, h3, h4, h5, h6, h7, h8, h9, h10, h11, h12, h13, h14, h15, h16, h17, h18, h19⟩ := hh
  have no : fX11_mark x (bI bk) M L G D S = some (nI 0, M, L, G, D, S) → fX12_mark x (bI bk) M = some (nI 0, j_up M 66 0 (nI 0)) → ∃ r M1 L1 G1 D1 S1 M2, fX11_mark x (bI bk) M L G D S = some (r, M1, L1, G1, D1, S1) ∧ fX12_mark x (bI bk) M1 = some (r, M2) ∧ Inv (n + 3) M2 L1 D1 S1 := fun a b => ⟨_, _, _, _, _, _, _, a, b, inv_n (inv_n (inv_thr h _))⟩
  rcases ix_cases x 4 (by omega) with hx | hx | ⟨m, hm, rfl⟩
  · have g : x < 0 := hx
    exact no (by unfold fX11_mark; rw [if_pos g]; rfl) (by unfold fX12_mark fX12_within; rw [if_pos g]; rfl)
  · have g : ¬ x < 0 := ix_nlt hx (by omega) (k := 0) (by omega)
    have g2 : ¬ x < (4 : Int32) := ix_nlt hx (by omega) (k := 4) (by omega)
    have g3 : (3 : Int32) < x := ix_lt hx (by omega) (k := 3) (by omega)
    exact no (by unfold fX11_mark; rw [if_neg g, if_neg g2]; rfl) (by unfold fX12_mark fX12_within; rw [if_neg g, if_pos g3]; rfl)
  · have g : ¬ nI m < (0 : Int32) := nI_pos (by omega)
    have g2 : nI m < (4 : Int32) := nI_lt (b := 4) (by omega) (by omega)
    have g3 : ¬ (3 : Int32) < nI m := nI_nlt (a := 3) (by omega) (by omega)
    have em : (nI m).toNatClampNeg = m := nI_clamp (by omega)
    obtain ⟨l, hl, k0, k66, cP', hcP, ecP, ld, pm, hmk, hord⟩ := h15
    obtain ⟨a1, a2, a3, a4⟩ := hmk m hm
    rw [rgM_at (by omega) (by omega)] at a1
    cases bk with
    | false =>
      cases hd : D 43 m with
      | some b =>
        have hSb : S[b]? = some (5, 6) := by
          rw [(h16.2.2.2.1 (40 + m) b (by omega) (sl43 hm hd)).2.2]; unfold slS; rw [if_neg (by omega), if_pos (by omega)]
        obtain ⟨M1, M2, c1, c2, c3⟩ := mark_lay (G := G) h hm hd
        refine ⟨nI 1, M1, L, G, D, S, M2, ?_, c2, inv_n (inv_n c3)⟩
        unfold fX11_mark
        rw [if_neg g, if_pos g2, if_pos (show bI false = 0 by decide), jg_in hm (by decide), em, hd, jo_s, jg_d hSb, c1]
      | none =>
        have hlen := ob_len h16
        obtain ⟨⟨Mv, Lv, Gv, Dv, Sv⟩, hi, m1, m2, m3, hSv, hz⟩ := mi_eq M L G D S
        replace m1 : ∀ a, a < S.length → Mv a = M a := m1
        replace m2 : ∀ a, a < S.length → Lv a = L a := m2
        replace m3 : ∀ a, a < S.length → Dv a = D a := m3
        replace hSv : Sv = S ++ [(5, 6), (1, 4), (20, 192), (20, 12), (20, 16), (20, 16), (20, 760)] := hSv
        replace hz : Mv S.length 2 = nI 0 := hz
        generalize hT : ([(5, 6), (1, 4), (20, 192), (20, 12), (20, 16), (20, 16), (20, 760)] : JS) = T at hSv
        subst hSv
        have hdv : ∀ a, a < S.length → a ≠ 43 → (j_up Dv 43 m (some S.length)) a = D a := fun a x1 x2 => by rw [ju_row _ _ x2, m3 a x1]
        have hd43 : ∀ k, k ≠ m → (j_up Dv 43 m (some S.length)) 43 k = D 43 k := fun k hk => by rw [ju_cell _ _ hk, m3 43 (by omega)]
        have hdm : (j_up Dv 43 m (some S.length)) 43 m = some S.length := ju_same _ _ _ _
        generalize hDw : j_up Dv 43 m (some S.length) = Dw at hdv hd43 hdm
        have hob : vOb (n + 1) (Dw 42) (Dw 43) (Dw 31) (S ++ T) := by
          refine ob_new h16 (s0 := 40 + m) (by omega) (by rw [← hT, n43 hm]; rfl) (by rw [← hT]; decide) (by rw [← hT]; unfold slS; rw [if_neg (by omega), if_pos (by omega)]; rfl) (sl43 hm hdm) (fun s hs hsm => ?_)
          unfold slA
          rw [hdv 42 (by omega) (by omega), hdv 31 (by omega) (by omega)]
          by_cases c : s < 40
          · rw [if_pos c, if_pos c]
          · rw [if_neg c, if_neg c]
            by_cases c2 : s < 44
            · rw [if_pos c2, if_pos c2, hd43 (s - 40) (by omega)]
            · rw [if_neg c2, if_neg c2]
        have hia : Inv (n + 1) Mv Lv Dw (S ++ T) := inv_al h m1 m2 (hdv 0 (by omega) (by omega)) (hdv 15 (by omega) (by omega)) hob (fun k m' _ _ _ => by rw [hdv 42 (by omega) (by omega)]) (fun k m' _ _ _ => by rw [hdv 31 (by omega) (by omega)]) (fun k hk => by
          by_cases e : k = m
          · subst e
            refine Or.inr ⟨hd, fun b hb => ?_⟩
            rw [hdm] at hb
            cases hb
            exact ⟨hlen, hz⟩
          · exact Or.inl (hd43 k e))
        obtain ⟨M1, M2, c1, c2, c3⟩ := mark_lay (G := Gv) hia hm hdm
        have hSn : (S ++ T)[S.length]? = some (5, 6) := by
          rw [List.getElem?_append_right (Nat.le_refl _), Nat.sub_self, ← hT]; rfl
        refine ⟨nI 1, M1, Lv, Gv, Dw, S ++ T, M2, ?_, c2, inv_n c3⟩
        unfold fX11_mark
        rw [if_neg g, if_pos g2, if_pos (show bI false = 0 by decide), jg_in hm (by decide), em, hd, jo_n, hi, Option.bind_some]
        show j_g (decide ((S ++ T)[S.length]? = some (5, 6))) (j_g (j_in (nI m) 4) (fX11_mark_43 (nI m) Mv Lv Gv (j_up Dv 43 m (some S.length)) (S ++ T))) = _
        rw [jg_d hSn, jg_in hm (by decide), hDw, c1]
    | true =>
      have hno : ld m = 0 → fX12_mark (nI m) (bI true) M = some (nI 0, j_up M 66 0 (nI 0)) := by
        intro hz
        unfold fX12_mark fX12_within
        rw [if_neg g, if_neg g3, Option.bind_some, if_neg (by decide), if_neg (show ¬ bI true = 0 by decide), jg_in hm (by decide), em, ju_row _ _ (by omega), a1, hz, if_pos (by decide)]; rfl
      have hgb : fX11_goBack (nI m) M D S = some (nI 0, M) → fX11_mark (nI m) (bI true) M L G D S = some (nI 0, M, L, G, D, S) := by
        intro hg
        unfold fX11_mark
        rw [if_neg g, if_pos g2, if_neg (show ¬ bI true = 0 by decide), hg, Option.bind_some]
        show j_g (decide (jm_b01 (nI 0) = nI 0)) (some (nI 0, M, L, G, D, S)) = _
        rw [jg_d b01_0]
      cases hd : D 43 m with
      | none =>
        refine no (hgb ?_) (hno (a3 hd))
        unfold fX11_goBack
        rw [jg_in hm (by decide), em, hd, jo_n]; rfl
      | some b =>
        obtain ⟨h137, q2, q3⟩ := a4 b hd
        rw [rgD_at h137] at q2
        have hSb : S[b]? = some (5, 6) := by
          rw [(h16.2.2.2.1 (40 + m) b (by omega) (sl43 hm hd)).2.2]; unfold slS; rw [if_neg (by omega), if_pos (by omega)]
        by_cases hz : ld m = 0
        · refine no (hgb ?_) (hno hz)
          unfold fX11_goBack
          rw [jg_in hm (by decide), em, hd, jo_s, jg_d hSb, q2, hz, if_pos (by decide)]; rfl
        · obtain ⟨M1, M2, c1, c2, c3⟩ := mark_back (G := G) h hn hm hd hl k0 k66 hcP ecP hmk hord hz
          exact ⟨nI 1, M1, L, G, D, S, M2, c1, c2, inv_n (inv_n c3)⟩
