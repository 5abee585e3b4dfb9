def pc3 (fm : Nat) : Nat := fm % 2 + fm / 2 % 2 + fm / 4 % 2
theorem fmb : ∀ fm, fm < 8 → ∀ k, k < 3 → (((nI fm >>> (nI k &&& 31)) &&& (1 : Int32)) = bI (fm.testBit k)) ∧ (nI fm ||| ((1 : Int32) <<< (nI k &&& 31))) = nI (fm ||| 2 ^ k) ∧ fm ||| 2 ^ k < 8 ∧ 0 < fm ||| 2 ^ k ∧ (fm.testBit k = false → pc3 (fm ||| 2 ^ k) = pc3 fm + 1) := by decide +kernel
theorem pc3_le : ∀ fm, fm < 8 → pc3 fm ≤ 3 := by decide +kernel
theorem tk6 : ∀ t, t < 127 → ((nI t - (6 : Int32) < 0) = (t < 6)) ∧ (6 ≤ t → nI t - (6 : Int32) = nI (t - 6)) := by
  intro t ht
  have h := (by decide +kernel : ∀ t, t < 127 → (decide (nI t - (6 : Int32) < 0) = decide (t < 6)) ∧ (6 ≤ t → nI t - (6 : Int32) = nI (t - 6))) t ht
  exact ⟨propext (decide_eq_decide.mp h.1), h.2⟩
theorem j_106 {X : Nat} (hX : X = 44 ∨ X = 55) {D : JG} {S : JS} (d9 : D 12 9 = some X) (sX : S[X]? = some (4, 17)) {tx : Nat → Nat} {m cs q l : Nat} (hl : l < 18) {Lc : JL} : ∀ e fm b (I N : JI) (L : JL), pc3 fm + e = 3 → fm < 8 → (0 < fm ∨ (6 ≤ lT tx m b ∧ lT tx m b < 9)) → LC I tx m b → LR N L tx m b → I X 10 = nI cs → cs ≤ b → N 66 28 = nI (1000 + q) → q ≤ b → I (X + 7) l = nI cs → I (X + 8) l = nI cs → (∃ w, w < 4 ∧ N 77 (18 + l) = nI w ∧ I (X + 4) l = nI w) → N 78 (18 + l) = nI fm → I (X + 5) l = nI fm → ∀ n n', e < n → e < n' → ∃ I' N' L' v, (fX8_readForms_24 n (nI l) (nI (lT tx m b) - (6 : Int32)) (nI (pc3 fm)) I D S).bind (fun q8 => cT3 l q8 Lc D S) = some (I', Lc) ∧ fX12_readsFirst_106 n' (nI (18 + l)) N L = some (v, N', L') ∧ JO X tx m l b cs q (FW X l) I N L I' N' L' v := by
  intro e
  induction e using Nat.strongRecOn with
  | _ e ih =>
    intro fm b I N L hpc h8 hfm hI hN e10 hcs e28 hq e7 e8 hW hf1 hf2 n n' hn hn'
    obtain ⟨n, rfl⟩ := suc_of hn
    obtain ⟨n', rfl⟩ := suc_of hn'
    have hlt : lT tx m b < 127 := lT_lt hI.1
    have hbm0 := hN.2.1
    have hm := hN.1.1
    have hfo := RT_form hN.2.2.2
    obtain ⟨t1, t2⟩ := tk6 _ hlt
    have hp3 := pc3_le fm h8
    have l3 : ¬ (3 : Int32) < nI (pc3 fm) := nI_nlt (a := 3) (b := pc3 fm) (by omega) (by omega) |> fun h => h
    by_cases cf : 6 ≤ lT tx m b ∧ lT tx m b < 9
    · have hk : lT tx m b - 6 < 3 := by omega
      obtain ⟨g1, g2, g3, g4, g5⟩ := fmb fm h8 _ hk
      rw [if_pos cf] at hfo
      have q0 : ¬ nI (lT tx m b - 6) < (0 : Int32) := nI_pos (by omega)
      have q3 : ¬ (3 : Int32) ≤ nI (lT tx m b - 6) := nI_ge (b := 3) (by omega) (by omega)
      have hC0 : fX8_readForms_24 (n + 1) (nI l) (nI (lT tx m b) - (6 : Int32)) (nI (pc3 fm)) I D S = (if bI (fm.testBit (lT tx m b - 6)) = 0 then ((fX8_next (j_up I (X + 5) l (nI (fm ||| 2 ^ (lT tx m b - 6))))).bind (fun q5 => (fX8_readForms_24 n) (nI l) ((q5 12 4) - (6 : Int32)) (nI (pc3 fm) + (1 : Int32)) q5 D S)) else ((fX8_wrong (3 : Int32) I).bind (fun q6 => some (q6)))) := by
        rw [fX8_readForms_24, if_neg l3, t2 cf.1, if_neg q0, if_neg q3, jo_some d9, sX, show decide (some (4, 17) = some ((4, 17) : Nat × Nat)) = true by decide, show ∀ x, j_g true x = x from fun x => rfl, jg_in hl (by decide), nI_clamp (by omega), hf2, g1, jo_some d9, sX, show decide (some (4, 17) = some ((4, 17) : Nat × Nat)) = true by decide, show ∀ x, j_g true x = x from fun x => rfl, jg_in hl (by decide), jg_in hl (by decide), hf2, g2]
      have hR0 : fX12_readsFirst_106 (n' + 1) (nI (18 + l)) N L = (if bI (fm.testBit (lT tx m b - 6)) = 1 then ((fX12_fails (3 : Int32) N).bind (fun q14 => j_g (decide (jm_b01 q14.1 = q14.1)) (some (q14.1, q14.2, L)))) else ((fX12_nextToken (j_up N 78 (18 + l) (nI (fm ||| 2 ^ (lT tx m b - 6)))) L).bind (fun q13 => (fX12_readsFirst_106 n') (nI (18 + l)) q13.1 q13.2))) := by
        rw [fX12_readsFirst_106, hfo, Option.bind_some, if_neg q0, jg_in (show 18 + l < 36 by omega) (by decide), Option.bind_some, nI_clamp (by omega), hf1, g1, jg_in (show 18 + l < 36 by omega) (by decide), Option.bind_some, jg_in (show 18 + l < 36 by omega) (by decide), g2]
      by_cases cb : fm.testBit (lT tx m b - 6) = true
      · rw [cb, if_neg (by decide)] at hC0
        rw [cb, if_pos (show bI true = (1 : Int32) by decide)] at hR0
        have hf : fX12_fails (3 : Int32) N = some (nI 0, j_up N 66 17 (nI (3 + 16 * b))) := LR_fails hN 3
        obtain ⟨I1, c1, c2, c3⟩ := LC_wrong hI (k := 3) (by omega)
        have c1' : fX8_wrong (3 : Int32) I = some I1 := c1
        obtain ⟨I2, d1, d2, d3⟩ := fl_T3 hX d9 sX hl (Lc := Lc) c3
        refine ⟨I2, j_up N 66 17 (nI (3 + 16 * b)), L, nI 0, ?_, ?_, lC_tr (lC_w hX c2) d2, lR_f _, Or.inr ⟨rfl, _, d3, ju_same _ _ _ _⟩⟩
        · rw [hC0, c1', Option.bind_some, Option.bind_some, d1]
        · rw [hR0, hf, Option.bind_some]; rfl
      · have cb' : fm.testBit (lT tx m b - 6) = false := by simpa using cb
        rw [cb', if_pos (show bI false = (0 : Int32) by decide)] at hC0
        rw [cb', if_neg (show ¬ bI false = (1 : Int32) by decide)] at hR0
        have hpc' := g5 cb'
        have hle' := pc3_le _ g3
        have hbm : b < m := lT_33 (tx := tx) (by omega) hbm0
        obtain ⟨n1, n2⟩ := nxB_ok (tx := tx) hbm
        obtain ⟨I1, a1, a2, a3⟩ := LC_next (LC_fr (I' := j_up I (X + 5) l (nI (fm ||| 2 ^ (lT tx m b - 6)))) hI (ju_row _ _ (by omega)) (ju_row _ _ (by omega))) hbm
        obtain ⟨N1, L1, r1, r2, r3⟩ := LR_next (LR_fr (N' := j_up N 78 (18 + l) (nI (fm ||| 2 ^ (lT tx m b - 6)))) hN (ju_row _ _ (by omega)) (fun k _ _ => by rw [ju_row _ _ (by omega)]) rfl) hbm
        rw [a1, Option.bind_some, a3.2.2.2.2.2.1, show nI (pc3 fm) + (1 : Int32) = nI (pc3 (fm ||| 2 ^ (lT tx m b - 6))) by rw [hpc']; exact nI_add _ 1] at hC0
        rw [r1, Option.bind_some] at hR0
        dsimp only at hR0
        have rI : ∀ a, a ≠ 12 → a ≠ X + 5 → I1 a = I a := fun a g1 g2 => by rw [a2.1 a g1, ju_row _ _ g2]
        have rN' : ∀ a, a ≠ 66 → a ≠ 78 → N1 a = N a := fun a g1 g2 => by rw [r2.1 a g1, ju_row _ _ g2]
        obtain ⟨I', N', L', v, x1, x2, x3⟩ := ih (e - 1) (by omega) (fm ||| 2 ^ (lT tx m b - 6)) (nxB tx m b) I1 N1 L1 (by omega) g3 (Or.inl g4) a3 r3 (by rw [rI X (by omega) (by omega)]; exact e10) (by omega) (by rw [r2.2.1 28 (by omega), ju_row _ _ (by omega)]; exact e28) (by omega) (by rw [rI (X + 7) (by omega) (by omega)]; exact e7) (by rw [rI (X + 8) (by omega) (by omega)]; exact e8) (by rw [rI (X + 4) (by omega) (by omega), rN' 77 (by omega) (by omega)]; exact hW) (by rw [r2.1 78 (by omega), ju_same]) (by rw [a2.1 (X + 5) (by omega), ju_same]) n n' (by omega) (by omega)
        refine ⟨I', N', L', v, by rw [hC0, x1], by rw [hR0, x2], JO_pre (lC_tr (lC_u (Or.inr (Or.inl rfl)) hX I _) (lC_w hX (cW_n a2))) (lR_tr (lR_u (by omega) N L _) (lR_n r2)) (rI (X + 10) (by omega) (by omega)) (rN' 83 (by omega) (by omega)) (by omega) x3⟩
    · have hfm' : 0 < fm := by omega
      rw [if_neg cf] at hfo
      have hC0 : fX8_readForms_24 (n + 1) (nI l) (nI (lT tx m b) - (6 : Int32)) (nI (pc3 fm)) I D S = some I := by
        rw [fX8_readForms_24, if_neg l3]
        by_cases c6 : lT tx m b < 6
        · rw [if_pos (by rw [t1]; exact c6)]
        · rw [if_neg (by rw [t1]; exact c6), t2 (by omega), if_pos (show (3 : Int32) ≤ nI (lT tx m b - 6) from nI_le (a := 3) (by omega) (by omega))]
      have hR0 : fX12_readsFirst_106 (n' + 1) (nI (18 + l)) N L = fX12_readsFirst_158 (nI (18 + l)) N L := by
        rw [fX12_readsFirst_106, hfo, Option.bind_some, if_pos (by decide)]
      obtain ⟨I', N', L', v, x1, x2, x3⟩ := j_158 hX d9 sX (Lc := Lc) hI hN e10 hcs e28 hq hl e7 e8 hW hf1 hf2 ⟨hfm', h8⟩
      exact ⟨I', N', L', v, by rw [hC0, Option.bind_some, x1], by rw [hR0, x2], x3⟩
