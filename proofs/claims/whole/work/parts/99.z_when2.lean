/-- what a line's condition leaves -/
def WL (X : Nat) (tx : Nat → Nat) (m l cs q : Nat) (I N : JI) : Prop := ∃ b cf c0, (aR tx m 100 0 0 0 b).1 = 0 ∧ I (X + 7) l = nI cf ∧ I (X + 8) l = nI (cf + (aR tx m 100 0 0 0 b).2.2.1.length) ∧ cf + (aR tx m 100 0 0 0 b).2.2.1.length ≤ cs ∧ seg (I (X + 10)) cf (aR tx m 100 0 0 0 b).2.2.1 ∧ N 81 (18 + l) = nI (1000 + c0) ∧ N 82 (18 + l) = nI (1000 + (c0 + (aR tx m 100 0 0 0 b).2.2.2.1.length)) ∧ c0 + (aR tx m 100 0 0 0 b).2.2.2.1.length ≤ q ∧ seg (N 83) (1000 + c0) (aR tx m 100 0 0 0 b).2.2.2.1 ∧ (jm_b01 (I (X + 9) l) = nI 0 → ∀ k, k ∈ (aR tx m 100 0 0 0 b).2.2.1 → ¬ (10009 ≤ k ∧ k ≤ 10012))
def wC (X l : Nat) (I I' : JI) : Prop := (∀ a, a ≠ 12 → a ≠ X → a ≠ X + 8 → a ≠ X + 9 → a ≠ X + 10 → I' a = I a) ∧ (∀ k, (k < 2 ∨ 6 < k) → I' 12 k = I 12 k) ∧ (∀ k, k ≠ 10 → I' X k = I X k) ∧ ∀ j, j ≠ l → I' (X + 8) j = I (X + 8) j ∧ I' (X + 9) j = I (X + 9) j
def wR (l : Nat) (N N' : JI) (L L' : JL) : Prop := (∀ a, a ≠ 66 → a ≠ 80 → a ≠ 81 → a ≠ 82 → a ≠ 83 → a ≠ 84 → a ≠ 85 → N' a = N a) ∧ (∀ k, (k < 12 ∨ (17 < k ∧ k ≠ 28)) → N' 66 k = N 66 k) ∧ (∀ a, a ≠ 66 → L' a = L a) ∧ (∀ j, j < 1000 → N' 83 j = N 83 j) ∧ ∀ j, j ≠ 18 + l → N' 80 j = N 80 j ∧ N' 81 j = N 81 j ∧ N' 82 j = N 82 j
theorem wC_p {X l : Nat} (hX : X = 44 ∨ X = 55) {I I' : JI} (h : pF X I I') : wC X l I I' := ⟨fun a h1 h2 _ _ h5 => h.1 a h1 h2 h5, h.2.1, h.2.2, fun j _ => ⟨by rw [h.1 (X + 8) (by omega) (by omega) (by omega)], by rw [h.1 (X + 9) (by omega) (by omega) (by omega)]⟩⟩
theorem wC_w {X l : Nat} (hX : X = 44 ∨ X = 55) {I I' : JI} (h : cW I I') : wC X l I I' := wC_p hX (pF_w hX h)
theorem wC_e {X l : Nat} (hX : X = 44 ∨ X = 55) {I I' : JI} (h : ecF X l I I') : wC X l I I' := ⟨fun a _ _ h3 h4 _ => h.1 a h3 h4, fun k _ => by rw [h.1 12 (by omega) (by omega)], fun k _ => by rw [h.1 X (by omega) (by omega)], h.2⟩
theorem wC_tr {X l : Nat} {I I' I'' : JI} (h : wC X l I I') (h' : wC X l I' I'') : wC X l I I'' := ⟨fun a h1 h2 h3 h4 h5 => (h'.1 a h1 h2 h3 h4 h5).trans (h.1 a h1 h2 h3 h4 h5), fun k hk => (h'.2.1 k hk).trans (h.2.1 k hk), fun k hk => (h'.2.2.1 k hk).trans (h.2.2.1 k hk), fun j hj => ⟨(h'.2.2.2 j hj).1.trans (h.2.2.2 j hj).1, (h'.2.2.2 j hj).2.trans (h.2.2.2 j hj).2⟩⟩
theorem wR_f {l : Nat} {N N' : JI} {L L' : JL} (h : rF N N' L L') : wR l N N' L L' := ⟨fun a h1 _ _ _ h5 h6 h7 => h.1 a h1 h5 h6 h7, h.2.1, h.2.2.1, h.2.2.2, fun j _ => ⟨by rw [h.1 80 (by omega) (by omega) (by omega) (by omega)], by rw [h.1 81 (by omega) (by omega) (by omega) (by omega)], by rw [h.1 82 (by omega) (by omega) (by omega) (by omega)]⟩⟩
theorem wR_tr {l : Nat} {N N' N'' : JI} {L L' L'' : JL} (h : wR l N N' L L') (h' : wR l N' N'' L' L'') : wR l N N'' L L'' := ⟨fun a h1 h2 h3 h4 h5 h6 h7 => (h'.1 a h1 h2 h3 h4 h5 h6 h7).trans (h.1 a h1 h2 h3 h4 h5 h6 h7), fun k hk => (h'.2.1 k hk).trans (h.2.1 k hk), fun a ha => (h'.2.2.1 a ha).trans (h.2.2.1 a ha), fun j hj => (h'.2.2.2.1 j hj).trans (h.2.2.2.1 j hj), fun j hj => ⟨(h'.2.2.2.2 j hj).1.trans (h.2.2.2.2 j hj).1, (h'.2.2.2.2 j hj).2.1.trans (h.2.2.2.2 j hj).2.1, (h'.2.2.2.2 j hj).2.2.trans (h.2.2.2.2 j hj).2.2⟩⟩
theorem wR_u {l a : Nat} (ha : a = 80 ∨ a = 81 ∨ a = 82) (N : JI) (L : JL) (v : Int32) : wR l N (j_up N a (18 + l) v) L L := by
  refine ⟨fun a' h1 h2 h3 h4 _ _ _ => ju_row _ _ (by omega), fun k _ => by rw [ju_row _ _ (by omega)], fun _ _ => rfl, fun j _ => by rw [ju_row _ _ (by omega)], fun j hj => ?_⟩
  have g : ∀ a', j_up N a (18 + l) v a' j = N a' j := fun a' => by
    by_cases c : a' = a
    · rw [c, ju_cell _ _ hj]
    · rw [ju_row _ _ c]
  exact ⟨g 80, g 81, g 82⟩
theorem wR_85 {l : Nat} (N : JI) (L : JL) (j : Nat) (v : Int32) : wR l N (j_up N 85 j v) L L := ⟨fun a' _ _ _ _ _ _ h7 => ju_row _ _ h7, fun k _ => by rw [ju_row _ _ (by omega)], fun _ _ => rfl, fun j _ => by rw [ju_row _ _ (by omega)], fun j _ => ⟨by rw [ju_row _ _ (by omega)], by rw [ju_row _ _ (by omega)], by rw [ju_row _ _ (by omega)]⟩⟩
theorem ec_any {X l c a : Nat} {I : JI} (hl : l < 18) (hc : c ≤ 1000) (ha : a ≤ 1000) (e10 : I X 10 = nI c) (e7 : I (X + 7) l = nI a) : ∃ I', fX4_endCondition X (nI l) I = some I' ∧ ecF X l I I' := by
  by_cases h : a ≤ c
  · obtain ⟨I', h1, h2, -, -⟩ := ec_eq hl hc h e10 e7
    exact ⟨I', h1, h2⟩
  · refine ⟨j_up I (X + 8) l (nI c), ?_, fun r r1 r2 => ju_row _ _ r1, fun j hj => ⟨ju_cell _ _ hj, by rw [ju_row _ _ (by omega)]⟩⟩
    unfold fX4_endCondition
    rw [jg_in hl (by decide), jg_in hl (by decide), nI_clamp (by omega), e10, ju_row _ _ (show X + 7 ≠ X + 8 by omega), e7]
    show fX4_endCondition_17 X (99999 + 1) _ _ _ = _
    rw [fX4_endCondition_17, ju_row _ _ (show X ≠ X + 8 by omega), e10, if_pos (nI_le (by omega) (by omega))]
/-- the class behind a fault reads a condition -/
theorem fl_when {X : Nat} (hX : X = 44 ∨ X = 55) {D : JG} {S : JS} (d9 : D 12 9 = some X) (sX : S[X]? = some (4, 17)) {tx : Nat → Nat} {m f l c a : Nat} {I : JI} {Lc : JL} (h : FL I tx m f) (hl : l < 18) (e10 : I X 10 = nI c) (hc : c ≤ 1000) (e7 : I (X + 7) l = nI a) (ha : a ≤ 1000) : ∃ I' c', fX8_readRule_95 (nI l) I Lc D S = some (I', Lc) ∧ wC X l I I' ∧ FL I' tx m f ∧ I' X 10 = nI c' ∧ c' ≤ 1000 := by
  obtain ⟨I1, a1, a2, a3⟩ := want_fl h (k := 24) (by omega) (by omega)
  obtain ⟨I2, c2, b1, b2, b3, b4, b5⟩ := fl_sim hX d9 sX 100 0 0 0 (by rw [need_0]; omega) (Or.inl ⟨rfl, by omega⟩) (by omega) (by omega) I1 f c a3 (by rw [a2.1 X (by omega)]; exact e10) hc
  obtain ⟨I3, d1, d2⟩ := ec_any (X := X) (a := a) hl b5 ha b4 (by rw [b2.1 (X + 7) (by omega) (by omega) (by omega), a2.1 (X + 7) (by omega)]; exact e7)
  obtain ⟨I4, f1, f2, f3⟩ := want_fl (FL_fr b3 (d2.1 12 (by omega) (by omega)) (d2.1 13 (by omega) (by omega))) (k := 59) (by omega) (by omega)
  have a1' : fX8_want (24 : Int32) I = some I1 := a1
  have b1' : fX8_readLevel (0 : Int32) (0 : Int32) I1 D S = some I2 := b1
  have f1' : fX8_want (59 : Int32) I3 = some I4 := f1
  refine ⟨I4, c2, ?_, wC_tr (wC_w hX a2) (wC_tr (wC_p hX b2) (wC_tr (wC_e hX d2) (wC_w hX f2))), f3, ?_, b5⟩
  · unfold fX8_readRule_95
    rw [a1', Option.bind_some, b1', Option.bind_some, jo_some d9, sX, show decide (some (4, 17) = some ((4, 17) : Nat × Nat)) = true by decide, show ∀ x, j_g true x = x from fun x => rfl, d1, Option.bind_some, f1', Option.bind_some]
  · rw [f2.1 X (by omega), d2.1 X (by omega) (by omega)]; exact b4
/-- both read a condition -/
theorem j_when {X : Nat} (hX : X = 44 ∨ X = 55) {D : JG} {S : JS} (d9 : D 12 9 = some X) (sX : S[X]? = some (4, 17)) {tx : Nat → Nat} {m b cs q l : Nat} {I N : JI} {L Lc : JL} (hI : LC I tx m b) (hN : LR N L tx m b) (e10 : I X 10 = nI cs) (hcs : cs ≤ b) (e28 : N 66 28 = nI (1000 + q)) (hq : q ≤ b) (hl : l < 18) (e7 : I (X + 7) l = nI cs) : ∃ I' N' L' v, fX8_readRule_95 (nI l) I Lc D S = some (I', Lc) ∧ fX12_readsWhen (nI (18 + l)) N L = some (v, N', L') ∧ wC X l I I' ∧ wR l N N' L L' ∧ ((v = nI 1 ∧ ∃ b' cs' q', b < b' ∧ LC I' tx m b' ∧ LR N' L' tx m b' ∧ I' X 10 = nI cs' ∧ (cs ≤ cs' ∧ cs' ≤ b') ∧ N' 66 28 = nI (1000 + q') ∧ (q ≤ q' ∧ q' ≤ b') ∧ (∀ j, j < cs → I' (X + 10) j = I (X + 10) j) ∧ (∀ j, j < 1000 + q → N' 83 j = N 83 j) ∧ N' 80 (18 + l) = nI 1 ∧ WL X tx m l cs' q' I' N') ∨ (v = nI 0 ∧ ∃ f, FL I' tx m f ∧ N' 66 17 = nI f)) := by
  have hm := hN.1.1
  have hbm0 := hN.2.1
  obtain ⟨-, -, -, -, -, -, -, -, -, -, -, -, -, -, -, -, -, -, -, -, -, -, -, -, k24, -⟩ := kc_val
  have w24 : fX12_isWord (458690 : Int64) N L = some (bI (decide (lT tx m b = 24))) := by have := RT_word hN.2.2.2 (k := 24) (by omega); rw [k24] at this; exact this
  have hlt : lT tx m b < 127 := lT_lt hI.1
  obtain ⟨I1, a1, a2, a3⟩ := want_eq hI (by omega) hlt (k := 24) (by omega) (by omega)
  have a1' : fX8_want (24 : Int32) I = some I1 := a1
  by_cases c24 : lT tx m b = 24
  · have hbm : b < m := lT_33 (tx := tx) (by omega) hbm0
    obtain ⟨n1, n2⟩ := nxB_ok (tx := tx) hbm
    have a4 : LC I1 tx m (nxB tx m b) := by
      rcases a3 with ⟨-, h⟩ | ⟨h, -⟩
      · exact h
      · exact absurd c24 h
    obtain ⟨N1, L1, r1, r2, r3⟩ := LR_next hN hbm
    have hex := fun h => aR_ex (tx := tx) hm 100 0 0 (nxB tx m b) (by omega) n2 h
    have hps := fun h => aR_pos (tx := tx) (m := m) 100 0 0 0 (nxB tx m b) n2 h
    obtain ⟨I2, b1, b2, b3, b4⟩ := cs_sim hX d9 sX (tx := tx) (m := m) 100 0 0 0 (by rw [need_0]; omega) (Or.inl ⟨rfl, by omega⟩) (by omega) (by omega) (nxB tx m b) I1 cs a4 (by rw [a2.1 X (by omega)]; exact e10) (by omega)
    have b1' : fX8_readLevel (0 : Int32) (0 : Int32) I1 D S = some I2 := b1
    have e28' : N1 66 28 = nI (1000 + q) := by rw [r2.2.1 28 (by omega)]; exact e28
    have hW1 : wR l N (j_up (j_up (j_up N1 80 (18 + l) (nI 1)) 81 (18 + l) (nI (1000 + q))) 85 0 (nI 0)) L L1 := wR_tr (wR_f (rF_n r2)) (wR_tr (wR_u (Or.inl rfl) N1 L1 (nI 1)) (wR_tr (wR_u (Or.inr (Or.inl rfl)) _ L1 _) (wR_85 _ L1 0 _)))
    have hLR2 : LR (j_up (j_up (j_up N1 80 (18 + l) (nI 1)) 81 (18 + l) (nI (1000 + q))) 85 0 (nI 0)) L1 tx m (nxB tx m b) := LR_fr r3 (by rw [ju_row _ _ (by omega), ju_row _ _ (by omega), ju_row _ _ (by omega)]) (fun k _ _ => by rw [ju_row _ _ (by omega), ju_row _ _ (by omega), ju_row _ _ (by omega)]) rfl
    have hs := rs_sim (tx := tx) hm 100 0 0 0 (by rw [need_0]; omega) (Or.inl ⟨rfl, by omega⟩) (by omega) (by omega) 0 rfl (fun _ => 0) (nxB tx m b) _ L1 q hLR2 (by rw [ju_row _ _ (by omega), ju_row _ _ (by omega), ju_row _ _ (by omega)]; exact e28') (by omega) (fun j j1 j2 => absurd j1 (by omega)) (fun _ => rfl) (fun _ _ => ju_same _ _ _ _)
    have hR0 : fX12_readsWhen (nI (18 + l)) N L = (fX12_reads_11 100000 (nI 0) (nI 1) (j_up (j_up (j_up N1 80 (18 + l) (nI 1)) 81 (18 + l) (nI (1000 + q))) 85 0 (nI 0)) L1).bind (fun q3 => if q3.1 = 0 then (some ((0 : Int32), q3.2.1, q3.2.2)) else (some ((1 : Int32), (j_up q3.2.1 82 (18 + l) (q3.2.1 66 28)), q3.2.2))) := by
      unfold fX12_readsWhen fX12_reads
      rw [w24, decide_eq_true c24, Option.bind_some, if_neg (show ¬ bI true = (0 : Int32) by decide), r1, Option.bind_some, jg_in (show 18 + l < 36 by omega) (by decide), jg_in (show 18 + l < 36 by omega) (by decide), nI_clamp (by omega)]
      dsimp only
      rw [ju_row _ _ (show (66 : Nat) ≠ 80 by omega), e28', show (0 : Int32) = nI 0 from rfl, show (1 : Int32) = nI 1 from rfl, jg_in (show 0 < 7 by omega) (by decide), nI_clamp (show 0 < 2 ^ 31 by omega)]
      congr 1
      funext q3
      rw [jg_in (show 18 + l < 36 by omega) (by decide)]
    obtain ⟨r, hr⟩ : ∃ r, r = aR tx m 100 0 0 0 (nxB tx m b) := ⟨_, rfl⟩
    rw [← hr] at hex hps b3 b4 hs
    have hwl : ∀ (I' N' : JI), r.1 = 0 → I' (X + 7) l = nI cs → I' (X + 8) l = nI (cs + r.2.2.1.length) → seg (I' (X + 10)) cs r.2.2.1 → N' 81 (18 + l) = nI (1000 + q) → N' 82 (18 + l) = nI (1000 + (q + r.2.2.2.1.length)) → seg (N' 83) (1000 + q) r.2.2.2.1 → (jm_b01 (I' (X + 9) l) = nI 0 → ∀ k, k ∈ r.2.2.1 → ¬ (10009 ≤ k ∧ k ≤ 10012)) → WL X tx m l (cs + r.2.2.1.length) (q + r.2.2.2.1.length) I' N' := by
      intro I' N' g1 g2 g3 g5 g6 g7 g9 g10
      rw [hr] at g1 g3 g5 g7 g9 g10
      rw [hr]
      exact ⟨nxB tx m b, cs, q, g1, g2, g3, Nat.le_refl _, g5, g6, g7, Nat.le_refl _, g9, g10⟩
    clear hr
    by_cases r0 : r.1 = 0
    · obtain ⟨N3, L3, s1, ⟨u1, u2, u3, u4, u5, u6, u7⟩, s3⟩ := hs.1 r0
      obtain ⟨p1, p2, p3, p4, p5⟩ := hps r0
      obtain ⟨g1, g2, g3, g4⟩ := b3 r0
      have hex' := hex r0
      clear b3 b4 hs hps hex
      rw [if_pos ⟨rfl, by omega⟩] at s3
      have hlev : lev (lT tx m r.2.1) = 4 ∨ (lev (lT tx m r.2.1) = 1 ∧ N3 85 0 = nI 1) := by
        by_cases cl : lev (lT tx m r.2.1) < 4
        · obtain ⟨e1, e2⟩ := hex' _ (Nat.zero_le _) cl rfl
          exact Or.inr ⟨e1, by rw [s3, e2]; rfl⟩
        · exact Or.inl (by have := lev_le (lT tx m r.2.1); omega)
      clear hex'
      have e7' : I2 (X + 7) l = nI cs := by rw [b2.1 (X + 7) (by omega) (by omega) (by omega), a2.1 (X + 7) (by omega)]; exact e7
      obtain ⟨I3, d1, d2, d3, d4⟩ := ec_eq (X := X) hl (show cs + r.2.2.1.length ≤ 1000 by omega) (by omega) g2 e7'
      have hI3 : LC I3 tx m r.2.1 := LC_fr g1 (d2.1 12 (by omega) (by omega)) (d2.1 13 (by omega) (by omega))
      obtain ⟨I4, f1, f2, f3⟩ := want_eq hI3 (by omega) (lT_lt hI3.1) (k := 59) (by omega) (by omega)
      have f1' : fX8_want (59 : Int32) I3 = some I4 := f1
      have hC : fX8_readRule_95 (nI l) I Lc D S = some (I4, Lc) := by
        unfold fX8_readRule_95
        rw [a1', Option.bind_some, b1', Option.bind_some, jo_some d9, sX, show decide (some (4, 17) = some ((4, 17) : Nat × Nat)) = true by decide, show ∀ x, j_g true x = x from fun x => rfl, d1, Option.bind_some, f1', Option.bind_some]
      have hCw : wC X l I I4 := wC_tr (wC_w hX a2) (wC_tr (wC_p hX b2) (wC_tr (wC_e hX d2) (wC_w hX f2)))
      have hfu : (100000 : Nat) = (99999 - r.2.2.2.1.length + 1) + r.2.2.2.1.length := by omega
      by_cases c59 : lT tx m r.2.1 = 59
      · have hq2 : r.2.1 < m := lT_33 (tx := tx) (by omega) p2
        obtain ⟨n3, n4⟩ := nxB_ok (tx := tx) hq2
        obtain ⟨N4, L4, y1, y2, y3⟩ := (r_end u2 hlev).1 c59
        clear hlev
        have hI4 : LC I4 tx m (nxB tx m r.2.1) := by
          rcases f3 with ⟨-, h⟩ | ⟨h, -⟩
          · exact h
          · exact absurd c59 h
        have z28 : N4 66 28 = nI (1000 + (q + r.2.2.2.1.length)) := by rw [y2.2.1 28 (by omega)]; exact u3
        have hR : fX12_readsWhen (nI (18 + l)) N L = some (nI 1, j_up N4 82 (18 + l) (nI (1000 + (q + r.2.2.2.1.length))), L4) := by
          rw [hR0, hfu, s1]
          show (fX12_reads_11 (99999 - r.2.2.2.1.length + 1) (nI 0) (nI 0) N3 L3).bind _ = _
          rw [y1, Option.bind_some]
          dsimp only
          rw [if_neg (by decide), z28]; rfl
        refine ⟨I4, j_up N4 82 (18 + l) (nI (1000 + (q + r.2.2.2.1.length))), L4, nI 1, hC, hR, hCw, wR_tr hW1 (wR_tr (wR_f (rF_tr u1 (rF_n y2))) (wR_u (Or.inr (Or.inr rfl)) N4 L4 _)), Or.inl ⟨rfl, nxB tx m r.2.1, cs + r.2.2.1.length, q + r.2.2.2.1.length, by omega, hI4, LR_fr y3 (ju_row _ _ (by omega)) (fun k _ _ => by rw [ju_row _ _ (by omega)]) rfl, ?_, by omega, ?_, by omega, fun j hj => ?_, fun j hj => ?_, ?_, ?_⟩⟩
        · rw [f2.1 X (by omega), d2.1 X (by omega) (by omega)]; exact g2
        · rw [ju_row _ _ (by omega)]; exact z28
        · rw [f2.1 (X + 10) (by omega), d2.1 (X + 10) (by omega) (by omega), g4 j hj, a2.1 (X + 10) (by omega)]
        · rw [ju_row _ _ (by omega), y2.1 83 (by omega), u5 j hj, ju_row _ _ (by omega), ju_row _ _ (by omega), ju_row _ _ (by omega), r2.1 83 (by omega)]
        · rw [ju_row _ _ (by omega), y2.1 80 (by omega), u1.1 80 (by omega) (by omega) (by omega) (by omega), ju_row _ _ (by omega), ju_row _ _ (by omega), ju_same]
        · refine hwl I4 _ r0 ?_ ?_ ?_ ?_ ?_ ?_ (fun hb k hk => ?_)
          · rw [f2.1 (X + 7) (by omega), d2.1 (X + 7) (by omega) (by omega)]; exact e7'
          · rw [f2.1 (X + 8) (by omega)]; exact d3
          · rw [f2.1 (X + 10) (by omega), d2.1 (X + 10) (by omega) (by omega)]; exact g3
          · rw [ju_row _ _ (by omega), y2.1 81 (by omega), u1.1 81 (by omega) (by omega) (by omega) (by omega), ju_row _ _ (by omega), ju_same]
          · rw [ju_same]
          · rw [ju_row _ _ (by omega), y2.1 83 (by omega)]; exact u4
          · rw [f2.1 (X + 9) (by omega)] at hb
            obtain ⟨j, j1, j2, j3⟩ := seg_mem _ _ _ g3 hk
            have h1 := d4 hb j j1 j2
            rw [j3] at h1
            intro hk2
            exact h1 ⟨nI_le (a := 10009) (by omega) (by omega), nI_le (b := 10012) (by omega) (by omega)⟩
      · have x2 := (r_end u2 hlev).2 c59
        have hI4 : FL I4 tx m (1 + 16 * r.2.1) := by
          rcases f3 with ⟨h, -⟩ | ⟨-, h⟩
          · exact absurd h c59
          · exact h
        have hR : fX12_readsWhen (nI (18 + l)) N L = some (nI 0, j_up N3 66 17 (nI (1 + 16 * r.2.1)), L3) := by
          rw [hR0, hfu, s1]
          show (fX12_reads_11 (99999 - r.2.2.2.1.length + 1) (nI 0) (nI 0) N3 L3).bind _ = _
          rw [x2, Option.bind_some]
          dsimp only
          rw [if_pos (show nI 0 = (0 : Int32) from rfl)]; rfl
        exact ⟨I4, j_up N3 66 17 (nI (1 + 16 * r.2.1)), L3, nI 0, hC, hR, hCw, wR_tr hW1 (wR_f (rF_tr u1 (rF_w _))), Or.inr ⟨rfl, 1 + 16 * r.2.1, hI4, ju_same _ _ _ _⟩⟩
    · obtain ⟨N3, L3, s1, s2, s3⟩ := hs.2 r0
      obtain ⟨g1, c2, g2, g3⟩ := b4 r0
      clear b3 b4 hs hps hex
      obtain ⟨I3, d1, d2⟩ := ec_any (X := X) (a := cs) hl g2 (by omega) g3 (by rw [b2.1 (X + 7) (by omega) (by omega) (by omega), a2.1 (X + 7) (by omega)]; exact e7)
      obtain ⟨I4, f1, f2, f3⟩ := want_fl (FL_fr g1 (d2.1 12 (by omega) (by omega)) (d2.1 13 (by omega) (by omega))) (k := 59) (by omega) (by omega)
      have f1' : fX8_want (59 : Int32) I3 = some I4 := f1
      have hC : fX8_readRule_95 (nI l) I Lc D S = some (I4, Lc) := by
        unfold fX8_readRule_95
        rw [a1', Option.bind_some, b1', Option.bind_some, jo_some d9, sX, show decide (some (4, 17) = some ((4, 17) : Nat × Nat)) = true by decide, show ∀ x, j_g true x = x from fun x => rfl, d1, Option.bind_some, f1', Option.bind_some]
      have hR : fX12_readsWhen (nI (18 + l)) N L = some (nI 0, N3, L3) := by
        rw [hR0, s3 100000 (by omega), Option.bind_some]
        dsimp only
        rw [if_pos (show nI 0 = (0 : Int32) from rfl)]; rfl
      exact ⟨I4, N3, L3, nI 0, hC, hR, wC_tr (wC_w hX a2) (wC_tr (wC_p hX b2) (wC_tr (wC_e hX d2) (wC_w hX f2))), wR_tr hW1 (wR_f s1), Or.inr ⟨rfl, r.1, f3, s2⟩⟩
  · have a4 : FL I1 tx m (1 + 16 * b) := by
      rcases a3 with ⟨h, -⟩ | ⟨-, h⟩
      · exact absurd h c24
      · exact h
    obtain ⟨I2, c2, b1, b2, b3, b4, b5⟩ := fl_sim hX d9 sX 100 0 0 0 (by rw [need_0]; omega) (Or.inl ⟨rfl, by omega⟩) (by omega) (by omega) I1 (1 + 16 * b) cs a4 (by rw [a2.1 X (by omega)]; exact e10) (by omega)
    obtain ⟨I3, d1, d2⟩ := ec_any (X := X) (a := cs) hl b5 (by omega) b4 (by rw [b2.1 (X + 7) (by omega) (by omega) (by omega), a2.1 (X + 7) (by omega)]; exact e7)
    obtain ⟨I4, f1, f2, f3⟩ := want_fl (FL_fr b3 (d2.1 12 (by omega) (by omega)) (d2.1 13 (by omega) (by omega))) (k := 59) (by omega) (by omega)
    have b1' : fX8_readLevel (0 : Int32) (0 : Int32) I1 D S = some I2 := b1
    have f1' : fX8_want (59 : Int32) I3 = some I4 := f1
    have hf : fX12_fails (1 : Int32) N = some (nI 0, j_up N 66 17 (nI (1 + 16 * b))) := LR_fails hN 1
    refine ⟨I4, j_up N 66 17 (nI (1 + 16 * b)), L, nI 0, ?_, ?_, wC_tr (wC_w hX a2) (wC_tr (wC_p hX b2) (wC_tr (wC_e hX d2) (wC_w hX f2))), wR_f (rF_w _), Or.inr ⟨rfl, 1 + 16 * b, f3, ju_same _ _ _ _⟩⟩
    · unfold fX8_readRule_95
      rw [a1', Option.bind_some, b1', Option.bind_some, jo_some d9, sX, show decide (some (4, 17) = some ((4, 17) : Nat × Nat)) = true by decide, show ∀ x, j_g true x = x from fun x => rfl, d1, Option.bind_some, f1', Option.bind_some]
    · unfold fX12_readsWhen
      rw [w24, decide_eq_false c24, Option.bind_some, if_pos (show bI false = (0 : Int32) by decide), hf, Option.bind_some]; rfl
