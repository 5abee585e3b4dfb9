/-! ===== the class reads a condition ===== -/
def pF (X : Nat) (I I' : JI) : Prop := (∀ a, a ≠ 12 → a ≠ X → a ≠ X + 10 → I' a = I a) ∧ (∀ k, (k < 2 ∨ 6 < k) → I' 12 k = I 12 k) ∧ ∀ k, k ≠ 10 → I' X k = I X k
theorem pF_rfl (X : Nat) (I : JI) : pF X I I := ⟨fun _ _ _ _ => rfl, fun _ _ => rfl, fun _ _ => rfl⟩
theorem pF_tr {X : Nat} {I I' I'' : JI} (h : pF X I I') (h' : pF X I' I'') : pF X I I'' := ⟨fun a h1 h2 h3 => (h'.1 a h1 h2 h3).trans (h.1 a h1 h2 h3), fun k hk => (h'.2.1 k hk).trans (h.2.1 k hk), fun k hk => (h'.2.2 k hk).trans (h.2.2 k hk)⟩
theorem pF_w {X : Nat} (hX : X = 44 ∨ X = 55) {I I' : JI} (h : cW I I') : pF X I I' := ⟨fun a h1 _ _ => h.1 a h1, h.2, fun k _ => by rw [h.1 X (by omega)]⟩
theorem LC_fr {I I' : JI} {tx : Nat → Nat} {m b : Nat} (h : LC I tx m b) (h12 : I' 12 = I 12) (h13 : I' 13 = I 13) : LC I' tx m b := by
  unfold LC at h ⊢
  rw [h12, h13]; exact h
theorem FL_fr {I I' : JI} {tx : Nat → Nat} {m f : Nat} (h : FL I tx m f) (h12 : I' 12 = I 12) (h13 : I' 13 = I 13) : FL I' tx m f := by
  unfold FL at h ⊢
  rw [h12, h13]; exact h
theorem ac_eq {X : Nat} {I : JI} {c : Nat} (hc : c < 1000) (e : I X 10 = nI c) (v : Int32) : fX4_addCode X v I = some (j_up (j_up I (X + 10) c v) X 10 (nI (c + 1))) := by
  unfold fX4_addCode
  have c1 : ¬ (1000 : Int32) ≤ nI c := nI_ge (b := 1000) hc (by omega)
  rw [e, if_neg c1, jg_in hc (by decide), nI_clamp (by omega), ju_row _ _ (show X ≠ X + 10 by omega), e, show nI c + (1 : Int32) = nI (c + 1) from nI_add _ 1]
theorem ac_fl {X : Nat} (hX : X = 44 ∨ X = 55) {I : JI} {tx : Nat → Nat} {m f c : Nat} (h : FL I tx m f) (hc : c ≤ 1000) (e : I X 10 = nI c) (v : Int32) : ∃ I' c', fX4_addCode X v I = some I' ∧ pF X I I' ∧ FL I' tx m f ∧ I' X 10 = nI c' ∧ c' ≤ 1000 := by
  by_cases c1 : c < 1000
  · refine ⟨_, c + 1, ac_eq c1 e v, ⟨fun a h1 h2 h3 => by rw [ju_row _ _ h2, ju_row _ _ h3], fun k _ => by rw [ju_row _ _ (by omega), ju_row _ _ (by omega)], fun k hk => by rw [ju_cell _ _ hk, ju_row _ _ (by omega)]⟩, FL_fr h (by rw [ju_row _ _ (by omega), ju_row _ _ (by omega)]) (by rw [ju_row _ _ (by omega), ju_row _ _ (by omega)]), ju_same _ _ _ _, by omega⟩
  · refine ⟨I, c, ?_, pF_rfl X I, h, e, hc⟩
    unfold fX4_addCode
    have c2 : (1000 : Int32) ≤ nI c := nI_le (a := 1000) (by omega) (by omega)
    rw [e, if_pos c2]
theorem lev_eq : ∀ t, t < 127 → fX8_levelOf (nI t) = some (nI (lev t)) := by decide +kernel
theorem lev_33 : lev 33 = 4 := by decide
theorem fl_sim {X : Nat} (hX : X = 44 ∨ X = 55) {D : JG} {S : JS} (d9 : D 12 9 = some X) (sX : S[X]? = some (4, 17)) {tx : Nat → Nat} {m : Nat} : ∀ z w x y, need w x y ≤ z → ((w = 0 ∧ x ≤ 4) ∨ w = 1) → x ≤ 5 → y ≤ 5 → ∀ I f c, FL I tx m f → I X 10 = nI c → c ≤ 1000 → ∃ I' c', fX8_rec z (nI w) (nI x) (nI y) I D S = some I' ∧ pF X I I' ∧ FL I' tx m f ∧ I' X 10 = nI c' ∧ c' ≤ 1000 := by
  intro z
  induction z with
  | zero =>
    intro w x y hz hw hx5 hy
    exfalso
    unfold need at hz
    split at hz <;> omega
  | succ z ih =>
    intro w x y hz hw hx5 hy I f c hF e10 hc
    have h4 : I 12 4 = nI 33 := hF.2.2.2.1
    rcases hw with ⟨rfl, hx⟩ | rfl
    · rw [fX8_rec, if_pos (show nI 0 = (0 : Int32) from rfl)]
      unfold fX8_readLevel_b
      unfold need at hz
      rw [if_pos rfl] at hz
      by_cases cx : x < 4
      · have cx' : nI x < (4 : Int32) := nI_lt (b := 4) cx (by omega)
        obtain ⟨I1, c1, a1, a2, a3, a4, a5⟩ := ih 0 (x + 1) y (by unfold need; rw [if_pos rfl]; omega) (Or.inl ⟨rfl, by omega⟩) (by omega) hy I f c hF e10 hc
        have a1' : fX8_rec z (0 : Int32) (nI x + (1 : Int32)) (nI y) I D S = some I1 := by
          rw [show nI x + (1 : Int32) = nI (x + 1) from nI_add _ 1]; exact a1
        have h41 : I1 12 4 = nI 33 := a3.2.2.2.1
        have hl : ∀ l3 : Int32, ¬ l3 ≤ (0 : Int32) → fX8_readLevel_35 (fX8_rec z) 100000 (nI x) (nI y) l3 (0 : Int32) I1 D S = some I1 := by
          intro l3 hl3
          show fX8_readLevel_35 (fX8_rec z) (99999 + 1) (nI x) (nI y) l3 (0 : Int32) I1 D S = some I1
          rw [fX8_readLevel_35, if_neg hl3, h41, lev_eq 33 (by omega), Option.bind_some, lev_33, if_neg (fun q => by have := (nI_eq (by omega) (by omega)).mp q; omega)]
        rw [if_pos cx', a1', Option.bind_some]
        refine ⟨I1, c1, ?_, a2, a3, a4, a5⟩
        split
        · exact hl 1 (by decide)
        · exact hl 1000 (by decide)
      · have cx' : ¬ nI x < (4 : Int32) := nI_nlt (b := 4) (by omega) (by omega)
        have hx4 : x = 4 := by omega
        obtain ⟨I1, c1, a1, a2, a3, a4, a5⟩ := ih 1 y 0 (by unfold need; rw [if_neg (by decide)]; omega) (Or.inr rfl) hy (by omega) I f c hF e10 hc
        have a1' : fX8_rec z (1 : Int32) (nI y) (0 : Int32) I D S = some I1 := a1
        rw [if_neg cx', a1', Option.bind_some]
        exact ⟨I1, c1, rfl, a2, a3, a4, a5⟩
    · rw [fX8_rec, if_neg (show ¬ nI 1 = (0 : Int32) by decide)]
      unfold fX8_readPiece_b
      rw [h4, if_neg (show ¬ nI 33 = (32 : Int32) by decide), if_pos (show (14 : Int32) ≤ nI 33 by decide)]
      unfold fX8_readPiece_23
      rw [if_pos rfl, h4, if_neg (show ¬ nI 33 = (30 : Int32) by decide), if_neg (show ¬ nI 33 = (40 : Int32) by decide)]
      obtain ⟨I1, a1, a2, a3⟩ := FL_wrong hF (1 : Int32)
      rw [a1, Option.bind_some]
      exact ⟨I1, c, rfl, pF_w hX a2, a3, by rw [a2.1 X (by omega)]; exact e10, hc⟩
/-- what the class has done when it has read -/
def CRd (X : Nat) (tx : Nat → Nat) (m cs : Nat) (I I' : JI) (r : AR) : Prop := pF X I I' ∧ (r.1 = 0 → LC I' tx m r.2.1 ∧ I' X 10 = nI (cs + r.2.2.1.length) ∧ seg (I' (X + 10)) cs r.2.2.1 ∧ ∀ j, j < cs → I' (X + 10) j = I (X + 10) j) ∧ (r.1 ≠ 0 → FL I' tx m r.1 ∧ ∃ c, c ≤ 1000 ∧ I' X 10 = nI c)
theorem want_eq {I : JI} {tx : Nat → Nat} {m b : Nat} (h : LC I tx m b) (hb : b < m ∨ b = m) (ht : lT tx m b < 127) {k : Nat} (hk : k < 127) (hk33 : k ≠ 33) : ∃ I', fX8_want (nI k) I = some I' ∧ cW I I' ∧ ((lT tx m b = k ∧ LC I' tx m (nxB tx m b)) ∨ (lT tx m b ≠ k ∧ FL I' tx m (1 + 16 * b))) := by
  unfold fX8_want
  rw [h.2.2.2.2.2.1]
  by_cases c : lT tx m b = k
  · have hbm : b < m := lT_33 (tx := tx) (by omega) h.2.1
    obtain ⟨I', a1, a2, a3⟩ := LC_next h hbm
    rw [if_pos (by rw [c]), a1, Option.bind_some]
    exact ⟨I', rfl, cW_n a2, Or.inl ⟨c, a3⟩⟩
  · obtain ⟨I', a1, a2, a3⟩ := LC_wrong h (k := 1) (by omega)
    have a1' : fX8_wrong (1 : Int32) I = some I' := a1
    rw [if_neg (fun e => c ((nI_eq (by omega) (by omega)).mp e)), a1', Option.bind_some]
    exact ⟨I', rfl, a2, Or.inr ⟨c, a3⟩⟩
theorem want_fl {I : JI} {tx : Nat → Nat} {m f : Nat} (h : FL I tx m f) {k : Nat} (hk : k < 127) (hk33 : k ≠ 33) : ∃ I', fX8_want (nI k) I = some I' ∧ cW I I' ∧ FL I' tx m f := by
  unfold fX8_want
  obtain ⟨I', a1, a2, a3⟩ := FL_wrong h (1 : Int32)
  rw [h.2.2.2.1, if_neg (fun e => hk33 ((nI_eq (by omega) (by omega)).mp e).symm), a1, Option.bind_some]
  exact ⟨I', rfl, a2, a3⟩
theorem lT_lt {tx : Nat → Nat} {m b : Nat} {r : Nat → Int32} (h : txR r tx m) : lT tx m b < 127 := by
  rcases lT_cases tx m b (fun hb => (h.2 b hb).2) with q | q | q | q | ⟨-, q⟩ <;> omega
theorem cs_loop {X : Nat} (hX : X = 44 ∨ X = 55) {D : JG} {S : JS} (d9 : D 12 9 = some X) (sX : S[X]? = some (4, 17)) {tx : Nat → Nat} {m cs b0 : Nat} {I0 : JI} {rcC : Int32 → Int32 → Int32 → JI → JG → JS → Option JI} {rc : Nat → AR} {x y : Nat} (hx : x < 4) (hpos : ∀ b, b ≤ m → (rc b).1 = 0 → PosOK m b (rc b)) (hcs : cs ≤ b0)
    (hrc : ∀ b I c, LC I tx m b → I X 10 = nI c → c ≤ b → ∃ I', rcC (0 : Int32) (nI x + (1 : Int32)) (nI y) I D S = some I' ∧ CRd X tx m c I I' (rc b)) : ∀ d i, ∀ n, d < n → ∀ I acc, acc.1 = 0 → PosOK m b0 acc → CRd X tx m cs I0 I acc → i + d < 2000 → ∃ I', fX8_readLevel_35 rcC n (nI x) (nI y) (nI (i + d)) (nI i) I D S = some I' ∧ CRd X tx m cs I0 I' (aLp tx m rc x d acc) := by
  intro d
  induction d with
  | zero =>
    intro i n hn I acc h0 hp hC hid
    obtain ⟨n', rfl⟩ := suc_of hn
    rw [fX8_readLevel_35, if_pos (nI_le (by omega) (by omega))]
    exact ⟨I, rfl, hC⟩
  | succ d ih =>
    intro i n hn I acc h0 hp hC hid
    obtain ⟨n', rfl⟩ := suc_of hn
    obtain ⟨hC1, hC3, hC4⟩ := id hC
    obtain ⟨hL, hc10, hsg, hC2⟩ := hC3 h0
    have n12 : 12 ≠ X ∧ 12 ≠ X + 10 ∧ 13 ≠ X ∧ 13 ≠ X + 10 ∧ X + 10 ≠ 12 ∧ X ≠ X + 10 ∧ X ≠ 12 := by rcases hX with rfl | rfl <;> decide
    have ht := lT_lt (b := acc.2.1) hL.1
    have h4 : I 12 4 = nI (lT tx m acc.2.1) := hL.2.2.2.2.2.1
    rw [fX8_readLevel_35, if_neg (nI_ge (by omega) (by omega)), h4, lev_eq _ ht, Option.bind_some, aLp]
    have hle4 : lev (lT tx m acc.2.1) ≤ 4 := by unfold lev; split <;> (try omega); split <;> (try omega); split <;> (try omega); split <;> omega
    by_cases c : lev (lT tx m acc.2.1) = x
    · have hbm : acc.2.1 < m := lT_33 (tx := tx) (by intro e; rw [e] at c; have := lev_33; omega) hp.2.1
      obtain ⟨n1, n2⟩ := nxB_ok (tx := tx) hbm
      obtain ⟨I1, a1, a2, a3⟩ := LC_next hL hbm
      have hq := hp.2.2.1
      obtain ⟨I2, b1, b2⟩ := hrc (nxB tx m acc.2.1) I1 (cs + acc.2.2.1.length) a3 (by rw [a2.1 X (by omega)]; exact hc10) (by omega)
      rw [if_pos (by rw [c]), if_pos c, a1, Option.bind_some, b1, Option.bind_some, d9, jo_s, jg_d sX]
      obtain ⟨g1, g3, g4⟩ := b2
      by_cases r0 : (rc (nxB tx m acc.2.1)).1 = 0
      · obtain ⟨k1, k2, k3, g2⟩ := g3 r0
        obtain ⟨p1, p2, p3, p4, p5⟩ := hpos _ n2 r0
        have hm := hL.1.1
        have hid2 : i + 1 + d < 2000 := by omega
        have hj1 : ∀ j, j < cs + acc.2.2.1.length → j ≠ cs + acc.2.2.1.length + (rc (nxB tx m acc.2.1)).2.2.1.length := fun j hj => by omega
        have hj2 : ∀ j, j < cs + acc.2.2.1.length + (rc (nxB tx m acc.2.1)).2.2.1.length → j ≠ cs + acc.2.2.1.length + (rc (nxB tx m acc.2.1)).2.2.1.length := fun j hj => by omega
        have hj3 : ∀ j, j < cs → j < cs + acc.2.2.1.length := fun j hj => by omega
        have hlen : cs + acc.2.2.1.length + (rc (nxB tx m acc.2.1)).2.2.1.length + 1 = cs + (acc.2.2.1.length + ((rc (nxB tx m acc.2.1)).2.2.1.length + 1)) := by omega
        have hidx : cs + acc.2.2.1.length + (rc (nxB tx m acc.2.1)).2.2.1.length < 1000 := by omega
        rw [ac_eq hidx k2, Option.bind_some, aBd_0 r0, show nI i + (1 : Int32) = nI (i + 1) from nI_add _ 1, show i + (d + 1) = i + 1 + d by omega, show (20000 : Int32) + nI (lT tx m acc.2.1) = nI (20000 + lT tx m acc.2.1) from nI_add 20000 _]
        generalize hI3 : j_up (j_up I2 (X + 10) (cs + acc.2.2.1.length + (rc (nxB tx m acc.2.1)).2.2.1.length) (nI (20000 + lT tx m acc.2.1))) X 10 (nI (cs + acc.2.2.1.length + (rc (nxB tx m acc.2.1)).2.2.1.length + 1)) = I3
        have r3 : ∀ a, a ≠ X → a ≠ X + 10 → I3 a = I2 a := fun a z1 z2 => by rw [← hI3, ju_row _ _ z1, ju_row _ _ z2]
        have rX : ∀ k, k ≠ 10 → I3 X k = I2 X k := fun k hk => by rw [← hI3, ju_cell _ _ hk, ju_row _ _ (by omega)]
        have rC : ∀ j, j ≠ cs + acc.2.2.1.length + (rc (nxB tx m acc.2.1)).2.2.1.length → I3 (X + 10) j = I2 (X + 10) j := fun j hj => by rw [← hI3, ju_row _ _ (by omega), ju_cell _ _ hj]
        have rCs : I3 (X + 10) (cs + acc.2.2.1.length + (rc (nxB tx m acc.2.1)).2.2.1.length) = nI (20000 + lT tx m acc.2.1) := by rw [← hI3, ju_row _ _ (by omega), ju_same]
        refine ih (i + 1) n' (by omega) I3 (0, (rc (nxB tx m acc.2.1)).2.1, acc.2.2.1 ++ ((rc (nxB tx m acc.2.1)).2.2.1 ++ [20000 + lT tx m acc.2.1]), acc.2.2.2.1 ++ (rop (lT tx m acc.2.1) :: (rc (nxB tx m acc.2.1)).2.2.2.1), if x = 1 then true else (rc (nxB tx m acc.2.1)).2.2.2.2) rfl (PosOK_mk (by have := hp.1; omega) p2 (by rw [List.length_append, List.length_append, List.length_singleton]; omega) (by rw [List.length_append, List.length_cons]; have := hp.2.2.2.1; omega) (by rw [List.length_append, List.length_cons]; omega)) ⟨?_, fun _ => ⟨?_, ?_, ?_, ?_⟩, fun h => absurd rfl h⟩ hid2
        · exact pF_tr hC1 (pF_tr (pF_w hX (cW_n a2)) (pF_tr g1 ⟨fun a z1 z2 z3 => r3 a z2 z3, fun k _ => by rw [r3 12 n12.1 n12.2.1], rX⟩))
        · exact LC_fr k1 (r3 12 n12.1 n12.2.1) (r3 13 n12.2.2.1 n12.2.2.2.1)
        · rw [List.length_append, List.length_append, List.length_singleton, ← hI3, ju_same, hlen]
        · rw [seg_app, seg_app]
          refine ⟨?_, ?_, ?_⟩
          · refine seg_cong _ _ (fun j h1 h2 => ?_) hsg
            rw [rC j (hj1 j h2), g2 j h2, a2.1 (X + 10) n12.2.2.2.2.1]
          · refine seg_cong _ _ (fun j h1 h2 => ?_) k3
            rw [rC j (hj2 j h2)]
          · exact ⟨rCs, trivial⟩
        · intro j hj
          rw [rC j (hj1 j (hj3 j hj)), g2 j (hj3 j hj), a2.1 (X + 10) n12.2.2.2.2.1, hC2 j hj]
      · obtain ⟨k1, c', k2, k3⟩ := g4 r0
        rw [aBd_n r0]
        obtain ⟨I3, c3, q1, q2, q3, q4, q5⟩ := ac_fl hX k1 k2 k3 ((20000 : Int32) + nI (lT tx m acc.2.1))
        rw [q1, Option.bind_some]
        have hn' : 0 < n' := by omega
        obtain ⟨n'', rfl⟩ := suc_of hn'
        refine ⟨I3, ?_, pF_tr hC1 (pF_tr (pF_w hX (cW_n a2)) (pF_tr g1 q2)), fun h => absurd h r0, fun _ => ⟨q3, c3, q5, q4⟩⟩
        rw [fX8_readLevel_35]
        split
        · rfl
        · rw [q3.2.2.2.1, lev_eq 33 (by omega), Option.bind_some, lev_33, if_neg (fun q => by have := (nI_eq (by omega) (by omega)).mp q; omega)]
    · rw [if_neg (fun q => c ((nI_eq (by omega) (by omega)).mp q)), if_neg c]
      exact ⟨I, rfl, hC⟩
theorem CRd_fl {X : Nat} {tx : Nat → Nat} {m cs f c : Nat} {I I' : JI} {r : AR} (hr : r.1 = f) (hp : pF X I I') (hF : FL I' tx m f) (hc : c ≤ 1000) (e : I' X 10 = nI c) : CRd X tx m cs I I' r := by
  refine ⟨hp, fun h => ?_, fun _ => ⟨by rw [hr]; exact hF, c, hc, e⟩⟩
  have := hF.2.2.2.2.2.1
  omega
theorem cs_sim {X : Nat} (hX : X = 44 ∨ X = 55) {D : JG} {S : JS} (d9 : D 12 9 = some X) (sX : S[X]? = some (4, 17)) {tx : Nat → Nat} {m : Nat} : ∀ z w x y, need w x y ≤ z → ((w = 0 ∧ x ≤ 4) ∨ w = 1) → x ≤ 5 → y ≤ 5 → ∀ b I cs, LC I tx m b → I X 10 = nI cs → cs ≤ b → ∃ I', fX8_rec z (nI w) (nI x) (nI y) I D S = some I' ∧ CRd X tx m cs I I' (aR tx m z w x y b) := by
  have n12 : 12 ≠ X ∧ 12 ≠ X + 10 ∧ 13 ≠ X ∧ 13 ≠ X + 10 ∧ X + 10 ≠ 12 ∧ X ≠ X + 10 ∧ X ≠ 12 := by rcases hX with rfl | rfl <;> decide
  intro z
  induction z with
  | zero =>
    intro w x y hz hw hx5 hy
    exfalso
    unfold need at hz
    split at hz <;> omega
  | succ z ih =>
    intro w x y hz hw hx5 hy b I cs hL e10 hcs
    have hm := hL.1.1
    have hbm := hL.2.1
    have ht := lT_lt (b := b) hL.1
    have h4 : I 12 4 = nI (lT tx m b) := hL.2.2.2.2.2.1
    rcases hw with ⟨rfl, hx⟩ | rfl
    · rw [fX8_rec, if_pos (show nI 0 = (0 : Int32) from rfl), aR, if_pos rfl]
      unfold fX8_readLevel_b
      unfold need at hz
      rw [if_pos rfl] at hz
      by_cases cx : x < 4
      · have cx' : nI x < (4 : Int32) := nI_lt (b := 4) cx (by omega)
        have hrc : ∀ b I c, LC I tx m b → I X 10 = nI c → c ≤ b → ∃ I', fX8_rec z (0 : Int32) (nI x + (1 : Int32)) (nI y) I D S = some I' ∧ CRd X tx m c I I' (aR tx m z 0 (x + 1) y b) := by
          intro b' I' c' q1 q2 q3
          rw [show nI x + (1 : Int32) = nI (x + 1) from nI_add _ 1]
          exact ih 0 (x + 1) y (by unfold need; rw [if_pos rfl]; omega) (Or.inl ⟨rfl, by omega⟩) (by omega) hy b' I' c' q1 q2 q3
        obtain ⟨I1, a1, a2⟩ := hrc b I cs hL e10 hcs
        rw [if_pos cx', if_pos cx, a1, Option.bind_some]
        by_cases r0 : (aR tx m z 0 (x + 1) y b).1 = 0
        · rw [aBd_0 r0]
          have hp := aR_pos z 0 (x + 1) y b hbm r0
          by_cases c1 : x = 1
          · rw [if_pos (by rw [c1]; rfl), if_pos c1]
            exact cs_loop hX d9 sX (I0 := I) (y := y) cx (fun b' hb' h' => aR_pos z 0 (x + 1) y b' hb' h') hcs hrc 1 0 100000 (by omega) I1 _ r0 hp a2 (by omega)
          · have c1' : ¬ nI x = (1 : Int32) := fun e => c1 ((nI_eq (b := 1) (by omega) (by omega)).mp e)
            rw [if_neg c1', if_neg c1]
            exact cs_loop hX d9 sX (I0 := I) (y := y) cx (fun b' hb' h' => aR_pos z 0 (x + 1) y b' hb' h') hcs hrc 1000 0 100000 (by omega) I1 _ r0 hp a2 (by omega)
        · rw [aBd_n r0]
          obtain ⟨g1, -, g3⟩ := a2
          obtain ⟨k1, c, k2, k3⟩ := g3 r0
          have h41 : I1 12 4 = nI 33 := k1.2.2.2.1
          have hl : ∀ l3 : Int32, ¬ l3 ≤ (0 : Int32) → fX8_readLevel_35 (fX8_rec z) 100000 (nI x) (nI y) l3 (0 : Int32) I1 D S = some I1 := by
            intro l3 hl3
            show fX8_readLevel_35 (fX8_rec z) (99999 + 1) (nI x) (nI y) l3 (0 : Int32) I1 D S = some I1
            rw [fX8_readLevel_35, if_neg hl3, h41, lev_eq 33 (by omega), Option.bind_some, lev_33, if_neg (fun q => by have := (nI_eq (by omega) (by omega)).mp q; omega)]
          refine ⟨I1, ?_, CRd_fl rfl g1 k1 k2 k3⟩
          split
          · exact hl 1 (by decide)
          · exact hl 1000 (by decide)
      · have cx' : ¬ nI x < (4 : Int32) := nI_nlt (b := 4) (by omega) (by omega)
        obtain ⟨I1, a1, a2⟩ := ih 1 y 0 (by unfold need; rw [if_neg (by decide)]; omega) (Or.inr rfl) hy (by omega) b I cs hL e10 hcs
        have a1' : fX8_rec z (1 : Int32) (nI y) (0 : Int32) I D S = some I1 := a1
        rw [if_neg cx', if_neg cx, a1', Option.bind_some]
        exact ⟨I1, rfl, a2⟩
    · rw [fX8_rec, if_neg (show ¬ nI 1 = (0 : Int32) by decide), aR, if_neg (show ¬ (1 : Nat) = 0 by decide)]
      unfold fX8_readPiece_b aPc
      unfold need at hz
      rw [if_neg (show ¬ (1 : Nat) = 0 by decide)] at hz
      rw [h4]
      have h54f : ∀ s : Int32, ∃ I', (5 ≤ x → fX8_readPiece_54 (fX8_rec z) (nI x) s I D S = some I') ∧ cW I I' ∧ FL I' tx m (5 + 16 * b) := by
        intro s
        obtain ⟨I1, a1, a2, a3⟩ := LC_wrong hL (k := 5) (by omega)
        have a1' : fX8_wrong (5 : Int32) I = some I1 := a1
        refine ⟨I1, fun h5 => ?_, a2, a3⟩
        unfold fX8_readPiece_54
        have c5 : ¬ nI x < (5 : Int32) := nI_nlt (b := 5) h5 (by omega)
        rw [if_neg c5, a1', Option.bind_some]
      by_cases cpl : lT tx m b = 32 ∨ lT tx m b < 14
      · -- a number or a fact
        have hgo : (if nI (lT tx m b) = (32 : Int32) then fX8_readPiece_23 (fX8_rec z) (nI x) (1 : Int32) I D S else if (14 : Int32) ≤ nI (lT tx m b) then fX8_readPiece_23 (fX8_rec z) (nI x) (0 : Int32) I D S else fX8_readPiece_23 (fX8_rec z) (nI x) (1 : Int32) I D S) = fX8_readPiece_54 (fX8_rec z) (nI x) (1 : Int32) I D S := by
          by_cases c32 : lT tx m b = 32
          · rw [if_pos (by rw [c32]; rfl)]; rfl
          · have c32' : ¬ nI (lT tx m b) = (32 : Int32) := fun e => c32 ((nI_eq (b := 32) (by omega) (by omega)).mp e)
            have c14 : ¬ (14 : Int32) ≤ nI (lT tx m b) := nI_ge (b := 14) (by omega) (by omega)
            rw [if_neg c32', if_neg c14]; rfl
        rw [hgo, if_neg (show ¬ (14 ≤ lT tx m b ∧ lT tx m b ≠ 32 ∧ lT tx m b ≠ 30 ∧ lT tx m b ≠ 40) by omega)]
        by_cases c5 : 5 ≤ x
        · rw [if_pos c5]
          obtain ⟨I1, a1, a2, a3⟩ := h54f 1
          exact ⟨I1, a1 c5, CRd_fl rfl (pF_w hX a2) a3 (show cs ≤ 1000 by omega) (by rw [a2.1 X n12.2.2.2.2.2.2]; exact e10)⟩
        · rw [if_neg c5]
          have c5' : nI x < (5 : Int32) := nI_lt (b := 5) (by omega) (by omega)
          have hbl : b < m := lT_33 (tx := tx) (by omega) hbm
          have key : ∀ v, (if lT tx m b = 32 then lV tx m b else 10000 + lT tx m b) = v → ∃ I', fX8_readPiece_54 (fX8_rec z) (nI x) (1 : Int32) I D S = some I' ∧ CRd X tx m cs I I' (0, nxB tx m b, [v], (if lT tx m b = 32 then [100 + lV tx m b] else [lT tx m b + 1]), false) := by
            intro v hv
            generalize hI1 : j_up (j_up I (X + 10) cs (nI v)) X 10 (nI (cs + 1)) = I1
            have r1 : ∀ a, a ≠ X → a ≠ X + 10 → I1 a = I a := fun a z1 z2 => by rw [← hI1, ju_row _ _ z1, ju_row _ _ z2]
            have hL1 : LC I1 tx m b := LC_fr hL (r1 12 n12.1 n12.2.1) (r1 13 n12.2.2.1 n12.2.2.2.1)
            obtain ⟨I2, a1, a2, a3⟩ := LC_next hL1 hbl
            refine ⟨I2, ?_, ⟨?_, fun _ => ⟨a3, ?_, ?_, ?_⟩, fun h => absurd rfl h⟩⟩
            · unfold fX8_readPiece_54
              rw [if_pos c5', if_neg (by decide), d9, jo_s, jg_d sX, h4]
              by_cases c32 : lT tx m b = 32
              · rw [if_pos c32] at hv
                rw [if_pos (by rw [c32]; rfl), hL.2.2.2.2.2.2.1 c32, hv, ac_eq (by omega) e10, Option.bind_some, hI1, a1]; rfl
              · rw [if_neg c32] at hv
                have c32' : ¬ nI (lT tx m b) = (32 : Int32) := fun e => c32 ((nI_eq (b := 32) (by omega) (by omega)).mp e)
                rw [if_neg c32', show (10000 : Int32) + nI (lT tx m b) = nI v by rw [← hv]; exact nI_add 10000 _, ac_eq (by omega) e10, Option.bind_some, hI1, a1]; rfl
            · exact pF_tr ⟨fun a z1 z2 z3 => r1 a z2 z3, fun k _ => by rw [r1 12 n12.1 n12.2.1], fun k hk => by rw [← hI1, ju_cell _ _ hk, ju_row _ _ n12.2.2.2.2.2.1]⟩ (pF_w hX (cW_n a2))
            · rw [a2.1 X n12.2.2.2.2.2.2, ← hI1, ju_same]; rfl
            · refine ⟨?_, trivial⟩
              rw [a2.1 (X + 10) n12.2.2.2.2.1, ← hI1, ju_row _ _ n12.2.2.2.2.2.1.symm, ju_same]
            · intro j hj
              rw [a2.1 (X + 10) n12.2.2.2.2.1, ← hI1, ju_row _ _ n12.2.2.2.2.2.1.symm, ju_cell _ _ (Nat.ne_of_lt hj)]
          obtain ⟨I', k1, k2⟩ := key _ rfl
          refine ⟨I', k1, ?_⟩
          by_cases c32 : lT tx m b = 32
          · rw [if_pos c32] at k2 ⊢
            rw [if_pos c32] at k2
            exact k2
          · rw [if_neg c32] at k2 ⊢
            rw [if_neg c32] at k2
            rw [if_pos (show lT tx m b < 14 by omega)]
            exact k2
      · have c32' : ¬ nI (lT tx m b) = (32 : Int32) := fun e => cpl (Or.inl ((nI_eq (b := 32) (by omega) (by omega)).mp e))
        have c14 : (14 : Int32) ≤ nI (lT tx m b) := nI_le (a := 14) (by omega) (by omega)
        rw [if_neg c32', if_pos c14]
        unfold fX8_readPiece_23
        rw [if_pos rfl, h4]
        by_cases c30 : lT tx m b = 30 ∨ lT tx m b = 40
        · have hgo : (if nI (lT tx m b) = (30 : Int32) then fX8_readPiece_54 (fX8_rec z) (nI x) (0 : Int32) I D S else if nI (lT tx m b) = (40 : Int32) then fX8_readPiece_54 (fX8_rec z) (nI x) (0 : Int32) I D S else ((fX8_wrong (1 : Int32) I).bind (fun q1 => some (q1)))) = fX8_readPiece_54 (fX8_rec z) (nI x) (0 : Int32) I D S := by
            rcases c30 with c | c
            · rw [if_pos (by rw [c]; rfl)]
            · rw [if_neg (show ¬ nI (lT tx m b) = (30 : Int32) by rw [c]; decide), if_pos (by rw [c]; rfl)]
          rw [hgo, if_neg (show ¬ (14 ≤ lT tx m b ∧ lT tx m b ≠ 32 ∧ lT tx m b ≠ 30 ∧ lT tx m b ≠ 40) by omega)]
          by_cases c5 : 5 ≤ x
          · rw [if_pos c5]
            obtain ⟨I1, a1, a2, a3⟩ := h54f 0
            exact ⟨I1, a1 c5, CRd_fl rfl (pF_w hX a2) a3 (show cs ≤ 1000 by omega) (by rw [a2.1 X n12.2.2.2.2.2.2]; exact e10)⟩
          · rw [if_neg c5, if_neg (show ¬ lT tx m b = 32 by omega), if_neg (show ¬ lT tx m b < 14 by omega)]
            have c5' : nI x < (5 : Int32) := nI_lt (b := 5) (by omega) (by omega)
            have hbl : b < m := lT_33 (tx := tx) (by omega) hbm
            obtain ⟨n1, n2⟩ := nxB_ok (tx := tx) hbl
            obtain ⟨I1, a1, a2, a3⟩ := LC_next hL hbl
            have e1 : nI x + (1 : Int32) = nI (x + 1) := nI_add _ 1
            unfold fX8_readPiece_54
            rw [if_pos c5', if_pos rfl, h4, a1, Option.bind_some, Option.bind_some, e1]
            by_cases cn : lT tx m b = 30
            · rw [if_pos (by rw [cn]; rfl), if_pos cn]
              obtain ⟨I2, b1, b2⟩ := ih 1 (x + 1) 0 (by unfold need; rw [if_neg (by decide)]; omega) (Or.inr rfl) (by omega) (by omega) (nxB tx m b) I1 cs a3 (by rw [a2.1 X n12.2.2.2.2.2.2]; exact e10) (by omega)
              have b1' : fX8_rec z (1 : Int32) (nI (x + 1)) (0 : Int32) I1 D S = some I2 := b1
              rw [b1', Option.bind_some, d9, jo_s, jg_d sX]
              obtain ⟨g1, g3, g4⟩ := b2
              by_cases r0 : (aR tx m z 1 (x + 1) 0 (nxB tx m b)).1 = 0
              · obtain ⟨k1, k2, k3, k4⟩ := g3 r0
                obtain ⟨p1, p2, p3, p4, p5⟩ := aR_pos z 1 (x + 1) 0 _ n2 r0
                rw [aBd_0 r0, show (20030 : Int32) = nI 20030 from rfl, ac_eq (by omega) k2, Option.bind_some]
                generalize hI3 : j_up (j_up I2 (X + 10) (cs + (aR tx m z 1 (x + 1) 0 (nxB tx m b)).2.2.1.length) (nI 20030)) X 10 (nI (cs + (aR tx m z 1 (x + 1) 0 (nxB tx m b)).2.2.1.length + 1)) = I3
                have r3 : ∀ a, a ≠ X → a ≠ X + 10 → I3 a = I2 a := fun a z1 z2 => by rw [← hI3, ju_row _ _ z1, ju_row _ _ z2]
                have rC : ∀ j, j ≠ cs + (aR tx m z 1 (x + 1) 0 (nxB tx m b)).2.2.1.length → I3 (X + 10) j = I2 (X + 10) j := fun j hj => by rw [← hI3, ju_row _ _ n12.2.2.2.2.2.1.symm, ju_cell _ _ hj]
                have hj2 : ∀ j, j < cs + (aR tx m z 1 (x + 1) 0 (nxB tx m b)).2.2.1.length → j ≠ cs + (aR tx m z 1 (x + 1) 0 (nxB tx m b)).2.2.1.length := fun j hj => Nat.ne_of_lt hj
                refine ⟨I3, rfl, pF_tr (pF_w hX (cW_n a2)) (pF_tr g1 ⟨fun a z1 z2 z3 => r3 a z2 z3, fun k _ => by rw [r3 12 n12.1 n12.2.1], fun k hk => by rw [← hI3, ju_cell _ _ hk, ju_row _ _ n12.2.2.2.2.2.1]⟩), fun _ => ⟨LC_fr k1 (r3 12 n12.1 n12.2.1) (r3 13 n12.2.2.1 n12.2.2.2.1), ?_, ?_, ?_⟩, fun h => absurd rfl h⟩
                · show I3 X 10 = nI (cs + (_ ++ [20030]).length)
                  rw [List.length_append, List.length_singleton, ← hI3, ju_same]; rfl
                · show seg (I3 (X + 10)) cs (_ ++ [20030])
                  rw [seg_app]
                  refine ⟨seg_cong _ _ (fun j h1 h2 => rC j (hj2 j h2)) k3, ?_, trivial⟩
                  rw [← hI3, ju_row _ _ n12.2.2.2.2.2.1.symm, ju_same]
                · intro j hj
                  rw [rC j (hj2 j (Nat.lt_of_lt_of_le hj (Nat.le_add_right _ _))), k4 j hj, a2.1 (X + 10) n12.2.2.2.2.1]
              · obtain ⟨k1, c, k2, k3⟩ := g4 r0
                obtain ⟨I3, c3, q1, q2, q3, q4, q5⟩ := ac_fl hX k1 k2 k3 (20030 : Int32)
                rw [aBd_n r0, q1, Option.bind_some]
                exact ⟨I3, rfl, CRd_fl rfl (pF_tr (pF_w hX (cW_n a2)) (pF_tr g1 q2)) q3 q5 q4⟩
            · have cn' : ¬ nI (lT tx m b) = (30 : Int32) := fun e => cn ((nI_eq (b := 30) (by omega) (by omega)).mp e)
              rw [if_neg cn', if_neg cn]
              obtain ⟨I2, b1, b2⟩ := ih 0 0 (x + 1) (by unfold need; rw [if_pos rfl]; omega) (Or.inl ⟨rfl, by omega⟩) (by omega) (by omega) (nxB tx m b) I1 cs a3 (by rw [a2.1 X n12.2.2.2.2.2.2]; exact e10) (by omega)
              have b1' : fX8_rec z (0 : Int32) (0 : Int32) (nI (x + 1)) I1 D S = some I2 := b1
              rw [b1', Option.bind_some]
              obtain ⟨g1, g3, g4⟩ := b2
              by_cases r0 : (aR tx m z 0 0 (x + 1) (nxB tx m b)).1 = 0
              · obtain ⟨k1, k2, k3, k4⟩ := g3 r0
                obtain ⟨p1, p2, p3, p4, p5⟩ := aR_pos z 0 0 (x + 1) _ n2 r0
                obtain ⟨I3, q1, q2, q3⟩ := want_eq (k := 41) k1 (by omega) (lT_lt k1.1) (by omega) (by omega)
                have q1' : fX8_want (41 : Int32) I2 = some I3 := q1
                rw [aBd_0 r0, q1', Option.bind_some]
                have eX : I3 X = I2 X := q2.1 X n12.2.2.2.2.2.2
                have eC : I3 (X + 10) = I2 (X + 10) := q2.1 (X + 10) n12.2.2.2.2.1
                have hpf : pF X I I3 := pF_tr (pF_w hX (cW_n a2)) (pF_tr g1 (pF_w hX q2))
                rcases q3 with ⟨c41, hL3⟩ | ⟨c41, hF3⟩
                · rw [if_pos c41]
                  refine ⟨I3, rfl, hpf, fun _ => ⟨hL3, by rw [eX]; exact k2, by rw [eC]; exact k3, fun j hj => by rw [eC, k4 j hj, a2.1 (X + 10) n12.2.2.2.2.1]⟩, fun h => absurd rfl h⟩
                · rw [if_neg c41]
                  exact ⟨I3, rfl, CRd_fl rfl hpf hF3 (show cs + (aR tx m z 0 0 (x + 1) (nxB tx m b)).2.2.1.length ≤ 1000 by omega) (by rw [eX]; exact k2)⟩
              · obtain ⟨k1, c, k2, k3⟩ := g4 r0
                obtain ⟨I3, q1, q2, q3⟩ := want_fl (k := 41) k1 (by omega) (by omega)
                have q1' : fX8_want (41 : Int32) I2 = some I3 := q1
                rw [aBd_n r0, q1', Option.bind_some]
                exact ⟨I3, rfl, CRd_fl rfl (pF_tr (pF_w hX (cW_n a2)) (pF_tr g1 (pF_w hX q2))) q3 k2 (by rw [q2.1 X n12.2.2.2.2.2.2]; exact k3)⟩
        · have c30' : ¬ nI (lT tx m b) = (30 : Int32) := fun e => c30 (Or.inl ((nI_eq (b := 30) (by omega) (by omega)).mp e))
          have c40' : ¬ nI (lT tx m b) = (40 : Int32) := fun e => c30 (Or.inr ((nI_eq (b := 40) (by omega) (by omega)).mp e))
          rw [if_neg c30', if_neg c40', if_pos (show 14 ≤ lT tx m b ∧ lT tx m b ≠ 32 ∧ lT tx m b ≠ 30 ∧ lT tx m b ≠ 40 by omega)]
          obtain ⟨I1, a1, a2, a3⟩ := LC_wrong hL (k := 1) (by omega)
          have a1' : fX8_wrong (1 : Int32) I = some I1 := a1
          rw [a1', Option.bind_some]
          exact ⟨I1, rfl, CRd_fl rfl (pF_w hX a2) a3 (show cs ≤ 1000 by omega) (by rw [a2.1 X n12.2.2.2.2.2.2]; exact e10)⟩
