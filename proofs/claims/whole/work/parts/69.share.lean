theorem so5_loop {M : JI} {t : Nat} {h : Nat → Nat → Nat} (h8 : ∀ p q, p < 12 → q < 16 → M (t + 1) (16 * p + q) = nI (h p q)) {P : Int32} {q : Nat} (hq : q < 16) : ∀ d k, k + d = 12 → ∀ n, d < n → fX1_sumOf_5 t n P (nI q) (nI (fb_sm (fun o => if bt P o then h o q else 0) k)) (nI k) M = some (nI (fb_sm (fun o => if bt P o then h o q else 0) 12)) := by
  intro d
  induction d with
  | zero =>
    intro k hk n hn
    obtain ⟨n', rfl⟩ := suc_of hn
    have : k = 12 := by omega
    subst this
    rw [fX1_sumOf_5, if_pos (by decide)]
  | succ d ih =>
    intro k hk n hn
    obtain ⟨n', rfl⟩ := suc_of hn
    have e1 : nI k + (1 : Int32) = nI (k + 1) := nI_1 k
    rw [fX1_sumOf_5, if_neg (show ¬ (12 : Int32) ≤ nI k from nI_ge (b := 12) (by omega) (by omega)), ← ih (k + 1) (by omega) n' (by omega), fb_sm_succ, e1]
    by_cases c : bt P k = true
    · rw [if_neg (by rw [li_31, li_0, li_1, bt_test P (by omega), c]; simp), of_eq h8 (by omega) hq, Option.bind_some, nI_add, if_pos c]
    · have c0 : bt P k = false := by simpa using c
      rw [if_pos (by rw [li_31, li_0, li_1, bt_test P (by omega), c0]), if_neg c]; rfl
theorem sh_eq {M : JI} {t : Nat} {h : Nat → Nat → Nat} {r69 r70 r71 : Nat → Int32} (h3 : vHd (M (t + 1)) (M (t + 2)) (M (t + 3)) (M (t + 4)) h) (h4 : vSide (M 2) (M 3) r69) (h5 : vWet (M 4) r70) {who p s q : Nat} (hw : who < 4) (hp : p < 12) (hq : q < 16) (hpos : 0 < wtS r69 r70 r71 h who p s q) : fX9_shareOf (nI who) t (nI p) (nI q) M = some (nI (wtS r69 r70 r71 h who p s q)) := by
  unfold fX9_shareOf
  have hk : who = 0 ∨ who = 1 ∨ who = 2 ∨ who = 3 := by omega
  rcases hk with rfl | rfl | rfl | rfl
  · rw [if_pos (by decide)]
    have e : wtS r69 r70 r71 h 0 p s q = if r71 (16 * s + q) = nI 0 then 0 else 1 := if_pos rfl
    rw [e] at hpos ⊢
    split at hpos
    · omega
    · rename_i hc
      rw [if_neg hc]; rfl
  · have e : wtS r69 r70 r71 h 1 p s q = h p q := rfl
    rw [if_neg (by decide), if_pos (by decide), of_eq h3.1 hp hq, e]; rfl
  · have e : wtS r69 r70 r71 h 2 p s q = fb_sm (fun o => if jnS r69 r70 2 p o then h o q else 0) 12 := rfl
    have e2 : fb_sm (fun o => if bt (M 3 p) o then h o q else 0) 12 = fb_sm (fun o => if jnS r69 r70 2 p o then h o q else 0) 12 := fb_sm_cong (fun k hk => by
      rw [jn2, h4.2.1 p k hp]; simp [hk])
    have h1 := so5_loop (M := M) (t := t) h3.1 (P := M 3 p) hq 12 0 (by omega) 100000 (by omega)
    have h1' : fX1_sumOf t (M 3 p) (nI q) M = some (nI (fb_sm (fun o => if bt (M 3 p) o then h o q else 0) 12)) := h1
    rw [if_neg (by decide), if_neg (by decide), if_pos (by decide), jg_in hp (by decide), nI_clamp (by omega), h1', e, e2]; rfl
  · have e : wtS r69 r70 r71 h 3 p s q = fb_sm (fun o => if jnS r69 r70 3 p o then h o q else 0) 12 := rfl
    have e2 : fb_sm (fun o => if bt (M 4 p) o then h o q else 0) 12 = fb_sm (fun o => if jnS r69 r70 3 p o then h o q else 0) 12 := fb_sm_cong (fun k hk => by
      rw [jn3, h5.1 p k hp]; simp [hk])
    have h1 := so5_loop (M := M) (t := t) h3.1 (P := M 4 p) hq 12 0 (by omega) 100000 (by omega)
    have h1' : fX1_sumOf t (M 4 p) (nI q) M = some (nI (fb_sm (fun o => if bt (M 4 p) o then h o q else 0) 12)) := h1
    rw [if_neg (by decide), if_neg (by decide), if_neg (by decide), if_pos (by decide), jg_in hp (by decide), nI_clamp (by omega), h1', e, e2]; rfl
/-! the class's side of a passing's beginning -/
/-- what is kept of one of the people -/
def bgQ (B2 B3 B4 B5 : Nat → Int32) (X : Nat) (M : JI) (h : Nat → Nat → Nat) (p f : Nat) (sh : Bool) (may : Nat → Bool) (lf : Nat → Nat) (q : Nat) : Prop := B5 q = -nI 1 ∧ B2 q = (if may q then M (X + 3) (lf q) else -nI 1) ∧ (may q = true → B3 q = M (X + 6) (lf q) ∧ B4 q = if sh then nI (wtS (M 69) (M 70) (M 71) h (M 77 (lf q)).toNatClampNeg p f q) else nI 1)
def bSame (b : Nat) (M0 M : JI) : Prop := (∀ a, a ≠ b + 2 → a ≠ b + 3 → a ≠ b + 4 → a ≠ b + 5 → M a = M0 a)
theorem kc_eq {M0 : JI} {D : JG} {S : JS} {X b : Nat} {h : Nat → Nat → Nat} {ln p f : Nat} {E : Nat → (Nat → Int32) → Int32} (hX : X = 44 ∨ X = 55) (h137 : 137 ≤ b) (d5 : D 15 5 = some X) (d6 : D 15 6 = some 7) (s1 : S[X]? = some (4, 17)) (s2 : S[7]? = some (1, 4)) (hln : ln ≤ 18) (hp : p < 12) {sh : Bool} (hsh : jm_b01 (M0 X 16) = bI sh) (h3 : vHd (M0 8) (M0 9) (M0 10) (M0 11) h) (h4 : vSide (M0 2) (M0 3) (M0 69)) (h5 : vWet (M0 4) (M0 70)) (hl : ∀ i, i < ln → LWl X M0 E i) (ep : M0 (b + 1) 0 = nI p) {q l : Nat} (hq : q < 16) (hlt : l < ln) (hk : M0 75 l = nI 0) (h19 : M0 19 q = nI l) (hpos : 0 < wtS (M0 69) (M0 70) (M0 71) h (M0 77 l).toNatClampNeg p f q) {M : JI} (hM : bSame b M0 M) :
    ∃ M', fX7_keepComer b (nI q) M D S = some M' ∧ bSame b M0 M' ∧ M' (b + 5) = M (b + 5) ∧ M' (b + 2) = (fun j => if j = q then M0 (X + 3) l else M (b + 2) j) ∧ M' (b + 3) = (fun j => if j = q then M0 (X + 6) l else M (b + 3) j) ∧ M' (b + 4) = (fun j => if j = q then (if sh then nI (wtS (M0 69) (M0 70) (M0 71) h (M0 77 l).toNatClampNeg p f q) else nI 1) else M (b + 4) j) := by
  obtain ⟨l1, l2, l3, l4, l5, l6⟩ := hl l hlt
  obtain ⟨⟨w, hw, w1, w2⟩, w3⟩ := l5 hk
  have ew : (M0 77 l).toNatClampNeg = w := by rw [w1]; exact nI_clamp (by omega)
  rw [ew] at hpos ⊢
  have eq' : (nI q).toNatClampNeg = q := nI_clamp (by omega)
  have el : (nI l).toNatClampNeg = l := nI_clamp (by omega)
  have gq : ∀ {α : Type} (z : Option α), j_g (j_in (nI q) 16) z = z := fun z => jg_in hq (by decide)
  have gl : ∀ {α : Type} (z : Option α), j_g (j_in (nI l) 18) z = z := fun z => jg_in (by omega) (by decide)
  have gX : ∀ {α : Type} (z : Option α), j_g (decide (S[X]? = some (4, 17))) z = z := fun z => jg_d s1
  have g7 : ∀ {α : Type} (z : Option α), j_g (decide (S[7]? = some (1, 4))) z = z := fun z => jg_d s2
  have h19' : M 19 q = nI l := by rw [hM 19 (by omega) (by omega) (by omega) (by omega)]; exact h19
  unfold fX7_keepComer
  simp only [d5, d6, jo_s, gX, g7, gq, eq', h19', gl, el]
  simp only [ju_row _ _ (show X ≠ b + 3 by omega), ju_row _ _ (show X ≠ b + 2 by omega), ju_row _ _ (show X + 6 ≠ b + 2 by omega), ju_row _ _ (show b + 1 ≠ b + 3 by omega), ju_row _ _ (show b + 1 ≠ b + 2 by omega)]
  rw [hM X (by omega) (by omega) (by omega) (by omega), hM (X + 3) (by omega) (by omega) (by omega) (by omega), hM (X + 6) (by omega) (by omega) (by omega) (by omega), hM (X + 4) (by omega) (by omega) (by omega) (by omega), hM (b + 1) (by omega) (by omega) (by omega) (by omega), hsh, ep, w2]
  have fin : ∀ v : Int32, v = (if sh then nI (wtS (M0 69) (M0 70) (M0 71) h w p f q) else nI 1) → bSame b M0 (j_up (j_up (j_up M (b + 2) q (M0 (X + 3) l)) (b + 3) q (M0 (X + 6) l)) (b + 4) q v) ∧ (j_up (j_up (j_up M (b + 2) q (M0 (X + 3) l)) (b + 3) q (M0 (X + 6) l)) (b + 4) q v) (b + 5) = M (b + 5) ∧ (j_up (j_up (j_up M (b + 2) q (M0 (X + 3) l)) (b + 3) q (M0 (X + 6) l)) (b + 4) q v) (b + 2) = (fun j => if j = q then M0 (X + 3) l else M (b + 2) j) ∧ (j_up (j_up (j_up M (b + 2) q (M0 (X + 3) l)) (b + 3) q (M0 (X + 6) l)) (b + 4) q v) (b + 3) = (fun j => if j = q then M0 (X + 6) l else M (b + 3) j) ∧ (j_up (j_up (j_up M (b + 2) q (M0 (X + 3) l)) (b + 3) q (M0 (X + 6) l)) (b + 4) q v) (b + 4) = (fun j => if j = q then (if sh then nI (wtS (M0 69) (M0 70) (M0 71) h w p f q) else nI 1) else M (b + 4) j) := by
    intro v hv
    refine ⟨fun a a1 a2 a3 a4 => ?_, ?_, ?_, ?_, ?_⟩
    · rw [ju_row _ _ a3, ju_row _ _ a2, ju_row _ _ a1, hM a a1 a2 a3 a4]
    · rw [ju_row _ _ (by omega), ju_row _ _ (by omega), ju_row _ _ (by omega)]
    · rw [ju_row _ _ (by omega), ju_row _ _ (by omega), ju_at]
    · rw [ju_row _ _ (by omega), ju_at]
      funext j
      rw [ju_row _ _ (by omega)]
    · rw [ju_at, hv]
      funext j
      rw [ju_row _ _ (by omega), ju_row _ _ (by omega)]
  cases sh with
  | false =>
    rw [if_pos (by decide)]
    exact ⟨_, rfl, fin (1 : Int32) rfl⟩
  | true =>
    rw [if_neg (by decide)]
    have r2 : ∀ a, a < 137 → (j_up (j_up M (b + 2) q (M0 (X + 3) l)) (b + 3) q (M0 (X + 6) l)) a = M0 a := by
      intro a ha
      rw [ju_row _ _ (by omega), ju_row _ _ (by omega), hM a (by omega) (by omega) (by omega) (by omega)]
    rw [sh_eq (t := 7) (h := h) (r69 := M0 69) (r70 := M0 70) (r71 := M0 71) (s := f) (by rw [r2 8 (by omega), r2 9 (by omega), r2 10 (by omega), r2 11 (by omega)]; exact h3) (by rw [r2 2 (by omega), r2 3 (by omega)]; exact h4) (by rw [r2 4 (by omega)]; exact h5) hw hp hq hpos, Option.bind_some]
    exact ⟨_, rfl, fin _ rfl⟩
theorem bg_loop {M0 : JI} {D : JG} {S : JS} {X b u2 : Nat} {h : Nat → Nat → Nat} {ln p f : Nat} {E : Nat → (Nat → Int32) → Int32} (hX : X = 44 ∨ X = 55) (h137 : 137 ≤ b) (d5 : D 15 5 = some X) (d6 : D 15 6 = some 7) (s1 : S[X]? = some (4, 17)) (s2 : S[7]? = some (1, 4)) (hln : ln ≤ 18) (hp : p < 12) {sh : Bool} (hsh : jm_b01 (M0 X 16) = bI sh) (h3 : vHd (M0 8) (M0 9) (M0 10) (M0 11) h) (h4 : vSide (M0 2) (M0 3) (M0 69)) (h5 : vWet (M0 4) (M0 70)) (hl : ∀ i, i < ln → LWl X M0 E i) (ep : M0 (b + 1) 0 = nI p) {may : Nat → Bool} {lf : Nat → Nat} (hbits : ∀ i, bt (M0 15 9) i = (decide (i < 16) && may i)) (hmay : ∀ q, q < 16 → may q = true → lf q < ln ∧ M0 75 (lf q) = nI 0 ∧ M0 19 q = nI (lf q) ∧ 0 < wtS (M0 69) (M0 70) (M0 71) h (M0 77 (lf q)).toNatClampNeg p f q) :
    ∀ d k, k + d = 16 → ∀ n, d < n → ∀ M, bSame b M0 M → (∀ q, q < k → bgQ (M (b + 2)) (M (b + 3)) (M (b + 4)) (M (b + 5)) X M0 h p f sh may lf q) → ∃ M', fX7_begin_47 b u2 n (nI k) M D S = fX7_begin_95 b u2 M' D S ∧ bSame b M0 M' ∧ ∀ q, q < 16 → bgQ (M' (b + 2)) (M' (b + 3)) (M' (b + 4)) (M' (b + 5)) X M0 h p f sh may lf q := by
  intro d
  induction d with
  | zero =>
    intro k hk n hn M hM hq
    obtain ⟨n', rfl⟩ := suc_of hn
    have : k = 16 := by omega
    subst this
    exact ⟨M, by rw [fX7_begin_47, if_pos (by decide)], hM, hq⟩
  | succ d ih =>
    intro k hk n hn M hM hq
    obtain ⟨n', rfl⟩ := suc_of hn
    have e1 : nI k + (1 : Int32) = nI (k + 1) := nI_1 k
    have ek : (nI k).toNatClampNeg = k := nI_clamp (by omega)
    rw [fX7_begin_47, if_neg (show ¬ (16 : Int32) ≤ nI k from nI_ge (b := 16) (by omega) (by omega)), jg_in (by omega) (by decide), jg_in (by omega) (by decide), ek, e1]
    generalize hM1 : j_up (j_up M (b + 5) k (-1 : Int32)) (b + 2) k (-1 : Int32) = M1
    have hM1s : bSame b M0 M1 := by
      intro a a1 a2 a3 a4
      rw [← hM1, ju_row _ _ a1, ju_row _ _ a4, hM a a1 a2 a3 a4]
    have r5 : ∀ j, M1 (b + 5) j = if j = k then -nI 1 else M (b + 5) j := by
      intro j
      rw [← hM1, ju_row _ _ (by omega), ju_at]; rfl
    have r2 : ∀ j, M1 (b + 2) j = if j = k then -nI 1 else M (b + 2) j := by
      intro j
      rw [← hM1, ju_at]
      show (if j = k then (-1 : Int32) else _) = _
      rw [ju_row _ _ (by omega)]; rfl
    have r3 : M1 (b + 3) = M (b + 3) := by rw [← hM1, ju_row _ _ (by omega), ju_row _ _ (by omega)]
    have r4 : M1 (b + 4) = M (b + 4) := by rw [← hM1, ju_row _ _ (by omega), ju_row _ _ (by omega)]
    have eb : M1 15 9 = M0 15 9 := by rw [hM1s 15 (by omega) (by omega) (by omega) (by omega)]
    rw [eb, li_31, li_1, bt_val _ (by omega), hbits k]
    have hk16 : decide (k < 16) = true := decide_eq_true (by omega)
    rw [hk16, Bool.true_and]
    by_cases cm : may k = true
    · rw [cm, if_neg (by decide)]
      obtain ⟨m1, m2, m3, m4⟩ := hmay k (by omega) cm
      obtain ⟨M2, k1, k2, k3, k4, k5, k6⟩ := kc_eq hX h137 d5 d6 s1 s2 hln hp hsh h3 h4 h5 hl ep (q := k) (l := lf k) (by omega) m1 m2 m3 m4 hM1s
      rw [k1, Option.bind_some]
      refine ih (k + 1) (by omega) n' (by omega) M2 k2 (fun q hqk => ?_)
      unfold bgQ
      rw [k3, k4, k5, k6]
      by_cases e : q = k
      · subst e
        refine ⟨by rw [r5 q, if_pos rfl], ?_, fun _ => ⟨?_, ?_⟩⟩
        · show (if q = q then M0 (X + 3) (lf q) else _) = _
          rw [if_pos rfl, cm, if_pos rfl]
        · show (if q = q then M0 (X + 6) (lf q) else _) = _
          rw [if_pos rfl]
        · show (if q = q then _ else _) = _
          rw [if_pos rfl]
      · obtain ⟨g1, g2, g3⟩ := hq q (by omega)
        refine ⟨by rw [r5 q, if_neg e]; exact g1, ?_, fun hm => ⟨?_, ?_⟩⟩
        · show (if q = k then _ else M1 (b + 2) q) = _
          rw [if_neg e, r2 q, if_neg e]; exact g2
        · show (if q = k then _ else M1 (b + 3) q) = _
          rw [if_neg e, r3]; exact (g3 hm).1
        · show (if q = k then _ else M1 (b + 4) q) = _
          rw [if_neg e, r4]; exact (g3 hm).2
    · have cm0 : may k = false := by simpa using cm
      rw [cm0, if_pos (by decide)]
      refine ih (k + 1) (by omega) n' (by omega) M1 hM1s (fun q hqk => ?_)
      unfold bgQ
      rw [r3, r4]
      by_cases e : q = k
      · subst e
        refine ⟨by rw [r5 q, if_pos rfl], ?_, fun hm => absurd hm cm⟩
        rw [r2 q, if_pos rfl, if_neg cm]
      · obtain ⟨g1, g2, g3⟩ := hq q (by omega)
        exact ⟨by rw [r5 q, if_neg e]; exact g1, by rw [r2 q, if_neg e]; exact g2, g3⟩
