/-! ===== Holdings ===== -/
theorem ct_one (f : Nat → Bool) (b : Bool) {i n : Nat} (h : i < n) : fb_ct (fun k => if k = i then b else f k) n + (if f i then 1 else 0) = fb_ct f n + (if b then 1 else 0) := fb_ct_upd f b h
def up2 (h : Nat → Nat → Nat) (p q v : Nat) : Nat → Nat → Nat := fun p' q' => if p' = p ∧ q' = q then v else h p' q'
theorem up2_sm (h : Nat → Nat → Nat) {p q v : Nat} (hp : p < 12) : fb_sm (fun k => up2 h p q v k q) 12 + h p q = fb_sm (fun k => h k q) 12 + v := by
  have e : (fun k => up2 h p q v k q) = fun k => if k = p then v else h k q := by
    funext k; unfold up2; by_cases hk : k = p <;> simp [hk]
  rw [e]
  exact fb_sm_upd (fun k => h k q) v hp
theorem up2_smo (h : Nat → Nat → Nat) {p q v q' : Nat} (hq : q' ≠ q) : (fun k => up2 h p q v k q') = fun k => h k q' := by
  funext k; unfold up2; simp [hq]
theorem up2_ct (h : Nat → Nat → Nat) {p q v : Nat} (hp : p < 12) : fb_ct (fun k => decide (0 < up2 h p q v k q)) 12 + (if 0 < h p q then 1 else 0) = fb_ct (fun k => decide (0 < h k q)) 12 + (if 0 < v then 1 else 0) := by
  have e : (fun k => decide (0 < up2 h p q v k q)) = fun k => if k = p then decide (0 < v) else decide (0 < h k q) := by
    funext k; unfold up2; by_cases hk : k = p <;> simp [hk]
  rw [e]
  have h := fb_ct_upd (fun k => decide (0 < h k q)) (decide (0 < v)) hp
  simpa using h
theorem up2_row (h : Nat → Nat → Nat) {p q v : Nat} (hq : q < 16) : fb_sm (up2 h p q v p) 16 + h p q = fb_sm (h p) 16 + v := by
  have e : (up2 h p q v p) = fun k => if k = q then v else h p k := by
    funext k; unfold up2; by_cases hk : k = q <;> simp [hk]
  rw [e]
  exact fb_sm_upd (h p) v hq
theorem up2_rowo (h : Nat → Nat → Nat) {p q v p' : Nat} (hp : p' ≠ p) : up2 h p q v p' = h p' := by
  funext k; unfold up2; simp [hp]
/-- the last steps of add: the number of parcels, the holder's bit -/
theorem add_61 {t p q : Nat} (hp : p < 12) (hq : q < 16) (z z' : Bool) (M : JI) {c c' : Nat} (hc : M (t + 3) q = nI c) (hcc : c + (if z' then 1 else 0) = c' + (if z then 1 else 0)) (hz : bt (M (t + 2) p) q = z) :
    ∃ M', fX1_add_61 t (nI p) (nI q) (bI z) (bI z') M = some M' ∧ (∀ a, a ≠ t + 2 → a ≠ t + 3 → M' a = M a) ∧ (∀ k, M' (t + 3) k = if k = q then nI c' else M (t + 3) k) ∧ (∀ k, k ≠ p → M' (t + 2) k = M (t + 2) k) ∧ (∀ i, bt (M' (t + 2) p) i = if i = q then z' else bt (M (t + 2) p) i) := by
  by_cases e : z = z'
  · subst e
    have : c = c' := by omega
    subst this
    refine ⟨M, ?_, fun a _ _ => rfl, ?_, fun k _ => rfl, ?_⟩
    · unfold fX1_add_61; rw [if_pos rfl]
    · intro k
      by_cases hk : k = q
      · rw [if_pos hk, hk, hc]
      · rw [if_neg hk]
    · intro i
      by_cases hi : i = q
      · rw [if_pos hi, hi, hz]
      · rw [if_neg hi]
  · have hne : ¬ bI z = bI z' := by cases z <;> cases z' <;> first | exact absurd rfl e | decide
    obtain ⟨y, hy, hb⟩ := wb_bits (M (t + 2) p) (q := q) (by omega) z'
    have key : fX1_add_61 t (nI p) (nI q) (bI z) (bI z') M = some (j_up (j_up M (t + 3) q (nI c')) (t + 2) p y) := by
      unfold fX1_add_61
      rw [if_neg hne, jg_in hq (by decide), nI_clamp (by omega), hc]
      cases z' with
      | true =>
        rw [if_neg (by decide)]
        unfold fX1_add_87
        have ez : z = false := by cases z <;> simp_all
        subst ez
        have e2 : nI c + (1 : Int32) = nI c' := by
          show nI c + nI 1 = nI c'
          rw [nI_add]
          simp at hcc
          rw [hcc]
        rw [jg_in hq (by decide), jg_in hp (by decide), nI_clamp (by omega), nI_clamp (by omega), e2, ju_row M _ (by omega), hy, Option.bind_some, jg_in hp (by decide)]
      | false =>
        rw [if_pos (by decide)]
        unfold fX1_add_87
        have ez : z = true := by cases z <;> simp_all
        subst ez
        have e2 : nI c + (-1 : Int32) = nI c' := by
          simp at hcc
          rw [hcc]
          exact pk_m1 c'
        rw [jg_in hq (by decide), jg_in hp (by decide), nI_clamp (by omega), nI_clamp (by omega), e2, ju_row M _ (by omega), hy, Option.bind_some, jg_in hp (by decide)]
    refine ⟨_, key, ?_, ?_, ?_, ?_⟩
    · intro a h2 h3
      rw [ju_row _ _ h2, ju_row _ _ h3]
    · intro k
      rw [ju_row _ _ (by omega), ju_at]
    · intro k hk
      rw [ju_cell _ _ hk, ju_row _ _ (by omega)]
    · intro i
      rw [ju_same, hb]
theorem hd_add {M : JI} {t : Nat} {h : Nat → Nat → Nat} (hv : vHd (M (t + 1)) (M (t + 2)) (M (t + 3)) (M (t + 4)) h) {p q v : Nat} (hp : p < 12) (hq : q < 16) {d : Int32} (hd : nI (h p q) + d = nI v) (h1 : h p q < 1000) (h2 : v < 1000) :
    ∃ M', fX1_add t (nI p) (nI q) d M = some M' ∧ (∀ a, a ≠ t + 1 → a ≠ t + 2 → a ≠ t + 3 → a ≠ t + 4 → M' a = M a) ∧ vHd (M' (t + 1)) (M' (t + 2)) (M' (t + 3)) (M' (t + 4)) (up2 h p q v) := by
  obtain ⟨a1, a2, a3, a4⟩ := hv
  have hat : nI p * (16 : Int32) + nI q = nI (16 * p + q) := by
    show nI p * nI 16 + nI q = _
    rw [pk_mul, nI_add, Nat.mul_comm p 16]
  have hcl : (nI (16 * p + q)).toNatClampNeg = 16 * p + q := nI_clamp (by omega)
  have hclq : (nI q).toNatClampNeg = q := nI_clamp (by omega)
  have hes : M (t + 4) q + d = nI (fb_sm (fun k => up2 h p q v k q) 12) := by
    have e := up2_sm h (q := q) (v := v) hp
    rw [a4 q hq]
    have hle : h p q ≤ fb_sm (fun k => h k q) 12 := by
      have := fb_sm_part (fun k => h k q) hp
      omega
    have e3 : fb_sm (fun k => h k q) 12 = (fb_sm (fun k => h k q) 12 - h p q) + h p q := by omega
    rw [e3, ← nI_add, Int32.add_assoc, hd, nI_add]
    congr 1
    omega
  let M2 : JI := j_up (j_up M (t + 1) (16 * p + q) (nI v)) (t + 4) q (nI (fb_sm (fun k => up2 h p q v k q) 12))
  have hM2 : M2 = j_up (j_up M (t + 1) (16 * p + q) (nI v)) (t + 4) q (nI (fb_sm (fun k => up2 h p q v k q) 12)) := rfl
  have hz : bt (M2 (t + 2) p) q = decide (0 < h p q) := by
    rw [hM2, ju_row _ _ (by omega), ju_row _ _ (by omega), a2 p q hp]
    simp [hq]
  obtain ⟨M', e1, e2, e3, e4, e5⟩ := add_61 (t := t) hp hq (decide (0 < h p q)) (decide (0 < v)) M2 (c := fb_ct (fun k => decide (0 < h k q)) 12) (c' := fb_ct (fun k => decide (0 < up2 h p q v k q)) 12) (by rw [hM2, ju_row _ _ (by omega), ju_row _ _ (by omega)]; exact a3 q hq) (by
    have := up2_ct h (q := q) (v := v) hp
    simp only [decide_eq_true_eq]
    omega) hz
  refine ⟨M', ?_, ?_, ?_, ?_, ?_, ?_⟩
  · have key : ∀ z : Int32, fX1_add_23 t (nI p) (nI q) d (nI (16 * p + q)) z M = fX1_add_61 t (nI p) (nI q) z (bI (decide (0 < v))) M2 := by
      intro z
      unfold fX1_add_23
      rw [jg_in (by omega) (by decide), jg_in (by omega) (by decide), jg_in hq (by decide), jg_in hq (by decide), jg_in (by omega) (by decide), hcl, hclq, a1 p q hp hq, hd]
      rw [ju_row M _ (show t + 4 ≠ t + 1 by omega), hes]
      rw [ju_row _ _ (show t + 1 ≠ t + 4 by omega), ju_same, hM2]
      by_cases hv0 : v = 0
      · subst hv0
        rw [if_pos (by decide)]; rfl
      · rw [if_neg (nI_ne0 (by omega) (by omega))]
        have : decide (0 < v) = true := decide_eq_true (by omega)
        rw [this]; rfl
    unfold fX1_add
    rw [hat, jg_in (by omega) (by decide), hcl, a1 p q hp hq, key, key, ← e1]
    by_cases hh : h p q = 0
    · rw [hh, if_pos (by decide)]; rfl
    · rw [if_neg (nI_ne0 (by omega) (by omega))]
      have : decide (0 < h p q) = true := decide_eq_true (by omega)
      rw [this]; rfl
  · intro a n1 n2 n3 n4
    rw [e2 a n2 n3, hM2, ju_row _ _ n4, ju_row _ _ n1]
  · intro p' q' hp' hq'
    rw [e2 _ (by omega) (by omega), hM2, ju_row _ _ (by omega), ju_at]
    show (if 16 * p' + q' = 16 * p + q then nI v else M (t + 1) (16 * p' + q')) = nI (up2 h p q v p' q')
    unfold up2
    by_cases hc : p' = p ∧ q' = q
    · rw [if_pos (by omega), if_pos hc]
    · rw [if_neg (by omega), if_neg hc, a1 p' q' hp' hq']
  · intro p' i hp'
    by_cases hc : p' = p
    · subst hc
      rw [e5 i, hM2, ju_row _ _ (by omega), ju_row _ _ (by omega), a2 p' i hp']
      unfold up2
      by_cases hi : i = q
      · subst hi; simp [hq]
      · simp [hi]
    · rw [e4 p' hc, hM2, ju_row _ _ (by omega), ju_row _ _ (by omega), a2 p' i hp']
      unfold up2
      simp [hc]
  · intro q' hq'
    rw [e3 q', hM2, ju_row _ _ (by omega), ju_row _ _ (by omega)]
    by_cases hc : q' = q
    · rw [if_pos hc, hc]
    · rw [if_neg hc, a3 q' hq']
      have e := up2_smo h (p := p) (v := v) hc
      have e2 : (fun k => decide (0 < up2 h p q v k q')) = fun k => decide (0 < h k q') := by
        funext k
        rw [show up2 h p q v k q' = h k q' from congrFun e k]
      rw [e2]
  · intro q' hq'
    rw [e2 _ (by omega) (by omega), hM2, ju_at]
    show (if q' = q then _ else j_up M (t + 1) (16 * p + q) (nI v) (t + 4) q') = _
    by_cases hc : q' = q
    · rw [if_pos hc, hc]
    · rw [if_neg hc, ju_row _ _ (by omega), a4 q' hq', up2_smo h hc]

theorem vHd_cong {r8 r9 r10 r11 : Nat → Int32} {h h' : Nat → Nat → Nat} (e : ∀ p q, p < 12 → q < 16 → h' p q = h p q) (hv : vHd r8 r9 r10 r11 h) : vHd r8 r9 r10 r11 h' := by
  obtain ⟨a1, a2, a3, a4⟩ := hv
  refine ⟨fun p q hp hq => by rw [e p q hp hq]; exact a1 p q hp hq, fun p i hp => ?_, fun q hq => ?_, fun q hq => ?_⟩
  · rw [a2 p i hp]
    by_cases hi : i < 16
    · rw [e p i hp hi]
    · simp [hi]
  · rw [a3 q hq]
    congr 1
    exact fb_ct_cong (fun k hk => by rw [e k q hk hq])
  · rw [a4 q hq]
    congr 1
    exact fb_sm_cong (fun k hk => by rw [e k q hk hq])
def twRep (r : Nat → Int32) (h : Nat → Nat → Nat) : Prop := ∀ p q, p < 12 → q < 16 → r (16 * p + q) = nI (h p q)
theorem hN_of {r : Nat → Int32} {h : Nat → Nat → Nat} (e : twRep r h) (hb : ∀ p q, p < 12 → q < 16 → h p q ≤ 12) {p q : Nat} (hp : p < 12) (hq : q < 16) : hN r p q = h p q := by
  unfold hN
  rw [e p q hp hq]
  exact nI_clamp (by have := hb p q hp hq; omega)
theorem vTw_of {t : Int32} {r : Nat → Int32} {h : Nat → Nat → Nat} (e : twRep r h) (hb : ∀ p q, p < 12 → q < 16 → h p q ≤ 12) (hs : ∀ p, p < 12 → fb_sm (h p) 16 = if bt t p then 12 else 0) : vTw t r := by
  refine ⟨fun p q hp hq => ?_, fun p hp => ?_⟩
  · rw [hN_of e hb hp hq]
    exact ⟨e p q hp hq, hb p q hp hq⟩
  · rw [← hs p hp]
    exact fb_sm_cong (fun q hq => hN_of e hb hp hq)
theorem tw_rep {t : Int32} {r : Nat → Int32} (h : vTw t r) : twRep r (hN r) := fun p q hp hq => (h.1 p q hp hq).1
def mvh (h : Nat → Nat → Nat) (p f g n : Nat) : Nat → Nat → Nat := up2 (up2 h p f (h p f - n)) p g (h p g + n)
theorem mvh_row {h : Nat → Nat → Nat} {p f g n : Nat} (hf : f < 16) (hg : g < 16) (hne : f ≠ g) (hn : n ≤ h p f) : fb_sm (mvh h p f g n p) 16 = fb_sm (h p) 16 := by
  have e1 := up2_row h (p := p) (q := f) (v := h p f - n) hf
  have e2 := up2_row (up2 h p f (h p f - n)) (p := p) (q := g) (v := h p g + n) hg
  have e3 : up2 h p f (h p f - n) p g = h p g := by unfold up2; rw [if_neg (by omega)]
  rw [e3] at e2
  unfold mvh
  omega
theorem mvh_rowo {h : Nat → Nat → Nat} {p f g n p' : Nat} (hp : p' ≠ p) : mvh h p f g n p' = h p' := by
  unfold mvh
  rw [up2_rowo _ hp, up2_rowo _ hp]
theorem two_le {h : Nat → Nat} {f g n : Nat} (hf : f < n) (hg : g < n) (hne : f ≠ g) : h f + h g ≤ fb_sm h n := by
  have e1 := fb_sm_upd h 0 hf
  have e2 := fb_sm_part (fun k => if k = f then 0 else h k) hg
  simp only [if_neg (fun e => hne (e.symm) : ¬ g = f)] at e2
  omega
theorem mvh_le {h : Nat → Nat → Nat} {p f g n : Nat} (hf : f < 16) (hg : g < 16) (hne : f ≠ g) (hn : n ≤ h p f) (hs : fb_sm (h p) 16 ≤ 12) (hb : ∀ p q, p < 12 → q < 16 → h p q ≤ 12) : ∀ p' q', p' < 12 → q' < 16 → mvh h p f g n p' q' ≤ 12 := by
  intro p' q' hp' hq'
  have h2 := two_le (h := h p) hf hg hne
  have h3 := hb p' q' hp' hq'
  unfold mvh up2
  split
  · omega
  · split
    · have : h p f ≤ 12 := by omega
      omega
    · exact h3
theorem hd_move {M : JI} {t : Nat} {h : Nat → Nat → Nat} (hv : vHd (M (t + 1)) (M (t + 2)) (M (t + 3)) (M (t + 4)) h) {p f g n : Nat} (hp : p < 12) (hf : f < 16) (hg : g < 16) (hne : f ≠ g) (hn : n ≤ h p f) (h1 : h p f < 500) (h2 : h p g < 500) :
    ∃ M', fX1_move t (nI p) (nI f) (nI g) (nI n) M = some M' ∧ (∀ a, a ≠ t + 1 → a ≠ t + 2 → a ≠ t + 3 → a ≠ t + 4 → M' a = M a) ∧ vHd (M' (t + 1)) (M' (t + 2)) (M' (t + 3)) (M' (t + 4)) (mvh h p f g n) := by
  have e1 : nI (h p f) + -nI n = nI (h p f - n) := by rw [← Int32.sub_eq_add_neg]; exact pk_sub hn
  obtain ⟨M1, a1, a2, a3⟩ := hd_add hv hp hf (v := h p f - n) e1 (by omega) (by omega)
  have e3 : up2 h p f (h p f - n) p g = h p g := by unfold up2; rw [if_neg (by omega)]
  obtain ⟨M2, b1, b2, b3⟩ := hd_add a3 hp hg (d := nI n) (v := h p g + n) (by rw [e3, nI_add]) (by rw [e3]; omega) (by omega)
  refine ⟨M2, ?_, ?_, b3⟩
  · unfold fX1_move
    rw [a1, Option.bind_some, b1]; rfl
  · intro a n1 n2 n3 n4
    rw [b2 a n1 n2 n3 n4, a2 a n1 n2 n3 n4]
theorem rf_moves {M : JI} {h : Nat → Nat → Nat} (e : twRep (M 68) h) {p f g n : Nat} (hp : p < 12) (hf : f < 16) (hg : g < 16) (hne : f ≠ g) (hn : n ≤ h p f) :
    ∃ M', fX12_moves (nI p) (nI f) (nI g) (nI n) M = some M' ∧ (∀ a, a ≠ 68 → M' a = M a) ∧ twRep (M' 68) (mvh h p f g n) ∧ (∀ k, 192 ≤ k → M' 68 k = M 68 k) := by
  have hat : ∀ q, (16 : Int32) * nI p + nI q = nI (16 * p + q) := by
    intro q
    show nI 16 * nI p + nI q = _
    rw [pk_mul, nI_add]
  have hcf : (nI (16 * p + f)).toNatClampNeg = 16 * p + f := nI_clamp (by omega)
  have hcg : (nI (16 * p + g)).toNatClampNeg = 16 * p + g := nI_clamp (by omega)
  refine ⟨j_up (j_up M 68 (16 * p + f) (nI (h p f - n))) 68 (16 * p + g) (nI (h p g + n)), ?_, ?_, ?_, ?_⟩
  · unfold fX12_moves
    rw [hat, hat, jg_in (by omega) (by decide), jg_in (by omega) (by decide), jg_in (by omega) (by decide), jg_in (by omega) (by decide), hcf, hcg, e p f hp hf, pk_sub hn, ju_cell M _ (by omega), e p g hp hg, nI_add]
  · intro a ha
    rw [ju_row _ _ ha, ju_row _ _ ha]
  · intro p' q' hp' hq'
    rw [ju_at]
    show (if 16 * p' + q' = 16 * p + g then nI (h p g + n) else j_up M 68 (16 * p + f) (nI (h p f - n)) 68 (16 * p' + q')) = _
    rw [ju_at]
    show (if 16 * p' + q' = 16 * p + g then nI (h p g + n) else if 16 * p' + q' = 16 * p + f then nI (h p f - n) else M 68 (16 * p' + q')) = _
    unfold mvh up2
    by_cases c1 : p' = p ∧ q' = g
    · rw [if_pos (by omega), if_pos c1]
    · rw [if_neg (by omega), if_neg c1]
      by_cases c2 : p' = p ∧ q' = f
      · rw [if_pos (by omega), if_pos c2]
      · rw [if_neg (by omega), if_neg c2, e p' q' hp' hq']
  · intro k hk
    rw [ju_cell _ _ (by omega), ju_cell _ _ (by omega)]
