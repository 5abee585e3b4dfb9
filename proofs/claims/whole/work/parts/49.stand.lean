/-! ===== who stands how ===== -/
def jnS (r69 r70 : Nat → Int32) (who p o : Nat) : Bool := if who = 2 then !decide (r69 (12 * p + o) = nI 0) else decide (r70 (12 * p + o) = nI 1)
def wtS (r69 r70 r71 : Nat → Int32) (h : Nat → Nat → Nat) (who p s q : Nat) : Nat := if who = 0 then (if r71 (16 * s + q) = nI 0 then 0 else 1) else if who = 1 then h p q else fb_sm (fun o => if jnS r69 r70 who p o then h o q else 0) 12
theorem jn2 (r69 r70 : Nat → Int32) (p o : Nat) : jnS r69 r70 2 p o = !decide (r69 (12 * p + o) = nI 0) := if_pos rfl
theorem jn3 (r69 r70 : Nat → Int32) (p o : Nat) : jnS r69 r70 3 p o = decide (r70 (12 * p + o) = nI 1) := if_neg (by decide)
theorem b_15 : ∀ i, i < 32 → bt (nI 15) i = decide (i < 4) := by decide +kernel
theorem low4 {x : Int32} (h : ∀ i, 4 ≤ i → bt x i = false) : ∃ v, v < 16 ∧ x = nI v := by
  obtain ⟨j, hj, e⟩ := pk_andE x (m := nI 15) 4 (by decide)
  refine ⟨j, hj, ?_⟩
  rw [← e]
  apply b_ext
  intro i hi
  rw [b_and, b_15 i hi]
  by_cases c : i < 4
  · simp [c]
  · rw [h i (by omega)]; simp
theorem sm_pos {f : Nat → Nat} {n : Nat} : 0 < fb_sm f n ↔ ∃ k, k < n ∧ 0 < f k := by
  constructor
  · intro h
    apply Classical.byContradiction
    intro hn
    have : fb_sm f n = fb_sm (fun _ => 0) n := fb_sm_cong (fun k hk => by
      have : ¬ 0 < f k := fun h0 => hn ⟨k, hk, h0⟩
      omega)
    rw [this, fb_sm_const] at h
    omega
  · rintro ⟨k, hk, h⟩
    have := fb_sm_part f hk
    omega
theorem suc_of {n d : Nat} (h : d < n) : ∃ n', n = n' + 1 := ⟨n - 1, by omega⟩
theorem ho_loop {M : JI} {t : Nat} {P : Int32} (hP : ∀ i, 12 ≤ i → bt P i = false) : ∀ d k, k + d = 12 → ∀ n, d < n → ∀ acc : Int32, (∀ i, bt acc i = true ↔ ∃ o, o < k ∧ bt P o = true ∧ bt (M (t + 2) o) i = true) → ∃ x, fX1_holdersOf_4 t n P acc (nI k) M = some x ∧ ∀ i, bt x i = true ↔ ∃ o, o < 12 ∧ bt P o = true ∧ bt (M (t + 2) o) i = true := by
  intro d
  induction d with
  | zero =>
    intro k hk n hn acc ha
    obtain ⟨n', rfl⟩ := suc_of hn
    have : k = 12 := by omega
    subst this
    refine ⟨acc, ?_, ha⟩
    rw [fX1_holdersOf_4, if_pos (by decide)]
  | succ d ih =>
    intro k hk n hn acc ha
    obtain ⟨n', rfl⟩ := suc_of hn
    rw [fX1_holdersOf_4, if_neg (show ¬ (12 : Int32) ≤ nI k from nI_ge (b := 12) (by omega) (by omega))]
    by_cases h0 : ∀ i, k ≤ i → bt P i = false
    · refine ⟨acc, ?_, fun i => ?_⟩
      · rw [if_pos (by rw [li_31, li_0, bt_shr0 P (by omega) (fun i hi => hP i (by omega))]; exact h0)]
      · rw [ha i]
        constructor
        · rintro ⟨o, ho, h⟩
          exact ⟨o, by omega, h⟩
        · rintro ⟨o, ho, h1, h2⟩
          refine ⟨o, ?_, h1, h2⟩
          apply Classical.byContradiction
          intro hlt
          rw [h0 o (by omega)] at h1
          exact absurd h1 (by simp)
    · rw [if_neg (by rw [li_31, li_0, bt_shr0 P (by omega) (fun i hi => hP i (by omega))]; exact h0)]
      have e1 : nI k + (1 : Int32) = nI (k + 1) := nI_1 k
      by_cases hb : bt P k = true
      · rw [if_neg (by rw [li_31, li_0, li_1, bt_test P (by omega), hb]; simp), jg_in (by omega) (by decide), nI_clamp (by omega), e1]
        refine ih (k + 1) (by omega) n' (by omega) _ (fun i => ?_)
        rw [b_or]
        simp only [Bool.or_eq_true]
        rw [ha i]
        constructor
        · rintro (⟨o, ho, h⟩ | h)
          · exact ⟨o, by omega, h⟩
          · exact ⟨k, by omega, hb, h⟩
        · rintro ⟨o, ho, h1, h2⟩
          by_cases e : o = k
          · subst e; exact Or.inr h2
          · exact Or.inl ⟨o, by omega, h1, h2⟩
      · have hb0 : bt P k = false := by simpa using hb
        rw [if_pos (by rw [li_31, li_0, li_1, bt_test P (by omega), hb0]), e1]
        refine ih (k + 1) (by omega) n' (by omega) _ (fun i => ?_)
        rw [ha i]
        constructor
        · rintro ⟨o, ho, h⟩
          exact ⟨o, by omega, h⟩
        · rintro ⟨o, ho, h1, h2⟩
          by_cases e : o = k
          · subst e; exact absurd h1 hb
          · exact ⟨o, by omega, h1, h2⟩
theorem ho_eq {M : JI} {t : Nat} {P : Int32} (hP : ∀ i, 12 ≤ i → bt P i = false) : ∃ x, fX1_holdersOf t P M = some x ∧ ∀ i, bt x i = true ↔ ∃ o, o < 12 ∧ bt P o = true ∧ bt (M (t + 2) o) i = true := by
  unfold fX1_holdersOf
  exact ho_loop hP 12 0 (by omega) 100000 (by omega) 0 (fun i => by
    have : bt 0 i = false := b_0 i
    rw [this]
    constructor
    · intro h; exact absurd h (by simp)
    · rintro ⟨o, ho, -⟩; omega)
theorem side_hi {r2 r3 r69 : Nat → Int32} (h : vSide r2 r3 r69) {p : Nat} (hp : p < 12) : ∀ i, 12 ≤ i → bt (r3 p) i = false := by
  intro i hi
  rw [h.2.1 p i hp]
  simp; omega
theorem wet_hi {r4 r70 : Nat → Int32} (h : vWet r4 r70) {p : Nat} (hp : p < 12) : ∀ i, 12 ≤ i → bt (r4 p) i = false := by
  intro i hi
  rw [h.1 p i hp]
  simp; omega
theorem sd_bits {M : JI} {t : Nat} {h : Nat → Nat → Nat} {r69 r70 r71 : Nat → Int32} (h3 : vHd (M (t + 1)) (M (t + 2)) (M (t + 3)) (M (t + 4)) h) (h4 : vSide (M 2) (M 3) r69) (h5 : vWet (M 4) r70) (h6 : vDeg (M 5) (M 6) r71) {who p s : Nat} (hw : who < 4) (hp : p < 12) (hs : s < 16) :
    ∃ x, fX9_standing (nI who) t (nI p) (nI s) M = some x ∧ ∀ i, bt x i = (decide (i < 16) && decide (0 < wtS r69 r70 r71 h who p s i)) := by
  have hk : who = 0 ∨ who = 1 ∨ who = 2 ∨ who = 3 := by omega
  unfold fX9_standing
  rcases hk with rfl | rfl | rfl | rfl
  · refine ⟨M 6 s, ?_, fun i => ?_⟩
    · rw [if_pos (by decide), jg_in hs (by decide), nI_clamp (by omega)]
    · rw [h6.2 s i hs]
      unfold wtS
      rw [if_pos rfl]
      by_cases h0 : r71 (16 * s + i) = nI 0
      · simp [h0]
      · simp [h0]
  · refine ⟨M (t + 2) p, ?_, fun i => ?_⟩
    · rw [if_neg (by decide), if_pos (by decide), jg_in hp (by decide), nI_clamp (by omega)]
    · rw [h3.2.1 p i hp]
      unfold wtS
      rw [if_neg (by decide), if_pos rfl]
  · obtain ⟨x, e, hx⟩ := ho_eq (M := M) (t := t) (side_hi h4 hp)
    refine ⟨x, ?_, fun i => ?_⟩
    · rw [if_neg (by decide), if_neg (by decide), if_pos (by decide), jg_in hp (by decide), nI_clamp (by omega), e]; rfl
    · apply Bool.eq_iff_iff.mpr
      rw [hx i, Bool.and_eq_true, decide_eq_true_eq, decide_eq_true_eq]
      unfold wtS
      rw [if_neg (by decide), if_neg (by decide), sm_pos]
      constructor
      · rintro ⟨o, ho, b1, b2⟩
        rw [h4.2.1 p o hp] at b1
        rw [h3.2.1 o i ho] at b2
        simp only [Bool.and_eq_true, decide_eq_true_eq] at b1 b2
        refine ⟨b2.1, o, ho, ?_⟩
        rw [jn2, if_pos b1.2]
        exact b2.2
      · rintro ⟨hi, o, ho, b⟩
        rw [jn2] at b
        by_cases c : (!decide (r69 (12 * p + o) = nI 0)) = true
        · rw [if_pos c] at b
          refine ⟨o, ho, ?_, ?_⟩
          · rw [h4.2.1 p o hp, c]; simp [ho]
          · rw [h3.2.1 o i ho]; simp [hi, b]
        · rw [if_neg c] at b; omega
  · obtain ⟨x, e, hx⟩ := ho_eq (M := M) (t := t) (wet_hi h5 hp)
    refine ⟨x, ?_, fun i => ?_⟩
    · rw [if_neg (by decide), if_neg (by decide), if_neg (by decide), if_pos (by decide), jg_in hp (by decide), nI_clamp (by omega), e]; rfl
    · apply Bool.eq_iff_iff.mpr
      rw [hx i, Bool.and_eq_true, decide_eq_true_eq, decide_eq_true_eq]
      unfold wtS
      rw [if_neg (by decide), if_neg (by decide), sm_pos]
      constructor
      · rintro ⟨o, ho, b1, b2⟩
        rw [h5.1 p o hp] at b1
        rw [h3.2.1 o i ho] at b2
        simp only [Bool.and_eq_true, decide_eq_true_eq] at b1 b2
        refine ⟨b2.1, o, ho, ?_⟩
        rw [jn3, if_pos (decide_eq_true b1.2)]
        exact b2.2
      · rintro ⟨hi, o, ho, b⟩
        rw [jn3] at b
        by_cases c : decide (r70 (12 * p + o) = nI 1) = true
        · rw [if_pos c] at b
          refine ⟨o, ho, ?_, ?_⟩
          · rw [h5.1 p o hp, c]; simp [ho]
          · rw [h3.2.1 o i ho]; simp [hi, b]
        · rw [if_neg c] at b; omega
/-- the reference's weight -/
theorem jn_eq {M : JI} {r2 r3 r4 : Nat → Int32} (h4 : vSide r2 r3 (M 69)) (h5 : vWet r4 (M 70)) {who p o : Nat} (hw : who = 2 ∨ who = 3) (hp : p < 12) (ho : o < 12) : fX12_joins (nI p) (nI o) (nI who) M = some (bI (jnS (M 69) (M 70) who p o)) := by
  unfold fX12_joins
  rw [at12, jg_in (by omega) (by decide), jg_in (by omega) (by decide), nI_clamp (by omega)]
  rcases hw with rfl | rfl
  · rw [if_pos (by decide), jn2]
    obtain ⟨v, hv, e⟩ := low4 (fun i hi => h4.2.2 p o i hp ho hi)
    rw [e]
    by_cases h0 : v = 0
    · subst h0
      rw [if_pos (by decide)]; rfl
    · have hne : ¬ nI v = nI 0 := nI_ne0 (by omega) (by omega)
      rw [if_neg (show ¬ nI v ≤ 0 from nI_nle (by omega) (by omega))]; simp [hne]; rfl
  · rw [if_neg (by decide), jn3]
    rcases h5.2 p o hp ho with e | e
    · rw [e]; rfl
    · rw [e]; rfl
theorem wt_loop {M : JI} {h : Nat → Nat → Nat} {r2 r3 r4 : Nat → Int32} (h4 : vSide r2 r3 (M 69)) (h5 : vWet r4 (M 70)) (e68 : twRep (M 68) h) {who p q : Nat} (hw : who = 2 ∨ who = 3) (hp : p < 12) (hq : q < 16) : ∀ d k, k + d = 12 → ∀ n, d < n → fX12_weight_49 n (nI who) (nI p) (nI q) (nI (fb_sm (fun o => if jnS (M 69) (M 70) who p o then h o q else 0) k)) (nI k) M = some (nI (fb_sm (fun o => if jnS (M 69) (M 70) who p o then h o q else 0) 12)) := by
  intro d
  induction d with
  | zero =>
    intro k hk n hn
    obtain ⟨n', rfl⟩ := suc_of hn
    have : k = 12 := by omega
    subst this
    rw [fX12_weight_49, if_pos (by decide)]
  | succ d ih =>
    intro k hk n hn
    obtain ⟨n', rfl⟩ := suc_of hn
    rw [fX12_weight_49, if_neg (show ¬ (12 : Int32) ≤ nI k from nI_ge (b := 12) (by omega) (by omega)), jn_eq h4 h5 hw hp (by omega), Option.bind_some]
    have e1 : nI k + (1 : Int32) = nI (k + 1) := nI_1 k
    rw [← ih (k + 1) (by omega) n' (by omega), fb_sm_succ]
    by_cases c : jnS (M 69) (M 70) who p k = true
    · rw [c, if_neg (by decide), at16, jg_in (by omega) (by decide), nI_clamp (by omega), e68 k q (by omega) hq, nI_add, e1, if_pos rfl]
    · have c0 : jnS (M 69) (M 70) who p k = false := by simpa using c
      rw [c0, if_pos (by decide), e1, if_neg (by simp)]
      have : ∀ x, nI x + (0 : Int32) = nI (x + 0) := fun x => by show nI x + nI 0 = _; rw [nI_add]
      rw [this]
theorem wt_eq {M : JI} {h : Nat → Nat → Nat} {r2 r3 r4 r5 r6 : Nat → Int32} (h4 : vSide r2 r3 (M 69)) (h5 : vWet r4 (M 70)) (h6 : vDeg r5 r6 (M 71)) (e68 : twRep (M 68) h) {who p s q : Nat} (hw : who < 4) (hp : p < 12) (hs : s < 16) (hq : q < 16) : fX12_weight (nI who) (nI p) (nI s) (nI q) M = some (nI (wtS (M 69) (M 70) (M 71) h who p s q)) := by
  unfold fX12_weight
  have hk : who = 0 ∨ who = 1 ∨ (who = 2 ∨ who = 3) := by omega
  rcases hk with rfl | rfl | hk
  · have e : wtS (M 69) (M 70) (M 71) h 0 p s q = if M 71 (16 * s + q) = nI 0 then 0 else 1 := if_pos rfl
    obtain ⟨-, -, d, hd, ed⟩ := h6.1 s q hs hq
    rw [if_pos (by decide), at16, jg_in (by omega) (by decide), nI_clamp (by omega), e, ed]
    by_cases h0 : d = 0
    · subst h0
      rw [if_pos (by decide), if_pos rfl]; rfl
    · rw [if_neg (show ¬ nI d ≤ 0 from nI_nle (by omega) (by omega)), if_neg (show ¬ nI d = nI 0 from nI_ne0 (by omega) (by omega))]; rfl
  · have e : wtS (M 69) (M 70) (M 71) h 1 p s q = h p q := rfl
    rw [if_neg (by decide), if_pos (by decide), at16, jg_in (by omega) (by decide), nI_clamp (by omega), e, e68 p q hp hq]
  · have e : wtS (M 69) (M 70) (M 71) h who p s q = fb_sm (fun o => if jnS (M 69) (M 70) who p o then h o q else 0) 12 := by
      unfold wtS
      rw [if_neg (by omega), if_neg (by omega)]
    rw [if_neg (show ¬ nI who = 0 from nI_ne0 (by omega) (by omega)), if_neg (show ¬ nI who = (1 : Int32) from fun h => absurd ((nI_eq (b := 1) (by omega) (by omega)).mp h) (by omega)), e]
    exact wt_loop h4 h5 e68 hk hp hq 12 0 (by omega) 100000 (by omega)
theorem wt_le {r69 r70 r71 : Nat → Int32} {h : Nat → Nat → Nat} (hb : ∀ p q, p < 12 → q < 16 → h p q ≤ 12) {who p s q : Nat} (hp : p < 12) (hq : q < 16) : wtS r69 r70 r71 h who p s q ≤ 144 := by
  unfold wtS
  split
  · split <;> omega
  · split
    · have := hb p q hp hq; omega
    · have := fb_sm_bound (f := fun o => if jnS r69 r70 who p o then h o q else 0) (c := 12) (n := 12) (fun k hk => by
        show (if jnS r69 r70 who p k then h k q else 0) ≤ 12
        have := hb k q hk hq
        split <;> omega)
      omega
theorem shl_bI (b : Bool) {k : Nat} (hk : k < 32) (acc : Int32) : acc ||| (bI b <<< (nI k &&& nI 31)) = if b then acc ||| (nI 1 <<< (nI k &&& nI 31)) else acc ||| nI 0 := by
  cases b with
  | true => rfl
  | false =>
    show acc ||| (nI 0 <<< (nI k &&& nI 31)) = acc ||| nI 0
    congr 1
    apply b_ext
    intro i hi
    have h := b_shl k hk (nI 0) (i := i) hi
    have h2 : bt (nI 0 <<< (nI k &&& nI 31)) i = (decide (k ≤ i) && bt (nI 0) (i - k)) := h
    rw [h2, bt_zero, bt_zero]; simp
theorem st_loop {M M' : JI} {h : Nat → Nat → Nat} (h3 : vHd (M 8) (M 9) (M 10) (M 11) h) (h4 : vSide (M 2) (M 3) (M' 69)) (h5 : vWet (M 4) (M' 70)) (h6 : vDeg (M 5) (M 6) (M' 71)) (e68 : twRep (M' 68) h) (hb : ∀ p q, p < 12 → q < 16 → h p q ≤ 12) {p s q : Nat} (hp : p < 12) (hs : s < 16) (hq : q < 16) : ∀ d k, k + d = 4 → ∀ n, d < n → ∀ acc, ∃ x, fX11_stands_33 n (nI p) (nI s) (nI q) acc (nI k) M = some x ∧ fX12_stands_35 n (nI p) (nI s) (nI q) acc (nI k) M' = some (x, M') := by
  intro d
  induction d with
  | zero =>
    intro k hk n hn acc
    obtain ⟨n', rfl⟩ := suc_of hn
    have : k = 4 := by omega
    subst this
    exact ⟨acc, by rw [fX11_stands_33, if_pos (by decide)], by rw [fX12_stands_35, if_pos (by decide)]⟩
  | succ d ih =>
    intro k hk n hn acc
    obtain ⟨n', rfl⟩ := suc_of hn
    obtain ⟨y, ey, by_⟩ := sd_bits (M := M) (t := 7) h3 h4 h5 h6 (who := k) (by omega) hp hs
    obtain ⟨x, x1, x2⟩ := ih (k + 1) (by omega) n' (by omega) (acc ||| (bI (bt y q) <<< (nI k &&& nI 31)))
    have e1 : nI k + (1 : Int32) = nI (k + 1) := nI_1 k
    have hk4 : ¬ (4 : Int32) ≤ nI k := nI_ge (b := 4) (by omega) (by omega)
    refine ⟨x, ?_, ?_⟩
    · rw [fX11_stands_33, if_neg hk4, ey, Option.bind_some, e1, li_31, li_1, bt_val y (by omega), x1]
    · have hle := wt_le (r69 := M' 69) (r70 := M' 70) (r71 := M' 71) hb (who := k) (s := s) hp hq
      have hbq : bt y q = decide (0 < wtS (M' 69) (M' 70) (M' 71) h k p s q) := by rw [by_ q]; simp [hq]
      rw [fX12_stands_35, if_neg hk4, wt_eq h4 h5 h6 e68 (by omega) hp hs hq, Option.bind_some, e1]
      rw [shl_bI _ (by omega)] at x2
      by_cases c : 0 < wtS (M' 69) (M' 70) (M' 71) h k p s q
      · rw [hbq, decide_eq_true c, if_pos rfl] at x2
        rw [if_neg (show ¬ nI _ ≤ 0 from nI_nle c (by omega))]
        exact x2
      · rw [hbq, decide_eq_false c, if_neg (by simp)] at x2
        have c0 : wtS (M' 69) (M' 70) (M' 71) h k p s q = 0 := by omega
        rw [c0, if_pos (by decide)]
        exact x2
theorem op_stands {n : Nat} {M : JI} {L : JL} {D : JG} {S : JS} (h : Inv n M L D S) (x y z : Int32) : ∃ r M2, fX11_stands x y z M = some r ∧ fX12_stands x y z M = some (r, M2) ∧ Inv (n + 1) M2 L D S := by
  have hh := h
  obtain ⟨h1, h2, h3, h4, h5, h6, h7, h8, h9, h10, h11, h12, h13, h14, h15, h16, h17, h18, h19⟩ := hh
  have hc : ∀ v, fX12_isParcel x (j_up M 66 0 v) = fX12_isParcel x M := fun v => isp_cong (ju_row _ _ (by omega))
  unfold fX11_stands fX12_stands
  rcases tl_cases h1 rfl rfl x with ⟨x1, x2, -⟩ | ⟨p, hp, rfl, hb, x1, x2⟩
  · exact ⟨-nI 1, j_up M 66 0 (nI 0), by rw [x1]; rfl, by rw [hc, x2]; rfl, inv_thr h _⟩
  · rcases ps_cases y with ⟨y1, y2⟩ | ⟨s, hs, rfl, y1, y2⟩
    · exact ⟨-nI 1, j_up M 66 0 (nI 0), by rw [x1, y1]; rfl, by rw [hc, x2, y2]; rfl, inv_thr h _⟩
    · rcases ps_cases z with ⟨z1, z2⟩ | ⟨q, hq, rfl, z1, z2⟩
      · exact ⟨-nI 1, j_up M 66 0 (nI 0), by rw [x1, y1, z1]; rfl, by rw [hc, x2, y2, z2]; rfl, inv_thr h _⟩
      · obtain ⟨r, a, b⟩ := st_loop (M := M) (M' := j_up M 66 0 (nI 0)) (h := hN (M 68)) h3 (by simpa (disch := omega) only [ju_row, ju_cell, ju_cell2, ju_same, jr_ne, jr_at, jr_at2, jr_ne2, rE_up, rD_up, rP_up, rM_up, rH_up, rL_up, rE_jr, rD_jr, rP_jr, rM_jr, rH_jr, rL_jr] using h4) (by simpa (disch := omega) only [ju_row, ju_cell, ju_cell2, ju_same, jr_ne, jr_at, jr_at2, jr_ne2, rE_up, rD_up, rP_up, rM_up, rH_up, rL_up, rE_jr, rD_jr, rP_jr, rM_jr, rH_jr, rL_jr] using h5) (by simpa (disch := omega) only [ju_row, ju_cell, ju_cell2, ju_same, jr_ne, jr_at, jr_at2, jr_ne2, rE_up, rD_up, rP_up, rM_up, rH_up, rL_up, rE_jr, rD_jr, rP_jr, rM_jr, rH_jr, rL_jr] using h6) (by simp (disch := omega) only [ju_row, ju_cell, ju_cell2, ju_same, jr_ne, jr_at, jr_at2, jr_ne2, rE_up, rD_up, rP_up, rM_up, rH_up, rL_up, rE_jr, rD_jr, rP_jr, rM_jr, rH_jr, rL_jr]; exact tw_rep h2) (fun p q hp hq => (h2.1 p q hp hq).2) hp hs hq 4 0 (by omega) 100000 (by omega) 0
        refine ⟨r, j_up M 66 0 (nI 0), ?_, ?_, inv_thr h _⟩
        · rw [x1, Option.bind_some, if_neg (by decide), y1, Option.bind_some, if_neg (by decide), z1, Option.bind_some, if_neg (by decide)]
          exact a
        · rw [hc, x2, Option.bind_some, if_neg (by decide), y2, Option.bind_some, if_neg (by decide), z2, Option.bind_some, if_neg (by decide)]
          exact b
