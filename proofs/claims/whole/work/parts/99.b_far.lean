/-! ===== how far: the reference's side ===== -/
def slF (h : Nat → Nat → Nat) (p : Nat) : Nat := fa_first (fun q => decide (h p q = 12)) 16
def slV (h : Nat → Nat → Nat) (p : Nat) : Int32 := if slF h p < 16 then nI (slF h p) else -nI 1
def FS (h : Nat → Nat → Nat) (g p : Nat) : Bool := decide (slF h p < 16) && !decide (slF h p = g)
def hv (h : Nat → Nat → Nat) (g v : Nat) : Nat → Nat → Nat := fun p q => if v.testBit p = true then (if q = g then 12 else 0) else h p q
def GT (M : JI) (ln : Nat) (E : Nat → (Nat → Int32) → Int32) (h : Nat → Nat → Nat) (g ec : Nat) (W : Int32) (v p : Nat) : Bool := decide (fa_first (fun fm => unS M ln E (hv h g v) W (nI 0) p (slF h p) g 12 (prS 12 ec fm) fm) 3 < 3)
def CAp (G : Nat → Nat → Bool) (F : Nat → Bool) (yrs : Nat) (R : Nat → Bool) (t p : Nat) : Bool := t.testBit p && (F p && (R (t ^^^ 2 ^ p) && (!decide (pc (t ^^^ 2 ^ p) = yrs) && G (t ^^^ 2 ^ p) p)))
def CAf (G : Nat → Nat → Bool) (F : Nat → Bool) (yrs : Nat) : Nat → Nat → Bool
  | 0, t => decide (t = 0)
  | n + 1, t => decide (t = 0) || decide (0 < fb_ct (CAp G F yrs (CAf G F yrs n) t) 12)
theorem CAf_st {G : Nat → Nat → Bool} {F : Nat → Bool} {yrs : Nat} : ∀ n m t, t ≤ n → t ≤ m → t < 4096 → CAf G F yrs n t = CAf G F yrs m t := by
  have key : ∀ (R R' : Nat → Bool) (t : Nat), t < 4096 → (∀ u, u < t → R u = R' u) → fb_ct (CAp G F yrs R t) 12 = fb_ct (CAp G F yrs R' t) 12 := by
    intro R R' t ht h
    refine fb_ct_cong (fun p hp => ?_)
    unfold CAp
    cases c : t.testBit p with
    | false => rfl
    | true =>
      have := xor_v (p := p) ht hp
      rw [if_pos c] at this
      have h2 : 0 < 2 ^ p := Nat.two_pow_pos p
      rw [h _ (by omega)]
  have zero : ∀ n, CAf G F yrs n 0 = true := by
    intro n
    cases n with
    | zero => rfl
    | succ n => rw [CAf]; rfl
  intro n
  induction n with
  | zero =>
    intro m t h1 h2 h3
    have : t = 0 := by omega
    rw [this, zero, zero]
  | succ n ih =>
    intro m t h1 h2 h3
    cases m with
    | zero =>
      have : t = 0 := by omega
      rw [this, zero, zero]
    | succ m =>
      rw [CAf, CAf, key _ _ t h3 (fun u hu => ih m u (by omega) (by omega) (by omega))]
def CA (G : Nat → Nat → Bool) (F : Nat → Bool) (yrs : Nat) (t : Nat) : Bool := CAf G F yrs 5000 t
theorem CA_0 {G : Nat → Nat → Bool} {F : Nat → Bool} {yrs : Nat} : CA G F yrs 0 = true := by
  unfold CA
  show CAf G F yrs (4999 + 1) 0 = true
  rw [CAf]; rfl
theorem CA_eq {G : Nat → Nat → Bool} {F : Nat → Bool} {yrs t : Nat} (ht : t < 4096) (h0 : t ≠ 0) : CA G F yrs t = true ↔ ∃ p, p < 12 ∧ CAp G F yrs (CA G F yrs) t p = true := by
  have e : CA G F yrs t = decide (0 < fb_ct (CAp G F yrs (CA G F yrs) t) 12) := by
    unfold CA
    show CAf G F yrs (4999 + 1) t = _
    rw [CAf, decide_eq_false h0, Bool.false_or]
    have : fb_ct (CAp G F yrs (CAf G F yrs 4999) t) 12 = fb_ct (CAp G F yrs (fun t => CAf G F yrs 5000 t) t) 12 := by
      refine fb_ct_cong (fun p hp => ?_)
      unfold CAp
      have := xor_lt (p := p) ht hp
      rw [CAf_st 4999 5000 _ (by omega) (by omega) this]
    rw [this]
    try rfl
  rw [e, decide_eq_true_eq, fb_ct_pos]
theorem CA_pc {G : Nat → Nat → Bool} {F : Nat → Bool} {yrs : Nat} : ∀ n t, t < n → t < 4096 → CA G F yrs t = true → pc t ≤ yrs ∧ ∀ i, t.testBit i = true → F i = true := by
  intro n
  induction n with
  | zero => intro t h; omega
  | succ n ih =>
    intro t h1 h2 h3
    by_cases c : t = 0
    · subst c
      refine ⟨by rw [pc_0]; omega, fun i hi => ?_⟩
      simp at hi
    · obtain ⟨p, p1, p2⟩ := (CA_eq h2 c).mp h3
      unfold CAp at p2
      simp only [Bool.and_eq_true, Bool.not_eq_true', decide_eq_false_iff_not] at p2
      obtain ⟨q1, q2, q3, q4, q5⟩ := p2
      have hx := xor_v (p := p) h2 p1
      rw [if_pos q1] at hx
      have h2p : 0 < 2 ^ p := Nat.two_pow_pos p
      obtain ⟨i1, i2⟩ := ih (t ^^^ 2 ^ p) (by omega) (xor_lt h2 p1) q3
      have := xor_pc p1 q1
      refine ⟨by omega, fun i hi => ?_⟩
      by_cases ci : i = p
      · rw [ci]; exact q2
      · refine i2 i ?_
        rw [fb_bit_flip]
        simp [ci, hi]
/-- what both stand on -/
def FB (h : Nat → Nat → Nat) (g : Nat) : Prop := g < 16 ∧ (∀ p q, p < 12 → q < 16 → h p q ≤ 12) ∧ ∀ p, p < 12 → fb_sm (h p) 16 ≤ 12
theorem sl_yes {h : Nat → Nat → Nat} {g p : Nat} (H : FB h g) (hp : p < 12) (hs : slF h p < 16) : h p (slF h p) = 12 ∧ ∀ q, q < 16 → q ≠ slF h p → h p q = 0 := by
  have e := fa_first_yes (fun q => decide (h p q = 12)) 16 hs
  have e' : h p (slF h p) = 12 := by
    have : decide (h p (slF h p) = 12) = true := e
    simpa using this
  refine ⟨e', fun q hq hne => ?_⟩
  have := two_le (h := h p) hs hq (fun e => hne e.symm)
  have := H.2.2 p hp
  omega
theorem hv_le {h : Nat → Nat → Nat} {g v : Nat} (H : FB h g) : ∀ p q, p < 12 → q < 16 → hv h g v p q ≤ 12 := by
  intro p q hp hq
  unfold hv
  split
  · split <;> omega
  · exact H.2.1 p q hp hq
theorem hv_sl {h : Nat → Nat → Nat} {g v p : Nat} (H : FB h g) (hp : p < 12) (hF : FS h g p = true) (hv0 : v.testBit p = false) : hv h g v p (slF h p) = 12 ∧ hv h g v p g = 0 := by
  unfold FS at hF
  simp only [Bool.and_eq_true, decide_eq_true_eq, Bool.not_eq_true', decide_eq_false_iff_not] at hF
  obtain ⟨e1, e2⟩ := sl_yes H hp hF.1
  unfold hv
  rw [if_neg (by rw [hv0]; simp), if_neg (by rw [hv0]; simp)]
  exact ⟨e1, e2 g H.1 (fun e => hF.2 e.symm)⟩
/-- getting a parcel, and giving it back -/
theorem hv_get {h : Nat → Nat → Nat} {g v p : Nat} (H : FB h g) (hp : p < 12) (hF : FS h g p = true) (hv0 : v.testBit p = false) : ∀ p' q', p' < 12 → q' < 16 → hv h g (v ^^^ 2 ^ p) p' q' = mvh (hv h g v) p (slF h p) g 12 p' q' := by
  intro p' q' hp' hq'
  obtain ⟨a1, a2⟩ := hv_sl H hp hF hv0
  unfold FS at hF
  simp only [Bool.and_eq_true, decide_eq_true_eq, Bool.not_eq_true', decide_eq_false_iff_not] at hF
  obtain ⟨e1, e2⟩ := sl_yes H hp hF.1
  unfold mvh up2
  rw [a1, a2]
  have hb : (v ^^^ 2 ^ p).testBit p' = (v.testBit p' ^^ decide (p' = p)) := fb_bit_flip v p p'
  by_cases c : p' = p
  · subst c
    have : hv h g (v ^^^ 2 ^ p') p' q' = if q' = g then 12 else 0 := by unfold hv; rw [if_pos (by rw [hb, hv0]; simp)]
    rw [this]
    by_cases c2 : q' = g
    · rw [if_pos c2, if_pos ⟨rfl, c2⟩]
    · rw [if_neg c2, if_neg (by omega)]
      by_cases c3 : q' = slF h p'
      · rw [if_pos ⟨rfl, c3⟩]
      · rw [if_neg (by omega)]
        unfold hv
        rw [if_neg (by rw [hv0]; simp), e2 q' hq' c3]
  · rw [if_neg (by omega), if_neg (by omega)]
    unfold hv
    rw [hb]
    simp [c]
theorem hv_back {h : Nat → Nat → Nat} {g v p : Nat} (H : FB h g) (hp : p < 12) (hF : FS h g p = true) (hv1 : v.testBit p = true) : hv h g v p g = 12 ∧ hv h g v p (slF h p) = 0 ∧ ∀ p' q', p' < 12 → q' < 16 → hv h g (v ^^^ 2 ^ p) p' q' = mvh (hv h g v) p g (slF h p) 12 p' q' := by
  unfold FS at hF
  simp only [Bool.and_eq_true, decide_eq_true_eq, Bool.not_eq_true', decide_eq_false_iff_not] at hF
  obtain ⟨e1, e2⟩ := sl_yes H hp hF.1
  have a1 : hv h g v p g = 12 := by unfold hv; rw [if_pos hv1, if_pos rfl]
  have a2 : hv h g v p (slF h p) = 0 := by unfold hv; rw [if_pos hv1, if_neg hF.2]
  refine ⟨a1, a2, fun p' q' hp' hq' => ?_⟩
  unfold mvh up2
  rw [a1, a2]
  have hb : (v ^^^ 2 ^ p).testBit p' = (v.testBit p' ^^ decide (p' = p)) := fb_bit_flip v p p'
  by_cases c : p' = p
  · subst c
    have : hv h g (v ^^^ 2 ^ p') p' q' = h p' q' := by unfold hv; rw [if_neg (by rw [hb, hv1]; simp)]
    rw [this]
    by_cases c2 : q' = slF h p'
    · rw [if_pos ⟨rfl, c2⟩, c2, e1]
    · rw [if_neg (by omega), e2 q' hq' c2]
      by_cases c3 : q' = g
      · rw [if_pos ⟨rfl, c3⟩]
      · rw [if_neg (by omega)]
        unfold hv
        rw [if_pos hv1, if_neg c3]
  · rw [if_neg (by omega), if_neg (by omega)]
    unfold hv
    rw [hb]
    simp [c]
theorem hv_0 (h : Nat → Nat → Nat) (g : Nat) : hv h g 0 = h := by
  funext p q
  unfold hv
  rw [if_neg (by simp)]
/-- the reference's memory in this search -/
def FR (M : JI) (h : Nat → Nat → Nat) (N : JI) : Prop := nS M N ∧ N 66 50 = nI 0 ∧ ∀ p, p < 12 → N 120 p = slV h p
theorem FR_u {M N N' : JI} {h : Nat → Nat → Nat} (hN : FR M h N) (hu : uSm N N') : FR M h N' := ⟨nS_u hN.1 hu, by rw [hu.2 50 (by omega)]; exact hN.2.1, fun p hp => by rw [hu.1 120 (by omega) (by omega)]; exact hN.2.2 p hp⟩
theorem sv_yes {h : Nat → Nat → Nat} {g p : Nat} (hF : FS h g p = true) : slV h p = nI (slF h p) ∧ slF h p < 16 ∧ slF h p ≠ g := by
  unfold FS at hF
  simp only [Bool.and_eq_true, decide_eq_true_eq, Bool.not_eq_true', decide_eq_false_iff_not] at hF
  exact ⟨if_pos hF.1, hF.1, hF.2⟩
theorem got_3 {M : JI} {L : JL} {S : JS} {X ln : Nat} {E : Nat → (Nat → Int32) → Int32} (W : WB M L S X ln E) {h : Nat → Nat → Nat} {g v p ec : Nat} (H : FB h g) (hp : p < 12) (hF : FS h g p = true) {who Wc : Int32} (hw : ∀ q, q < 16 → bt who q = bt Wc q) : ∀ d fm, fm + d = 3 → ∀ n, d < n → ∀ N, FR M h N → twRep (N 68) (hv h g v) → (∀ j, j < fm → unS M ln E (hv h g v) Wc (nI 0) p (slF h p) g 12 (prS 12 ec j) j = false) → ∃ N', fX12_isGot_3 n (nI p) (nI g) (nI ec) who (nI fm) N = some (bI (GT M ln E h g ec Wc v p), N') ∧ uSm N N' := by
  obtain ⟨s1, s2, s3⟩ := sv_yes hF
  intro d
  induction d with
  | zero =>
    intro fm hd n hn N hN h68 hno
    obtain ⟨n', rfl⟩ := suc_of hn
    have : fa_first (fun fm => unS M ln E (hv h g v) Wc (nI 0) p (slF h p) g 12 (prS 12 ec fm) fm) 3 = 3 := ff_none (fun i hi => hno i (by omega))
    have hG : GT M ln E h g ec Wc v p = false := by unfold GT; rw [this]; decide
    refine ⟨N, ?_, uSm_rfl N⟩
    rw [fX12_isGot_3, if_pos (show (3 : Int32) ≤ nI fm by rw [show fm = 3 by omega]; decide), hG]; rfl
  | succ d ih =>
    intro fm hd n hn N hN h68 hno
    obtain ⟨n', rfl⟩ := suc_of hn
    have c : ¬ (3 : Int32) ≤ nI fm := nI_ge (b := 3) (by omega) (by omega)
    obtain ⟨N0, x, N1, a1, a2, a3, a4⟩ := ref_com W hN.1 h68 (hv_le H) hp s2 H.1 (show fm < 3 by omega) (nI 12) (prS 12 ec fm)
    rw [hN.2.1] at a4
    have hx : (x &&& who = 0) = (unS M ln E (hv h g v) Wc (nI 0) p (slF h p) g 12 (prS 12 ec fm) fm = true) := by
      apply propext
      rw [show (x &&& who = (0 : Int32)) = (∀ i, i < 32 → bt (x &&& who) i = false) from bt_ne0 _, uns_0]
      constructor
      · rintro q1 ⟨q, b1, b2, b3⟩
        have := q1 q (by omega)
        rw [b_and, a4 q, b3, hw q b1, b2] at this
        simp [b1] at this
      · intro q1 k hk
        rw [b_and, a4 k]
        by_cases ck : k < 16
        · rw [hw k ck]
          cases e : coG M (hv h g v) ln p (slF h p) g fm (nI 0) (fbS (hv h g v) p (slF h p) g fm (nI 12) (prS 12 ec fm) (prS 12 ec fm) (M 1 8)) E k with
          | false => simp
          | true =>
            cases e2 : bt Wc k with
            | false => simp
            | true => exact absurd ⟨k, ck, e2, e⟩ q1
        · simp [ck]
    have en : nI fm + (1 : Int32) = nI (fm + 1) := nI_add _ 1
    have key : ∃ N', fX12_isGot_23 (fX12_isGot_3 n') (nI p) (nI g) (nI ec) who (nI fm) (prS 12 ec fm) N = some (bI (GT M ln E h g ec Wc v p), N') ∧ uSm N N' := by
      unfold fX12_isGot_23
      have a1' : fX12_lays (nI p) (nI (slF h p)) (nI g) (12 : Int32) (nI fm) (prS 12 ec fm) (prS 12 ec fm) N = some N0 := a1
      rw [jg_in hp (by decide), nI_clamp (by omega), hN.2.2 p hp, s1, a1', Option.bind_some, a2, Option.bind_some]
      cases e : unS M ln E (hv h g v) Wc (nI 0) p (slF h p) g 12 (prS 12 ec fm) fm with
      | true =>
        rw [e] at hx
        rw [if_pos (by rw [hx])]
        have : fa_first (fun fm => unS M ln E (hv h g v) Wc (nI 0) p (slF h p) g 12 (prS 12 ec fm) fm) 3 = fm := ff_is hno e (by omega)
        have hG : GT M ln E h g ec Wc v p = true := by unfold GT; rw [this, decide_eq_true_eq]; omega
        exact ⟨N1, by rw [hG]; rfl, a3⟩
      | false =>
        rw [e] at hx
        rw [if_neg (by rw [hx]; simp), en]
        obtain ⟨N', b1, b2⟩ := ih (fm + 1) (by omega) n' (by omega) N1 (FR_u hN a3) (by rw [a3.1 68 (by omega) (by omega)]; exact h68) (fun j hj => by
          by_cases cj : j = fm
          · rw [cj]; exact e
          · exact hno j (by omega))
        exact ⟨N', b1, uSm_tr a3 b2⟩
    rw [fX12_isGot_3, if_neg c]
    by_cases c1 : fm = 1
    · rw [if_pos (by rw [c1]; rfl)]
      unfold prS at key
      rw [if_pos c1] at key
      exact key
    · have c' : ¬ nI fm = (1 : Int32) := fun e => c1 ((nI_eq (by omega) (by omega)).mp (show nI fm = nI 1 from e))
      rw [if_neg c']
      unfold prS at key
      rw [if_neg c1] at key
      exact key
