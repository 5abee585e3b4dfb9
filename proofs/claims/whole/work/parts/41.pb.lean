/-! ===== the pure statement: numbers, bits, memory ===== -/
theorem li_0 : (0 : Int32) = nI 0 := rfl
theorem li_1 : (1 : Int32) = nI 1 := rfl
theorem li_2 : (2 : Int32) = nI 2 := rfl
theorem li_3 : (3 : Int32) = nI 3 := rfl
theorem li_4 : (4 : Int32) = nI 4 := rfl
theorem li_5 : (5 : Int32) = nI 5 := rfl
theorem li_6 : (6 : Int32) = nI 6 := rfl
theorem li_7 : (7 : Int32) = nI 7 := rfl
theorem li_8 : (8 : Int32) = nI 8 := rfl
theorem li_9 : (9 : Int32) = nI 9 := rfl
theorem li_10 : (10 : Int32) = nI 10 := rfl
theorem li_11 : (11 : Int32) = nI 11 := rfl
theorem li_12 : (12 : Int32) = nI 12 := rfl
theorem li_13 : (13 : Int32) = nI 13 := rfl
theorem li_14 : (14 : Int32) = nI 14 := rfl
theorem li_15 : (15 : Int32) = nI 15 := rfl
theorem li_16 : (16 : Int32) = nI 16 := rfl
theorem li_17 : (17 : Int32) = nI 17 := rfl
theorem li_18 : (18 : Int32) = nI 18 := rfl
theorem li_19 : (19 : Int32) = nI 19 := rfl
theorem li_20 : (20 : Int32) = nI 20 := rfl
theorem li_21 : (21 : Int32) = nI 21 := rfl
theorem li_22 : (22 : Int32) = nI 22 := rfl
theorem li_23 : (23 : Int32) = nI 23 := rfl
theorem li_24 : (24 : Int32) = nI 24 := rfl
theorem li_25 : (25 : Int32) = nI 25 := rfl
theorem li_26 : (26 : Int32) = nI 26 := rfl
theorem li_27 : (27 : Int32) = nI 27 := rfl
theorem li_28 : (28 : Int32) = nI 28 := rfl
theorem li_29 : (29 : Int32) = nI 29 := rfl
theorem li_30 : (30 : Int32) = nI 30 := rfl
theorem li_31 : (31 : Int32) = nI 31 := rfl
theorem li_32 : (32 : Int32) = nI 32 := rfl
theorem li_33 : (33 : Int32) = nI 33 := rfl
theorem li_34 : (34 : Int32) = nI 34 := rfl
theorem li_35 : (35 : Int32) = nI 35 := rfl
theorem li_36 : (36 : Int32) = nI 36 := rfl
theorem li_37 : (37 : Int32) = nI 37 := rfl
theorem li_38 : (38 : Int32) = nI 38 := rfl
theorem li_39 : (39 : Int32) = nI 39 := rfl
theorem li_40 : (40 : Int32) = nI 40 := rfl
theorem li_41 : (41 : Int32) = nI 41 := rfl
theorem li_42 : (42 : Int32) = nI 42 := rfl
theorem li_43 : (43 : Int32) = nI 43 := rfl
theorem li_44 : (44 : Int32) = nI 44 := rfl
theorem li_45 : (45 : Int32) = nI 45 := rfl
theorem li_46 : (46 : Int32) = nI 46 := rfl
theorem li_47 : (47 : Int32) = nI 47 := rfl
theorem li_48 : (48 : Int32) = nI 48 := rfl
theorem li_49 : (49 : Int32) = nI 49 := rfl
theorem li_50 : (50 : Int32) = nI 50 := rfl
theorem li_51 : (51 : Int32) = nI 51 := rfl
theorem li_52 : (52 : Int32) = nI 52 := rfl
theorem li_53 : (53 : Int32) = nI 53 := rfl
theorem li_54 : (54 : Int32) = nI 54 := rfl
theorem li_55 : (55 : Int32) = nI 55 := rfl
theorem li_56 : (56 : Int32) = nI 56 := rfl
theorem li_57 : (57 : Int32) = nI 57 := rfl
theorem li_58 : (58 : Int32) = nI 58 := rfl
theorem li_59 : (59 : Int32) = nI 59 := rfl
theorem li_60 : (60 : Int32) = nI 60 := rfl
theorem li_61 : (61 : Int32) = nI 61 := rfl
theorem li_62 : (62 : Int32) = nI 62 := rfl
theorem li_63 : (63 : Int32) = nI 63 := rfl
theorem li_64 : (64 : Int32) = nI 64 := rfl
theorem li_65 : (65 : Int32) = nI 65 := rfl
theorem li_96 : (96 : Int32) = nI 96 := rfl
theorem li_97 : (97 : Int32) = nI 97 := rfl
theorem li_100 : (100 : Int32) = nI 100 := rfl
theorem li_122 : (122 : Int32) = nI 122 := rfl
theorem li_126 : (126 : Int32) = nI 126 := rfl
theorem li_128 : (128 : Int32) = nI 128 := rfl
theorem li_144 : (144 : Int32) = nI 144 := rfl
theorem li_160 : (160 : Int32) = nI 160 := rfl
theorem li_169 : (169 : Int32) = nI 169 := rfl
theorem li_192 : (192 : Int32) = nI 192 := rfl
theorem li_255 : (255 : Int32) = nI 255 := rfl
theorem li_256 : (256 : Int32) = nI 256 := rfl
theorem li_640 : (640 : Int32) = nI 640 := rfl
theorem li_760 : (760 : Int32) = nI 760 := rfl
theorem li_768 : (768 : Int32) = nI 768 := rfl
theorem li_800 : (800 : Int32) = nI 800 := rfl
theorem li_999 : (999 : Int32) = nI 999 := rfl
theorem li_1000 : (1000 : Int32) = nI 1000 := rfl
theorem li_1024 : (1024 : Int32) = nI 1024 := rfl
theorem li_2000 : (2000 : Int32) = nI 2000 := rfl
theorem li_2560 : (2560 : Int32) = nI 2560 := rfl
theorem li_4095 : (4095 : Int32) = nI 4095 := rfl
theorem li_4096 : (4096 : Int32) = nI 4096 := rfl
theorem li_9999 : (9999 : Int32) = nI 9999 := rfl
theorem li_10000 : (10000 : Int32) = nI 10000 := rfl
theorem li_20000 : (20000 : Int32) = nI 20000 := rfl
theorem li_20030 : (20030 : Int32) = nI 20030 := rfl
theorem li_65535 : (65535 : Int32) = nI 65535 := rfl
def bI (b : Bool) : Int32 := if b then nI 1 else nI 0
theorem bI_t : bI true = nI 1 := rfl
theorem bI_f : bI false = nI 0 := rfl
theorem bI_b01 (b : Bool) : jm_b01 (bI b) = bI b := by cases b <;> decide
theorem bI_0 (b : Bool) : (bI b = nI 0) = (b = false) := by cases b <;> simp [bI] <;> decide
theorem bI_le (b : Bool) : (bI b ≤ nI 0) = (b = false) := by cases b <;> simp [bI] <;> decide
theorem b01_0 : jm_b01 (nI 0) = nI 0 := by decide
theorem b01_1 : jm_b01 (nI 1) = nI 1 := by decide
theorem nm_ne {k : Nat} (h : k < 2 ^ 31) : (nI k = -nI 1) = False := by
  apply eq_false
  intro e
  have h2 := nI_pos h
  rw [e] at h2
  exact h2 (by decide)
theorem nm_ne2 {k : Nat} (h : k < 2 ^ 31) : (-nI 1 = nI k) = False := by
  apply eq_false
  intro e
  have h2 := nI_pos h
  rw [← e] at h2
  exact h2 (by decide)
theorem nm_lt {k : Nat} (h : k < 2 ^ 31) : (-nI 1 < nI k) = True := by
  apply eq_true
  rw [fa_lt, nI_toInt h]
  have : (-nI 1).toInt = -1 := by decide
  omega
theorem nm_le {k : Nat} (h : k < 2 ^ 31) : (-nI 1 ≤ nI k) = True := by
  apply eq_true
  rw [fa_le, nI_toInt h]
  have : (-nI 1).toInt = -1 := by decide
  omega
theorem nm_nle {k : Nat} (h : k < 2 ^ 31) : (nI k ≤ -nI 1) = False := by
  apply eq_false
  rw [fa_le, nI_toInt h]
  have : (-nI 1).toInt = -1 := by decide
  omega
theorem nm_nlt {k : Nat} (h : k < 2 ^ 31) : (nI k < -nI 1) = False := by
  apply eq_false
  rw [fa_lt, nI_toInt h]
  have : (-nI 1).toInt = -1 := by decide
  omega
theorem ni_leT {a b : Nat} (h : a ≤ b) (hb : b < 2 ^ 31) : (nI a ≤ nI b) = True := eq_true (nI_le h hb)
theorem ni_leF {a b : Nat} (h : b < a) (ha : a < 2 ^ 31) : (nI a ≤ nI b) = False := eq_false (nI_ge h ha)
theorem ni_ltT {a b : Nat} (h : a < b) (hb : b < 2 ^ 31) : (nI a < nI b) = True := eq_true (nI_lt h hb)
theorem ni_ltF {a b : Nat} (h : b ≤ a) (ha : a < 2 ^ 31) : (nI a < nI b) = False := eq_false (nI_nlt h ha)
theorem ni_eqF {a b : Nat} (h : a ≠ b) (ha : a < 2 ^ 31) (hb : b < 2 ^ 31) : (nI a = nI b) = False := eq_false (fun e => h ((nI_eq ha hb).mp e))
theorem jg_in {α : Type} {k N : Nat} {x : Option α} (h : k < N) (hN : N < 2 ^ 31) : j_g (j_in (nI k) N) x = x := by
  have : j_in (nI k) N = true := decide_eq_true (nI_in h hN)
  rw [this]; rfl
theorem jg_t {α : Type} {x : Option α} : j_g true x = x := rfl
theorem jg_d {α : Type} {c : Prop} {q : Decidable c} {x : Option α} (h : c) : j_g (@decide c q) x = x := by rw [decide_eq_true h]; rfl
theorem jo_s {α : Type} (b : Nat) (n : Option α) (s : Nat → Option α) : j_opt (some b) n s = s b := rfl
theorem jo_n {α : Type} (n : Option α) (s : Nat → Option α) : j_opt none n s = n := rfl
theorem ju_same {α : Type} (f : Nat → Nat → α) (a k : Nat) (v : α) : j_up f a k v a k = v := j_up_same f a k v
theorem ju_row {α : Type} (f : Nat → Nat → α) {a k a' : Nat} (v : α) (h : a' ≠ a) : j_up f a k v a' = f a' := by
  funext k'
  exact j_up_ne f v (fun e => h e.1)
theorem ju_cell {α : Type} (f : Nat → Nat → α) {a k k' : Nat} (v : α) (h : k' ≠ k) : j_up f a k v a k' = f a k' := j_up_ne f v (fun e => h e.2)
theorem ju_cell2 {α : Type} (f : Nat → Nat → α) {a k a' k' : Nat} (v : α) (h : a' ≠ a) : j_up f a k v a' k' = f a' k' := j_up_ne f v (fun e => h e.1)
theorem ju_at {α : Type} (f : Nat → Nat → α) (a k : Nat) (v : α) : j_up f a k v a = fun k' => if k' = k then v else f a k' := by
  funext k'
  by_cases h : k' = k
  · subst h; simp [j_up]
  · simp [j_up, h]
theorem jc_row {α : Type} (f : Nat → Nat → α) {a a' : Nat} (v : α) (h : a' ≠ a) : j_clr f a v a' = f a' := by
  funext k'
  simp [j_clr, h]
theorem jc_at {α : Type} (f : Nat → Nat → α) (a k : Nat) (v : α) : j_clr f a v a k = v := by simp [j_clr]
theorem jp_row (f : JI) {a0 sp a dp n a' : Nat} (h : a' ≠ a) : j_cpy f a0 sp a dp n a' = f a' := by
  funext k'
  simp [j_cpy, h]
theorem jp_at (f : JI) {a0 sp a dp n : Nat} : j_cpy f a0 sp a dp n a = fun k => if dp ≤ k ∧ k < dp + n then f a0 (sp + (k - dp)) else f a k := by
  funext k'
  simp [j_cpy]
/-! bits -/
theorem bt_sh1 (p : Nat) (hp : p < 32) (i : Nat) : bt ((1 : Int32) <<< (nI p &&& 31)) i = decide (i = p) := by
  have h := nf_sh p hp
  unfold bt
  rw [h, BitVec.getLsbD_twoPow]
  by_cases e : i = p
  · subst e; simp [hp]
  · have : ¬ p = i := fun x => e x.symm
    simp [e, this]
theorem bt_one (i : Nat) : bt (nI 1) i = decide (i = 0) := by
  have h := bt_sh1 0 (by omega) i
  rw [← h]; rfl
theorem bt_zero (i : Nat) : bt (nI 0) i = false := b_0 i
theorem bt_test (x : Int32) {p : Nat} (hp : p < 32) : ((x >>> (nI p &&& nI 31)) &&& nI 1 = nI 0) = (bt x p = false) := by
  apply propext
  have hb : ∀ i, i < 32 → bt ((x >>> (nI p &&& nI 31)) &&& nI 1) i = (decide (i = 0) && bt x p) := by
    intro i hi
    rw [b_and, bt_one]
    by_cases e : i = 0
    · subst e
      have h := b_sshr p hp x (i := 0) (by omega)
      rw [Nat.add_zero, if_pos hp] at h
      have h2 : bt (x >>> (nI p &&& nI 31)) 0 = bt x p := h
      rw [h2]; simp
    · simp [e]
  constructor
  · intro h
    have h0 := hb 0 (by omega)
    rw [h, bt_zero] at h0
    simpa using h0.symm
  · intro h
    apply b_ext
    intro i hi
    rw [hb i hi, h, bt_zero]; simp
theorem bt_test1 (x : Int32) {p : Nat} (hp : p < 32) : ((x >>> (nI p &&& nI 31)) &&& nI 1 = nI 1) = (bt x p = true) := by
  apply propext
  have hb : ∀ i, i < 32 → bt ((x >>> (nI p &&& nI 31)) &&& nI 1) i = (decide (i = 0) && bt x p) := by
    intro i hi
    rw [b_and, bt_one]
    by_cases e : i = 0
    · subst e
      have h := b_sshr p hp x (i := 0) (by omega)
      rw [Nat.add_zero, if_pos hp] at h
      have h2 : bt (x >>> (nI p &&& nI 31)) 0 = bt x p := h
      rw [h2]; simp
    · simp [e]
  constructor
  · intro h
    have h0 := hb 0 (by omega)
    rw [h, bt_one] at h0
    simpa using h0.symm
  · intro h
    apply b_ext
    intro i hi
    rw [hb i hi, h, bt_one]; simp
theorem bt_val (x : Int32) {p : Nat} (hp : p < 32) : ((x >>> (nI p &&& nI 31)) &&& nI 1) = bI (bt x p) := by
  by_cases h : bt x p = true
  · have h2 := h
    rw [← bt_test1 x hp] at h2
    rw [h2, h]; rfl
  · have h1 : bt x p = false := by simpa using h
    have h2 := h1
    rw [← bt_test x hp] at h2
    rw [h2, h1]; rfl
theorem bt_set (x : Int32) {p : Nat} (hp : p < 32) (i : Nat) : bt (x ||| (nI 1 <<< (nI p &&& nI 31))) i = (bt x i || decide (i = p)) := by
  rw [b_or]
  have h := bt_sh1 p hp i
  have h2 : bt (nI 1 <<< (nI p &&& nI 31)) i = decide (i = p) := h
  rw [h2]
theorem bt_clr (x : Int32) {p : Nat} (hp : p < 32) (i : Nat) : bt (x &&& ((nI 1 <<< (nI p &&& nI 31)) ^^^ -nI 1)) i = (bt x i && !decide (i = p)) := by
  by_cases hi : i < 32
  · rw [b_and, b_xor]
    have h := bt_sh1 p hp i
    have h2 : bt (nI 1 <<< (nI p &&& nI 31)) i = decide (i = p) := h
    have h3 : bt (-nI 1) i = true := b_m1 i hi
    rw [h2, h3]; simp
  · rw [b_big (by omega), b_big (by omega)]; simp
theorem bt_shr0 (x : Int32) {p : Nat} (hp : p < 32) (hx : ∀ i, 31 ≤ i → bt x i = false) : (x >>> (nI p &&& nI 31) = nI 0) = (∀ i, p ≤ i → bt x i = false) := by
  apply propext
  have hb : ∀ i, i < 32 → bt (x >>> (nI p &&& nI 31)) i = if p + i < 32 then bt x (p + i) else bt x 31 := fun i hi => b_sshr p hp x hi
  constructor
  · intro h i hi
    by_cases h31 : i < 32
    · have h0 := hb (i - p) (by omega)
      rw [h, bt_zero, if_pos (by omega), show p + (i - p) = i by omega] at h0
      exact h0.symm
    · exact b_big (by omega)
  · intro h
    apply b_ext
    intro i hi
    rw [hb i hi, bt_zero]
    split
    · exact h _ (by omega)
    · exact hx 31 (by omega)
theorem bt_ne0 (x : Int32) : (x = nI 0) = (∀ i, i < 32 → bt x i = false) := by
  apply propext
  constructor
  · intro h i _
    rw [h, bt_zero]
  · intro h
    exact b_ext (fun i hi => by rw [h i hi, bt_zero])
/-- a number below 0, or too large, or a small one -/
theorem ix_cases (x : Int32) (n : Nat) (hn : n < 2 ^ 31) : x < nI 0 ∨ nI n ≤ x ∨ ∃ j : Nat, j < n ∧ x = nI j := pk_ix x hn
theorem ix_nlt {x : Int32} {n : Nat} (h : nI n ≤ x) (hn : n < 2 ^ 31) {k : Nat} (hk : k ≤ n) : ¬ x < nI k := by
  rw [fa_le, nI_toInt hn] at h
  rw [fa_lt, nI_toInt (by omega)]
  omega
theorem ix_lt {x : Int32} {n : Nat} (h : nI n ≤ x) (hn : n < 2 ^ 31) {k : Nat} (hk : k < n) : nI k < x := by
  rw [fa_le, nI_toInt hn] at h
  rw [fa_lt, nI_toInt (by omega)]
  omega
theorem ix_neg {x : Int32} (h : x < nI 0) {k : Nat} (hk : k < 2 ^ 31) : x < nI k := by
  rw [fa_lt, nI_toInt (by omega)] at h
  rw [fa_lt, nI_toInt hk]
  omega
