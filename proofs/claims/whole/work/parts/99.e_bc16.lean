/-! ===== counting sixteen bits ===== -/
def bcN (v : Nat) : Nat := let a := v - (v / 2 &&& 1431655765); let b := (a &&& 858993459) + (a / 4 &&& 858993459); let c := (b + b / 16) &&& 252645135; let d := c + c / 256; (d + d / 65536) &&& 63
theorem bcn_0 : all2 (fun v => !(Nat.beq (bcN v) 1) || Nat.beq v (2 ^ Nat.log2 v)) 12 0 = true := by decide +kernel
theorem bcn_1 : all2 (fun v => !(Nat.beq (bcN v) 1) || Nat.beq v (2 ^ Nat.log2 v)) 12 4096 = true := by decide +kernel
theorem bcn_2 : all2 (fun v => !(Nat.beq (bcN v) 1) || Nat.beq v (2 ^ Nat.log2 v)) 12 8192 = true := by decide +kernel
theorem bcn_3 : all2 (fun v => !(Nat.beq (bcN v) 1) || Nat.beq v (2 ^ Nat.log2 v)) 12 12288 = true := by decide +kernel
theorem bcn_4 : all2 (fun v => !(Nat.beq (bcN v) 1) || Nat.beq v (2 ^ Nat.log2 v)) 12 16384 = true := by decide +kernel
theorem bcn_5 : all2 (fun v => !(Nat.beq (bcN v) 1) || Nat.beq v (2 ^ Nat.log2 v)) 12 20480 = true := by decide +kernel
theorem bcn_6 : all2 (fun v => !(Nat.beq (bcN v) 1) || Nat.beq v (2 ^ Nat.log2 v)) 12 24576 = true := by decide +kernel
theorem bcn_7 : all2 (fun v => !(Nat.beq (bcN v) 1) || Nat.beq v (2 ^ Nat.log2 v)) 12 28672 = true := by decide +kernel
theorem bcn_8 : all2 (fun v => !(Nat.beq (bcN v) 1) || Nat.beq v (2 ^ Nat.log2 v)) 12 32768 = true := by decide +kernel
theorem bcn_9 : all2 (fun v => !(Nat.beq (bcN v) 1) || Nat.beq v (2 ^ Nat.log2 v)) 12 36864 = true := by decide +kernel
theorem bcn_10 : all2 (fun v => !(Nat.beq (bcN v) 1) || Nat.beq v (2 ^ Nat.log2 v)) 12 40960 = true := by decide +kernel
theorem bcn_11 : all2 (fun v => !(Nat.beq (bcN v) 1) || Nat.beq v (2 ^ Nat.log2 v)) 12 45056 = true := by decide +kernel
theorem bcn_12 : all2 (fun v => !(Nat.beq (bcN v) 1) || Nat.beq v (2 ^ Nat.log2 v)) 12 49152 = true := by decide +kernel
theorem bcn_13 : all2 (fun v => !(Nat.beq (bcN v) 1) || Nat.beq v (2 ^ Nat.log2 v)) 12 53248 = true := by decide +kernel
theorem bcn_14 : all2 (fun v => !(Nat.beq (bcN v) 1) || Nat.beq v (2 ^ Nat.log2 v)) 12 57344 = true := by decide +kernel
theorem bcn_15 : all2 (fun v => !(Nat.beq (bcN v) 1) || Nat.beq v (2 ^ Nat.log2 v)) 12 61440 = true := by decide +kernel
theorem bcn_all {v : Nat} (hv : v < 65536) : (!(Nat.beq (bcN v) 1) || Nat.beq v (2 ^ Nat.log2 v)) = true := by
  have h : v < 4096 ∨ (4096 ≤ v ∧ v < 8192) ∨ (8192 ≤ v ∧ v < 12288) ∨ (12288 ≤ v ∧ v < 16384) ∨ (16384 ≤ v ∧ v < 20480) ∨ (20480 ≤ v ∧ v < 24576) ∨ (24576 ≤ v ∧ v < 28672) ∨ (28672 ≤ v ∧ v < 32768) ∨ (32768 ≤ v ∧ v < 36864) ∨ (36864 ≤ v ∧ v < 40960) ∨ (40960 ≤ v ∧ v < 45056) ∨ (45056 ≤ v ∧ v < 49152) ∨ (49152 ≤ v ∧ v < 53248) ∨ (53248 ≤ v ∧ v < 57344) ∨ (57344 ≤ v ∧ v < 61440) ∨ (61440 ≤ v ∧ v < 65536) := by omega
  rcases h with h | h | h | h | h | h | h | h | h | h | h | h | h | h | h | h
  · exact all2_ok _ 12 0 bcn_0 v (by omega) (by omega)
  · exact all2_ok _ 12 4096 bcn_1 v (by omega) (by omega)
  · exact all2_ok _ 12 8192 bcn_2 v (by omega) (by omega)
  · exact all2_ok _ 12 12288 bcn_3 v (by omega) (by omega)
  · exact all2_ok _ 12 16384 bcn_4 v (by omega) (by omega)
  · exact all2_ok _ 12 20480 bcn_5 v (by omega) (by omega)
  · exact all2_ok _ 12 24576 bcn_6 v (by omega) (by omega)
  · exact all2_ok _ 12 28672 bcn_7 v (by omega) (by omega)
  · exact all2_ok _ 12 32768 bcn_8 v (by omega) (by omega)
  · exact all2_ok _ 12 36864 bcn_9 v (by omega) (by omega)
  · exact all2_ok _ 12 40960 bcn_10 v (by omega) (by omega)
  · exact all2_ok _ 12 45056 bcn_11 v (by omega) (by omega)
  · exact all2_ok _ 12 49152 bcn_12 v (by omega) (by omega)
  · exact all2_ok _ 12 53248 bcn_13 v (by omega) (by omega)
  · exact all2_ok _ 12 57344 bcn_14 v (by omega) (by omega)
  · exact all2_ok _ 12 61440 bcn_15 v (by omega) (by omega)
theorem bcN_eq {v : Nat} (hv : v < 65536) : fJ6_bitCount_0f7a4 (nI v) = some (nI (bcN v)) := by
  have u1 : ∀ n, n < 2 ^ 32 → ((nI n).toUInt32 >>> ((1 : Int32).toUInt32 &&& Int32.toUInt32 31)).toInt32 = nI (n / 2) := fun n hn => pk_ushrN hn 1 1 (by decide)
  have u2 : ∀ n, n < 2 ^ 32 → ((nI n).toUInt32 >>> ((2 : Int32).toUInt32 &&& Int32.toUInt32 31)).toInt32 = nI (n / 4) := fun n hn => pk_ushrN hn 2 2 (by decide)
  have u4 : ∀ n, n < 2 ^ 32 → ((nI n).toUInt32 >>> ((4 : Int32).toUInt32 &&& Int32.toUInt32 31)).toInt32 = nI (n / 16) := fun n hn => pk_ushrN hn 4 4 (by decide)
  have u8 : ∀ n, n < 2 ^ 32 → ((nI n).toUInt32 >>> ((8 : Int32).toUInt32 &&& Int32.toUInt32 31)).toInt32 = nI (n / 256) := fun n hn => pk_ushrN hn 8 8 (by decide)
  have u16 : ∀ n, n < 2 ^ 32 → ((nI n).toUInt32 >>> ((16 : Int32).toUInt32 &&& Int32.toUInt32 31)).toInt32 = nI (n / 65536) := fun n hn => pk_ushrN hn 16 16 (by decide)
  have m1 : ∀ n, nI n &&& (1431655765 : Int32) = nI (n &&& 1431655765) := fun n => fa_and n 1431655765
  have m2 : ∀ n, nI n &&& (858993459 : Int32) = nI (n &&& 858993459) := fun n => fa_and n 858993459
  have m3 : ∀ n, nI n &&& (252645135 : Int32) = nI (n &&& 252645135) := fun n => fa_and n 252645135
  have m4 : ∀ n, nI n &&& (63 : Int32) = nI (n &&& 63) := fun n => fa_and n 63
  have a1 : v / 2 &&& 1431655765 ≤ v / 2 := Nat.and_le_left
  unfold fJ6_bitCount_0f7a4 bcN
  rw [u1 v (by omega), m1, pk_sub (by omega)]
  generalize ha : v - (v / 2 &&& 1431655765) = a
  have a2 : a &&& 858993459 ≤ a := Nat.and_le_left
  have a3 : a / 4 &&& 858993459 ≤ a / 4 := Nat.and_le_left
  rw [m2, u2 a (by omega), m2, nI_add]
  generalize hb : (a &&& 858993459) + (a / 4 &&& 858993459) = b
  rw [u4 b (by omega), nI_add, m3]
  have a4 : b + b / 16 &&& 252645135 ≤ b + b / 16 := Nat.and_le_left
  generalize hc : (b + b / 16) &&& 252645135 = c at a4
  rw [u8 c (by omega), nI_add, u16 _ (by omega), nI_add, m4, ← hc, ← hb]
theorem bc_pw : ∀ q, q < 16 → fJ6_bitCount_0f7a4 (nI (2 ^ q)) = some (nI 1) ∧ fJ6_numberOfTrailingZeros_0f7a4 (nI (2 ^ q)) = some (nI q) := by decide +kernel
theorem low16 {x : Int32} (h : ∀ i, 16 ≤ i → bt x i = false) : ∃ v, v < 65536 ∧ x = nI v := by
  obtain ⟨v, v1, v2⟩ := nx_mask x
  refine ⟨v, v1, ?_⟩
  rw [← v2]
  apply b_ext
  intro i hi
  rw [b_and]
  by_cases c : i < 16
  · rw [ev_bits i c]; simp
  · rw [h i (by omega)]; rfl
/-- who holds all of a parcel -/
theorem onl_eq {h : Nat → Nat → Nat} {g p : Nat} (H : FB h g) (hp : p < 12) (hs : fb_sm (h p) 16 = 12 ∨ fb_sm (h p) 16 = 0) {I : JI} {t : Nat} (hb : ∀ i, bt (I (t + 2) p) i = (decide (i < 16) && decide (0 < h p i))) : fX1_onlyHolder t (nI p) I = some (slV h p) := by
  unfold fX1_onlyHolder
  rw [jg_in hp (by decide), nI_clamp (by omega)]
  obtain ⟨v, v1, v2⟩ := low16 (x := I (t + 2) p) (fun i hi => by rw [hb i, decide_eq_false (by omega)]; rfl)
  rw [v2]
  have hvb : ∀ i, i < 16 → v.testBit i = decide (0 < h p i) := by
    intro i hi
    rw [← bt_nJ v (by omega), ← v2, hb i, decide_eq_true hi]; rfl
  by_cases c : slF h p < 16
  · obtain ⟨e1, e2⟩ := sl_yes H hp c
    have hv : v = 2 ^ slF h p := by
      apply Nat.eq_of_testBit_eq
      intro i
      rw [Nat.testBit_two_pow]
      by_cases ci : i < 16
      · rw [hvb i ci]
        by_cases ce : i = slF h p
        · rw [ce, e1]; simp
        · rw [e2 i ci ce, decide_eq_false (by omega), decide_eq_false (fun e => ce e.symm)]
      · rw [Nat.testBit_lt_two_pow (by have : 2 ^ 16 ≤ 2 ^ i := Nat.pow_le_pow_right (by omega) (by omega); omega), decide_eq_false (by omega)]
    obtain ⟨q1, q2⟩ := bc_pw (slF h p) c
    rw [hv, q1, Option.bind_some, if_pos (show nI 1 = (1 : Int32) from rfl), q2, Option.bind_some]
    unfold slV
    rw [if_pos c]
  · have e1 : slV h p = -nI 1 := if_neg c
    rw [bcN_eq v1, Option.bind_some]
    have hne : ¬ nI (bcN v) = (1 : Int32) := by
      intro e
      have hlt : bcN v < 2 ^ 31 := by
        have : bcN v ≤ 63 := by unfold bcN; exact Nat.and_le_right
        omega
      have h1 : bcN v = 1 := (nI_eq (b := 1) hlt (by omega)).mp e
      have h2 := bcn_all v1
      rw [h1] at h2
      have h3 : v = 2 ^ Nat.log2 v := by
        have : Nat.beq v (2 ^ Nat.log2 v) = true := by simpa using h2
        exact Nat.eq_of_beq_eq_true this
      generalize Nat.log2 v = q at h3
      have hq : q < 16 := by
        by_cases cq : q < 16
        · exact cq
        · have : 2 ^ 16 ≤ 2 ^ q := Nat.pow_le_pow_right (by omega) (by omega)
          omega
      have hz : ∀ i, i < 16 → i ≠ q → h p i = 0 := by
        intro i hi hne
        have := hvb i hi
        rw [h3, Nat.testBit_two_pow, decide_eq_false (fun e => hne e.symm)] at this
        have := (decide_eq_false_iff_not.mp this.symm)
        omega
      have hpos : 0 < h p q := by
        have := hvb q hq
        rw [h3, Nat.testBit_two_pow, decide_eq_true rfl] at this
        exact of_decide_eq_true this.symm
      have hsum : fb_sm (h p) 16 = h p q := by
        have hu := fb_sm_upd (h p) 0 (i := q) (n := 16) hq
        have h0 : fb_sm (fun k => if k = q then 0 else h p k) 16 = 0 := by
          have : fb_sm (fun k => if k = q then 0 else h p k) 16 = fb_sm (fun _ => 0) 16 := fb_sm_cong (fun k hk => by
            show (if k = q then 0 else h p k) = 0
            split
            · rfl
            · rename_i hne; exact hz k hk hne)
          rw [this, fb_sm_const]
        omega
      have h12 : h p q = 12 := by omega
      have := fa_first_no (fun q => decide (h p q = 12)) 16 q (by
        have hle := fa_first_le (fun q => decide (h p q = 12)) 16
        have : slF h p = fa_first (fun q => decide (h p q = 12)) 16 := rfl
        omega)
      rw [decide_eq_true h12] at this
      exact absurd this (by simp)
    rw [if_neg hne, e1]; rfl
