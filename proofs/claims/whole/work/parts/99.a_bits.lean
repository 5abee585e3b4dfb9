/-! ===== sets of parcels as numbers ===== -/
theorem bt_nJ (v : Nat) {i : Nat} (hi : i < 32) : bt (nI v) i = v.testBit i := by
  unfold bt
  show (BitVec.ofNat 32 v).getLsbD i = v.testBit i
  rw [BitVec.getLsbD_ofNat]
  simp [hi]
theorem tb_hi {v : Nat} (hv : v < 4096) {i : Nat} (hi : 12 ≤ i) : v.testBit i = false := by
  apply Nat.testBit_lt_two_pow
  have : 2 ^ 12 ≤ 2 ^ i := Nat.pow_le_pow_right (by omega) hi
  omega
theorem tb_ext {v w : Nat} (hv : v < 4096) (hw : w < 4096) (h : ∀ i, i < 12 → v.testBit i = w.testBit i) : v = w := by
  apply Nat.eq_of_testBit_eq
  intro i
  by_cases c : i < 12
  · exact h i c
  · rw [tb_hi hv (by omega), tb_hi hw (by omega)]
theorem pc_tb (v : Nat) : pc v = fb_ct (fun i => v.testBit i) 12 := fb_ct_cong (fun k hk => bt_nJ v (by omega))
theorem xor_tb : all2 (fun v => fb_ct (fun p => if v.testBit p then (v ^^^ 2 ^ p) + 2 ^ p == v else (v ^^^ 2 ^ p) == v + 2 ^ p) 12 == 12) 12 0 = true := by decide +kernel
theorem xor_v {v p : Nat} (hv : v < 4096) (hp : p < 12) : if v.testBit p = true then (v ^^^ 2 ^ p) + 2 ^ p = v else (v ^^^ 2 ^ p) = v + 2 ^ p := by
  have h := all2_ok _ 12 0 xor_tb v (by omega) (by omega)
  have h' : fb_ct (fun p => if v.testBit p then (v ^^^ 2 ^ p) + 2 ^ p == v else (v ^^^ 2 ^ p) == v + 2 ^ p) 12 = 12 := by simpa using h
  have := fb_ct_all.mp h' p hp
  by_cases c : v.testBit p = true
  · rw [if_pos c] at this ⊢; simpa using this
  · rw [if_neg c] at this ⊢; simpa using this
theorem xor_lt {v p : Nat} (hv : v < 4096) (hp : p < 12) : v ^^^ 2 ^ p < 4096 := by
  have h2 : 2 ^ p < 2 ^ 12 := Nat.pow_lt_pow_right (by omega) hp
  exact Nat.xor_lt_two_pow (n := 12) hv h2
theorem xor_pc {v p : Nat} (hp : p < 12) (hb : v.testBit p = true) : pc (v ^^^ 2 ^ p) + 1 = pc v := by
  rw [pc_tb, pc_tb]
  have e : (fun i => (v ^^^ 2 ^ p).testBit i) = fun k => if k = p then false else v.testBit k := by
    funext i
    rw [fb_bit_flip]
    by_cases c : i = p
    · rw [if_pos c, c, hb]; simp
    · rw [if_neg c]; simp [c]
  have := fb_ct_upd (fun i => v.testBit i) false (i := p) (n := 12) hp
  rw [← e] at this
  have hb' : (if (fun i => v.testBit i) p = true then 1 else 0) = 1 := if_pos hb
  simp only [hb] at this
  simpa using this
theorem xor_xor {v p : Nat} : (v ^^^ 2 ^ p) ^^^ 2 ^ p = v := by rw [Nat.xor_assoc, Nat.xor_self, Nat.xor_zero]
theorem pc_0 : pc 0 = 0 := by decide +kernel
theorem or_x {v p : Nat} (hb : v.testBit p = false) : v ||| 2 ^ p = v ^^^ 2 ^ p := by
  apply Nat.eq_of_testBit_eq
  intro i
  rw [fb_bit_set, fb_bit_flip]
  by_cases c : i = p
  · rw [c, hb]; simp
  · simp [c]
theorem sh_p : ∀ p, p < 12 → (1 : Int32) <<< (nI p &&& 31) = nI (2 ^ p) := by decide +kernel
theorem or_n {v p : Nat} (hp : p < 12) : nI v ||| ((1 : Int32) <<< (nI p &&& 31)) = nI (v ||| 2 ^ p) := by rw [sh_p p hp, fa_or]
theorem an_n {v p : Nat} (hv : v < 4096) (hp : p < 12) : nI v &&& (((1 : Int32) <<< (nI p &&& 31)) ^^^ (-1 : Int32)) = nI (if v.testBit p = true then v ^^^ 2 ^ p else v) := by
  apply b_ext
  intro i hi
  rw [show bt (nI v &&& (((1 : Int32) <<< (nI p &&& 31)) ^^^ (-1 : Int32))) i = (bt (nI v) i && !decide (i = p)) from bt_clr (nI v) (by omega) i, bt_nJ _ hi, bt_nJ _ hi]
  by_cases c : v.testBit p = true
  · rw [if_pos c, fb_bit_flip]
    by_cases e : i = p
    · subst e; rw [c]; simp
    · simp [e]
  · rw [if_neg c]
    by_cases e : i = p
    · subst e; simp at c; simp [c]
    · simp [e]
theorem nI_inj12 {v w : Nat} (hv : v < 4096) (hw : w < 4096) : (nI v = nI w) = (v = w) := propext ⟨fun e => (nI_eq (by omega) (by omega)).mp e, fun e => by rw [e]⟩
/-! the next set -/
def sub (v F : Nat) : Prop := ∀ i, v.testBit i = true → F.testBit i = true
theorem and_d2 (a b : Nat) : (a &&& b) / 2 = a / 2 &&& b / 2 := by
  apply Nat.eq_of_testBit_eq
  intro i
  rw [Nat.testBit_div_two, Nat.testBit_and, Nat.testBit_and, Nat.testBit_div_two, Nat.testBit_div_two]
theorem tb_0 (a : Nat) : a.testBit 0 = decide (a % 2 = 1) := by rw [Nat.testBit_zero]
theorem and_m2 (a b : Nat) : (a &&& b) % 2 = if a % 2 = 1 ∧ b % 2 = 1 then 1 else 0 := by
  have h := Nat.testBit_and a b 0
  rw [tb_0, tb_0, tb_0] at h
  have h1 : (a &&& b) % 2 = 0 ∨ (a &&& b) % 2 = 1 := by omega
  by_cases c : a % 2 = 1 ∧ b % 2 = 1
  · rw [if_pos c]
    rw [decide_eq_true c.1, decide_eq_true c.2] at h
    exact of_decide_eq_true h
  · rw [if_neg c]
    rcases h1 with h1 | h1
    · exact h1
    · exfalso
      rw [decide_eq_true h1] at h
      have h' := h.symm
      rw [Bool.and_eq_true] at h'
      exact c ⟨of_decide_eq_true h'.1, of_decide_eq_true h'.2⟩
theorem sub_d2 {v F : Nat} (h : sub v F) : sub (v / 2) (F / 2) ∧ (v % 2 = 1 → F % 2 = 1) := by
  refine ⟨fun i hi => ?_, fun hv => ?_⟩
  · rw [Nat.testBit_div_two] at hi ⊢; exact h _ hi
  · have := h 0 (by rw [tb_0]; simp [hv])
    rw [tb_0] at this
    simpa using this
theorem nxt_le : ∀ n F v t, F < 2 ^ n → sub v F → sub t F → v < t → t < 2 ^ n → v < ((v + (2 ^ n - 1 - F) + 1) &&& F) ∧ ((v + (2 ^ n - 1 - F) + 1) &&& F) ≤ t := by
  intro n
  induction n with
  | zero => intro F v t h1 h2 h3 h4 h5; simp at h5; omega
  | succ n ih =>
    intro F v t hF hv ht hvt ht2
    obtain ⟨v1, v2⟩ := sub_d2 hv
    obtain ⟨t1, t2⟩ := sub_d2 ht
    have hp : 2 ^ (n + 1) = 2 * 2 ^ n := by rw [Nat.pow_succ]; omega
    rw [hp] at hF ht2 ⊢
    have hpos : 0 < 2 ^ n := Nat.two_pow_pos n
    generalize hP : 2 ^ n = P at *
    have hz := and_d2 (v + (2 * P - 1 - F) + 1) F
    have hm := and_m2 (v + (2 * P - 1 - F) + 1) F
    generalize hW : (v + (2 * P - 1 - F) + 1) &&& F = w at hz hm ⊢
    by_cases cc : v / 2 < t / 2
    · have hi := ih (F / 2) (v / 2) (t / 2) (by omega) v1 t1 cc (by omega)
      by_cases f0 : F % 2 = 0
      · have e : (v + (2 * P - 1 - F) + 1) / 2 = v / 2 + (P - 1 - F / 2) + 1 := by
          have : v % 2 = 0 := by
            have : v % 2 = 0 ∨ v % 2 = 1 := by omega
            rcases this with h | h
            · exact h
            · have := v2 h; omega
          omega
        rw [e] at hz
        rw [← hz] at hi
        have : w % 2 = 0 := by rw [hm, if_neg (by omega)]
        omega
      · by_cases b0 : v % 2 = 0
        · have hvb : w = v + 1 := by
            have e1 : (v + (2 * P - 1 - F) + 1) / 2 = v / 2 + (P - 1 - F / 2) := by omega
            rw [e1] at hz
            have e2 : (v / 2 + (P - 1 - F / 2)) &&& F / 2 = v / 2 := by
              have hd : ∀ m G u, G < 2 ^ m → sub u G → (u + (2 ^ m - 1 - G)) &&& G = u := by
                intro m
                induction m with
                | zero =>
                  intro G u hG hu
                  have : G = 0 := by simp at hG; omega
                  subst this
                  have : u = 0 := by
                    apply Nat.eq_of_testBit_eq
                    intro i
                    cases e : u.testBit i with
                    | false => simp
                    | true => have := hu i e; simp at this
                  subst this
                  simp
                | succ m ihm =>
                  intro G u hG hu
                  obtain ⟨u1, u2⟩ := sub_d2 hu
                  have hp' : 2 ^ (m + 1) = 2 * 2 ^ m := by rw [Nat.pow_succ]; omega
                  rw [hp'] at hG ⊢
                  have hpos' : 0 < 2 ^ m := Nat.two_pow_pos m
                  have hi2 := ihm (G / 2) (u / 2) (by omega) u1
                  generalize 2 ^ m = Q at *
                  have hz' := and_d2 (u + (2 * Q - 1 - G)) G
                  have hm' := and_m2 (u + (2 * Q - 1 - G)) G
                  have e3 : (u + (2 * Q - 1 - G)) / 2 = u / 2 + (Q - 1 - G / 2) := by
                    have h01 : u % 2 = 0 ∨ u % 2 = 1 := by omega
                    rcases h01 with h | h
                    · omega
                    · have := u2 h; omega
                  rw [e3, hi2] at hz'
                  have e4 : ((u + (2 * Q - 1 - G)) &&& G) % 2 = u % 2 := by
                    rw [hm']
                    have h01 : u % 2 = 0 ∨ u % 2 = 1 := by omega
                    rcases h01 with h | h
                    · rw [if_neg (by omega), h]
                    · have := u2 h; rw [if_pos (by omega), h]
                  omega
              have := hd n (F / 2) (v / 2) (by omega) v1
              rw [hP] at this
              exact this
            rw [e2] at hz
            have : w % 2 = 1 := by rw [hm, if_pos (by omega)]
            omega
          omega
        · have e : (v + (2 * P - 1 - F) + 1) / 2 = v / 2 + (P - 1 - F / 2) + 1 := by omega
          rw [e] at hz
          rw [← hz] at hi
          have : w % 2 = 0 := by rw [hm, if_neg (by omega)]
          omega
    · -- the same upper bits: v = 2a, t = 2a + 1
      have hb : v % 2 = 0 := by omega
      have htb : t % 2 = 1 := by omega
      have hf1 := t2 htb
      have e1 : (v + (2 * P - 1 - F) + 1) / 2 = v / 2 + (P - 1 - F / 2) := by omega
      rw [e1] at hz
      have hd : ∀ m G u, G < 2 ^ m → sub u G → (u + (2 ^ m - 1 - G)) &&& G = u := by
        intro m
        induction m with
        | zero =>
          intro G u hG hu
          have : G = 0 := by simp at hG; omega
          subst this
          have : u = 0 := by
            apply Nat.eq_of_testBit_eq
            intro i
            cases e : u.testBit i with
            | false => simp
            | true => have := hu i e; simp at this
          subst this
          simp
        | succ m ihm =>
          intro G u hG hu
          obtain ⟨u1, u2⟩ := sub_d2 hu
          have hp' : 2 ^ (m + 1) = 2 * 2 ^ m := by rw [Nat.pow_succ]; omega
          rw [hp'] at hG ⊢
          have hpos' : 0 < 2 ^ m := Nat.two_pow_pos m
          have hi2 := ihm (G / 2) (u / 2) (by omega) u1
          generalize 2 ^ m = Q at *
          have hz' := and_d2 (u + (2 * Q - 1 - G)) G
          have hm' := and_m2 (u + (2 * Q - 1 - G)) G
          have e3 : (u + (2 * Q - 1 - G)) / 2 = u / 2 + (Q - 1 - G / 2) := by
            have h01 : u % 2 = 0 ∨ u % 2 = 1 := by omega
            rcases h01 with h | h
            · omega
            · have := u2 h; omega
          rw [e3, hi2] at hz'
          have e4 : ((u + (2 * Q - 1 - G)) &&& G) % 2 = u % 2 := by
            rw [hm']
            have h01 : u % 2 = 0 ∨ u % 2 = 1 := by omega
            rcases h01 with h | h
            · rw [if_neg (by omega), h]
            · have := u2 h; rw [if_pos (by omega), h]
          omega
      have := hd n (F / 2) (v / 2) (by omega) v1
      rw [hP] at this
      rw [this] at hz
      have : w % 2 = 1 := by rw [hm, if_pos (by omega)]
      omega
