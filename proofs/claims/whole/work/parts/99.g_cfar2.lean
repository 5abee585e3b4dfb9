def rb (L : JL) (v : Nat) : Bool := bL (L 41 (v / 64)) (v % 64)
theorem sh6 {v : Nat} (hv : v < 4096) : nI v >>> ((6 : Int32) &&& 31) = nI (v / 64) := pk_shrN (by omega) _ 6 (by decide)
theorem an63 (v : Nat) : nI v &&& (63 : Int32) = nI (v % 64) := fa_mask v 6
theorem l1sh : ∀ k, k < 64 → ∀ j, j < 64 → bL ((1 : Int64) <<< ((nI k).toInt64 &&& 63)) j = decide (j = k) := by decide +kernel
theorem rb_up {L : JL} {w t : Nat} : rb (j_up L 41 (w / 64) (L 41 (w / 64) ||| ((1 : Int64) <<< ((nI (w % 64)).toInt64 &&& 63)))) t = (rb L t || decide (t = w)) := by
  unfold rb
  rw [ju_at]
  show bL (if t / 64 = w / 64 then L 41 (w / 64) ||| ((1 : Int64) <<< ((nI (w % 64)).toInt64 &&& 63)) else L 41 (t / 64)) (t % 64) = _
  by_cases c : t / 64 = w / 64
  · rw [if_pos c, bL_or, l1sh _ (by omega) _ (by omega), c]
    congr 1
    by_cases e : t = w
    · rw [e, decide_eq_true rfl, decide_eq_true rfl]
    · rw [decide_eq_false (by omega), decide_eq_false e]
  · rw [if_neg c, decide_eq_false (by intro e; exact c (by rw [e])), Bool.or_false]
theorem cfc_2 {M : JI} {L : JL} {S : JS} {X ln : Nat} {E : Nat → (Nat → Int32) → Int32} (W : WB M L S X ln E) {h : Nat → Nat → Nat} {g ec yrs w : Nat} (H : FB h g) (hw : w < 4096) (hFw : ∀ i, w.testBit i = true → FS h g i = true) : ∀ d k, k + d = 12 → ∀ n, d < n → ∀ I D pl, CF M I D X h g ec yrs pl → ∃ (z : Bool) (I' : JI) (D' : JG) (pl' : Nat), fX2_comesAbout_2 n (nI w) (nI k) I L D S = some (bI z, I', D') ∧ qFr I I' ∧ dS D D' ∧ CF M I' D' X h g ec yrs pl' ∧ (z = true ↔ ∃ p, k ≤ p ∧ p < 12 ∧ w.testBit p = true ∧ rb L (w ^^^ 2 ^ p) = true ∧ GT M ln E h g ec (M 1 7) (w ^^^ 2 ^ p) p = true) := by
  intro d
  induction d with
  | zero =>
    intro k hk n hn I D pl hc
    obtain ⟨n', rfl⟩ := suc_of hn
    have : k = 12 := by omega
    subst this
    refine ⟨false, I, D, pl, ?_, qFr_rfl I, dS_rfl D, hc, ⟨fun h => absurd h (by simp), fun ⟨p, p1, p2, _⟩ => absurd p2 (by omega)⟩⟩
    rw [fX2_comesAbout_2, if_pos (by decide)]; rfl
  | succ d ih =>
    intro k hk n hn I D pl hc
    obtain ⟨n', rfl⟩ := suc_of hn
    have c : ¬ (12 : Int32) ≤ nI k := nI_ge (b := 12) (by omega) (by omega)
    have en : nI k + (1 : Int32) = nI (k + 1) := nI_add _ 1
    have skip : ∀ (I1 : JI) (D1 : JG) (pl1 : Nat), ¬ (w.testBit k = true ∧ rb L (w ^^^ 2 ^ k) = true ∧ GT M ln E h g ec (M 1 7) (w ^^^ 2 ^ k) k = true) → CF M I1 D1 X h g ec yrs pl1 → qFr I I1 → dS D D1 → ∃ (z : Bool) (I' : JI) (D' : JG) (pl' : Nat), fX2_comesAbout_2 n' (nI w) (nI (k + 1)) I1 L D1 S = some (bI z, I', D') ∧ qFr I I' ∧ dS D D' ∧ CF M I' D' X h g ec yrs pl' ∧ (z = true ↔ ∃ p, k ≤ p ∧ p < 12 ∧ w.testBit p = true ∧ rb L (w ^^^ 2 ^ p) = true ∧ GT M ln E h g ec (M 1 7) (w ^^^ 2 ^ p) p = true) := by
      intro I1 D1 pl1 hno hc1 hq hd
      obtain ⟨z, I', D', pl', a1, a2, a3, a4, a5⟩ := ih (k + 1) (by omega) n' (by omega) I1 D1 pl1 hc1
      refine ⟨z, I', D', pl', a1, qFr_tr hq a2, dS_tr hd a3, a4, ?_⟩
      rw [a5]
      constructor
      · rintro ⟨p, p1, p2⟩
        exact ⟨p, by omega, p2⟩
      · rintro ⟨p, p1, p2, p3, p4, p5⟩
        by_cases cp : p = k
        · rw [cp] at p3 p4 p5; exact absurd ⟨p3, p4, p5⟩ hno
        · exact ⟨p, by omega, p2, p3, p4, p5⟩
    rw [fX2_comesAbout_2, if_neg c, an_n hw (by omega), en]
    by_cases cb : w.testBit k = true
    · have hxv := xor_v (p := k) hw (by omega)
      rw [if_pos cb] at hxv
      have h2 : 0 < 2 ^ k := Nat.two_pow_pos k
      have hlt := xor_lt (p := k) hw (by omega)
      rw [if_pos cb, if_neg (fun e => by
        have := (nI_eq (by omega) (by omega)).mp e
        omega), sh6 hlt, jg_in (show (w ^^^ 2 ^ k) / 64 < 64 by omega) (by decide), nI_clamp (show (w ^^^ 2 ^ k) / 64 < 2 ^ 31 by omega), an63]
      have hlsb := lsb_k (L 41 ((w ^^^ 2 ^ k) / 64)) (k := (w ^^^ 2 ^ k) % 64) (by omega)
      by_cases cr : rb L (w ^^^ 2 ^ k) = true
      · rw [if_neg (by rw [hlsb]; unfold rb at cr; rw [cr]; simp)]
        have hFx : ∀ i, (w ^^^ 2 ^ k).testBit i = true → FS h g i = true := by
          intro i hi
          rw [fb_bit_flip] at hi
          by_cases ci : i = k
          · rw [ci]; exact hFw k cb
          · simp [ci] at hi; exact hFw i hi
        obtain ⟨I1, a1, a2, a3⟩ := cfp_eq H hlt hFx hc
        obtain ⟨I2, D2, b1, b2, b3, b4⟩ := cfs_eq (ec := ec) W H (show k < 12 by omega) (hFw k cb) a3
        rw [a1, Option.bind_some, b1, Option.bind_some]
        cases eG : GT M ln E h g ec (M 1 7) (w ^^^ 2 ^ k) k with
        | false =>
          rw [if_pos (show bI false = 0 by decide)]
          exact skip I2 D2 _ (fun e => by rw [eG] at e; exact absurd e.2.2 (by simp)) b4 (qFr_tr a2 b2) b3
        | true =>
          rw [if_neg (show ¬ bI true = 0 by decide)]
          exact ⟨true, I2, D2, _, rfl, qFr_tr a2 b2, b3, b4, ⟨fun _ => ⟨k, Nat.le_refl _, by omega, cb, cr, eG⟩, fun _ => rfl⟩⟩
      · rw [if_pos (by rw [hlsb]; unfold rb at cr; simpa using cr)]
        exact skip I D pl (fun e => cr e.2.1) hc (qFr_rfl I) (dS_rfl D)
    · rw [if_neg cb, if_pos rfl]
      exact skip I D pl (fun e => cb e.1) hc (qFr_rfl I) (dS_rfl D)
theorem nx_eq {v F : Nat} (hF : F < 4096) (hv : v < 4096) : (nI v - nI F) &&& nI F = nI ((v + (2 ^ 12 - 1 - F) + 1) &&& F) := by
  have e1 : nI v - nI F = nI (v + (4294967296 - F)) := by
    rw [Int32.sub_eq_add_neg, ← nI_add]
    congr 1
    have : nI (4294967296 - F) = nI 4294967296 - nI F := (pk_sub (by omega)).symm
    rw [this, show nI 4294967296 = (0 : Int32) by decide, Int32.zero_sub]
  rw [e1]
  apply b_ext
  intro i hi
  rw [b_and, bt_nJ _ hi, bt_nJ _ hi, bt_nJ _ hi, Nat.testBit_and]
  by_cases c : i < 12
  · congr 1
    have t1 := md_tb (v + (4294967296 - F)) 12 i
    have t2 := md_tb (v + (2 ^ 12 - 1 - F) + 1) 12 i
    rw [decide_eq_true c, Bool.true_and] at t1 t2
    rw [← t1, ← t2]
    congr 1
    omega
  · rw [tb_hi hF (by omega), Bool.and_false, Bool.and_false]
theorem sub_le {v F : Nat} (h : sub v F) : v ≤ F := by
  have : v &&& F = v := by
    apply Nat.eq_of_testBit_eq
    intro i
    rw [Nat.testBit_and]
    cases e : v.testBit i with
    | false => rfl
    | true => rw [h i e]; rfl
  have h2 : v &&& F ≤ F := Nat.and_le_right
  omega
theorem BS_skip {G : Nat → Nat → Bool} {F : Nat → Bool} {yrs v w bs : Nat} (h : BS G F yrs (v + 1) bs) (hw : v < w) (hn : ∀ t, v < t → t < w → t < 4096 → ¬ CA G F yrs t = true) : BS G F yrs w bs := by
  obtain ⟨h1, h2, h3, h4⟩ := h
  refine ⟨h1, by omega, h3, fun t t1 t2 t3 => ?_⟩
  by_cases c : t < v + 1
  · exact h4 t c t2 t3
  · exact absurd t3 (hn t (by omega) t1 t2)
def zFr (I I' : JI) : Prop := (∀ a, (a < 16 ∨ (18 < a ∧ a < 33) ∨ a = 34 ∨ 40 ≤ a) → I' a = I a) ∧ ∀ k, k ≠ 7 → k ≠ 10 → I' 33 k = I 33 k
theorem zFr_rfl (I : JI) : zFr I I := ⟨fun _ _ => rfl, fun _ _ _ => rfl⟩
theorem zFr_tr {I I' I'' : JI} (h : zFr I I') (h' : zFr I' I'') : zFr I I'' := ⟨fun a ha => (h'.1 a ha).trans (h.1 a ha), fun k h1 h2 => (h'.2 k h1 h2).trans (h.2 k h1 h2)⟩
theorem zFr_q {I I' : JI} (h : qFr I I') : zFr I I' := ⟨h.1, fun k h1 _ => h.2 k h1⟩
def ML41 (L0 L : JL) : Prop := ∀ c, c ≠ 41 → L c = L0 c
theorem cfs_16 {M : JI} {L0 : JL} {S : JS} {X ln : Nat} {E : Nat → (Nat → Int32) → Int32} (W : WB M L0 S X ln E) {h : Nat → Nat → Nat} {g ec yrs F : Nat} (H : FB h g) (hy : yrs ≤ 9) (hF4 : F < 4096) (hF : ∀ i, i < 12 → F.testBit i = FS h g i) : ∀ d i, i + d = 4096 → ∀ n, d < n → ∀ I (L : JL) D pl v bs, CF M I D X h g ec yrs pl → ML41 L0 L → I 33 9 = nI F → I 33 10 = nI bs → v < 4096 → sub v F → i ≤ v + 1 → (∀ t, t < 4096 → rb L t = (decide (t ≤ v) && CA (GT M ln E h g ec (M 1 7)) (FS h g) yrs t)) → BS (GT M ln E h g ec (M 1 7)) (FS h g) yrs (v + 1) bs → ∃ I' L' D' bs', fX2_search_16 n (nI v) (nI i) I L D S = some (I', L', D') ∧ zFr I I' ∧ dS D D' ∧ ML41 L0 L' ∧ I' 33 10 = nI bs' ∧ BS (GT M ln E h g ec (M 1 7)) (FS h g) yrs 4096 bs' := by
  have hsubCA : ∀ t, t < 4096 → CA (GT M ln E h g ec (M 1 7)) (FS h g) yrs t = true → sub t F := by
    intro t ht hc i hi
    obtain ⟨-, q⟩ := CA_pc 4096 t ht ht hc
    by_cases ci : i < 12
    · rw [hF i ci]; exact q i hi
    · rw [tb_hi ht (by omega)] at hi; exact absurd hi (by simp)
  intro d
  induction d with
  | zero =>
    intro i hi n hn I L D pl v bs hc hL e9 e10 hv hs hiv hrb hBS
    obtain ⟨n', rfl⟩ := suc_of hn
    have hi4 : i = 4096 := by omega
    have hv4 : v = 4095 := by omega
    refine ⟨I, L, D, bs, ?_, zFr_rfl I, dS_rfl D, hL, e10, by rw [hv4] at hBS; exact hBS⟩
    rw [fX2_search_16, if_pos (show (4096 : Int32) ≤ nI i by rw [hi4]; decide)]
  | succ d ih =>
    intro i hi n hn I L D pl v bs hc hL e9 e10 hv hs hiv hrb hBS
    obtain ⟨n', rfl⟩ := suc_of hn
    have c : ¬ (4096 : Int32) ≤ nI i := nI_ge (b := 4096) (by omega) (by omega)
    have en : nI i + (1 : Int32) = nI (i + 1) := nI_add _ 1
    rw [fX2_search_16, if_neg c, e9, nx_eq hF4 hv, en]
    by_cases cF : v = F
    · have h0 : (v + (2 ^ 12 - 1 - F) + 1) &&& F = 0 := by
        rw [cF, show F + (2 ^ 12 - 1 - F) + 1 = 2 ^ 12 by omega]
        apply Nat.eq_of_testBit_eq
        intro j
        rw [Nat.testBit_and, Nat.testBit_two_pow, Nat.zero_testBit]
        by_cases cj : 12 = j
        · rw [← cj, tb_hi hF4 (by omega)]; simp
        · rw [decide_eq_false cj]; rfl
      rw [h0, if_pos (show nI 0 = (0 : Int32) from rfl)]
      refine ⟨I, L, D, bs, rfl, zFr_rfl I, dS_rfl D, hL, e10, BS_skip hBS hv (fun t t1 t2 t3 t4 => ?_)⟩
      have := sub_le (hsubCA t t3 t4)
      omega
    · have hle := sub_le hs
      obtain ⟨n1, n2⟩ := nxt_le 12 F v F hF4 hs (fun _ h => h) (by omega) hF4
      have hmin : ∀ t, t < 4096 → sub t F → v < t → ((v + (2 ^ 12 - 1 - F) + 1) &&& F) ≤ t := fun t t1 t2 t3 => (nxt_le 12 F v t hF4 hs t2 t3 t1).2
      have hwsub : sub ((v + (2 ^ 12 - 1 - F) + 1) &&& F) F := by
        intro j hj
        rw [Nat.testBit_and, Bool.and_eq_true] at hj
        exact hj.2
      generalize (v + (2 ^ 12 - 1 - F) + 1) &&& F = w at n1 n2 hmin hwsub ⊢
      have hw4 : w < 4096 := by omega
      have hFw : ∀ j, w.testBit j = true → FS h g j = true := by
        intro j hj
        by_cases cj : j < 12
        · rw [← hF j cj]; exact hwsub j hj
        · rw [tb_hi hw4 (by omega)] at hj; exact absurd hj (by simp)
      have hbet : ∀ t, v < t → t < w → t < 4096 → ¬ CA (GT M ln E h g ec (M 1 7)) (FS h g) yrs t = true := fun t t1 t2 t3 t4 => by
        have := hmin t t3 (hsubCA t t3 t4) t1
        omega
      have hBSw := BS_skip hBS n1 hbet
      have hrbF : ∀ t, t < 4096 → ¬ CA (GT M ln E h g ec (M 1 7)) (FS h g) yrs w = true → rb L t = (decide (t ≤ w) && CA (GT M ln E h g ec (M 1 7)) (FS h g) yrs t) := by
        intro t ht hn
        rw [hrb t ht]
        by_cases c1 : t ≤ v
        · rw [decide_eq_true c1, decide_eq_true (by omega)]
        · rw [decide_eq_false c1, Bool.false_and]
          by_cases c2 : t ≤ w
          · have : CA (GT M ln E h g ec (M 1 7)) (FS h g) yrs t = false := by
              by_cases c3 : t = w
              · rw [c3]; simpa using hn
              · have := hbet t (by omega) (by omega) ht
                simpa using this
            rw [this, Bool.and_false]
          · rw [decide_eq_false c2]; rfl
      have hpw := pc_le w
      have hpb := pc_le bs
      have hbs4 := hBS.1
      rw [if_neg (nI_ne0 (by omega) (by omega)), bc_n hw4, Option.bind_some, hc.2.1.2.1]
      by_cases cy : yrs < pc w
      · rw [if_pos (nI_lt cy (by omega))]
        have hn : ¬ CA (GT M ln E h g ec (M 1 7)) (FS h g) yrs w = true := fun e => by
          have := (CA_pc 4096 w hw4 hw4 e).1
          omega
        exact ih (i + 1) (by omega) n' (by omega) I L D pl w bs hc hL e9 e10 hw4 hwsub (by omega) (fun t ht => hrbF t ht hn) (BS_no hBSw (fun e => absurd e hn))
      · rw [if_neg (nI_nlt (by omega) (by omega))]
        have W1 : WB M L S X ln E := WB_L W (hL 46 (by omega)) (hL 57 (by omega))
        obtain ⟨z, I1, D1, pl1, a1, a2, a3, a4, a5⟩ := cfc_2 (ec := ec) W1 H hw4 hFw 12 0 (by omega) 100000 (by omega) I D pl hc
        have a1' : fX2_comesAbout (nI w) I L D S = some (bI z, I1, D1) := a1
        have hz : z = true ↔ CA (GT M ln E h g ec (M 1 7)) (FS h g) yrs w = true := by
          rw [a5, CA_eq hw4 (by omega)]
          unfold CAp
          constructor
          · rintro ⟨p, -, p2, p3, p4, p5⟩
            have hlt := xor_lt (p := p) hw4 p2
            have hxv := xor_v (p := p) hw4 p2
            rw [if_pos p3] at hxv
            have h2 : 0 < 2 ^ p := Nat.two_pow_pos p
            rw [hrb _ hlt, Bool.and_eq_true] at p4
            have hpx := xor_pc p2 p3
            refine ⟨p, p2, ?_⟩
            rw [p3, hFw p p3, p4.2, decide_eq_false (by omega), p5]; rfl
          · rintro ⟨p, p1, p2⟩
            simp only [Bool.and_eq_true] at p2
            obtain ⟨q1, q2, q3, q4, q5⟩ := p2
            have hlt := xor_lt (p := p) hw4 p1
            have hxv := xor_v (p := p) hw4 p1
            rw [if_pos q1] at hxv
            have h2 : 0 < 2 ^ p := Nat.two_pow_pos p
            refine ⟨p, Nat.zero_le _, p1, q1, ?_, q5⟩
            rw [hrb _ hlt, q3, Bool.and_true, decide_eq_true_eq]
            -- what is reached below w is at most v
            by_cases cv : w ^^^ 2 ^ p ≤ v
            · exact cv
            · exact absurd q3 (hbet _ (by omega) (by omega) hlt)
        have e9' : I1 33 9 = nI F := by rw [a2.2 9 (by omega)]; exact e9
        have e10' : I1 33 10 = nI bs := by rw [a2.2 10 (by omega)]; exact e10
        rw [a1', Option.bind_some]
        dsimp only
        cases z with
        | false =>
          have hn : ¬ CA (GT M ln E h g ec (M 1 7)) (FS h g) yrs w = true := fun e => absurd (hz.mpr e) (by simp)
          rw [if_pos (show bI false = 0 by decide)]
          obtain ⟨I', L', D', bs', b1, b2, b3, b4, b5, b6⟩ := ih (i + 1) (by omega) n' (by omega) I1 L D1 pl1 w bs a4 hL e9' e10' hw4 hwsub (by omega) (fun t ht => hrbF t ht hn) (BS_no hBSw (fun e => absurd e hn))
          exact ⟨I', L', D', bs', b1, zFr_tr (zFr_q a2) b2, dS_tr a3 b3, b4, b5, b6⟩
        | true =>
          have hyes := hz.mp rfl
          rw [if_neg (show ¬ bI true = 0 by decide), sh6 hw4, jg_in (show w / 64 < 64 by omega) (by decide), jg_in (show w / 64 < 64 by omega) (by decide), Option.bind_some, e10', bc_n hbs4, Option.bind_some, nI_clamp (show w / 64 < 2 ^ 31 by omega), an63]
          have hL' : ML41 L0 (j_up L 41 (w / 64) (L 41 (w / 64) ||| ((1 : Int64) <<< ((nI (w % 64)).toInt64 &&& 63)))) := fun c hc => by rw [ju_row _ _ hc]; exact hL c hc
          have hrb' : ∀ t, t < 4096 → rb (j_up L 41 (w / 64) (L 41 (w / 64) ||| ((1 : Int64) <<< ((nI (w % 64)).toInt64 &&& 63)))) t = (decide (t ≤ w) && CA (GT M ln E h g ec (M 1 7)) (FS h g) yrs t) := by
            intro t ht
            rw [rb_up, hrb t ht]
            by_cases c1 : t ≤ v
            · rw [decide_eq_true c1, decide_eq_true (show t ≤ w by omega), decide_eq_false (show ¬ t = w by omega), Bool.or_false]
            · rw [decide_eq_false c1, Bool.false_and, Bool.false_or]
              by_cases c3 : t = w
              · rw [c3, hyes, decide_eq_true rfl, decide_eq_true (Nat.le_refl _)]; rfl
              · rw [decide_eq_false c3]
                by_cases c2 : t ≤ w
                · have := hbet t (by omega) (by omega) ht
                  have e : CA (GT M ln E h g ec (M 1 7)) (FS h g) yrs t = false := by simpa using this
                  rw [e, Bool.and_false]
                · rw [decide_eq_false c2]; rfl
          by_cases cp : pc w ≤ pc bs
          · rw [if_pos (nI_le cp (by omega))]
            obtain ⟨I', L', D', bs', b1, b2, b3, b4, b5, b6⟩ := ih (i + 1) (by omega) n' (by omega) I1 _ D1 pl1 w bs a4 hL' e9' e10' hw4 hwsub (by omega) hrb' (BS_no hBSw (fun _ => cp))
            exact ⟨I', L', D', bs', b1, zFr_tr (zFr_q a2) b2, dS_tr a3 b3, b4, b5, b6⟩
          · rw [if_neg (nI_ge (by omega) (by omega))]
            have hc2 : CF M (j_up I1 33 10 (nI w)) D1 X h g ec yrs pl1 := by
              obtain ⟨c1, ⟨c2, c3, c4, c5⟩, c6, c7, c8, c10⟩ := a4
              refine ⟨fun a ha => by rw [ju_row _ _ (by omega)]; exact c1 a ha, ⟨by rw [ju_cell _ _ (by omega)]; exact c2, by rw [ju_cell _ _ (by omega)]; exact c3, by rw [ju_cell _ _ (by omega)]; exact c4, by rw [ju_cell _ _ (by omega)]; exact c5⟩, by rw [ju_row _ _ (by omega)]; exact c6, ?_, c8, c10⟩
              rw [ju_row _ _ (by omega), ju_row _ _ (by omega), ju_row _ _ (by omega), ju_row _ _ (by omega)]; exact c7
            obtain ⟨I', L', D', bs', b1, b2, b3, b4, b5, b6⟩ := ih (i + 1) (by omega) n' (by omega) (j_up I1 33 10 (nI w)) _ D1 pl1 w w hc2 hL' (by rw [ju_cell _ _ (by omega)]; exact e9') (ju_same _ _ _ _) hw4 hwsub (by omega) hrb' (BS_yes hBSw hw4 hyes cp)
            have hz2 : zFr I1 (j_up I1 33 10 (nI w)) := ⟨fun a ha => ju_row _ _ (by omega), fun k h1 h2 => ju_cell _ _ h2⟩
            exact ⟨I', L', D', bs', b1, zFr_tr (zFr_q a2) (zFr_tr hz2 b2), dS_tr a3 b3, b4, b5, b6⟩
