/-! ===== how far: the class's side ===== -/
def CF (M I : JI) (D : JG) (X : Nat) (h : Nat → Nat → Nat) (g ec yrs pl : Nat) : Prop := kS M I ∧ (I 33 11 = nI g ∧ I 33 12 = nI yrs ∧ I 33 13 = nI ec ∧ I 33 7 = nI pl) ∧ (∀ p, p < 12 → I 40 p = slV h p) ∧ vHd (I 35) (I 36) (I 37) (I 38) (hv h g pl) ∧ (pl < 4096 ∧ ∀ i, pl.testBit i = true → FS h g i = true) ∧ D 15 5 = some X
def qFr (I I' : JI) : Prop := (∀ a, (a < 16 ∨ (18 < a ∧ a < 33) ∨ a = 34 ∨ 40 ≤ a) → I' a = I a) ∧ ∀ k, k ≠ 7 → I' 33 k = I 33 k
theorem qFr_rfl (I : JI) : qFr I I := ⟨fun _ _ => rfl, fun _ _ => rfl⟩
theorem qFr_tr {I I' I'' : JI} (h : qFr I I') (h' : qFr I' I'') : qFr I I'' := ⟨fun a ha => (h'.1 a ha).trans (h.1 a ha), fun k hk => (h'.2 k hk).trans (h.2 k hk)⟩
/-- the place on the way from v to w -/
def uK (w v k : Nat) : Nat := (w % 2 ^ k) ^^^ hiB v k
theorem uK_tb (w v k i : Nat) : (uK w v k).testBit i = if i < k then w.testBit i else v.testBit i := by
  unfold uK
  rw [Nat.testBit_xor, md_tb, hi_tb]
  by_cases c : i < k
  · rw [if_pos c, decide_eq_true c]; simp
  · rw [if_neg c, decide_eq_false c]; simp
theorem uK_same {w v k : Nat} (h : w.testBit k = v.testBit k) : uK w v (k + 1) = uK w v k := by
  apply Nat.eq_of_testBit_eq
  intro i
  rw [uK_tb, uK_tb]
  by_cases e : i = k
  · subst e; rw [if_pos (by omega), if_neg (by omega), h]
  · by_cases c : i < k
    · rw [if_pos c, if_pos (by omega)]
    · rw [if_neg c, if_neg (by omega)]
theorem uK_flip {w v k : Nat} (h : w.testBit k ≠ v.testBit k) : uK w v (k + 1) = uK w v k ^^^ 2 ^ k := by
  apply Nat.eq_of_testBit_eq
  intro i
  rw [fb_bit_flip, uK_tb, uK_tb]
  by_cases e : i = k
  · subst e
    rw [if_pos (by omega), if_neg (by omega)]
    cases a : w.testBit i <;> cases b : v.testBit i <;> simp_all
  · by_cases c : i < k
    · rw [if_pos c, if_pos (by omega)]; simp [e]
    · rw [if_neg c, if_neg (by omega)]; simp [e]
theorem hv_lf {h : Nat → Nat → Nat} {g u p : Nat} (H : FB h g) (hp : p < 12) (hF : FS h g p = true) (hu : u.testBit p = false) : ∀ p' q', p' < 12 → q' < 16 → hv h g (u ^^^ 2 ^ p) p' q' = lih (hv h g u) p (slF h p) g 0 p' q' := by
  intro p' q' hp' hq'
  rw [hv_get H hp hF hu p' q' hp' hq']
  obtain ⟨a1, a2⟩ := hv_sl H hp hF hu
  unfold mvh up2 lih
  rw [a1, a2]
theorem hv_lb {h : Nat → Nat → Nat} {g u p : Nat} (H : FB h g) (hp : p < 12) (hF : FS h g p = true) (hu : u.testBit p = true) : ∀ p' q', p' < 12 → q' < 16 → hv h g (u ^^^ 2 ^ p) p' q' = lih (hv h g u) p (slF h p) g 12 p' q' := by
  intro p' q' hp' hq'
  obtain ⟨a1, a2, a3⟩ := hv_back H hp hF hu
  obtain ⟨-, -, s3⟩ := sv_yes hF
  rw [a3 p' q' hp' hq']
  unfold mvh up2 lih
  rw [a1, a2]
  by_cases c1 : p' = p ∧ q' = g
  · rw [if_neg (by omega), if_pos c1, if_pos c1]
  · rw [if_neg c1]
    by_cases c2 : p' = p ∧ q' = slF h p
    · rw [if_pos c2, if_neg c1]
    · rw [if_neg c2, if_neg c1]
theorem cfp_9 {h : Nat → Nat → Nat} {g w v : Nat} (H : FB h g) (hw : w < 4096) (hv12 : v < 4096) (hFw : ∀ i, w.testBit i = true → FS h g i = true) (hFv : ∀ i, v.testBit i = true → FS h g i = true) : ∀ d k, k + d = 12 → ∀ n, d < n → ∀ I, I 33 11 = nI g → (∀ p, p < 12 → I 40 p = slV h p) → vHd (I 35) (I 36) (I 37) (I 38) (hv h g (uK w v k)) → ∃ I', fX2_place_9 n (nI w) (nI (v ^^^ w)) (nI k) I = some I' ∧ (∀ a, a ≠ 33 → (a < 35 ∨ 38 < a) → I' a = I a) ∧ (∀ k, k ≠ 7 → I' 33 k = I 33 k) ∧ I' 33 7 = nI w ∧ vHd (I' 35) (I' 36) (I' 37) (I' 38) (hv h g w) := by
  have fin : ∀ (k : Nat) (I : JI), (∀ i, k ≤ i → i < 12 → w.testBit i = v.testBit i) → vHd (I 35) (I 36) (I 37) (I 38) (hv h g (uK w v k)) → ∃ I', some (j_up I 33 7 (nI w)) = some I' ∧ (∀ a, a ≠ 33 → (a < 35 ∨ 38 < a) → I' a = I a) ∧ (∀ k, k ≠ 7 → I' 33 k = I 33 k) ∧ I' 33 7 = nI w ∧ vHd (I' 35) (I' 36) (I' 37) (I' 38) (hv h g w) := by
    intro k I hk hI
    have hu : uK w v k = w := by
      apply Nat.eq_of_testBit_eq
      intro i
      rw [uK_tb]
      by_cases c : i < k
      · rw [if_pos c]
      · rw [if_neg c]
        by_cases c2 : i < 12
        · exact (hk i (by omega) c2).symm
        · rw [tb_hi hw (by omega), tb_hi hv12 (by omega)]
    rw [hu] at hI
    refine ⟨j_up I 33 7 (nI w), rfl, fun a h1 h2 => ju_row _ _ h1, fun k hk => ju_cell _ _ hk, ju_same _ _ _ _, ?_⟩
    rw [ju_row _ _ (by omega), ju_row _ _ (by omega), ju_row _ _ (by omega), ju_row _ _ (by omega)]; exact hI
  intro d
  induction d with
  | zero =>
    intro k hk n hn I e11 e40 hI
    obtain ⟨n', rfl⟩ := suc_of hn
    have : k = 12 := by omega
    subst this
    rw [fX2_place_9, if_pos (by decide)]
    exact fin 12 I (fun i h1 h2 => absurd h2 (by omega)) hI
  | succ d ih =>
    intro k hk n hn I e11 e40 hI
    obtain ⟨n', rfl⟩ := suc_of hn
    have c : ¬ (12 : Int32) ≤ nI k := nI_ge (b := 12) (by omega) (by omega)
    have en : nI k + (1 : Int32) = nI (k + 1) := nI_add _ 1
    have hxl : v ^^^ w < 4096 := Nat.xor_lt_two_pow (n := 12) hv12 hw
    have hsh : (nI (v ^^^ w) >>> (nI k &&& 31) = (0 : Int32)) = (∀ i, k ≤ i → bt (nI (v ^^^ w)) i = false) := bt_shr0 (nI (v ^^^ w)) (by omega) (fun i hi => bt_hi hxl i (by omega))
    rw [fX2_place_9, if_neg c]
    by_cases z : nI (v ^^^ w) >>> (nI k &&& 31) = (0 : Int32)
    · rw [if_pos z]
      rw [hsh] at z
      refine fin k I (fun i h1 h2 => ?_) hI
      have := z i h1
      rw [bt_nJ _ (by omega), Nat.testBit_xor] at this
      cases a : w.testBit i <;> cases b : v.testBit i <;> simp_all
    · rw [if_neg z]
      have hxt : (v ^^^ w).testBit k = (v.testBit k ^^ w.testBit k) := Nat.testBit_xor v w k
      by_cases cb : (v ^^^ w).testBit k = true
      · rw [if_neg (by rw [tb_z _ (by omega), cb]; simp)]
        have hne : w.testBit k ≠ v.testBit k := by
          intro e
          rw [hxt, e] at cb
          simp at cb
        have huk : (uK w v k).testBit k = v.testBit k := by rw [uK_tb, if_neg (by omega)]
        have hfl := uK_flip hne
        unfold fX2_place_42
        rw [jg_in (show k < 12 by omega) (by decide), jg_in (show k < 12 by omega) (by decide), nI_clamp (by omega), e11, e40 k (by omega)]
        by_cases cw : w.testBit k = true
        · have cv : v.testBit k = false := by
            cases e : v.testBit k with
            | false => rfl
            | true => rw [cw, e] at hne; exact absurd rfl hne
          obtain ⟨s1, s2, s3⟩ := sv_yes (hFw k cw)
          rw [cv] at huk
          obtain ⟨a1, a2⟩ := hv_sl H (show k < 12 by omega) (hFw k cw) huk
          obtain ⟨I1, b1, b2, b3⟩ := hd_lay (M := I) (t := 34) hI (p := k) (f := slF h k) (g := g) (n := 0) (by omega) s2 H.1 s3 (Nat.zero_le _) (by rw [a1]; omega) (by rw [a2]; omega)
          rw [a1, show nI 12 - nI 0 = (12 : Int32) by decide] at b1
          rw [if_neg (by rw [tb_z _ (by omega), cw]; simp), if_neg (by decide), s1, b1, Option.bind_some, en]
          have r1 : ∀ a, (a < 35 ∨ 38 < a) → I1 a = I a := fun a ha => b2 a (by omega) (by omega) (by omega) (by omega)
          obtain ⟨I', c1, c2, c3, c4, c5⟩ := ih (k + 1) (by omega) n' (by omega) I1 (by rw [r1 33 (by omega)]; exact e11) (fun p hp => by rw [r1 40 (by omega)]; exact e40 p hp) (by rw [hfl]; exact vHd_cong (hv_lf H (by omega) (hFw k cw) huk) b3)
          exact ⟨I', c1, fun a h1 h2 => by rw [c2 a h1 h2, r1 a h2], fun j hj => by rw [c3 j hj, r1 33 (by omega)], c4, c5⟩
        · have cw' : w.testBit k = false := by simpa using cw
          have cv : v.testBit k = true := by
            cases e : v.testBit k with
            | true => rfl
            | false => rw [cw', e] at hne; exact absurd rfl hne
          obtain ⟨s1, s2, s3⟩ := sv_yes (hFv k cv)
          rw [cv] at huk
          obtain ⟨a1, a2, -⟩ := hv_back H (show k < 12 by omega) (hFv k cv) huk
          obtain ⟨I1, b1, b2, b3⟩ := hd_lay (M := I) (t := 34) hI (p := k) (f := slF h k) (g := g) (n := 12) (by omega) s2 H.1 s3 (by rw [a1]; omega) (by rw [a2]; omega) (by rw [a1]; omega)
          rw [a2, show nI 0 - nI 12 = (-12 : Int32) by decide] at b1
          rw [if_pos (by rw [tb_z _ (by omega)]; exact cw'), if_pos rfl, s1, b1, Option.bind_some, en]
          have r1 : ∀ a, (a < 35 ∨ 38 < a) → I1 a = I a := fun a ha => b2 a (by omega) (by omega) (by omega) (by omega)
          obtain ⟨I', c1, c2, c3, c4, c5⟩ := ih (k + 1) (by omega) n' (by omega) I1 (by rw [r1 33 (by omega)]; exact e11) (fun p hp => by rw [r1 40 (by omega)]; exact e40 p hp) (by rw [hfl]; exact vHd_cong (hv_lb H (by omega) (hFv k cv) huk) b3)
          exact ⟨I', c1, fun a h1 h2 => by rw [c2 a h1 h2, r1 a h2], fun j hj => by rw [c3 j hj, r1 33 (by omega)], c4, c5⟩
      · have cb' : (v ^^^ w).testBit k = false := by simpa using cb
        rw [if_pos (by rw [tb_z _ (by omega)]; exact cb'), en]
        have hsame : w.testBit k = v.testBit k := by
          rw [hxt] at cb'
          cases a : w.testBit k <;> cases b : v.testBit k <;> simp_all
        exact ih (k + 1) (by omega) n' (by omega) I e11 e40 (by rw [uK_same hsame]; exact hI)
theorem cfp_eq {M I : JI} {D : JG} {X : Nat} {h : Nat → Nat → Nat} {g ec yrs pl w : Nat} (H : FB h g) (hw : w < 4096) (hFw : ∀ i, w.testBit i = true → FS h g i = true) (hc : CF M I D X h g ec yrs pl) : ∃ I', fX2_place (nI w) I = some I' ∧ qFr I I' ∧ CF M I' D X h g ec yrs w := by
  obtain ⟨c1, ⟨c2, c3, c4, c5⟩, c6, c7, ⟨c8, c9⟩, c10⟩ := hc
  obtain ⟨I', a1, a2, a3, a4, a5⟩ := cfp_9 H hw c8 hFw c9 12 0 (by omega) 100000 (by omega) I c2 c6 (by
    have : uK w pl 0 = pl := by
      apply Nat.eq_of_testBit_eq
      intro i
      rw [uK_tb, if_neg (by omega)]
    rw [this]; exact c7)
  refine ⟨I', ?_, ⟨fun a ha => a2 a (by omega) (by omega), a3⟩, fun a ha => by rw [a2 a (by omega) (by omega)]; exact c1 a ha, ⟨by rw [a3 11 (by omega)]; exact c2, by rw [a3 12 (by omega)]; exact c3, by rw [a3 13 (by omega)]; exact c4, a4⟩, fun p hp => by rw [a2 40 (by omega) (by omega)]; exact c6 p hp, a5, ⟨hw, hFw⟩, c10⟩
  unfold fX2_place
  rw [c5, fb_xorI]
  exact a1
theorem CF_fr {M I I' : JI} {D D' : JG} {X : Nat} {h : Nat → Nat → Nat} {g ec yrs pl : Nat} (hc : CF M I D X h g ec yrs pl) (hf : ∀ a, a ≠ 16 → a ≠ 17 → a ≠ 18 → a ≠ 39 → I' a = I a) (hd : D' 15 5 = D 15 5) : CF M I' D' X h g ec yrs pl := by
  obtain ⟨c1, c2, c6, c7, c8, c10⟩ := hc
  refine ⟨fun a ha => by rw [hf a (by omega) (by omega) (by omega) (by omega)]; exact c1 a ha, by rw [hf 33 (by omega) (by omega) (by omega) (by omega)]; exact c2, by rw [hf 40 (by omega) (by omega) (by omega) (by omega)]; exact c6, ?_, c8, by rw [hd]; exact c10⟩
  rw [hf 35 (by omega) (by omega) (by omega) (by omega), hf 36 (by omega) (by omega) (by omega) (by omega), hf 37 (by omega) (by omega) (by omega) (by omega), hf 38 (by omega) (by omega) (by omega) (by omega)]; exact c7
theorem cfs_20 {M : JI} {L : JL} {S : JS} {X ln : Nat} {E : Nat → (Nat → Int32) → Int32} (W : WB M L S X ln E) {h : Nat → Nat → Nat} {g p ec yrs pl : Nat} (H : FB h g) (hp : p < 12) (hF : FS h g p = true) : ∀ d fm, fm + d = 3 → ∀ n, d < n → ∀ I D, CF M I D X h g ec yrs pl → D 15 6 = some 34 → sdS M (hv h g pl) p (slF h p) (I 18) → (∀ j, j < fm → unS M ln E (hv h g pl) (M 1 7) (nI 0) p (slF h p) g 12 (prS 12 ec j) j = false) → ∃ I' D', fX2_sells_20 n (nI p) (nI fm) I L D S = some (bI (GT M ln E h g ec (M 1 7) pl p), I', D') ∧ (∀ a, a ≠ 16 → a ≠ 17 → a ≠ 39 → I' a = I a) ∧ dS D D' := by
  obtain ⟨s1, s2, s3⟩ := sv_yes hF
  intro d
  induction d with
  | zero =>
    intro fm hd n hn I D hc d6 h18 hno
    obtain ⟨n', rfl⟩ := suc_of hn
    have : fa_first (fun fm => unS M ln E (hv h g pl) (M 1 7) (nI 0) p (slF h p) g 12 (prS 12 ec fm) fm) 3 = 3 := ff_none (fun i hi => hno i (by omega))
    have hG : GT M ln E h g ec (M 1 7) pl p = false := by unfold GT; rw [this]; decide
    refine ⟨I, D, ?_, fun _ _ _ _ => rfl, dS_rfl D⟩
    rw [fX2_sells_20, if_pos (show (3 : Int32) ≤ nI fm by rw [show fm = 3 by omega]; decide), hG]; rfl
  | succ d ih =>
    intro fm hd n hn I D hc d6 h18 hno
    obtain ⟨n', rfl⟩ := suc_of hn
    have c : ¬ (3 : Int32) ≤ nI fm := nI_ge (b := 3) (by omega) (by omega)
    obtain ⟨c1, ⟨c2, c3, c4, c5⟩, c6, c7, c8, c10⟩ := id hc
    obtain ⟨I1, I2, r, I3, a1, a2, a3, a4, a5⟩ := cls_one (L := L) (S := S) W c1 (t := 34) (dq := 39) (by omega) (by omega) c10 d6 (h := hv h g pl) c7 (hv_le H) hp s2 H.1 (show fm < 3 by omega) s3 h18 12 ec 1 (M 1 7)
    have e17 : I2 1 7 = M 1 7 := by
      have := fX0_tellEach
      have t1 := tle_eq 39 p (slF h p) g 12 fm ec (by omega) I
      rw [a1] at t1
      simp only [Option.some.injEq] at t1
      obtain ⟨r', b1, -⟩ : ∃ r', fX3_ask 39 I1 D S = some (jr I1 16 r', j_up D 15 7 (some 39)) ∧ True := by
        obtain ⟨r', b1, -⟩ := ask_eq (M := I1) (D := D) (S := S) (t := 34) (dq := 39) (h := hv h g pl) d6 W.2.2.2.2.2.2.1 W.2.2.2.2.2.2.2.2 (by omega) (by omega) hp s2 H.1 (show fm < 3 by omega) (by rw [t1]; exact (tl_at I 39 _ _ _ _ _ _ _).1) (by rw [t1]; exact (tl_at I 39 _ _ _ _ _ _ _).2.1) (by rw [t1]; exact (tl_at I 39 _ _ _ _ _ _ _).2.2.1) (by rw [t1]; exact (tl_at I 39 _ _ _ _ _ _ _).2.2.2.2.1) (by rw [t1, tl_row I _ _ _ _ _ _ _ (by omega), tl_row I _ _ _ _ _ _ _ (by omega), tl_row I _ _ _ _ _ _ _ (by omega), tl_row I _ _ _ _ _ _ _ (by omega)]; exact c7)
        exact ⟨r', b1, trivial⟩
      rw [a2] at b1
      simp only [Option.some.injEq, Prod.mk.injEq] at b1
      rw [b1.1, jr_ne _ _ (by omega), t1, tl_row I _ _ _ _ _ _ _ (by omega), c1 1 (by omega)]
    have hlg : (lg_cmp r (0 : Int64) = 0) = (unS M ln E (hv h g pl) (M 1 7) (nI 0) p (slF h p) g 12 (prS 12 ec fm) fm = false) := by
      apply propext
      rw [bL_cmp]
      constructor
      · intro h1
        have e := a5 0 (by omega)
        rw [h1 0 (by omega), bL_one 0 (by omega)] at e
        simpa using e.symm
      · intro h1 x hx
        rw [a5 x hx, bL_one x hx]
        by_cases x0 : x = 0
        · rw [x0, h1]; rfl
        · rw [decide_eq_false x0]; rfl
    have a1' : fX0_tellEach 39 (nI p) (nI (slF h p)) (nI g) (12 : Int32) (nI fm) (nI ec) I = some I1 := a1
    rw [fX2_sells_20, if_neg c, jg_in hp (by decide), nI_clamp (by omega), c6 p hp, s1, c2, c4, a1', Option.bind_some, a2, Option.bind_some]
    dsimp only
    rw [e17, a3, Option.bind_some]
    dsimp only
    cases e : unS M ln E (hv h g pl) (M 1 7) (nI 0) p (slF h p) g 12 (prS 12 ec fm) fm with
    | true =>
      rw [e] at hlg
      rw [if_neg (by rw [hlg]; simp)]
      have : fa_first (fun fm => unS M ln E (hv h g pl) (M 1 7) (nI 0) p (slF h p) g 12 (prS 12 ec fm) fm) 3 = fm := ff_is hno e (by omega)
      have hG : GT M ln E h g ec (M 1 7) pl p = true := by unfold GT; rw [this, decide_eq_true_eq]; omega
      exact ⟨I3, j_up D 15 7 (some 39), by rw [hG]; rfl, a4, dS_up D (Or.inr rfl)⟩
    | false =>
      rw [e] at hlg
      rw [if_pos (by rw [hlg]), show nI fm + (1 : Int32) = nI (fm + 1) from nI_add _ 1]
      obtain ⟨I', D', b1, b2, b3⟩ := ih (fm + 1) (by omega) n' (by omega) I3 (j_up D 15 7 (some 39)) (CF_fr hc (fun a z1 z2 z3 z4 => a4 a z1 z2 z4) (ju_cell _ _ (by omega))) (by rw [ju_cell _ _ (by omega)]; exact d6) (by rw [a4 18 (by omega) (by omega) (by omega)]; exact h18) (fun j hj => by
        by_cases cj : j = fm
        · rw [cj]; exact e
        · exact hno j (by omega))
      exact ⟨I', D', b1, fun a z1 z2 z3 => by rw [b2 a z1 z2 z3, a4 a z1 z2 z3], dS_tr (dS_up D (Or.inr rfl)) b3⟩
theorem cfs_eq {M : JI} {L : JL} {S : JS} {X ln : Nat} {E : Nat → (Nat → Int32) → Int32} (W : WB M L S X ln E) {h : Nat → Nat → Nat} {g p ec yrs pl : Nat} (H : FB h g) (hp : p < 12) (hF : FS h g p = true) {I : JI} {D : JG} (hc : CF M I D X h g ec yrs pl) : ∃ I' D', fX2_sells (nI p) I L D S = some (bI (GT M ln E h g ec (M 1 7) pl p), I', D') ∧ qFr I I' ∧ dS D D' ∧ CF M I' D' X h g ec yrs pl := by
  obtain ⟨s1, s2, s3⟩ := sv_yes hF
  obtain ⟨c1, c2, c6, c7, c8, c10⟩ := id hc
  obtain ⟨r, a1, a2⟩ := cls_set (D := D) W c1 (t := 34) (by omega) c7 hp s2
  have hc1 : CF M (jr I 18 r) (j_up D 15 6 (some 34)) X h g ec yrs pl := CF_fr hc (fun a _ _ z3 _ => jr_ne _ _ z3) (ju_cell _ _ (by omega))
  obtain ⟨I', D', b1, b2, b3⟩ := cfs_20 (ec := ec) W H hp hF 3 0 (by omega) 100000 (by omega) (jr I 18 r) (j_up D 15 6 (some 34)) hc1 (ju_same _ _ _ _) (by rw [jr_at]; exact a2) (fun j hj => absurd hj (by omega))
  refine ⟨I', D', ?_, ⟨fun a ha => by rw [b2 a (by omega) (by omega) (by omega), jr_ne _ _ (by omega)], fun k _ => by rw [b2 33 (by omega) (by omega) (by omega), jr_ne _ _ (by omega)]⟩, dS_tr (dS_up D (Or.inl rfl)) b3, CF_fr hc1 (fun a z1 z2 z3 z4 => b2 a z1 z2 z4) (b3.2 5 (by omega) (by omega))⟩
  unfold fX2_sells
  rw [jg_in hp (by decide), nI_clamp (by omega), c6 p hp, s1, a1, Option.bind_some]
  exact b1
