/-! ===== mended, the reference's side ===== -/
theorem xSm_rfl (N : JI) : xSm N N := ⟨fun _ _ _ => rfl, fun _ _ => rfl⟩
theorem xSm_tr {A B C : JI} (h : xSm A B) (h' : xSm B C) : xSm A C := ⟨fun a h1 h2 => (h'.1 a h1 h2).trans (h.1 a h1 h2), fun k hk => (h'.2 k hk).trans (h.2 k hk)⟩
theorem xSm_u {N N' : JI} (h : uSm N N') : xSm N N' := ⟨fun a h1 h2 => h.1 a (by omega) h2, fun k hk => h.2 k (by omega)⟩
def DR (M N : JI) : Prop := nS M N ∧ N 68 = M 68 ∧ (∀ a, 121 ≤ a → a ≤ 126 → N a = M a) ∧ N 66 81 = M 66 81
theorem DR_x {M N N' : JI} (h : DR M N) (hx : xSm N N') : DR M N' := by
  obtain ⟨⟨n1, n2, n3⟩, h2, h3, h4⟩ := h
  refine ⟨⟨fun a k ha => by rw [hx.1 a (by omega) (by omega)]; exact n1 a k ha, by rw [hx.2 18 (by omega)]; exact n2, by rw [hx.2 8 (by omega)]; exact n3⟩, by rw [hx.1 68 (by omega) (by omega)]; exact h2, fun a a1 a2 => by rw [hx.1 a (by omega) (by omega)]; exact h3 a a1 a2, by rw [hx.2 81 (by omega)]; exact h4⟩
theorem does_8 {M : JI} {L : JL} {S : JS} {X ln : Nat} {E : Nat → (Nat → Int32) → Int32} (W : WB M L S X ln E) {h : Nat → Nat → Nat} {p o f g a b : Nat} (H : HB h p o f g a b) (ho : o = fa_first (othP h p f) 12) {ec : Nat} {sm : Int32} (e68 : twRep (M 68) h) {mh : Nat} {D : JG} (hH : HD M D S mh) (h81 : M 66 81 = nI mh) : ∀ d i, i + d = mh → ∀ n, d < n → ∀ N, DR M N → N 66 50 = sm → ∃ (z : Bool) (N' : JI), fX12_does_8 n (nI p) (nI f) (nI g) (nI ec) (nI i) N = some (bI z, N') ∧ xSm N N' ∧ (z = true ↔ (∀ j, i ≤ j → j < mh → hoS M ln E h sm j = true) ∧ (skR M ln E h sm p o f g ec a b).1 = none) := by
  have hm6 := hH.1
  intro d
  induction d with
  | zero =>
    intro i hi n hn N hN h50
    obtain ⟨n', rfl⟩ := suc_of hn
    obtain ⟨N', a1, a2, a3, -⟩ := sk_eq (ec := ec) W H ho hN.1 h50 (by rw [hN.2.1]; exact e68)
    rw [fX12_does_8, hN.2.2.2, h81, if_pos (nI_le (by omega) (by omega))]
    unfold fX12_does_121
    rw [a1, Option.bind_some]
    unfold skV
    cases e : (skR M ln E h sm p o f g ec a b).1 with
    | none =>
      refine ⟨true, N', ?_, xSm_z a2 a3, ⟨fun _ => ⟨fun j j1 j2 => absurd j2 (by omega), rfl⟩, fun _ => rfl⟩⟩
      rw [if_neg (show ¬ (0 : Int32) ≤ -nI 1 by decide)]; rfl
    | some x =>
      refine ⟨false, N', ?_, xSm_z a2 a3, ⟨fun h => absurd h (by simp), fun h => absurd h.2 (by simp)⟩⟩
      have hB := (sk_eq (ec := ec) W H ho hN.1 h50 (by rw [hN.2.1]; exact e68))
      obtain ⟨_, -, -, -, -, -, -, b7, b8⟩ := hB
      have hd := (b7.2.2.1 x (b8 x e).2).2.2.2
      have a12 : a ≤ 12 := by rw [H.2.2.2.1]; exact H.2.1 _ _ H.1.1 H.1.2.1
      have b12 : b ≤ 12 := by
        rw [H.2.2.2.2]; split
        · exact H.2.1 _ _ (by assumption) H.1.2.1
        · omega
      rw [if_pos (show (0 : Int32) ≤ nI (bD (skR M ln E h sm p o f g ec a b).2 x) from nI_le (a := 0) (Nat.zero_le _) (by omega))]; rfl
  | succ d ih =>
    intro i hi n hn N hN h50
    obtain ⟨n', rfl⟩ := suc_of hn
    obtain ⟨b0, -, -, -, ⟨t0, t1, t2, t3, t4, t5, t6, t7⟩, ⟨u0, u1, u2, u3, u4⟩, -, x, x1, x2, x3⟩ := hH.2 i (by omega)
    have en : nI i + (1 : Int32) = nI (i + 1) := nI_add _ 1
    have hle := H.2.1 _ _ t1 t2
    have g6 : ∀ {α : Type} (z : Option α), j_g (j_in (nI i) 6) z = z := fun z => jg_in (by omega) (by decide)
    rw [fX12_does_8, hN.2.2.2, h81, if_neg (nI_ge (by omega) (by omega))]
    simp only [g6]
    rw [nI_clamp (show i < 2 ^ 31 by omega), hN.2.2.1 121 (by omega) (by omega), hN.2.2.1 122 (by omega) (by omega), hN.2.2.1 123 (by omega) (by omega), hN.2.2.1 124 (by omega) (by omega), hN.2.2.1 125 (by omega) (by omega), hN.2.2.1 126 (by omega) (by omega), u0, u1, u2, u3, u4, at16, jg_in (by omega) (by decide), nI_clamp (show 16 * pHo M i + fHo M i < 2 ^ 31 by omega), hN.2.1, e68 _ _ t1 t2, en]
    by_cases c : h (pHo M i) (fHo M i) < nHo M i
    · rw [if_neg (nI_ge c (by omega))]
      obtain ⟨z, N', a1, a2, a3⟩ := ih (i + 1) (by omega) n' (by omega) N hN h50
      refine ⟨z, N', a1, a2, ?_⟩
      rw [a3]
      constructor
      · rintro ⟨e1, e2⟩
        refine ⟨fun j j1 j2 => ?_, e2⟩
        by_cases cj : j = i
        · rw [cj]; unfold hoS; rw [decide_eq_true c]; rfl
        · exact e1 j (by omega) j2
      · rintro ⟨e1, e2⟩
        exact ⟨fun j j1 j2 => e1 j (by omega) j2, e2⟩
    · rw [if_pos (nI_le (by omega) (by omega))]
      obtain ⟨N0, y, N1, a1, a2, a3, a4⟩ := ref_com W hN.1 (h := h) (by rw [hN.2.1]; exact e68) H.2.1 t1 t2 t3 t7 (nI (nHo M i)) (M 126 i)
      have hho : hoS M ln E h sm i = unS M ln E h 65535 sm (pHo M i) (fHo M i) (gHo M i) (nHo M i) (M 126 i) (mHo M i) := by unfold hoS; rw [decide_eq_false c]; rfl
      have hy : (y = 0) = (hoS M ln E h sm i = true) := by
        apply propext
        rw [hho, show (y = (0 : Int32)) = (∀ i, i < 32 → bt y i = false) from bt_ne0 y, uns_0]
        rw [h50] at a4
        constructor
        · rintro q1 ⟨q, b1, b2, b3⟩
          have := q1 q (by omega)
          rw [a4 q, b3] at this
          simp [b1] at this
        · intro q1 k hk
          rw [a4 k]
          by_cases ck : k < 16
          · cases e : coG M h ln (pHo M i) (fHo M i) (gHo M i) (mHo M i) sm (fbS h (pHo M i) (fHo M i) (gHo M i) (mHo M i) (nI (nHo M i)) (M 126 i) (M 126 i) (M 1 8)) E k with
            | false => simp
            | true => exact absurd ⟨k, ck, ev_bits k ck, e⟩ q1
          · simp [ck]
      rw [a1, Option.bind_some, a2, Option.bind_some]
      cases e : hoS M ln E h sm i with
      | true =>
        rw [e] at hy
        rw [if_pos (by rw [hy])]
        obtain ⟨z, N', b1, b2, b3⟩ := ih (i + 1) (by omega) n' (by omega) N1 (DR_x hN (xSm_u a3)) (by rw [a3.2 50 (by omega)]; exact h50)
        refine ⟨z, N', b1, xSm_tr (xSm_u a3) b2, ?_⟩
        rw [b3]
        constructor
        · rintro ⟨e1, e2⟩
          refine ⟨fun j j1 j2 => ?_, e2⟩
          by_cases cj : j = i
          · rw [cj]; exact e
          · exact e1 j (by omega) j2
        · rintro ⟨e1, e2⟩
          exact ⟨fun j j1 j2 => e1 j (by omega) j2, e2⟩
      | false =>
        rw [e] at hy
        rw [if_neg (by rw [hy]; simp)]
        refine ⟨false, N1, rfl, xSm_u a3, ⟨fun h => absurd h (by simp), fun h => ?_⟩⟩
        rw [h.1 i (Nat.le_refl _) (by omega)] at e
        exact absurd e (by simp)
/-- a set of lines that mends it -/
def QM (M : JI) (ln : Nat) (E : Nat → (Nat → Int32) → Int32) (h : Nat → Nat → Nat) (p o f g ec a b mh : Nat) (x : Nat) : Prop := (∀ j, j < mh → hoS M ln E h (nI x) j = true) ∧ (skR M ln E h (nI x) p o f g ec a b).1 = none
theorem does_eq {M : JI} {L : JL} {S : JS} {X ln : Nat} {E : Nat → (Nat → Int32) → Int32} (W : WB M L S X ln E) {h : Nat → Nat → Nat} {p o f g a b : Nat} (H : HB h p o f g a b) (ho : o = fa_first (othP h p f) 12) {ec : Nat} (e68 : twRep (M 68) h) {mh : Nat} {D : JG} (hH : HD M D S mh) (h81 : M 66 81 = nI mh) {N : JI} (hN : DR M N) (x : Nat) : ∃ (z : Bool) (N' : JI), fX12_does (nI x) (nI p) (nI f) (nI g) (nI ec) N = some (bI z, N') ∧ xSm N N' ∧ (z = true ↔ QM M ln E h p o f g ec a b mh x) := by
  have hx0 : xSm N (j_up N 66 50 (nI x)) := ⟨fun a h1 h2 => ju_row _ _ h2, fun k hk => ju_cell _ _ (by omega)⟩
  obtain ⟨z, N', a1, a2, a3⟩ := does_8 (ec := ec) (sm := nI x) W H ho e68 hH h81 mh 0 (by omega) 100000 (by have := hH.1; omega) (j_up N 66 50 (nI x)) (DR_x hN hx0) (ju_same _ _ _ _)
  refine ⟨z, N', a1, xSm_tr hx0 a2, ?_⟩
  rw [a3]
  unfold QM
  exact ⟨fun ⟨e1, e2⟩ => ⟨fun j hj => e1 j (Nat.zero_le _) hj, e2⟩, fun ⟨e1, e2⟩ => ⟨fun j _ hj => e1 j hj, e2⟩⟩
abbrev K40 : Type := Int32 → Int32 → Int32 → Int32 → Int32 → Int32 → Int32 → JI → Option (Int32 × JI)
theorem mnd_50 {M : JI} {L : JL} {S : JS} {X ln : Nat} {E : Nat → (Nat → Int32) → Int32} (W : WB M L S X ln E) {h : Nat → Nat → Nat} {p o f g a b : Nat} (H : HB h p o f g a b) (ho : o = fa_first (othP h p f) 12) {ec : Nat} (e68 : twRep (M 68) h) {mh : Nat} {D : JG} (hH : HD M D S mh) (h81 : M 66 81 = nI mh) {k40 : K40} {al c : Nat} (hal : al ≤ 64) (hc : c ≤ 12) : ∀ d k, k + d = al → ∀ n, d < n → ∀ N, DR M N → (∃ m N', k ≤ m ∧ m < al ∧ pc m = c ∧ QM M ln E h p o f g ec a b mh m ∧ (∀ x, k ≤ x → x < m → ¬ (pc x = c ∧ QM M ln E h p o f g ec a b mh x)) ∧ xSm N N' ∧ ∀ l5, fX12_mended_50 k40 n (nI p) (nI f) (nI g) (nI ec) l5 (nI al) (nI c) (nI k) N = fX12_mended_81 l5 (nI c) (nI m) N') ∨ (∃ N', (∀ x, k ≤ x → x < al → ¬ (pc x = c ∧ QM M ln E h p o f g ec a b mh x)) ∧ xSm N N' ∧ ∀ l5, fX12_mended_50 k40 n (nI p) (nI f) (nI g) (nI ec) l5 (nI al) (nI c) (nI k) N = k40 (nI p) (nI f) (nI g) (nI ec) l5 (nI al) (nI c + (1 : Int32)) N') := by
  intro d
  induction d with
  | zero =>
    intro k hk n hn N hN
    obtain ⟨n', rfl⟩ := suc_of hn
    right
    refine ⟨N, fun x x1 x2 => absurd x2 (by omega), xSm_rfl N, fun l5 => ?_⟩
    rw [fX12_mended_50, if_pos (nI_le (by omega) (by omega))]; rfl
  | succ d ih =>
    intro k hk n hn N hN
    obtain ⟨n', rfl⟩ := suc_of hn
    have en : nI k + (1 : Int32) = nI (k + 1) := nI_add _ 1
    have hstep : ∀ l5, fX12_mended_50 k40 (n' + 1) (nI p) (nI f) (nI g) (nI ec) l5 (nI al) (nI c) (nI k) N = if nI (pc k) = nI c then ((fX12_does (nI k) (nI p) (nI f) (nI g) (nI ec) N).bind (fun q5 => if q5.1 = 0 then ((fX12_mended_50 k40 n') (nI p) (nI f) (nI g) (nI ec) l5 (nI al) (nI c) (nI (k + 1)) q5.2) else (fX12_mended_81 l5 (nI c) (nI k) q5.2))) else ((fX12_mended_50 k40 n') (nI p) (nI f) (nI g) (nI ec) l5 (nI al) (nI c) (nI (k + 1)) N) := by
      intro l5
      rw [fX12_mended_50, if_neg (nI_ge (by omega) (by omega)), bits_n, Option.bind_some, en]
    have hpk := pc_le k
    by_cases cp : pc k = c
    · obtain ⟨z, N1, a1, a2, a3⟩ := does_eq (ec := ec) W H ho e68 hH h81 hN k
      cases z with
      | true =>
        left
        refine ⟨k, N1, Nat.le_refl _, by omega, cp, a3.mp rfl, fun x x1 x2 => absurd x2 (by omega), a2, fun l5 => ?_⟩
        rw [hstep, if_pos (by rw [cp]), a1, Option.bind_some, if_neg (show ¬ bI true = 0 by decide)]
      | false =>
        have hq : ¬ QM M ln E h p o f g ec a b mh k := fun h => absurd (a3.mpr h) (by simp)
        have hgo : ∀ l5, fX12_mended_50 k40 (n' + 1) (nI p) (nI f) (nI g) (nI ec) l5 (nI al) (nI c) (nI k) N = (fX12_mended_50 k40 n') (nI p) (nI f) (nI g) (nI ec) l5 (nI al) (nI c) (nI (k + 1)) N1 := by
          intro l5
          rw [hstep, if_pos (by rw [cp]), a1, Option.bind_some, if_pos (show bI false = 0 by decide)]
        rcases ih (k + 1) (by omega) n' (by omega) N1 (DR_x hN a2) with ⟨m, N', b1, b2, b3, b4, b5, b6, b7⟩ | ⟨N', b1, b2, b3⟩
        · refine Or.inl ⟨m, N', by omega, b2, b3, b4, fun x x1 x2 => ?_, xSm_tr a2 b6, fun l5 => by rw [hgo, b7]⟩
          by_cases cx : x = k
          · rw [cx]; exact fun h => hq h.2
          · exact b5 x (by omega) x2
        · refine Or.inr ⟨N', fun x x1 x2 => ?_, xSm_tr a2 b2, fun l5 => by rw [hgo, b3]⟩
          by_cases cx : x = k
          · rw [cx]; exact fun h => hq h.2
          · exact b1 x (by omega) x2
    · have hgo : ∀ l5, fX12_mended_50 k40 (n' + 1) (nI p) (nI f) (nI g) (nI ec) l5 (nI al) (nI c) (nI k) N = (fX12_mended_50 k40 n') (nI p) (nI f) (nI g) (nI ec) l5 (nI al) (nI c) (nI (k + 1)) N := by
        intro l5
        rw [hstep, if_neg (fun e => cp ((nI_eq (by omega) (by omega)).mp e))]
      rcases ih (k + 1) (by omega) n' (by omega) N hN with ⟨m, N', b1, b2, b3, b4, b5, b6, b7⟩ | ⟨N', b1, b2, b3⟩
      · refine Or.inl ⟨m, N', by omega, b2, b3, b4, fun x x1 x2 => ?_, b6, fun l5 => by rw [hgo, b7]⟩
        by_cases cx : x = k
        · rw [cx]; exact fun h => cp h.1
        · exact b5 x (by omega) x2
      · refine Or.inr ⟨N', fun x x1 x2 => ?_, b2, fun l5 => by rw [hgo, b3]⟩
        by_cases cx : x = k
        · rw [cx]; exact fun h => cp h.1
        · exact b1 x (by omega) x2
def LBP (Q : Nat → Prop) (k : Nat) (v : Int32) : Prop := (v = -nI 1 ∧ ∀ x, x < k → ¬ Q x) ∨ ∃ m, m < k ∧ v = nI m ∧ Q m ∧ ∀ x, x < k → Q x → pc m < pc x ∨ (pc m = pc x ∧ m ≤ x)
theorem pc_6 : ∀ x, x < 64 → pc x ≤ 6 := by decide +kernel
theorem mnd_40 {M : JI} {L : JL} {S : JS} {X ln : Nat} {E : Nat → (Nat → Int32) → Int32} (W : WB M L S X ln E) {h : Nat → Nat → Nat} {p o f g a b : Nat} (H : HB h p o f g a b) (ho : o = fa_first (othP h p f) 12) {ec : Nat} (e68 : twRep (M 68) h) {mh : Nat} {D : JG} (hH : HD M D S mh) (h81 : M 66 81 = nI mh) {al : Nat} (hal : al ≤ 64) : ∀ d c, c + d = 7 → ∀ n, d < n → ∀ N, DR M N → (∀ x, x < al → pc x < c → ¬ QM M ln E h p o f g ec a b mh x) → ∃ v v0 N', xSm N N' ∧ LBP (QM M ln E h p o f g ec a b mh) al v ∧ (v = -nI 1 → v0 = -nI 1) ∧ (∀ m, m < al → v = nI m → v0 = nI (pc m)) ∧ ∀ l5, fX12_mended_40 n (nI p) (nI f) (nI g) (nI ec) l5 (nI al) (nI c) N = some (if l5 = 0 then v0 else v, N') := by
  intro d
  induction d with
  | zero =>
    intro c hc n hn N hN hno
    obtain ⟨n', rfl⟩ := suc_of hn
    refine ⟨-nI 1, -nI 1, N, xSm_rfl N, Or.inl ⟨rfl, fun x hx => hno x hx (by have := pc_6 x (by omega); omega)⟩, fun _ => rfl, fun m m1 m2 => ?_, fun l5 => ?_⟩
    · rw [nm_ne2 (by omega)] at m2; exact absurd m2 (by simp)
    · rw [fX12_mended_40, if_pos (show (7 : Int32) ≤ nI c by rw [show c = 7 by omega]; decide)]
      split <;> rfl
  | succ d ih =>
    intro c hc n hn N hN hno
    obtain ⟨n', rfl⟩ := suc_of hn
    have c7 : ¬ (7 : Int32) ≤ nI c := nI_ge (b := 7) (by omega) (by omega)
    rcases mnd_50 (ec := ec) (k40 := fX12_mended_40 n') (c := c) W H ho e68 hH h81 hal (by omega) al 0 (by omega) 100000 (by omega) N hN with ⟨m, N', b1, b2, b3, b4, b5, b6, b7⟩ | ⟨N', b1, b2, b3⟩
    · refine ⟨nI m, nI c, N', b6, Or.inr ⟨m, b2, rfl, b4, fun x hx hq => ?_⟩, fun e => ?_, fun m' m1 m2 => ?_, fun l5 => ?_⟩
      · rw [b3]
        by_cases cx : pc x < c
        · exact absurd hq (hno x hx cx)
        · by_cases ce : pc x = c
          · refine Or.inr ⟨ce.symm, ?_⟩
            by_cases cm : m ≤ x
            · exact cm
            · exact absurd ⟨ce, hq⟩ (b5 x (Nat.zero_le _) (by omega))
          · exact Or.inl (by omega)
      · rw [nm_ne (by omega)] at e; exact absurd e (by simp)
      · have : m = m' := (nI_eq (by omega) (by omega)).mp m2
        rw [← this, b3]
      · rw [fX12_mended_40, if_neg c7]
        have := b7 l5
        rw [show nI 0 = (0 : Int32) from rfl] at this
        rw [this]
        unfold fX12_mended_81
        split <;> rfl
    · obtain ⟨v, v0, N2, a1, a2, a3, a4, a5⟩ := ih (c + 1) (by omega) n' (by omega) N' (DR_x hN b2) (fun x hx hpx => by
        by_cases cx : pc x = c
        · exact fun hq => b1 x (Nat.zero_le _) hx ⟨cx, hq⟩
        · exact hno x hx (by omega))
      refine ⟨v, v0, N2, xSm_tr b2 a1, a2, a3, a4, fun l5 => ?_⟩
      rw [fX12_mended_40, if_neg c7]
      have := b3 l5
      rw [show nI 0 = (0 : Int32) from rfl, show nI c + (1 : Int32) = nI (c + 1) from nI_add _ 1] at this
      rw [this, a5]
theorem LBP_uni {Q : Nat → Prop} {k : Nat} (hk : k ≤ 64) {v v' : Int32} (h : LBP Q k v) (h' : LBP Q k v') : v = v' := by
  rcases h with ⟨h1, h2⟩ | ⟨m, m1, m2, m3, m4⟩
  · rcases h' with ⟨h1', h2'⟩ | ⟨m, m1, m2, m3, m4⟩
    · rw [h1, h1']
    · exact absurd m3 (h2 m m1)
  · rcases h' with ⟨h1', h2'⟩ | ⟨m', m1', m2', m3', m4'⟩
    · exact absurd m3 (h2' m m1)
    · rw [m2, m2']
      congr 1
      have q1 := m4 m' m1' m3'
      have q2 := m4' m m1 m3
      omega
