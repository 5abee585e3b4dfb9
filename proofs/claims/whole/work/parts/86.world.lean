/-! ===== one world, many holdings: a passing asked about by both ===== -/
def unS (M : JI) (ln : Nat) (E : Nat → (Nat → Int32) → Int32) (h : Nat → Nat → Nat) (W sm : Int32) (p f g nn : Nat) (pr : Int32) (fm : Nat) : Bool := decide (fb_ct (fun q => bt W q && coG M h ln p f g fm sm (fbS h p f g fm (nI nn) pr pr (M 1 8)) E q) 16 = 0)
def WB (M : JI) (L : JL) (S : JS) (X ln : Nat) (E : Nat → (Nat → Int32) → Int32) : Prop :=
  ((X = 44 ∨ X = 55) ∧ ln ≤ 18 ∧ M 66 18 = nI ln ∧ M X 11 = nI ln ∧ M 66 8 = M 1 8) ∧ ((∀ i, i < ln → LWl X M E i) ∧ LSets X M L ln ∧ ∀ i, i < ln → M 80 i = nI 0 ∨ (M 80 i = nI 1 ∧ rE M i (E i))) ∧ (vSide (M 2) (M 3) (M 69) ∧ vWet (M 4) (M 70) ∧ vDeg (M 5) (M 6) (M 71) ∧ vBits (M 1 6) (M 72)) ∧ (S[X]? = some (4, 17) ∧ S[7]? = some (1, 4) ∧ S[21]? = some (1, 4) ∧ S[34]? = some (1, 4) ∧ S[26]? = some (0, 7) ∧ S[39]? = some (0, 7))
theorem wb_inv {n : Nat} {M : JI} {L : JL} {D : JG} {S : JS} (h : Inv n M L D S) : ∃ X ln E, D 0 10 = some X ∧ D 15 5 = some X ∧ WB M L S X ln E := by
  obtain ⟨h1, h2, h3, h4, h5, h6, h7, h8, h9, h10, h11, h12, h13, h14, h15, h16, h17, h18, h19⟩ := h
  obtain ⟨X, Y, y1, y2, y3, hXY, hlw⟩ := h12
  have hX : X = 44 ∨ X = 55 := by omega
  obtain ⟨ln, E, hln, e18, e11, hl, hLs, hE, -, -, -⟩ := lw_use hX hlw
  refine ⟨X, ln, E, y1, y3, ⟨hX, hln, e18, e11, h9.1.symm⟩, ⟨hl, hLs, hE⟩, ⟨h4, h5, h6, h7⟩, lay_at_S h16 (by rcases hX with rfl | rfl <;> decide +kernel), lay_at_S h16 (by decide +kernel), lay_at_S h16 (by decide +kernel), lay_at_S h16 (by decide +kernel), lay_at_S h16 (by decide +kernel), lay_at_S h16 (by decide +kernel)⟩
theorem coG_rows {M0 M : JI} {h : Nat → Nat → Nat} {ln p f g fm : Nat} {sm : Int32} {fb : Nat → Int32} {E : Nat → (Nat → Int32) → Int32} (hr : ∀ a, (69 ≤ a ∧ a ≤ 72) ∨ (75 ≤ a ∧ a ≤ 80) → M a = M0 a) : coG M h ln p f g fm sm fb E = coG M0 h ln p f g fm sm fb E := by
  have emb : lwMb M = lwMb M0 := by funext i; unfold lwMb; rw [hr 76 (by omega)]
  have ecn : cnG M h p f fb E = cnG M0 h p f fb E := cnG_rows (hr 71 (by omega)) (hr 72 (by omega)) (hr 80 (by omega))
  have ek : kdR M = kdR M0 := by funext i; unfold kdR; rw [hr 75 (by omega)]
  have ea : acR M sm = acR M0 sm := by funext i; unfold acR; rw [emb]
  have eqy : qyG M h p f fm sm fb E = qyG M0 h p f fm sm fb E := by
    funext q i
    unfold qyG
    rw [ecn, ek, ea]
    unfold foR wtR
    rw [hr 78 (by omega), hr 69 (by omega), hr 70 (by omega), hr 71 (by omega), hr 77 (by omega)]
  funext q
  unfold coG frG lfG
  rw [eqy, ecn, ek, ea]
/-- what the reference changes when a passing is asked about -/
def uSm (N N' : JI) : Prop := (∀ a, (a < 86 ∨ 95 < a) → a ≠ 66 → N' a = N a) ∧ ∀ k, (k < 46 ∨ 51 < k ∨ k = 50) → N' 66 k = N 66 k
theorem uSm_rfl (N : JI) : uSm N N := ⟨fun _ _ _ => rfl, fun _ _ => rfl⟩
theorem uSm_tr {N0 N N' : JI} (h : uSm N0 N) (h' : uSm N N') : uSm N0 N' := ⟨fun a h1 h2 => (h'.1 a h1 h2).trans (h.1 a h1 h2), fun k h1 => (h'.2 k h1).trans (h.2 k h1)⟩
/-- the reference's rows are those of the world M -/
def nS (M N : JI) : Prop := (∀ a k, ((69 ≤ a ∧ a ≤ 72) ∨ (75 ≤ a ∧ a ≤ 82 ∧ k < 18) ∨ (a = 83 ∧ k < 1000)) → N a k = M a k) ∧ N 66 18 = M 66 18 ∧ N 66 8 = M 66 8
theorem nS_u {M N N' : JI} (h : nS M N) (h' : uSm N N') : nS M N' := ⟨fun a k ha => by rw [h'.1 a (by omega) (by omega)]; exact h.1 a k ha, (h'.2 18 (by omega)).trans h.2.1, (h'.2 8 (by omega)).trans h.2.2⟩
theorem rb_mk2 {M N : JI} {h : Nat → Nat → Nat} {ln p f g fm : Nat} {sm : Int32} {E : Nat → (Nat → Int32) → Int32} {X : Nat} (hr : ∀ a k, ((69 ≤ a ∧ a ≤ 72) ∨ (75 ≤ a ∧ a ≤ 82 ∧ k < 18) ∨ (a = 83 ∧ k < 1000)) → N a k = M a k) (e68 : twRep (N 68) h) (hb : ∀ p q, p < 12 → q < 16 → h p q ≤ 12) (hp : p < 12) (hf : f < 16) (hg : g < 16) (hln : ln ≤ 18) (hfm : fm < 3) (b1 : N 66 18 = nI ln) (b2 : N 66 46 = nI p) (b3 : N 66 47 = nI f) (b4 : N 66 48 = nI g) (b5 : N 66 49 = nI fm) (b6 : N 66 50 = sm) (h4 : vSide (M 2) (M 3) (M 69)) (h5 : vWet (M 4) (M 70)) (h6 : vDeg (M 5) (M 6) (M 71)) (h7 : vBits (M 1 6) (M 72)) (hl : ∀ i, i < ln → LWl X M E i) (hE : ∀ i, i < ln → M 80 i = nI 0 ∨ (M 80 i = nI 1 ∧ rE M i (E i))) : RB N h ln p f g fm sm E := by
  have r : ∀ a, 69 ≤ a → a ≤ 72 → N a = M a := fun a h1 h2 => funext fun k => hr a k (by omega)
  refine ⟨⟨e68, hb⟩, ⟨hp, hf, hg, hln, hfm⟩, ⟨b1, b2, b3, b4, b5, b6⟩, ⟨M 2, M 3, by rw [r 69 (by omega) (by omega)]; exact h4⟩, ⟨M 4, by rw [r 70 (by omega) (by omega)]; exact h5⟩, ⟨M 5, M 6, by rw [r 71 (by omega) (by omega)]; exact h6⟩, ⟨M 1 6, by rw [r 72 (by omega) (by omega)]; exact h7⟩, fun i hi => ?_⟩
  obtain ⟨l1, l2, -, -, l5, -⟩ := hl i hi
  rw [hr 75 i (by omega), hr 76 i (by omega), hr 77 i (by omega), hr 80 i (by omega)]
  refine ⟨l1, l2, ?_, fun h => ?_⟩
  · rcases hE i hi with e | ⟨e, he⟩
    · exact Or.inl e
    · refine Or.inr ⟨e, fun N' x1 x2 x3 => ?_, he.2⟩
      exact he.1 N' (by rw [x1, hr 81 i (by omega)]) (by rw [x2, hr 82 i (by omega)]) (fun k hk => by rw [x3 k hk, hr 83 k (by omega)])
  · obtain ⟨⟨w, hw, w1, -⟩, -⟩ := l5 h
    exact ⟨w, hw, w1⟩
theorem br_eq2 {N0 M : JI} {h : Nat → Nat → Nat} {ln p f g fm : Nat} {sm : Int32} {fb : Nat → Int32} {E : Nat → (Nat → Int32) → Int32} (hln : ln ≤ 18) (hr : ∀ a k, ((69 ≤ a ∧ a ≤ 72) ∨ (75 ≤ a ∧ a ≤ 80 ∧ k < 18)) → N0 a k = M a k) (hfb : ∀ k, (k < 9 ∨ k = 13) → N0 95 (k + 1) = fb k) (hE : ∀ i, i < ln → M 80 i = nI 0 ∨ (M 80 i = nI 1 ∧ rE M i (E i))) : (∀ q, lfR N0 h ln p f fm sm E q = lfG M h ln p f fm sm fb E q) ∧ frR N0 h ln p f g sm E = frG M h ln p f g sm fb E := by
  have r : ∀ a, 69 ≤ a → a ≤ 72 → N0 a = M a := fun a h1 h2 => funext fun k => hr a k (by omega)
  have emb : ∀ i, i < 18 → lwMb N0 i = lwMb M i := fun i hi => by unfold lwMb; rw [hr 76 i (by omega)]
  have emc : ∀ i, i < 18 → fb_ct (lwMb N0) i = fb_ct (lwMb M) i := fun i hi => fb_ct_cong (fun k hk => emb k (by omega))
  have ecn : ∀ q i, i < ln → cnR N0 h p f E i q = cnG M h p f fb E i q := by
    intro q i hi
    unfold cnR cnG
    rw [hr 80 i (by omega)]
    rcases hE i hi with e | ⟨e, he⟩
    · rw [e]; simp
    · have : E i (fcR N0 h p f q) = E i (fcG M h p f fb q) := by
        apply he.2
        intro k hk
        unfold fcR fcG
        rw [r 71 (by omega) (by omega), r 72 (by omega) (by omega)]
        by_cases k9 : k = 9
        · rw [if_pos k9, if_pos k9]
        · rw [if_neg k9, if_neg k9]
          by_cases k10 : k = 10
          · rw [if_pos k10, if_pos k10]
          · rw [if_neg k10, if_neg k10]
            by_cases k11 : k = 11
            · rw [if_pos k11, if_pos k11]
            · rw [if_neg k11, if_neg k11]
              by_cases k12 : k = 12
              · rw [if_pos k12, if_pos k12]
              · rw [if_neg k12, if_neg k12]
                exact hfb k (by omega)
      rw [this]
  have ek : ∀ i, i < ln → kdR N0 i = kdR M i := fun i hi => by unfold kdR; rw [hr 75 i (by omega)]
  have ea : ∀ i, i < ln → acR N0 sm i = acR M sm i := fun i hi => by unfold acR; rw [emb i (by omega), emc i (by omega)]
  refine ⟨fun q => ?_, ?_⟩
  · unfold lfR lfG
    split
    · rfl
    · apply ff_cong
      intro i hi
      unfold qyR qyG
      rw [ek i hi, ea i hi, ecn q i hi]
      unfold foR wtR
      rw [hr 78 i (by omega), r 69 (by omega) (by omega), r 70 (by omega) (by omega), r 71 (by omega) (by omega), hr 77 i (by omega)]
  · unfold frR frG
    have : fa_first (fun i => !kdR N0 i && acR N0 sm i && cnR N0 h p f E i g) ln = fa_first (fun i => !kdR M i && acR M sm i && cnG M h p f fb E i g) ln := by
      apply ff_cong
      intro i hi
      show (!kdR N0 i && acR N0 sm i && cnR N0 h p f E i g) = _
      rw [ek i hi, ea i hi, ecn g i hi]
    rw [this]
theorem ref_com {M N : JI} {L : JL} {S : JS} {X ln : Nat} {E : Nat → (Nat → Int32) → Int32} (W : WB M L S X ln E) (hN : nS M N) {h : Nat → Nat → Nat} (e68 : twRep (N 68) h) (hb : ∀ p q, p < 12 → q < 16 → h p q ≤ 12) {p f g fm : Nat} (hp : p < 12) (hf : f < 16) (hg : g < 16) (hfm : fm < 3) (nn pr : Int32) : ∃ N0 x N', fX12_lays (nI p) (nI f) (nI g) nn (nI fm) pr pr N = some N0 ∧ fX12_comers N0 = some (x, N') ∧ uSm N N' ∧ ∀ i, bt x i = (decide (i < 16) && coG M h ln p f g fm (N 66 50) (fbS h p f g fm nn pr pr (M 1 8)) E i) := by
  obtain ⟨⟨hX, hln, e18, e11, e8⟩, ⟨hl, hLs, hE⟩, ⟨h4, h5, h6, h7⟩, -⟩ := W
  obtain ⟨N0, l1, l2, l3, l4, l5, l6, l7, l8⟩ := lays_eq e68 hb hp hf hg hfm nn pr pr
  have B : RB N0 h ln p f g fm (N 66 50) E := rb_mk2 (M := M) (X := X) (fun a k ha => by rw [l2 a (by omega) (by omega), hN.1 a k ha]) (by rw [l2 68 (by omega) (by omega)]; exact e68) hb hp hf hg hln hfm (by rw [l3 18 (by omega), hN.2.1]; exact e18) l4 l5 l6 l7 (l3 50 (by omega)) h4 h5 h6 h7 hl hE
  obtain ⟨x, N2, m1, m2, m3⟩ := cmr_eq B (rSame_rfl N0)
  rw [hN.2.2, e8] at l8
  obtain ⟨c1, c2⟩ := br_eq2 (N0 := N0) (M := M) (h := h) (ln := ln) (p := p) (f := f) (g := g) (fm := fm) (sm := N 66 50) (fb := fbS h p f g fm nn pr pr (M 1 8)) (E := E) hln (fun a k ha => by rw [l2 a (by omega) (by omega), hN.1 a k (by omega)]) l8 hE
  refine ⟨N0, x, N2, l1, m1, ⟨fun a h1 h2 => ?_, fun k hk => ?_⟩, fun i => ?_⟩
  · rw [m2.1 a (by omega) h2, l2 a h2 (by omega)]
  · rw [m2.2.1 k (by omega), l3 k (by omega)]
  · rw [m3 i]
    unfold cmR coG
    rw [c1, c1, c2]
def prS (nn ec fm : Nat) : Int32 := if fm = 1 then nI 0 else nI nn * nI ec
theorem ev_bits : ∀ q, q < 16 → bt (65535 : Int32) q = true := by decide +kernel
theorem uns_0 {M : JI} {ln : Nat} {E : Nat → (Nat → Int32) → Int32} {h : Nat → Nat → Nat} {W sm : Int32} {p f g nn : Nat} {pr : Int32} {fm : Nat} : unS M ln E h W sm p f g nn pr fm = true ↔ ¬ ∃ q, q < 16 ∧ bt W q = true ∧ coG M h ln p f g fm sm (fbS h p f g fm (nI nn) pr pr (M 1 8)) E q = true := by
  unfold unS
  rw [decide_eq_true_eq, fb_ct_zero]
  constructor
  · rintro h1 ⟨q, a, b, c⟩
    have := h1 q a
    rw [b, c] at this
    exact absurd this (by simp)
  · intro h1 q a
    cases e : bt W q with
    | false => rfl
    | true =>
      cases e2 : coG M h ln p f g fm sm (fbS h p f g fm (nI nn) pr pr (M 1 8)) E q with
      | false => rfl
      | true => exact absurd ⟨q, a, e, e2⟩ h1
theorem ref_uns {M N : JI} {L : JL} {S : JS} {X ln : Nat} {E : Nat → (Nat → Int32) → Int32} (W : WB M L S X ln E) (hN : nS M N) {h : Nat → Nat → Nat} (e68 : twRep (N 68) h) (hb : ∀ p q, p < 12 → q < 16 → h p q ≤ 12) {p f g fm : Nat} (hp : p < 12) (hf : f < 16) (hg : g < 16) (hfm : fm < 3) (nn ec : Nat) : ∃ N', fX12_isUnseen (nI p) (nI f) (nI g) (nI nn) (nI fm) (nI ec) N = some (bI (unS M ln E h 65535 (N 66 50) p f g nn (prS nn ec fm) fm), N') ∧ uSm N N' := by
  obtain ⟨N0, x, N', a1, a2, a3, a4⟩ := ref_com W hN e68 hb hp hf hg hfm (nI nn) (prS nn ec fm)
  have hx : (x = 0) = (unS M ln E h 65535 (N 66 50) p f g nn (prS nn ec fm) fm = true) := by
    apply propext
    rw [show (x = (0 : Int32)) = (∀ i, i < 32 → bt x i = false) from bt_ne0 x, uns_0]
    constructor
    · rintro h1 ⟨q, b1, b2, b3⟩
      have := h1 q (by omega)
      rw [a4 q, b3] at this
      simp [b1] at this
    · intro h1 i hi
      rw [a4 i]
      by_cases c : i < 16
      · cases e : coG M h ln p f g fm (N 66 50) (fbS h p f g fm (nI nn) (prS nn ec fm) (prS nn ec fm) (M 1 8)) E i with
        | false => simp
        | true => exact absurd ⟨i, c, ev_bits i c, e⟩ h1
      · simp [c]
  have key : fX12_isUnseen_15 (nI p) (nI f) (nI g) (nI nn) (nI fm) (prS nn ec fm) N = some (bI (unS M ln E h 65535 (N 66 50) p f g nn (prS nn ec fm) fm), N') := by
    unfold fX12_isUnseen_15
    rw [a1, Option.bind_some, a2, Option.bind_some]
    cases e : unS M ln E h 65535 (N 66 50) p f g nn (prS nn ec fm) fm with
    | true =>
      rw [e] at hx
      rw [if_pos (by rw [hx])]; rfl
    | false =>
      rw [e] at hx
      rw [if_neg (by rw [hx]; simp)]; rfl
  refine ⟨N', ?_, a3⟩
  unfold fX12_isUnseen
  unfold prS at key ⊢
  by_cases c : fm = 1
  · rw [if_pos (by rw [c]; rfl)]
    rw [if_pos c] at key ⊢
    exact key
  · have c' : ¬ nI fm = (1 : Int32) := fun e => c ((nI_eq (by omega) (by omega)).mp (show nI fm = nI 1 from e))
    rw [if_neg c']
    rw [if_neg c] at key ⊢
    exact key
/-- the class's rows are those of the world M -/
def kS (M I : JI) : Prop := ∀ a, (a < 7 ∨ 43 < a) → I a = M a
def sdS (M : JI) (h : Nat → Nat → Nat) (p f : Nat) (r : Nat → Int32) : Prop := ∀ who i, who < 4 → bt (r who) i = (decide (i < 16) && decide (0 < wtS (M 69) (M 70) (M 71) h who p f i))
theorem cls_set {M I : JI} {L : JL} {D : JG} {S : JS} {X ln : Nat} {E : Nat → (Nat → Int32) → Int32} (W : WB M L S X ln E) (hk : kS M I) {t : Nat} (ht : t = 7 ∨ t = 21 ∨ t = 34) {h : Nat → Nat → Nat} (h3 : vHd (I (t + 1)) (I (t + 2)) (I (t + 3)) (I (t + 4)) h) {p f : Nat} (hp : p < 12) (hf : f < 16) : ∃ r, fX3_settle t (nI p) (nI f) I D S = some (jr I 18 r, j_up D 15 6 (some t)) ∧ sdS M h p f r := by
  obtain ⟨-, -, ⟨h4, h5, h6, h7⟩, ⟨s1, s2, s3, s4, s5, s6⟩⟩ := W
  exact set_eq (M := I) (D := D) (S := S) (by rcases ht with rfl | rfl | rfl <;> assumption) ht hp hf h3 (by rw [hk 2 (by omega), hk 3 (by omega)]; exact h4) (by rw [hk 4 (by omega)]; exact h5) (by rw [hk 5 (by omega), hk 6 (by omega)]; exact h6)
theorem cls_ask {M I : JI} {L : JL} {D : JG} {S : JS} {X ln : Nat} {E : Nat → (Nat → Int32) → Int32} (W : WB M L S X ln E) (hk : kS M I) {t dq : Nat} (ht : t = 7 ∨ t = 21 ∨ t = 34) (hdq : dq = 14 ∨ dq = 26 ∨ dq = 39 ∨ 137 ≤ dq) (d5 : D 15 5 = some X) (d6 : D 15 6 = some t) (s3 : S[dq]? = some (0, 7)) {h : Nat → Nat → Nat} (h3 : vHd (I (t + 1)) (I (t + 2)) (I (t + 3)) (I (t + 4)) h) (hb : ∀ p q, p < 12 → q < 16 → h p q ≤ 12) {p f g fm : Nat} (hp : p < 12) (hf : f < 16) (hg : g < 16) (hfm : fm < 3) (hne : f ≠ g) (q0 : I dq 0 = nI p) (q1 : I dq 1 = nI f) (q2 : I dq 2 = nI g) (q4 : I dq 4 = nI fm) (h18 : sdS M h p f (I 18)) :
    ∃ I2, fX3_ask dq I D S = some (I2, j_up D 15 7 (some dq)) ∧ (∀ a, a ≠ 16 → I2 a = I a) ∧ ∀ (l1 : Int64) (l3 : Int32), ∃ r I3, fX3_openSets l1 l3 I2 L (j_up D 15 7 (some dq)) S = some (r, I3) ∧ (∀ a, a ≠ 16 → a ≠ 17 → I3 a = I a) ∧ ∀ s, s < 64 → (bL r s = true ↔ bL l1 s = true ∧ ¬ ∃ q, q < 16 ∧ bt l3 q = true ∧ coG M h ln p f g fm (nI s) (fbS h p f g fm (I dq 3) (I dq 5) (I dq 6) (M 1 8)) E q = true) := by
  obtain ⟨⟨hX, hln, e18, e11, e8⟩, ⟨hl, hLs, hE⟩, ⟨h4, h5, h6, h7⟩, ⟨s1, s27, s221, s234, -, -⟩⟩ := W
  have s2 : S[t]? = some (1, 4) := by rcases ht with rfl | rfl | rfl <;> assumption
  obtain ⟨r', b1, b2⟩ := ask_eq (M := I) (D := D) (S := S) (t := t) (dq := dq) (h := h) d6 s2 s3 ht hdq hp hf hg hfm q0 q1 q2 q4 h3
  rw [hk 1 (by omega)] at b2
  refine ⟨jr I 16 r', b1, fun a ha => jr_ne _ _ ha, fun l1 l3 => ?_⟩
  generalize hfb : fbS h p f g fm (I dq 3) (I dq 5) (I dq 6) (M 1 8) = fb at b2 ⊢
  generalize hM2 : jr I 16 r' = M2
  have ro : ∀ a, a ≠ 16 → M2 a = I a := by
    intro a x1
    rw [← hM2, jr_ne _ _ x1]
  have rk : ∀ a, (a < 7 ∨ 43 < a) → M2 a = M a := fun a ha => by rw [ro a (by omega), hk a ha]
  have eff : lwFf M2 = lwFf M := by
    funext i; unfold lwFf lwMb; rw [rk 75 (by omega), rk 76 (by omega)]
  have emb : lwMb M2 = lwMb M := by
    funext i; unfold lwMb; rw [rk 76 (by omega)]
  generalize hD2 : j_up D 15 7 (some dq) = D2
  have B : CB M2 D2 S X t dq h ln p f g fm fb E := by
    refine ⟨⟨?_, ?_, ?_, s1, s2, s3⟩, ⟨hX, ht, hdq⟩, ?_, ⟨hp, hf, hg, hfm, hln, hne⟩, ⟨?_, hb⟩, ?_, ?_, fun k hk => ?_, ?_, ?_, fun i hi => ?_⟩
    · rw [← hD2, ju_cell _ _ (by omega)]; exact d5
    · rw [← hD2, ju_cell _ _ (by omega)]; exact d6
    · rw [← hD2, ju_same]
    · rw [ro dq (by omega)]; exact ⟨q0, q1, q2, q4⟩
    · rw [ro (t + 1) (by omega), ro (t + 2) (by omega), ro (t + 3) (by omega), ro (t + 4) (by omega)]; exact h3
    · rw [rk 1 (by omega), rk 72 (by omega)]; exact h7
    · rw [rk 5 (by omega), rk 6 (by omega), rk 71 (by omega)]; exact h6
    · rw [← hM2, jr_at]; exact b2 k hk
    · rw [rk 69 (by omega), rk 70 (by omega), rk 71 (by omega), ro 18 (by omega)]; exact h18
    · rw [rk X (by omega)]; exact e11
    · have hh := hl i hi
      unfold LWl kdR cE at hh
      unfold kdR cE
      rw [eff, rk 75 (by omega), rk 76 (by omega), rk 77 (by omega), rk 78 (by omega), rk 80 (by omega), rk (X + 1) (by omega), rk (X + 3) (by omega), rk (X + 4) (by omega), rk (X + 5) (by omega), rk (X + 7) (by omega), rk (X + 8) (by omega), rk (X + 9) (by omega), rk (X + 10) (by omega)]
      exact hh
  have hL2 : LSets X M2 L ln := by unfold LSets; rw [emb]; exact hLs
  obtain ⟨r, I3, c1, c2, c3⟩ := os_eq B (l1 := l1) (l3 := l3) hL2 (jSame_rfl M2)
  refine ⟨r, I3, c1, fun a h1 h2 => by rw [c2.1 a h1 h2, ro a h1], fun s hs => ?_⟩
  rw [c3 s hs, coG_rows (M0 := M) (M := M2) (fun a ha => rk a (by omega))]
