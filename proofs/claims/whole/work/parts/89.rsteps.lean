/-! ===== the reference's search for a sly row ===== -/
def ov (o : Nat) : Int32 := if o < 12 then nI o else -nI 1
def rmv (c : Nat) : Nat := 36 * (c / 39) + (c % 39 - 3)
def hst (h : Nat → Nat → Nat) (p o f g s : Nat) : Nat → Nat → Nat := fun p' q' => if p' = p then (if q' = f then s / 13 else if q' = g then h p f + h p g - s / 13 else h p' q') else if p' = o then (if q' = f then s % 13 else if q' = g then h o f + h o g - s % 13 else h p' q') else h p' q'
def HB (h : Nat → Nat → Nat) (p o f g a b : Nat) : Prop := (p < 12 ∧ f < 16 ∧ g < 16 ∧ f ≠ g ∧ o ≤ 12 ∧ o ≠ p) ∧ (∀ p q, p < 12 → q < 16 → h p q ≤ 12) ∧ (∀ p, p < 12 → fb_sm (h p) 16 ≤ 12) ∧ a = h p f ∧ b = if o < 12 then h o f else 0
theorem hst_le {h : Nat → Nat → Nat} {p o f g a b s : Nat} (H : HB h p o f g a b) (hs : s < 169) : ∀ p' q', p' < 12 → q' < 16 → hst h p o f g s p' q' ≤ 12 := by
  obtain ⟨⟨hp, hf, hg, hne, ho, hop⟩, hb, hsm, ha, hbb⟩ := H
  intro p' q' hp' hq'
  unfold hst
  have t1 := two_le (h := h p) hf hg hne
  have t2 := hsm p hp
  by_cases c : p' = p
  · rw [if_pos c]
    split
    · omega
    · split
      · omega
      · exact hb p' q' hp' hq'
  · rw [if_neg c]
    by_cases c2 : p' = o
    · rw [if_pos c2]
      have t3 := two_le (h := h o) hf hg hne
      have t4 := hsm o (by omega)
      split
      · omega
      · split
        · omega
        · exact hb p' q' hp' hq'
    · rw [if_neg c2]; exact hb p' q' hp' hq'
def UU (M : JI) (ln : Nat) (E : Nat → (Nat → Int32) → Int32) (h : Nat → Nat → Nat) (sm : Int32) (p o f g ec : Nat) : BU := fun w s n fm => unS M ln E (hst h p o f g s) 65535 sm (if w = 0 then p else o) f g n (prS n ec fm) fm
def RR (N : JI) (B : Bf) : Prop := (∀ k, k < bN B → N 114 k = nI (bQ B k)) ∧ (∀ s, s < 169 → N 118 s = bI (bm B s)) ∧ ∀ s, bm B s = true → N 117 s = nI (bD B s) ∧ (bD B s ≠ 0 → N 115 s = nI (bS B s) ∧ N 116 s = nI (rmv (bV B s)))
def wSm (N N' : JI) : Prop := (∀ a, (a < 86 ∨ 95 < a) → a ≠ 66 → (a < 114 ∨ 118 < a) → N' a = N a) ∧ ∀ k, (k < 46 ∨ k = 50 ∨ (51 < k ∧ k ≠ 78)) → N' 66 k = N 66 k
theorem wSm_rfl (N : JI) : wSm N N := ⟨fun _ _ _ _ => rfl, fun _ _ => rfl⟩
theorem wSm_tr {N0 N N' : JI} (h : wSm N0 N) (h' : wSm N N') : wSm N0 N' := ⟨fun a h1 h2 h3 => (h'.1 a h1 h2 h3).trans (h.1 a h1 h2 h3), fun k h1 => (h'.2 k h1).trans (h.2 k h1)⟩
def RS (M : JI) (sm : Int32) (o : Nat) (hs : Nat → Nat → Nat) (mn : Nat) (B : Bf) (N : JI) : Prop := RR N B ∧ N 66 78 = nI (bN B - mn) ∧ mn ≤ bN B ∧ nS M N ∧ N 66 50 = sm ∧ twRep (N 68) hs ∧ N 66 77 = ov o
abbrev K28 : Type := Int32 → Int32 → Int32 → Int32 → Int32 → Int32 → Int32 → Int32 → JI → Option JI
theorem stp_met {k28 : K28} {l1 l3 l4 l5 l6 l7 l8 l9 : Int32} {to : Nat} (hto : to < 169) {N : JI} (hm : N 118 to = nI 1) : ∀ d fm, fm + d = 3 → ∀ n, d < n → fX12_steps_63 k28 n l1 l3 l4 l5 l6 l7 l8 l9 (nI to) (nI fm) N = k28 l1 l3 l4 l5 l6 l7 l8 (l9 + (1 : Int32)) N := by
  intro d
  induction d with
  | zero =>
    intro fm hd n hn
    obtain ⟨n', rfl⟩ := suc_of hn
    rw [fX12_steps_63, if_pos (by rw [show fm = 3 by omega]; decide)]; rfl
  | succ d ih =>
    intro fm hd n hn
    obtain ⟨n', rfl⟩ := suc_of hn
    have c : ¬ (3 : Int32) ≤ nI fm := nI_ge (b := 3) (by omega) (by omega)
    rw [fX12_steps_63, if_neg c, jg_in hto (by decide), nI_clamp (by omega), hm, if_neg (by decide)]
    have e : nI fm + (1 : Int32) = nI (fm + 1) := nI_add fm 1
    rw [e]
    exact ih (fm + 1) (by omega) n' (by omega)
theorem stp_try {M : JI} {L : JL} {S : JS} {X ln : Nat} {E : Nat → (Nat → Int32) → Int32} (W : WB M L S X ln E) {h : Nat → Nat → Nat} {p o f g a b : Nat} (H : HB h p o f g a b) {sm : Int32} {ec mn s w nn : Nat} {k28 : K28} {l8 : Int32} (hw : w = 0 ∨ (w = 1 ∧ o < 12)) {B : Bf} (hB : BI a b B) (hs : bm B s = true) (hn1 : 1 ≤ nn) (hn2 : nn ≤ blim w s) (hto : bm B (bto w s nn) = false) : ∀ d fm, fm + d = 3 → ∀ n, d < n → ∀ N, RS M sm o (hst h p o f g s) mn B N → (∀ j, j < fm → UU M ln E h sm p o f g ec w s nn j = false) → ∃ N', fX12_steps_63 k28 n (nI s) (nI f) (nI g) (nI ec) (nI mn) (nI (if w = 0 then p else o)) l8 (nI nn) (nI (bto w s nn)) (nI fm) N = k28 (nI s) (nI f) (nI g) (nI ec) (nI mn) (nI (if w = 0 then p else o)) l8 (nI nn + (1 : Int32)) N' ∧ wSm N N' ∧ RS M sm o (hst h p o f g s) mn (btry (UU M ln E h sm p o f g ec) s w nn B) N' := by
  obtain ⟨⟨hp, hf, hg, hne, ho, hop⟩, hb, hsm, ha, hbb⟩ := H
  have H : HB h p o f g a b := ⟨⟨hp, hf, hg, hne, ho, hop⟩, hb, hsm, ha, hbb⟩
  obtain ⟨s1, s2, s3, s4⟩ := hB.2.2.1 s hs
  obtain ⟨t1, t2, t3, t4, t5, t6, t7⟩ := bto_ok s1 hn1 hn2
  have hpw : (if w = 0 then p else o) < 12 := by split <;> omega
  intro d
  induction d with
  | zero =>
    intro fm hd n hn N hN hno
    obtain ⟨n', rfl⟩ := suc_of hn
    refine ⟨N, ?_, wSm_rfl N, ?_⟩
    · rw [fX12_steps_63, if_pos (by rw [show fm = 3 by omega]; decide)]; rfl
    · have : fa_first (UU M ln E h sm p o f g ec w s nn) 3 = 3 := ff_none (fun i hi => hno i (by omega))
      unfold btry
      rw [hto, if_neg (by simp), if_neg (by omega)]
      exact hN
  | succ d ih =>
    intro fm hd n hn N hN hno
    obtain ⟨n', rfl⟩ := suc_of hn
    obtain ⟨r1, r2, r3, r4, r5, r6, r7⟩ := hN
    have c : ¬ (3 : Int32) ≤ nI fm := nI_ge (b := 3) (by omega) (by omega)
    obtain ⟨N1, u1, u2⟩ := ref_uns W r4 r6 (hst_le H s1) hpw hf hg (show fm < 3 by omega) nn ec
    rw [r5] at u1
    have hU : unS M ln E (hst h p o f g s) 65535 sm (if w = 0 then p else o) f g nn (prS nn ec fm) fm = UU M ln E h sm p o f g ec w s nn fm := rfl
    rw [hU] at u1
    have hm0 : N 118 (bto w s nn) = nI 0 := by rw [r1.2.1 _ (by omega), hto]; rfl
    have e118 : jm_b01 (N 118 (bto w s nn)) = 0 := by rw [hm0]; decide
    have uw : wSm N N1 := ⟨fun a h1 h2 h3 => u2.1 a h1 h2, fun k hk => u2.2 k (by omega)⟩
    have eN : RS M sm o (hst h p o f g s) mn B N1 := by
      refine ⟨⟨fun k hk => ?_, fun x hx => ?_, fun x hx => ?_⟩, ?_, r3, nS_u r4 u2, ?_, ?_, ?_⟩
      · rw [u2.1 114 (by omega) (by omega)]; exact r1.1 k hk
      · rw [u2.1 118 (by omega) (by omega)]; exact r1.2.1 x hx
      · rw [u2.1 117 (by omega) (by omega), u2.1 115 (by omega) (by omega), u2.1 116 (by omega) (by omega)]; exact r1.2.2 x hx
      · rw [u2.2 78 (by omega)]; exact r2
      · rw [u2.2 50 (by omega)]; exact r5
      · rw [u2.1 68 (by omega) (by omega)]; exact r6
      · rw [u2.2 77 (by omega)]; exact r7
    have enx : nI fm + (1 : Int32) = nI (fm + 1) := nI_add fm 1
    rw [fX12_steps_63, if_neg c, jg_in (show bto w s nn < 169 by omega) (by decide), nI_clamp (by omega), if_pos e118, u1, Option.bind_some]
    cases e : UU M ln E h sm p o f g ec w s nn fm with
    | false =>
      rw [if_pos (show bI false = 0 by decide), enx]
      obtain ⟨N', v1, v2, v3⟩ := ih (fm + 1) (by omega) n' (by omega) N1 eN (fun j hj => by
        by_cases cj : j = fm
        · rw [cj]; exact e
        · exact hno j (by omega))
      exact ⟨N', v1, wSm_tr uw v2, v3⟩
    | true =>
      rw [if_neg (show ¬ bI true = 0 by decide), jg_in (show bto w s nn < 169 by omega) (by decide), jg_in (show bto w s nn < 169 by omega) (by decide)]
      have hfst : fa_first (UU M ln E h sm p o f g ec w s nn) 3 = fm := ff_is hno e (by omega)
      obtain ⟨p1, p2, p3⟩ := bpush_ok (fm := fm) hB hs (show w < 2 by omega) hn1 hn2 (by omega) hto
      have hbt : btry (UU M ln E h sm p o f g ec) s w nn B = bpush B s w nn fm := by
        unfold btry
        rw [hto, if_neg (by simp), hfst, if_pos (by omega)]
      obtain ⟨y1, y2, y3, y4, y5, y6, y7⟩ := eN
      -- the new cells
      have key : ∀ cw, cw = 36 * w → ∃ N', fX12_steps_137 k28 (fX12_steps_63 k28 n') (nI s) (nI f) (nI g) (nI ec) (nI mn) (nI (if w = 0 then p else o)) l8 (nI nn) (nI (bto w s nn)) (nI fm) (nI cw) (nI (bto w s nn)) (j_up (j_up N1 118 (bto w s nn) (1 : Int32)) 115 (bto w s nn) (nI s)) = k28 (nI s) (nI f) (nI g) (nI ec) (nI mn) (nI (if w = 0 then p else o)) l8 (nI nn + (1 : Int32)) N' ∧ wSm N N' ∧ RS M sm o (hst h p o f g s) mn (bpush B s w nn fm) N' := by
        intro cw hcw
        unfold fX12_steps_137
        rw [jg_in (show bto w s nn < 169 by omega) (by decide), jg_in (show s < 169 by omega) (by decide), jg_in (show bto w s nn < 169 by omega) (by decide), nI_clamp (show bto w s nn < 2 ^ 31 by omega), nI_clamp (show s < 2 ^ 31 by omega)]
        have ev : nI cw + (3 : Int32) * (nI nn - (1 : Int32)) + nI fm = nI (rmv (39 * w + 3 * nn + fm)) := by
          show nI cw + nI 3 * (nI nn - nI 1) + nI fm = _
          rw [pk_sub hn1, pk_mul, nI_add, nI_add]
          congr 1
          unfold rmv
          have hw2 : w = 0 ∨ w = 1 := by omega
          rcases hw2 with rfl | rfl <;> omega
        rw [ev]
        generalize hI1 : j_up (j_up N1 118 (bto w s nn) (1 : Int32)) 115 (bto w s nn) (nI s) = I1
        generalize hI2 : j_up I1 116 (bto w s nn) (nI (rmv (39 * w + 3 * nn + fm))) = I2
        have e117 : I2 117 s = nI (bD B s) := by
          rw [← hI2, ju_row _ _ (by omega), ← hI1, ju_row _ _ (by omega), ju_row _ _ (by omega)]
          exact (y1.2.2 s hs).1
        rw [e117, show nI (bD B s) + (1 : Int32) = nI (bD B s + 1) from nI_add _ 1]
        generalize hI3 : j_up I2 117 (bto w s nn) (nI (bD B s + 1)) = I3
        have e78 : I3 66 78 = nI (bN B - mn) := by
          rw [← hI3, ju_row _ _ (by omega), ← hI2, ju_row _ _ (by omega), ← hI1, ju_row _ _ (by omega), ju_row _ _ (by omega)]
          exact y2
        rw [e78, nI_add, show mn + (bN B - mn) = bN B by omega, jg_in p3 (by decide), nI_clamp (by omega), ju_row _ _ (show (66 : Nat) ≠ 114 by omega), e78, show nI (bN B - mn) + (1 : Int32) = nI (bN B + 1 - mn) by rw [show bN B + 1 - mn = bN B - mn + 1 by omega]; exact nI_add _ 1]
        generalize hI5 : j_up (j_up I3 114 (bN B) (nI (bto w s nn))) 66 78 (nI (bN B + 1 - mn)) = I5
        have f114 : I5 114 = fun k => if k = bN B then nI (bto w s nn) else N1 114 k := by
          rw [← hI5, ju_row _ _ (by omega), ju_at]
          funext k
          rw [← hI3, ju_row _ _ (by omega), ← hI2, ju_row _ _ (by omega), ← hI1, ju_row _ _ (by omega), ju_row _ _ (by omega)]
        have f115 : I5 115 = fun k => if k = bto w s nn then nI s else N1 115 k := by
          rw [← hI5, ju_row _ _ (by omega), ju_row _ _ (by omega), ← hI3, ju_row _ _ (by omega), ← hI2, ju_row _ _ (by omega), ← hI1, ju_at]
          funext k
          rw [ju_row _ _ (by omega)]
        have f116 : I5 116 = fun k => if k = bto w s nn then nI (rmv (39 * w + 3 * nn + fm)) else N1 116 k := by
          rw [← hI5, ju_row _ _ (by omega), ju_row _ _ (by omega), ← hI3, ju_row _ _ (by omega), ← hI2, ju_at]
          funext k
          rw [← hI1, ju_row _ _ (by omega), ju_row _ _ (by omega)]
        have f117 : I5 117 = fun k => if k = bto w s nn then nI (bD B s + 1) else N1 117 k := by
          rw [← hI5, ju_row _ _ (by omega), ju_row _ _ (by omega), ← hI3, ju_at]
          funext k
          rw [← hI2, ju_row _ _ (by omega), ← hI1, ju_row _ _ (by omega), ju_row _ _ (by omega)]
        have f118 : I5 118 = fun k => if k = bto w s nn then nI 1 else N1 118 k := by
          rw [← hI5, ju_row _ _ (by omega), ju_row _ _ (by omega), ← hI3, ju_row _ _ (by omega), ← hI2, ju_row _ _ (by omega), ← hI1, ju_row _ _ (by omega), ju_at]; rfl
        have fr : ∀ a, a ≠ 66 → (a < 114 ∨ 118 < a) → I5 a = N1 a := by
          intro a a1 a2
          rw [← hI5, ju_row _ _ a1, ju_row _ _ (by omega), ← hI3, ju_row _ _ (by omega), ← hI2, ju_row _ _ (by omega), ← hI1, ju_row _ _ (by omega), ju_row _ _ (by omega)]
        have f66 : ∀ k, k ≠ 78 → I5 66 k = N1 66 k := by
          intro k hk
          rw [← hI5, ju_cell _ _ hk, ju_row _ _ (by omega), ← hI3, ju_row _ _ (by omega), ← hI2, ju_row _ _ (by omega), ← hI1, ju_row _ _ (by omega), ju_row _ _ (by omega)]
        have f78 : I5 66 78 = nI (bN B + 1 - mn) := by rw [← hI5, ju_same]
        refine ⟨I5, ?_, ⟨fun a h1 h2 h3 => by rw [fr a h2 h3, uw.1 a h1 h2 h3], fun k hk => by rw [f66 k (by omega), uw.2 k hk]⟩, ⟨fun k hk => ?_, fun x hx => ?_, fun x hx => ?_⟩, f78, ?_, ⟨fun a k ha => ?_, ?_, ?_⟩, ?_, ?_, ?_⟩
        · rw [enx]
          exact stp_met (by omega) (by rw [f118]; exact if_pos rfl) d (fm + 1) (by omega) n' (by omega)
        · rw [f114]
          show (if k = bN B then nI (bto w s nn) else N1 114 k) = nI (if k = bN B then bto w s nn else bQ B k)
          have hk' : k < bN B + 1 := hk
          by_cases ck : k = bN B
          · rw [if_pos ck, if_pos ck]
          · rw [if_neg ck, if_neg ck]; exact y1.1 k (by omega)
        · rw [f118]
          show (if x = bto w s nn then nI 1 else N1 118 x) = bI (if x = bto w s nn then true else bm B x)
          by_cases cx : x = bto w s nn
          · rw [if_pos cx, if_pos cx]; rfl
          · rw [if_neg cx, if_neg cx]; exact y1.2.1 x hx
        · have hx' : (if x = bto w s nn then true else bm B x) = true := hx
          rw [f117, f115, f116]
          show (if x = bto w s nn then nI (bD B s + 1) else N1 117 x) = nI (if x = bto w s nn then bD B s + 1 else bD B x) ∧ ((if x = bto w s nn then bD B s + 1 else bD B x) ≠ 0 → (if x = bto w s nn then nI s else N1 115 x) = nI (if x = bto w s nn then s else bS B x) ∧ (if x = bto w s nn then nI (rmv (39 * w + 3 * nn + fm)) else N1 116 x) = nI (rmv (if x = bto w s nn then 39 * w + 3 * nn + fm else bV B x)))
          by_cases cx : x = bto w s nn
          · simp only [if_pos cx]
            exact ⟨trivial, fun _ => ⟨trivial, trivial⟩⟩
          · simp only [if_neg cx] at hx' ⊢
            exact y1.2.2 x hx'
        · show mn ≤ bN B + 1
          omega
        · rw [fr a (by omega) (by omega)]; exact y4.1 a k ha
        · rw [f66 18 (by omega)]; exact y4.2.1
        · rw [f66 8 (by omega)]; exact y4.2.2
        · rw [f66 50 (by omega)]; exact y5
        · rw [fr 68 (by omega) (by omega)]; exact y6
        · rw [f66 77 (by omega)]; exact y7
      have e77 : (j_up (j_up N1 118 (bto w s nn) (1 : Int32)) 115 (bto w s nn) (nI s)) 66 77 = ov o := by
        rw [ju_row _ _ (by omega), ju_row _ _ (by omega)]; exact y7
      rw [hbt]
      dsimp only
      rw [e77]
      rcases hw with rfl | ⟨rfl, ho12⟩
      · have cne : ¬ nI (if 0 = 0 then p else o) = ov o := by
          rw [if_pos rfl]
          unfold ov
          split
          · intro e; exact hop ((nI_eq (by omega) (by omega)).mp e).symm
          · rw [nm_ne (by omega)]; simp
        rw [if_neg cne]
        exact key 0 rfl
      · have ceq : nI (if (1 : Nat) = 0 then p else o) = ov o := by
          rw [if_neg (by decide)]
          unfold ov
          rw [if_pos ho12]
        rw [if_pos ceq]
        exact key 36 rfl
theorem stp_28 {M : JI} {L : JL} {S : JS} {X ln : Nat} {E : Nat → (Nat → Int32) → Int32} (W : WB M L S X ln E) {h : Nat → Nat → Nat} {p o f g a b : Nat} (H : HB h p o f g a b) {sm : Int32} {ec mn s w m : Nat} (hw : w = 0 ∨ (w = 1 ∧ o < 12)) (hm : m ≤ blim w s) {B : Bf} (hB : BI a b B) (hs : bm B s = true) : ∀ d nn, nn + d = m → ∀ n, d < n → ∀ N, RS M sm o (hst h p o f g s) mn (btryN (UU M ln E h sm p o f g ec) s w nn B) N → ∃ N', fX12_steps_28 n (nI s) (nI f) (nI g) (nI ec) (nI mn) (nI (if w = 0 then p else o)) (nI m) (nI (nn + 1)) N = some N' ∧ wSm N N' ∧ RS M sm o (hst h p o f g s) mn (btryN (UU M ln E h sm p o f g ec) s w m B) N' := by
  obtain ⟨s1, -⟩ := hB.2.2.1 s hs
  have hm12 : m ≤ 12 := by unfold blim at hm; split at hm <;> omega
  intro d
  induction d with
  | zero =>
    intro nn hd n hn N hN
    obtain ⟨n', rfl⟩ := suc_of hn
    rw [fX12_steps_28, if_pos (nI_lt (by omega) (by omega))]
    have : nn = m := by omega
    subst this
    exact ⟨N, rfl, wSm_rfl N, hN⟩
  | succ d ih =>
    intro nn hd n hn N hN
    obtain ⟨n', rfl⟩ := suc_of hn
    obtain ⟨⟨hp, hf, hg, hne, ho, hop⟩, -⟩ := id H
    obtain ⟨i1, i2, -⟩ := btryN_ok (U := UU M ln E h sm p o f g ec) (a := a) (b := b) (s := s) (w := w) (by omega) nn hB hs (by omega)
    have hsC := (i2.1 s hs).1
    obtain ⟨t1, t2, t3, t4, t5, t6, t7⟩ := bto_ok (n := nn + 1) (w := w) s1 (by omega) (by omega)
    have hx : ∃ N', fX12_steps_63 (fX12_steps_28 n') 100000 (nI s) (nI f) (nI g) (nI ec) (nI mn) (nI (if w = 0 then p else o)) (nI m) (nI (nn + 1)) (nI (bto w s (nn + 1))) (nI 0) N = fX12_steps_28 n' (nI s) (nI f) (nI g) (nI ec) (nI mn) (nI (if w = 0 then p else o)) (nI m) (nI (nn + 1) + (1 : Int32)) N' ∧ wSm N N' ∧ RS M sm o (hst h p o f g s) mn (btryN (UU M ln E h sm p o f g ec) s w (nn + 1) B) N' := by
      by_cases c : bm (btryN (UU M ln E h sm p o f g ec) s w nn B) (bto w s (nn + 1)) = true
      · refine ⟨N, stp_met (by omega) (by rw [hN.1.2.1 _ (by omega), c]; rfl) 3 0 (by omega) 100000 (by omega), wSm_rfl N, ?_⟩
        show RS M sm o (hst h p o f g s) mn (btry (UU M ln E h sm p o f g ec) s w (nn + 1) (btryN (UU M ln E h sm p o f g ec) s w nn B)) N
        unfold btry
        rw [if_pos c]
        exact hN
      · exact stp_try W H hw i1 hsC (by omega) (by omega) (by simpa using c) 3 0 (by omega) 100000 (by omega) N hN (fun j hj => absurd hj (by omega))
    obtain ⟨N1, x1, x2, x3⟩ := hx
    obtain ⟨N', y1, y2, y3⟩ := ih (nn + 1) (by omega) n' (by omega) N1 x3
    have e1 : nI (nn + 1) + (1 : Int32) = nI (nn + 1 + 1) := nI_add _ 1
    rw [e1, y1] at x1
    refine ⟨N', ?_, wSm_tr x2 y2, y3⟩
    rw [fX12_steps_28, if_neg (nI_nlt (by omega) (by omega)), hN.2.2.2.2.2.2]
    unfold bto at x1
    rcases hw with rfl | ⟨rfl, ho12⟩
    · have cne : ¬ nI (if 0 = 0 then p else o) = ov o := by
        rw [if_pos rfl]
        unfold ov
        split
        · intro e; exact hop ((nI_eq (by omega) (by omega)).mp e).symm
        · rw [nm_ne (by omega)]; simp
      rw [if_neg cne, show nI s - (13 : Int32) * nI (nn + 1) = nI (s - 13 * (nn + 1)) by
        show nI s - nI 13 * nI (nn + 1) = _
        rw [pk_mul, pk_sub (by unfold blim at hm; rw [if_pos rfl] at hm; omega)]]
      rw [if_pos rfl] at x1
      exact x1
    · have ceq : nI (if (1 : Nat) = 0 then p else o) = ov o := by
        rw [if_neg (by decide)]
        unfold ov
        rw [if_pos ho12]
      rw [if_pos ceq, pk_sub (by unfold blim at hm; rw [if_neg (by decide)] at hm; omega)]
      rw [if_neg (show ¬ (1 : Nat) = 0 by decide)] at x1
      exact x1
theorem stp_eq {M : JI} {L : JL} {S : JS} {X ln : Nat} {E : Nat → (Nat → Int32) → Int32} (W : WB M L S X ln E) {h : Nat → Nat → Nat} {p o f g a b : Nat} (H : HB h p o f g a b) {sm : Int32} {ec mn s w : Nat} (hw : w = 0 ∨ (w = 1 ∧ o < 12)) {B : Bf} (hB : BI a b B) (hs : bm B s = true) {N : JI} (hN : RS M sm o (hst h p o f g s) mn B N) : ∃ N', fX12_steps (nI s) (nI (if w = 0 then p else o)) (nI f) (nI g) (nI ec) (nI mn) N = some N' ∧ wSm N N' ∧ RS M sm o (hst h p o f g s) mn (btryN (UU M ln E h sm p o f g ec) s w (blim w s) B) N' := by
  obtain ⟨s1, -⟩ := hB.2.2.1 s hs
  obtain ⟨⟨hp, hf, hg, hne, ho, hop⟩, -⟩ := id H
  obtain ⟨N', x1, x2, x3⟩ := stp_28 (ec := ec) W H hw (Nat.le_refl (blim w s)) hB hs (blim w s) 0 (by omega) 100000 (by unfold blim; split <;> omega) N hN
  refine ⟨N', ?_, x2, x3⟩
  unfold fX12_steps
  rw [hN.2.2.2.2.2.2]
  unfold blim at x1
  rcases hw with rfl | ⟨rfl, ho12⟩
  · have cne : ¬ nI (if 0 = 0 then p else o) = ov o := by
      rw [if_pos rfl]
      unfold ov
      split
      · intro e; exact hop ((nI_eq (by omega) (by omega)).mp e).symm
      · rw [nm_ne (by omega)]; simp
    rw [if_neg cne, show nI s / (13 : Int32) = nI (s / 13) from pk_div (d := 13) (by omega) (by omega) (by omega)]
    exact x1
  · have ceq : nI (if (1 : Nat) = 0 then p else o) = ov o := by
      rw [if_neg (by decide)]
      unfold ov
      rw [if_pos ho12]
    rw [if_pos ceq, show nI s - nI s / (13 : Int32) * (13 : Int32) = nI (s % 13) from pk_rem (d := 13) (by omega) (by omega) (by omega)]
    exact x1
