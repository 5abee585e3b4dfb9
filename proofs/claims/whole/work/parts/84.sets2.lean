/-- someone of W may take line i in set s -/
def hwG (M0 : JI) (h : Nat → Nat → Nat) (p f fm : Nat) (fb : Nat → Int32) (E : Nat → (Nat → Int32) → Int32) (W : Int32) (s i : Nat) : Prop := ∃ q, q < 16 ∧ bt W q = true ∧ qyG M0 h p f fm (nI s) fb E q i = true
theorem os1_loop {M0 : JI} {D : JG} {S : JS} {X t dq : Nat} {h : Nat → Nat → Nat} {ln p f g fm : Nat} {fb : Nat → Int32} {E : Nat → (Nat → Int32) → Int32} (B : CB M0 D S X t dq h ln p f g fm fb E) {L : JL} {l1 : Int64} {W : Int32} (hL : LSets X M0 L ln) : ∀ d k, k + d = ln → ∀ n, d < n → ∀ M (u w : Int64), jSame M0 M → ∃ u' M', fX3_openSets_40 n l1 ((1 : Int32) <<< (nI g &&& 31)) W u w (nI k) M L D S = fX3_openSets_183 l1 ((1 : Int32) <<< (nI g &&& 31)) u' M' L D S ∧ cSame M M' ∧ ∀ s, s < 64 → (bL u' s = true ↔ bL u s = true ∨ (bL w s = true ∧ ∃ i, k ≤ i ∧ i < ln ∧ hwG M0 h p f fm fb E W s i ∧ qyG M0 h p f fm (nI s) fb E g i = false ∧ ∀ j, k ≤ j → j < i → qyG M0 h p f fm (nI s) fb E g j = false ∧ ¬ hwG M0 h p f fm fb E W s j)) := by
  have B0 := B
  obtain ⟨⟨d1, d2, d3, s1, s2, s3⟩, ⟨hX, ht, hdq⟩, ⟨q0, q1, q2, q4⟩, ⟨hp, hf, hg, hfm, hln, hne⟩, -, -, -, -, b9, b10, hl⟩ := B
  intro d
  induction d with
  | zero =>
    intro k hk n hn M u w hM
    obtain ⟨n', rfl⟩ := suc_of hn
    have : k = ln := by omega
    subst this
    refine ⟨u, M, ?_, cSame_rfl M, fun s hs => ⟨fun hw => Or.inl hw, fun hw => hw.elim id (fun hw => ?_)⟩⟩
    · rw [fX3_openSets_40, d1, jo_s, jg_d s1, hM.1 X (by omega) (by omega) (by omega) (by omega), b10, if_pos (nI_le (Nat.le_refl _) (by omega))]
    · obtain ⟨-, i, h1, h2, -⟩ := hw
      exact absurd h2 (by omega)
  | succ d ih =>
    intro k hk n hn M u w hM
    obtain ⟨n', rfl⟩ := suc_of hn
    have e1 : nI k + (1 : Int32) = nI (k + 1) := nI_1 k
    obtain ⟨l1', l2, l3, l4, l5, l6⟩ := hl k (by omega)
    have l3' : jm_b01 (M (X + 1) k) = bI (kdR M0 k) := by rw [hM.1 (X + 1) (by omega) (by omega) (by omega) (by omega)]; exact l3
    have go : ∀ (M1 : JI) (u1 w1 : Int64), cSame M M1 → (∀ s, s < 64 → (bL u1 s = true ↔ bL u s = true ∨ (bL w s = true ∧ hwG M0 h p f fm fb E W s k ∧ qyG M0 h p f fm (nI s) fb E g k = false))) → (∀ s, s < 64 → (bL w1 s = true ↔ bL w s = true ∧ qyG M0 h p f fm (nI s) fb E g k = false ∧ ¬ hwG M0 h p f fm fb E W s k)) → ∃ u' M', fX3_openSets_40 n' l1 ((1 : Int32) <<< (nI g &&& 31)) W u1 w1 (nI (k + 1)) M1 L D S = fX3_openSets_183 l1 ((1 : Int32) <<< (nI g &&& 31)) u' M' L D S ∧ cSame M M' ∧ ∀ s, s < 64 → (bL u' s = true ↔ bL u s = true ∨ (bL w s = true ∧ ∃ i, k ≤ i ∧ i < ln ∧ hwG M0 h p f fm fb E W s i ∧ qyG M0 h p f fm (nI s) fb E g i = false ∧ ∀ j, k ≤ j → j < i → qyG M0 h p f fm (nI s) fb E g j = false ∧ ¬ hwG M0 h p f fm fb E W s j)) := by
      intro M1 u1 w1 hc hu hw
      obtain ⟨u', M', a1, a2, a3⟩ := ih (k + 1) (by omega) n' (by omega) M1 u1 w1 (jSame_c hM hc)
      refine ⟨u', M', a1, cSame_tr hc a2, fun s hs => ?_⟩
      rw [a3 s hs, hu s hs, hw s hs]
      constructor
      · rintro ((b1 | ⟨b1, b2, b3⟩) | ⟨⟨b1, b2, b3⟩, i, c1, c2, c3, c4, c5⟩)
        · exact Or.inl b1
        · exact Or.inr ⟨b1, k, by omega, by omega, b2, b3, fun j h1 h2 => absurd h2 (by omega)⟩
        · refine Or.inr ⟨b1, i, by omega, c2, c3, c4, fun j h1 h2 => ?_⟩
          by_cases e : j = k
          · rw [e]; exact ⟨b2, b3⟩
          · exact c5 j (by omega) h2
      · rintro (b1 | ⟨b1, i, c1, c2, c3, c4, c5⟩)
        · exact Or.inl (Or.inl b1)
        · by_cases e : i = k
          · subst e; exact Or.inl (Or.inr ⟨b1, c3, c4⟩)
          · obtain ⟨x1, x2⟩ := c5 k (by omega) (by omega)
            exact Or.inr ⟨⟨b1, x1, x2⟩, i, by omega, c2, c3, c4, fun j h1 h2 => c5 j (by omega) h2⟩
    have none' : ∀ M1 : JI, cSame M M1 → (∀ s, s < 64 → bL w s = true → ∀ q, (q = g ∨ bt W q = true) → q < 16 → qyG M0 h p f fm (nI s) fb E q k = false) → ∃ u' M', fX3_openSets_40 n' l1 ((1 : Int32) <<< (nI g &&& 31)) W u w (nI (k + 1)) M1 L D S = fX3_openSets_183 l1 ((1 : Int32) <<< (nI g &&& 31)) u' M' L D S ∧ cSame M M' ∧ ∀ s, s < 64 → (bL u' s = true ↔ bL u s = true ∨ (bL w s = true ∧ ∃ i, k ≤ i ∧ i < ln ∧ hwG M0 h p f fm fb E W s i ∧ qyG M0 h p f fm (nI s) fb E g i = false ∧ ∀ j, k ≤ j → j < i → qyG M0 h p f fm (nI s) fb E g j = false ∧ ¬ hwG M0 h p f fm fb E W s j)) := by
      intro M1 hc hno
      have nw : ∀ s, s < 64 → bL w s = true → ¬ hwG M0 h p f fm fb E W s k := by
        rintro s hs hb ⟨q, h1, h2, h3⟩
        rw [hno s hs hb q (Or.inr h2) h1] at h3
        exact absurd h3 (by simp)
      exact go M1 u w hc (fun s hs => ⟨Or.inl, fun hx => hx.elim id (fun hx => absurd hx.2.1 (nw s hs hx.1))⟩) (fun s hs => ⟨fun hb => ⟨hb, hno s hs hb g (Or.inl rfl) hg, nw s hs hb⟩, fun hb => hb.1⟩)
    rw [fX3_openSets_40, d1, jo_s, jg_d s1, hM.1 X (by omega) (by omega) (by omega) (by omega), b10, if_neg (nI_ge (by omega) (by omega))]
    by_cases cw : lg_cmp w (0 : Int64) = 0
    · rw [if_pos cw]
      refine ⟨u, M, rfl, cSame_rfl M, fun s hs => ?_⟩
      rw [(bL_cmp w).mp cw s hs]; simp
    · rw [if_neg cw, jo_s, jg_d s1, jg_in (by omega) (by decide), nI_clamp (by omega), e1]
      by_cases ch : lg_cmp (w &&& L (X + 2) k) (0 : Int64) = 0
      · rw [if_pos ch]
        refine none' M (cSame_rfl M) (fun s hs hb q _ _ => ?_)
        have := (bL_cmp _).mp ch s hs
        rw [bL_and, bL_line hL (by omega) hs, hb] at this
        unfold qyG
        rw [show acR M0 (nI s) k = false by simpa using this]; simp
      · rw [if_neg ch, jo_s, jg_d s1, d3, jo_s, jg_d s3, hM.1 dq (by omega) (by omega) (by omega) (by omega), q4, fon_eq (by omega) hfm l3', Option.bind_some, hM.1 (X + 5) (by omega) (by omega) (by omega) (by omega)]
        by_cases ck : kdR M0 k = true
        · have h75 : M0 75 k = nI 0 := by unfold kdR at ck; simpa using ck
          obtain ⟨⟨wh, hw, w1, w2⟩, w3⟩ := l5 h75
          rw [w3, ck]
          by_cases cf : foR M0 fm k = true
          · have cf' : bt (M0 78 k) fm = true := cf
            rw [cf', if_neg (by decide), jo_s, jg_d s1, jg_in (by omega) (by decide), hM.1 (X + 4) (by omega) (by omega) (by omega) (by omega), w2, jg_in (by omega) (by decide), nI_clamp (by omega), hM.1 18 (by omega) (by omega) (by omega) (by omega)]
            have hq' : ∀ s q, q < 16 → qyG M0 h p f fm (nI s) fb E q k = (acR M0 (nI s) k && (bt (M0 18 wh) q && cnG M0 h p f fb E k q)) := by
              intro s q hq
              have hw' : wtR M0 h p f k q = bt (M0 18 wh) q := by
                unfold wtR
                rw [w1, nI_clamp (by omega), b9 wh q hw]; simp [hq]
              unfold qyG
              rw [ck, cf, hw', Bool.true_and, Bool.and_true, Bool.and_assoc]
            have hi18 : ∀ (P : Int32) j, 16 ≤ j → bt (M0 18 wh &&& P) j = false := by
              intro P j hj
              rw [b_and, b9 wh j hw, decide_eq_false (by omega)]; simp
            obtain ⟨z, M', z1, z2, z3⟩ := ho2_eq B0 (i := k) (by omega) (P := M0 18 wh &&& (nI 1 <<< (nI g &&& nI 31))) (hi18 _) hM
            have z1' : fX3_holdsForOne (nI k) (M0 18 wh &&& ((1 : Int32) <<< (nI g &&& 31))) M D S = some (bI z, M') := z1
            rw [z1', Option.bind_some]
            have hz : z = (bt (M0 18 wh) g && cnG M0 h p f fb E k g) := by
              apply Bool.eq_iff_iff.mpr
              rw [z3, Bool.and_eq_true]
              constructor
              · rintro ⟨q', hq', h1, h2⟩
                rw [b_and, bit_one hg] at h1
                simp only [Bool.and_eq_true, decide_eq_true_eq] at h1
                obtain ⟨h1, rfl⟩ := h1
                exact ⟨h1, h2⟩
              · rintro ⟨h1, h2⟩
                exact ⟨g, hg, by rw [b_and, bit_one hg, h1]; simp, h2⟩
            have hgk : ∀ s, qyG M0 h p f fm (nI s) fb E g k = (acR M0 (nI s) k && z) := fun s => by rw [hq' s g hg, ← hz]
            cases z with
            | true =>
              rw [if_neg (show ¬ bI true = 0 by decide)]
              refine go M' u (w &&& ((w &&& L (X + 2) k) ^^^ (-1 : Int64))) z2 (fun s hs => ⟨Or.inl, fun hx => hx.elim id (fun hx => ?_)⟩) (fun s hs => ?_)
              · obtain ⟨x1, ⟨q, y1, y2, y3⟩, x3⟩ := hx
                rw [hgk, Bool.and_true] at x3
                rw [hq' s q y1, x3] at y3
                exact absurd y3 (by simp)
              · rw [bL_and, bL_not _ hs, bL_and, bL_line hL (by omega) hs, hgk, Bool.and_true]
                have hnw : acR M0 (nI s) k = false → ¬ hwG M0 h p f fm fb E W s k := by
                  rintro ha ⟨q, y1, y2, y3⟩
                  rw [hq' s q y1, ha] at y3
                  exact absurd y3 (by simp)
                cases hb : bL w s <;> cases ha : acR M0 (nI s) k <;> simp [hnw, ha]
            | false =>
              rw [if_pos (show bI false = 0 by decide)]
              obtain ⟨y, M2, y1, y2, y3⟩ := ho2_eq B0 (i := k) (by omega) (P := M0 18 wh &&& W) (hi18 _) (jSame_c hM z2)
              rw [show fX3_holdsForOne (nI k) (M0 18 wh &&& W) (bI false, M').2 D S = some (bI y, M2) from y1, Option.bind_some]
              have hhw : ∀ s, hwG M0 h p f fm fb E W s k ↔ (acR M0 (nI s) k = true ∧ y = true) := by
                intro s
                rw [y3]
                constructor
                · rintro ⟨q, a1, a2, a3⟩
                  rw [hq' s q a1] at a3
                  simp only [Bool.and_eq_true] at a3
                  exact ⟨a3.1, q, a1, by rw [b_and, a3.2.1, a2]; rfl, a3.2.2⟩
                · rintro ⟨a0, q, a1, a2, a3⟩
                  rw [b_and, Bool.and_eq_true] at a2
                  exact ⟨q, a1, a2.2, by rw [hq' s q a1, a0, a2.1, a3]; rfl⟩
              have hg0 : ∀ s, qyG M0 h p f fm (nI s) fb E g k = false := fun s => by rw [hgk]; simp
              cases y with
              | false =>
                rw [if_pos (show bI false = 0 by decide)]
                refine go M2 u w (cSame_tr z2 y2) (fun s hs => ?_) (fun s hs => ?_)
                · rw [hhw s]; simp
                · rw [hhw s, hg0 s]; simp
              | true =>
                rw [if_neg (show ¬ bI true = 0 by decide)]
                refine go M2 (u ||| (w &&& L (X + 2) k)) (w &&& ((w &&& L (X + 2) k) ^^^ (-1 : Int64))) (cSame_tr z2 y2) (fun s hs => ?_) (fun s hs => ?_)
                · rw [hhw s, hg0 s, bL_or, bL_and, bL_line hL (by omega) hs]; simp
                · rw [hhw s, hg0 s, bL_and, bL_not _ hs, bL_and, bL_line hL (by omega) hs]
                  cases bL w s <;> cases acR M0 (nI s) k <;> simp
          · have cf0 : foR M0 fm k = false := by simpa using cf
            have cf' : bt (M0 78 k) fm = false := cf0
            rw [cf', if_pos (by decide)]
            exact none' M (cSame_rfl M) (fun s hs hb q _ _ => by unfold qyG; rw [cf0]; simp)
        · have ck0 : kdR M0 k = false := by simpa using ck
          rw [ck0, if_pos (by rfl)]
          exact none' M (cSame_rfl M) (fun s hs hb q _ _ => by unfold qyG; rw [ck0]; simp)
