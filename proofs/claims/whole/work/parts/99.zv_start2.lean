theorem mp_at {α : Type} {o : Option α} {f : α → Bool} {q : α} (h : o.map f = some true) (e : o = some q) : f q = true := by
  rw [e] at h
  exact Option.some.inj h
theorem hN_0 {r : Nat → Int32} (h : ∀ k, k < 192 → r k = nI 0) {p q : Nat} (hp : p < 12) (hq : q < 16) : hN r p q = 0 := by
  unfold hN
  rw [h (16 * p + q) (by omega)]
  rfl
theorem sm_0 {f : Nat → Nat} : ∀ {n : Nat}, (∀ k, k < n → f k = 0) → fb_sm f n = 0
  | 0, _ => rfl
  | n + 1, h => by rw [fb_sm_succ, sm_0 (fun k hk => h k (by omega)), h n (by omega)]
/-- what holds at the start -/
theorem inv_start {q : JI × JL × JG × JG × JS} (h : i_3 = some q) : Inv 0 q.1 q.2.1 q.2.2.2.1 q.2.2.2.2 := by
  have s1 := mp_at i3_1 h
  have s2 := mp_at i3_2 h
  have s3 := mp_at i3_3 h
  have s4 := mp_at i3_4 h
  have s5 := mp_at i3_5 h
  obtain ⟨M, L, G, D, S⟩ := q
  clear h
  simp only [st1, Bool.and_eq_true, decide_eq_true_eq] at s1
  simp only [st2, Bool.and_eq_true, decide_eq_true_eq] at s2
  simp only [st3, Bool.and_eq_true] at s3
  simp only [st4, Bool.and_eq_true] at s4
  simp only [st5, Bool.and_eq_true, decide_eq_true_eq] at s5
  obtain ⟨⟨⟨⟨⟨⟨⟨⟨⟨⟨⟨⟨⟨⟨⟨⟨a1, a2⟩, a3⟩, a4⟩, a5⟩, a6⟩, a7⟩, a8⟩, a9⟩, a10⟩, a11⟩, a12⟩, a13⟩, a14⟩, a15⟩, a16⟩, a17⟩ := s1
  obtain ⟨⟨⟨⟨⟨⟨⟨⟨⟨⟨b1, b2⟩, b3⟩, b4⟩, b5⟩, b6⟩, b7⟩, b8⟩, b9⟩, b10⟩, b11⟩ := s2
  obtain ⟨⟨⟨⟨⟨c1, c2⟩, c3⟩, c4⟩, c5⟩, c6⟩ := s3
  obtain ⟨⟨⟨⟨⟨⟨⟨d1, d2⟩, d3⟩, d4⟩, d5⟩, d6⟩, d7⟩, d8⟩ := s4
  obtain ⟨⟨⟨⟨⟨⟨e1, e2⟩, e3⟩, e4⟩, e5⟩, e6⟩, e7⟩ := s5
  have z67 := zr_at c1
  have z68 := zr_at c2
  have z8 := zr_at c3
  have z9 := zr_at c4
  have z10 := zr_at c5
  have z11 := zr_at c6
  have z2 := zr_at d1
  have z3 := zr_at d2
  have z69 := zr_at d3
  have z4 := zr_at d4
  have z70 := zr_at d5
  have z5 := zr_at d6
  have z6 := zr_at d7
  have z71 := zr_at d8
  have z72 := zr_at e1
  have o73 := zo_at e2
  have z127 := zr_at e3
  have n42 := zn_at e4
  have n43 := zn_at e5
  have n31 := zn_at e6
  clear c1 c2 c3 c4 c5 c6 d1 d2 d3 d4 d5 d6 d7 d8 e1 e2 e3 e4 e5 e6
  show Inv 0 M L D S
  have e7' : S = lay_S ++ [(23, 1)] := e7
  unfold Inv
  refine ⟨⟨fun p hp => ?_, fun i _ => ?_⟩, ⟨fun p r hp hr => ?_, fun p hp => ?_⟩, ⟨fun p r hp hr => ?_, fun p i hp => ?_, fun r hr => ?_, fun r hr => ?_⟩, ⟨fun p o s hp ho hs => ?_, fun p o hp => ?_, fun p o i hp ho hi => ?_⟩, ⟨fun p o hp => ?_, fun p o hp ho => ?_⟩, ⟨fun a b ha hb => ?_, fun a i ha => ?_⟩, fun r hr => ?_, fun r hr => ?_, ?_, ?_, ?_, ?_, ?_, ?_, ?_, ?_, ?_, ?_, ?_⟩
  · rw [z67 p hp, a1, bt_zero]; rfl
  · rw [a1, bt_zero]
  · rw [hN_0 z68 hp hr, z68 (16 * p + r) (by omega)]; exact ⟨rfl, by omega⟩
  · rw [a1, bt_zero, if_neg (by decide)]; exact sm_0 (fun k hk => hN_0 z68 hp hk)
  · rw [hN_0 z68 hp hr, z8 (16 * p + r) (by omega)]
  · rw [z9 p hp, bt_zero]
    by_cases c : i < 16
    · rw [hN_0 z68 hp c, decide_eq_false (show ¬ 0 < 0 by omega), Bool.and_false]
    · rw [decide_eq_false c, Bool.false_and]
  · rw [z10 r hr, fb_ct_zero.mpr (fun p hp => decide_eq_false (by rw [hN_0 z68 hp hr]; omega))]
  · rw [z11 r hr, sm_0 (fun p hp => hN_0 z68 hp hr)]
  · rw [z2 (4 * p + s) (by omega), z69 (12 * p + o) (by omega), bt_zero, bt_zero]
  · rw [z3 p hp, bt_zero]
    by_cases c : o < 12
    · rw [z69 (12 * p + o) (by omega), decide_eq_true (show nI 0 = nI 0 from rfl), Bool.not_true, Bool.and_false]
    · rw [decide_eq_false c, Bool.false_and]
  · rw [z69 (12 * p + o) (by omega), bt_zero]
  · rw [z4 p hp, bt_zero]
    by_cases c : o < 12
    · rw [z70 (12 * p + o) (by omega), decide_eq_false (show ¬ nI 0 = nI 1 by decide), Bool.and_false]
    · rw [decide_eq_false c, Bool.false_and]
  · exact Or.inl (z70 (12 * p + o) (by omega))
  · rw [z5 (16 * a + b) (by omega), z71 (16 * a + b) (by omega), z71 (16 * b + a) (by omega)]; exact ⟨rfl, rfl, 0, by omega, rfl⟩
  · rw [z6 a ha, bt_zero]
    by_cases c : i < 16
    · rw [z71 (16 * a + i) (by omega), decide_eq_true (show nI 0 = nI 0 from rfl), Bool.not_true, Bool.and_false]
    · rw [decide_eq_false c, Bool.false_and]
  · rw [z72 r hr, a2, bt_zero]; rfl
  · rw [o73 r hr, a3]
    have : ∀ r, r < 16 → nI 1 = bI (bt (nI 65535) r) := by decide
    exact this r hr
  · rw [a4, a6]; exact ⟨rfl, 0, by omega, rfl⟩
  · exact ⟨0, by omega, a8, a7, fun k hk => absurd hk (by omega)⟩
  · rw [a5, a9, a10, a11]; exact ⟨0, by omega, rfl, Or.inl rfl, Or.inl rfl, Or.inl rfl⟩
  · refine ⟨44, 55, b9, b10, b11, Or.inl ⟨rfl, rfl⟩, 0, by omega, ?_, ?_, ?_, ?_, ?_, ?_, ⟨false, ?_, ?_⟩, ⟨false, ?_, ?_⟩, fun i hi => absurd hi (by omega)⟩
    · rw [rg_in (by decide)]; exact b1
    · rw [rg_in (by decide)]; exact b4
    · exact Nat.zero_le _
    · exact Nat.zero_le _
    · rw [rg_in (by decide)]; exact b6
    · rw [rg_in (by decide)]; exact b5
    · rw [rg_in (by decide), b7]; decide
    · rw [rg_in (by decide)]; exact b2
    · rw [rg_in (by decide), b8]; decide
    · rw [rg_in (by decide)]; exact b3
  · exact ⟨0, by omega, a16, a15, fun k hk => absurd hk (by omega)⟩
  · exact ⟨0, by omega, a12, a13, fun k hk => absurd hk (by omega)⟩
  · refine ⟨0, by omega, a17, a14, 0, by omega, a16, fun _ => 0, fun _ => 0, fun m hm => ⟨?_, Nat.le_refl _, fun _ => rfl, fun b hb => ?_⟩, fun m m' _ _ h0 => absurd rfl h0⟩
    · rw [rg_in (by unfold pM; decide)]; exact z127 m hm
    · rw [n43 m hm] at hb; exact absurd hb (by simp)
  · refine ⟨⟨[], e7'⟩, ?_, ?_, fun s b hs hb => ?_, fun s s' b b' hs hs' hne hb => ?_⟩
    · rw [e7']; decide +kernel
    · rw [e7']; decide +kernel
    · exfalso
      revert hb
      unfold slA
      split
      · rw [n42 s (by omega)]; simp
      · split
        · rw [n43 (s - 40) (by omega)]; simp
        · rw [n31 (s - 44) (by omega)]; simp
    · exfalso
      revert hb
      unfold slA
      split
      · rw [n42 s (by omega)]; simp
      · split
        · rw [n43 (s - 40) (by omega)]; simp
        · rw [n31 (s - 44) (by omega)]; simp
  · intro hh; rw [a9, a5] at hh; exact absurd hh (by decide)
  · intro hh; rw [a10, a5] at hh; exact absurd hh (by decide)
  · intro hh; rw [a11, a5] at hh; exact absurd hh (by decide)
