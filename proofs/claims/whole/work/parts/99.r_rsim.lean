theorem need_1 {x y : Nat} : need 1 x y = 6 * (5 - x) + 1 := by unfold need; rw [if_neg (by omega)]
theorem need_0 {x y : Nat} : need 0 x y = (4 - x) + 1 + (6 * (5 - y) + 1) := by unfold need; rw [if_pos rfl]
/-- the reference reads a condition as it is read with no memory -/
def RSim (tx : Nat → Nat) (m z : Nat) : Prop := ∀ w x y, need w x y ≤ z → ((w = 0 ∧ x ≤ 4) ∨ w = 1) → x ≤ 5 → y ≤ 5 → ∀ d, d = (if w = 0 then y else x) → ∀ op b N L q, LR N L tx m b → N 66 28 = nI (1000 + q) → q ≤ b → opn N op d → (w = 0 → unw op y = y) → (w = 0 → x ≤ 1 → N 85 y = nI 0) → RSp tx m op d q b N L (aR tx m z w x y b) (fun v => v = if w = 0 ∧ x ≤ 1 then bI (aR tx m z w x y b).2.2.2.2 else N 85 d)
theorem rs_lv {tx : Nat → Nat} {m : Nat} (hm : m ≤ 1000) {z : Nat} (ih : RSim tx m z) {x y : Nat} (hz : need 0 x y ≤ z + 1) (hx : x < 4) (hy : y ≤ 5) {op : Nat → Nat} {b : Nat} {N : JI} {L : JL} {q : Nat} (hL : LR N L tx m b) (e28 : N 66 28 = nI (1000 + q)) (hq : q ≤ b) (ho : opn N op y) (hu : unw op y = y) (hfl : x ≤ 1 → N 85 y = nI 0) : RSp tx m op y q b N L (aBd (aR tx m z 0 (x + 1) y b) (fun r => aLp tx m (aR tx m z 0 (x + 1) y) x (if x = 1 then 1 else 1000) r)) (fun v => v = if x ≤ 1 then bI (aBd (aR tx m z 0 (x + 1) y b) (fun r => aLp tx m (aR tx m z 0 (x + 1) y) x (if x = 1 then 1 else 1000) r)).2.2.2.2 else N 85 y) := by
  have hbm0 := hL.2.1
  rw [need_0] at hz
  have ihx : ∀ b N L q, LR N L tx m b → N 66 28 = nI (1000 + q) → q ≤ b → opn N op y → (x = 0 → N 85 y = nI 0) → RSp tx m op y q b N L (aR tx m z 0 (x + 1) y b) (fun v => v = if x = 0 then bI (aR tx m z 0 (x + 1) y b).2.2.2.2 else N 85 y) := by
    intro b N L q h1 h2 h3 h4 h5
    have := ih 0 (x + 1) y (by rw [need_0]; omega) (Or.inl ⟨rfl, by omega⟩) (by omega) hy y rfl op b N L q h1 h2 h3 h4 (fun _ => hu) (fun _ h => h5 (by omega))
    by_cases c0 : x = 0
    · rw [if_pos (show 0 = 0 ∧ x + 1 ≤ 1 from ⟨rfl, by omega⟩)] at this
      rw [if_pos c0]; exact this
    · rw [if_neg (show ¬ (0 = 0 ∧ x + 1 ≤ 1) by omega)] at this
      rw [if_neg c0]; exact this
  have h0 := ihx b N L q hL e28 hq ho (fun e => hfl (by omega))
  have hcf : ∀ b', 1 ≤ x → (aR tx m z 0 (x + 1) y b').1 = 0 → (aR tx m z 0 (x + 1) y b').2.2.2.2 = false := fun b' h1 h' => aR_cf z 0 (x + 1) y b' (fun _ => by omega) h'
  have hps : ∀ b', b' ≤ m → (aR tx m z 0 (x + 1) y b').1 = 0 → PosOK m b' (aR tx m z 0 (x + 1) y b') := fun b' hb' h' => aR_pos z 0 (x + 1) y b' hb' h'
  generalize aR tx m z 0 (x + 1) y = rc at ihx h0 hcf hps ⊢
  by_cases r0 : (rc b).1 = 0
  · rw [aBd_0 r0]
    obtain ⟨N1, L1, s1, s2, s3⟩ := h0.1 r0
    exact rs_loop (F := N 85 y) (rc := rc) hx hy hu hm hq hps (fun h1 b' h' => hcf b' h1 h') ho ihx (if x = 1 then 1 else 1000) (rc b) N1 L1 r0 (hps b hbm0 r0) (fun e => ⟨by rw [if_pos e]; exact Nat.le_refl _, fun _ => hcf b (by omega) r0⟩) (fun k => by rw [s1 k, hu]) s2 (by
      rw [s3]
      by_cases c0 : x = 0
      · rw [if_pos c0, if_pos (by omega)]
      · rw [if_neg c0]
        by_cases c1 : x ≤ 1
        · rw [if_pos c1, hcf b (by omega) r0, hfl c1]; rfl
        · rw [if_neg c1])
  · rw [aBd_n r0]
    exact ⟨fun h => absurd h r0, h0.2⟩
theorem rs_sim {tx : Nat → Nat} {m : Nat} (hm : m ≤ 1000) : ∀ z, RSim tx m z := by
  intro z
  induction z with
  | zero =>
    intro w x y hz hw hx5 hy
    exfalso
    unfold need at hz
    split at hz <;> omega
  | succ z ih =>
    intro w x y hz hw hx5 hy d hd op b N L q hL e28 hq ho hun hfl
    rcases hw with ⟨rfl, hx⟩ | rfl
    · have hd' : d = y := hd
      subst hd'
      rw [aR, if_pos rfl]
      by_cases cx : x < 4
      · rw [if_pos cx]
        have := rs_lv hm ih hz cx hy hL e28 hq ho (hun rfl) (hfl rfl)
        by_cases c1 : x ≤ 1
        · rw [if_pos c1] at this
          rw [if_pos (show 0 = 0 ∧ x ≤ 1 from ⟨rfl, c1⟩)]; exact this
        · rw [if_neg c1] at this
          rw [if_neg (show ¬ (0 = 0 ∧ x ≤ 1) from fun h => c1 h.2)]; exact this
      · rw [if_neg cx, if_neg (show ¬ (0 = 0 ∧ x ≤ 1) by omega)]
        rw [need_0] at hz
        have := ih 1 d 0 (by rw [need_1]; omega) (Or.inr rfl) hy (Nat.zero_le _) d rfl op b N L q hL e28 hq ho (fun e => absurd e (by decide)) (fun e => absurd e (by decide))
        rw [if_neg (show ¬ (1 = 0 ∧ d ≤ 1) by omega)] at this
        exact this
    · have hd' : d = x := hd
      subst hd'
      rw [aR, if_neg (show ¬ 1 = 0 by decide), if_neg (show ¬ (1 = 0 ∧ d ≤ 1) by omega)]
      rw [need_1] at hz
      refine rs_pc (F := fun N1 v => v = if 1 = 0 ∧ d + 1 ≤ 1 then bI (aR tx m z 1 (d + 1) 0 (nxB tx m b)).2.2.2.2 else N1 85 (d + 1)) hL hq e28 hx5 ho (fun hd5 hbm => ?_) (fun hd5 hbm => ?_)
      · intro N1 L1 h1 h2 h3
        obtain ⟨n1, n2⟩ := nxB_ok (tx := tx) hbm
        exact ih 1 (d + 1) 0 (by rw [need_1]; omega) (Or.inr rfl) hd5 (Nat.zero_le _) (d + 1) rfl _ (nxB tx m b) N1 L1 (q + 1) h1 h2 (by omega) h3 (fun e => absurd e (by decide)) (fun e => absurd e (by decide))
      · obtain ⟨n1, n2⟩ := nxB_ok (tx := tx) hbm
        refine ⟨fun h => ⟨aR_pos z 0 0 (d + 1) _ n2 h, aR_ex hm z 0 (d + 1) _ (Nat.zero_le _) n2 h⟩, fun N1 L1 h1 h2 h3 h4 h5 => ?_⟩
        have := ih 0 0 (d + 1) (by rw [need_0]; omega) (Or.inl ⟨rfl, Nat.zero_le _⟩) (Nat.zero_le _) hd5 (d + 1) rfl _ (nxB tx m b) N1 L1 (q + 1) h1 h2 (by omega) h3 (fun _ => h4) (fun _ _ => h5)
        rw [if_pos (show 0 = 0 ∧ 0 ≤ 1 from ⟨rfl, by omega⟩)] at this
        exact this
