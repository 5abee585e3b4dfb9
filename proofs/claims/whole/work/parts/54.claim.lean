theorem lt_eq {M M' : JI} {k b q dn : Nat} {s : Bool} {g : Int32} (hk : k < 40) (hq : q < 16) (hJ : ∀ a, 96 ≤ a → a ≤ 113 → M' a = M a) (hnow : M' 66 8 = nI dn) (V : vP2 (16 * k + q) q s g (M (b + 2)) (M (b + 3)) (M (b + 4)) (M (b + 5)) M) (hr : M 109 (16 * k + q) ≠ -nI 1) : ∃ z, fX7_isLate b (nI q) (nI dn) M = some (bI z) ∧ fX12_isLate (nI (16 * k + q)) M' = some (bI z) := by
  obtain ⟨-, -, w3, w4, -, w6⟩ := V
  obtain ⟨⟨w, hw, ew, ew2⟩, -⟩ := w6 hr
  unfold fX7_isLate fX12_isLate
  rw [jg_in (by omega) (by decide), jg_in (by omega) (by decide), jg_in hq (by decide), jg_in (by omega) (by decide), jg_in (by omega) (by decide), jg_in (by omega) (by decide), nI_clamp (by omega), nI_clamp (by omega), ← w3, ew2, hJ 112 (by omega) (by omega), hJ 110 (by omega) (by omega), ew, hnow, li_1]
  by_cases c : M 112 (16 * k + q) = -nI 1
  · exact ⟨false, by rw [if_pos c]; rfl, by rw [if_pos ((okR_neg w4 (by omega)).1.mpr c)]; rfl⟩
  · rw [if_neg c, if_neg (fun hc => c ((okR_neg w4 (by omega)).1.mp hc))]
    by_cases c2 : nI dn ≤ M 112 (16 * k + q) + nI w
    · exact ⟨false, by rw [if_pos c2]; rfl, by rw [if_pos c2]; rfl⟩
    · exact ⟨true, by rw [if_neg c2]; rfl, by rw [if_neg c2]; rfl⟩
theorem beh_loop {M M' : JI} {k b q dn : Nat} {s : Bool} {g coin : Int32} (hk : k < 40) (hq : q < 16) (hJ : ∀ a, 96 ≤ a → a ≤ 113 → M' a = M a) (hnow : M' 66 8 = nI dn) (vq : ∀ q, q < 16 → vP2 (16 * k + q) q s g (M (b + 2)) (M (b + 3)) (M (b + 4)) (M (b + 5)) M) : ∀ d o, o + d = 16 → ∀ n, d < n → ∃ z, fX7_isBehindAnother_2 b n (nI q) (nI dn) (nI o) M = some (bI z) ∧ fX12_claim_85 n (nI k) (nI q) coin (nI (16 * k + q)) (nI (16 * k + o)) M' = if z then some (nI 3, M') else fX12_claim_151 (nI k) (nI q) coin M' := by
  have e16 : (16 : Int32) * nI k + (16 : Int32) = nI (16 * k + 16) := at16 k 16
  intro d
  induction d with
  | zero =>
    intro o ho n hn
    obtain ⟨n', rfl⟩ := suc_of hn
    have : o = 16 := by omega
    subst this
    refine ⟨false, by rw [fX7_isBehindAnother_2, if_pos (by decide)]; rfl, ?_⟩
    rw [fX12_claim_85, e16, if_pos (nI_le (Nat.le_refl _) (by omega))]; rfl
  | succ d ih =>
    intro o ho n hn
    obtain ⟨n', rfl⟩ := suc_of hn
    have e1 : nI o + (1 : Int32) = nI (o + 1) := nI_1 o
    have e2 : nI (16 * k + o) + (1 : Int32) = nI (16 * k + (o + 1)) := nI_1 _
    have g1 : ¬ (16 : Int32) ≤ nI o := nI_ge (b := 16) (by omega) (by omega)
    have g2 : ¬ nI (16 * k + 16) ≤ nI (16 * k + o) := nI_ge (by omega) (by omega)
    have hV := vq o (by omega)
    obtain ⟨w1, w2, -⟩ := vq o (by omega)
    obtain ⟨u1, u2, -⟩ := vq q hq
    obtain ⟨z, z1, z2⟩ := ih (o + 1) (by omega) n' (by omega)
    rw [fX7_isBehindAnother_2, fX12_claim_85, if_neg g1, e16, if_neg g2, jg_in (by omega) (by decide), jg_in (by omega) (by decide), jg_in hq (by decide), jg_in (by omega) (by decide), jg_in (by omega) (by decide), jg_in (by omega) (by decide), jg_in (by omega) (by decide), nI_clamp (by omega), nI_clamp (by omega), nI_clamp (by omega), nI_clamp (by omega), hJ 109 (by omega) (by omega), ← w1, ← u1, e2]
    unfold fX7_isBehindAnother_38
    rw [e1, li_1]
    by_cases c1 : M 109 (16 * k + o) = -nI 1
    · refine ⟨z, ?_, ?_⟩
      · rw [if_pos c1, if_pos rfl, z1]
      · rw [if_pos ((okR_neg w2 (by omega)).1.mpr c1), z2]
    · have c1' : ¬ M 109 (16 * k + o) < 0 := fun hc => c1 ((okR_neg w2 (by omega)).1.mp hc)
      rw [if_neg c1, if_neg c1']
      by_cases c2 : M 109 (16 * k + q) ≤ M 109 (16 * k + o)
      · refine ⟨z, ?_, ?_⟩
        · rw [if_pos c2, if_pos rfl, z1]
        · rw [if_pos c2, z2]
      · rw [if_neg c2, if_neg c2, if_neg (by decide)]
        obtain ⟨v1, v2⟩ := wv_eq (M' := M') hk (show o < 16 by omega) (by rw [hJ 113 (by omega) (by omega)]) hV
        rw [v1, v2, Option.bind_some]
        by_cases c3 : bt (M (b + 5) 16) o = true
        · refine ⟨z, ?_, ?_⟩
          · rw [c3, if_neg (by decide), z1]
          · rw [c3, if_neg (by decide), z2]
        · have c3' : bt (M (b + 5) 16) o = false := by simpa using c3
          obtain ⟨y, y1, y2⟩ := lt_eq hk (show o < 16 by omega) hJ hnow hV c1
          rw [c3', if_pos (by decide), if_pos (by decide), y1, y2, Option.bind_some, Option.bind_some]
          cases y with
          | true => exact ⟨z, by rw [if_neg (by decide), z1], by rw [if_neg (by decide), z2]⟩
          | false => exact ⟨true, by rw [if_pos (by decide)]; rfl, by rw [if_pos (by decide)]; rfl⟩
theorem cl_eq {M : JI} {k b q p g w dn : Nat} {coin : Int32} {h : Nat → Nat → Nat} (hk : k < 40) (hq : q < 16) (hp : p < 12) (hg : g < 16) (hw : w ≤ 12) (ep : M 96 k = nI p) (ep' : M (b + 1) 0 = nI p) (eg : M 98 k = nI g) (eg' : M (b + 1) 2 = nI g) (ew : M 99 k = nI w) (ew' : M (b + 1) 3 = nI w) (h8 : ∀ p q, p < 12 → q < 16 → M 8 (16 * p + q) = nI (h p q)) (hb12 : ∀ p q, p < 12 → q < 16 → h p q ≤ 12) (V : vP1 k (M b) (M (b + 1)) (M (b + 2)) (M (b + 3)) (M (b + 4)) (M (b + 5)) M) :
    ∃ c, c ≤ 6 ∧ fX7_judgeClaim b (nI q) coin (nI dn) 7 M = some (nI c) ∧ (c = 0 → M 109 (16 * k + q) ≠ -nI 1 ∧ w ≤ h p g) ∧ ∀ N : JI, (∀ a, 96 ≤ a → a ≤ 113 → N a = M a) → N 66 8 = nI dn → twRep (N 68) h → fX12_isPassed (nI k) N = some (nI 1) → fX12_isPerson (nI q) = some (nI 1) → ∀ K, (c = 0 → ((fX12_moves (nI p) (nI g) (nI q) (nI w) N).bind (fun q6 => some ((0 : Int32), (j_up q6 106 k (nI q))))) = K) → (c ≠ 0 → some (nI c, N) = K) →
      (j_g (j_in (nI k) 40) (if (N 106 (nI k).toNatClampNeg) < 0 then (j_g (j_in (((16 : Int32) * nI k) + nI q) 640) (if (N 109 (((16 : Int32) * nI k) + nI q).toNatClampNeg) < 0 then (some ((1 : Int32), N)) else (j_g (j_in (((16 : Int32) * nI k) + nI q) 640) (if (jm_b01 (N 113 (((16 : Int32) * nI k) + nI q).toNatClampNeg)) = 0 then ((fX12_isLate (((16 : Int32) * nI k) + nI q) N).bind (fun q3 => if q3 = 0 then (fX12_claim_85 100000 (nI k) (nI q) coin (((16 : Int32) * nI k) + nI q) ((16 : Int32) * nI k) N) else (some ((2 : Int32), N)))) else (some ((1 : Int32), N)))))) else (some ((6 : Int32), N)))) = K := by
  have V0 := V
  obtain ⟨-, -, -, -, -, -, -, -, -, -, ⟨t1, t2⟩, -, s, es, vq⟩ := V
  obtain ⟨w1, w2, -⟩ := vq q hq
  have gk : ∀ {α : Type} (z : Option α), j_g (j_in (nI k) 40) z = z := fun z => jg_in (by omega) (by decide)
  have gq : ∀ {α : Type} (z : Option α), j_g (j_in (nI (16 * k + q)) 640) z = z := fun z => jg_in (by omega) (by decide)
  have ek : (nI k).toNatClampNeg = k := nI_clamp (by omega)
  have eq' : (nI (16 * k + q)).toNatClampNeg = 16 * k + q := nI_clamp (by omega)
  have e160 : (16 : Int32) * nI k = nI (16 * k + 0) := by
    show nI 16 * nI k = _
    rw [pk_mul, Nat.add_zero]
  unfold fX7_judgeClaim
  rw [tk_eq t1.symm, Option.bind_some, jg_in hq (by decide), nI_clamp (by omega), ← w1, li_1]
  by_cases c1 : M 106 k = -nI 1
  · have c1' : M 106 k < 0 := (okR_neg t2 (by omega)).1.mpr c1
    by_cases c2 : M 109 (16 * k + q) = -nI 1
    · refine ⟨1, by omega, by rw [if_pos (by simp [c1]; rfl), if_pos c2], fun h => by omega, fun N f1 f2 f3 f4 f5 K k1 k2 => ?_⟩
      rw [gk, ek, f1 106 (by omega) (by omega), if_pos c1', at16, gq, eq', f1 109 (by omega) (by omega), if_pos ((okR_neg w2 (by omega)).1.mpr c2)]
      exact k2 (by omega)
    · have c2' : ¬ M 109 (16 * k + q) < 0 := fun hc => c2 ((okR_neg w2 (by omega)).1.mp hc)
      have v1 := (wv_eq (M' := M) hk hq rfl (vq q hq)).1
      by_cases c3 : bt (M (b + 5) 16) q = true
      · refine ⟨1, by omega, by rw [if_pos (by simp [c1]; rfl), if_neg c2, v1, c3]; rfl, fun h => by omega, fun N f1 f2 f3 f4 f5 K k1 k2 => ?_⟩
        have v2 := (wv_eq (M' := N) hk hq (by rw [f1 113 (by omega) (by omega)]) (vq q hq)).2
        rw [gk, ek, f1 106 (by omega) (by omega), if_pos c1', at16, gq, eq', f1 109 (by omega) (by omega), if_neg c2', gq, v2, c3, if_neg (by decide)]
        exact k2 (by omega)
      · have c3' : bt (M (b + 5) 16) q = false := by simpa using c3
        obtain ⟨y, y1, -⟩ := lt_eq (M' := jr M 66 (fun _ => nI dn)) (dn := dn) hk hq (fun a _ _ => jr_ne _ _ (by omega)) (by rw [jr_at]) (vq q hq) c2
        have yN : ∀ N : JI, (∀ a, 96 ≤ a → a ≤ 113 → N a = M a) → N 66 8 = nI dn → fX12_isLate (nI (16 * k + q)) N = some (bI y) := by
          intro N f1 f2
          obtain ⟨y', a1, a2⟩ := lt_eq (M' := N) (dn := dn) hk hq f1 f2 (vq q hq) c2
          rw [y1] at a1
          rw [a2, ← a1]
        cases y with
        | true =>
          refine ⟨2, by omega, by rw [if_pos (by simp [c1]; rfl), if_neg c2, v1, c3', Option.bind_some, if_pos (by decide), y1, Option.bind_some, if_neg (by decide)]; rfl, fun h => by omega, fun N f1 f2 f3 f4 f5 K k1 k2 => ?_⟩
          have v2 := (wv_eq (M' := N) hk hq (by rw [f1 113 (by omega) (by omega)]) (vq q hq)).2
          rw [gk, ek, f1 106 (by omega) (by omega), if_pos c1', at16, gq, eq', f1 109 (by omega) (by omega), if_neg c2', gq, v2, c3', if_pos (by decide), yN N f1 f2, Option.bind_some, if_neg (by decide)]
          exact k2 (by omega)
        | false =>
          obtain ⟨z, z1, -⟩ := beh_loop (M' := jr M 66 (fun _ => nI dn)) (coin := coin) hk hq (fun a _ _ => jr_ne _ _ (by omega)) (by rw [jr_at]) vq 16 0 (by omega) 100000 (by omega)
          have zN : ∀ N : JI, (∀ a, 96 ≤ a → a ≤ 113 → N a = M a) → N 66 8 = nI dn → fX12_claim_85 100000 (nI k) (nI q) coin (nI (16 * k + q)) (nI (16 * k + 0)) N = if z then some (nI 3, N) else fX12_claim_151 (nI k) (nI q) coin N := by
            intro N f1 f2
            obtain ⟨z', a1, a2⟩ := beh_loop (M' := N) (coin := coin) hk hq f1 f2 vq 16 0 (by omega) 100000 (by omega)
            rw [z1] at a1
            have : z = z' := by
              cases z <;> cases z' <;> first | rfl | exact absurd a1 (by decide)
            rw [a2, this]
          have z1' : fX7_isBehindAnother b (nI q) (nI dn) M = some (bI z) := z1
          have pre : ∀ N : JI, (∀ a, 96 ≤ a → a ≤ 113 → N a = M a) → N 66 8 = nI dn → (j_g (j_in (nI k) 40) (if (N 106 (nI k).toNatClampNeg) < 0 then (j_g (j_in (((16 : Int32) * nI k) + nI q) 640) (if (N 109 (((16 : Int32) * nI k) + nI q).toNatClampNeg) < 0 then (some ((1 : Int32), N)) else (j_g (j_in (((16 : Int32) * nI k) + nI q) 640) (if (jm_b01 (N 113 (((16 : Int32) * nI k) + nI q).toNatClampNeg)) = 0 then ((fX12_isLate (((16 : Int32) * nI k) + nI q) N).bind (fun q3 => if q3 = 0 then (fX12_claim_85 100000 (nI k) (nI q) coin (((16 : Int32) * nI k) + nI q) ((16 : Int32) * nI k) N) else (some ((2 : Int32), N)))) else (some ((1 : Int32), N)))))) else (some ((6 : Int32), N)))) = if z then some (nI 3, N) else fX12_claim_151 (nI k) (nI q) coin N := by
            intro N f1 f2
            have v2 := (wv_eq (M' := N) hk hq (by rw [f1 113 (by omega) (by omega)]) (vq q hq)).2
            rw [gk, ek, f1 106 (by omega) (by omega), if_pos c1', at16, gq, eq', f1 109 (by omega) (by omega), if_neg c2', gq, v2, c3', if_pos (by decide), yN N f1 f2, Option.bind_some, if_pos (by decide), e160, zN N f1 f2]
          cases z with
          | true =>
            refine ⟨3, by omega, by rw [if_pos (by simp [c1]; rfl), if_neg c2, v1, c3', Option.bind_some, if_pos (by decide), y1, Option.bind_some, if_pos (by decide), z1', Option.bind_some, if_neg (by decide)]; rfl, fun h => by omega, fun N f1 f2 f3 f4 f5 K k1 k2 => ?_⟩
            refine (pre N f1 f2).trans ?_
            exact k2 (by omega)
          | false =>
            obtain ⟨px, hpx, p1, -⟩ := pr_eq (M' := M) hk (fun a _ _ => rfl) V0
            have pN : ∀ N : JI, (∀ a, 96 ≤ a → a ≤ 113 → N a = M a) → fX12_askedPrice (nI k) N = some (nI px) := by
              intro N f1
              obtain ⟨px', _, a1, a2⟩ := pr_eq (M' := N) hk f1 V0
              rw [p1] at a1
              rw [a2, ← a1]
            have cls : ∀ K : Option Int32, (if nI px ≤ coin then (if nI w ≤ nI (h p g) then some (0 : Int32) else some (5 : Int32)) else some (4 : Int32)) = K → (if bI (!decide (M 106 k = -nI 1)) = 0 then (if M 109 (16 * k + q) = -nI 1 then (some (nI 1)) else ((fX7_isWaived b (nI q) M).bind (fun q2 => if q2 = 0 then ((fX7_isLate b (nI q) (nI dn) M).bind (fun q3 => if q3 = 0 then ((fX7_isBehindAnother b (nI q) (nI dn) M).bind (fun q4 => if q4 = 0 then ((fX7_priceAsked b M).bind (fun q5 => if q5 ≤ coin then ((fX1_of 7 (M (b + 1) 0) (M (b + 1) 2) M).bind (fun q6 => if (M (b + 1) 3) ≤ q6 then (some ((0 : Int32))) else (some ((5 : Int32))))) else (some ((4 : Int32))))) else (some ((3 : Int32))))) else (some ((2 : Int32))))) else (some (nI 1))))) else (some ((6 : Int32)))) = K := by
              intro K hK
              rw [if_pos (by simp [c1]; rfl), if_neg c2, v1, c3', Option.bind_some, if_pos (by decide), y1, Option.bind_some, if_pos (by decide), z1', Option.bind_some, if_pos (by decide), p1, Option.bind_some, ep', eg', ew', of_eq (M := M) (t := 7) h8 hp hg, Option.bind_some]
              exact hK
            have ref : ∀ N : JI, (∀ a, 96 ≤ a → a ≤ 113 → N a = M a) → twRep (N 68) h → fX12_claim_151 (nI k) (nI q) coin N = if nI px ≤ coin then (if nI w ≤ nI (h p g) then ((fX12_moves (nI p) (nI g) (nI q) (nI w) N).bind (fun q6 => some ((0 : Int32), (j_up q6 106 k (nI q))))) else some ((5 : Int32), N)) else some ((4 : Int32), N) := by
              intro N f1 f3
              unfold fX12_claim_151
              rw [pN N f1, Option.bind_some, gk, gk, gk, gk, gk, gk, ek, f1 96 (by omega) (by omega), f1 98 (by omega) (by omega), f1 99 (by omega) (by omega), ep, eg, ew, at16, jg_in (by omega) (by decide), nI_clamp (by omega), f3 p g hp hg]
              simp only [gk]
            by_cases c4 : nI px ≤ coin
            · have hle := hb12 p g hp hg
              by_cases c5 : w ≤ h p g
              · refine ⟨0, by omega, cls _ (by rw [if_pos c4, if_pos (nI_le c5 (by omega))]; rfl), fun _ => ⟨c2, c5⟩, fun N f1 f2 f3 f4 f5 K k1 k2 => ?_⟩
                refine (pre N f1 f2).trans ?_
                rw [if_neg (by simp), ref N f1 f3, if_pos c4, if_pos (nI_le c5 (by omega))]
                exact k1 rfl
              · refine ⟨5, by omega, cls _ (by rw [if_pos c4, if_neg (nI_ge (by omega) (by omega))]; rfl), fun h => by omega, fun N f1 f2 f3 f4 f5 K k1 k2 => ?_⟩
                refine (pre N f1 f2).trans ?_
                rw [if_neg (by simp), ref N f1 f3, if_pos c4, if_neg (nI_ge (by omega) (by omega))]
                exact k2 (by omega)
            · refine ⟨4, by omega, cls _ (by rw [if_neg c4]; rfl), fun h => by omega, fun N f1 f2 f3 f4 f5 K k1 k2 => ?_⟩
              refine (pre N f1 f2).trans ?_
              rw [if_neg (by simp), ref N f1 f3, if_neg c4]
              exact k2 (by omega)
  · have c1' : ¬ M 106 k < 0 := fun hc => c1 ((okR_neg t2 (by omega)).1.mp hc)
    refine ⟨6, by omega, by rw [if_neg (by simp [c1]; decide)]; rfl, fun h => by omega, fun N f1 f2 f3 f4 f5 K k1 k2 => ?_⟩
    rw [gk, ek, f1 106 (by omega) (by omega), if_neg c1']
    exact k2 (by omega)

theorem op_claim {n : Nat} {M : JI} {L : JL} {D : JG} {S : JS} (h : Inv n M L D S) (hn : n < 4096) (x y z : Int32) : ∃ r M1 M2, fX11_claim x y z M D S = some (r, M1) ∧ fX12_claim x y z M1 = some (r, M2) ∧ Inv (n + 1) M2 L D S := by
  have hh := h
  obtain ⟨h1, h2, h3, h4, h5, h6, h7, h8, h9, h10, h11, h12, h13, h14, h15, h16, h17, h18, h19⟩ := hh
  have no : ∀ r, fX11_claim x y z M D S = some (r, M) → fX12_claim x y z M = some (r, j_up M 66 0 (nI 0)) → ∃ r M1 M2, fX11_claim x y z M D S = some (r, M1) ∧ fX12_claim x y z M1 = some (r, M2) ∧ Inv (n + 1) M2 L D S := fun r a b => ⟨_, _, _, a, b, inv_thr h _⟩
  rcases pa_cases h13 h16 x with ⟨x1, x2⟩ | ⟨m, k, b, hm, e0, hk, rfl, hb, h137, hS, x1, x2, V⟩
  · exact no (-nI 1) (by unfold fX11_claim; rw [x1]; rfl) (by unfold fX12_claim; rw [x2 _ (ju_cell _ _ (by omega))]; rfl)
  · rcases ps_cases y with ⟨y1, y2⟩ | ⟨q, hq, rfl, y1, y2⟩
    · exact no (-nI 1) (by unfold fX11_claim; rw [x1, Option.bind_some, jo_s, jg_d hS, y1]; rfl) (by unfold fX12_claim; rw [x2 _ (ju_cell _ _ (by omega)), y2]; rfl)
    · by_cases c0 : 0 ≤ z
      · have V0 := V
        obtain ⟨⟨p, hp, ep, ep'⟩, v2, ⟨g, hg, eg, eg'⟩, ⟨w, hw1, hw2, ew, ew'⟩, v5, v6, v7, v8, v9, v10, ⟨t1, t2⟩, v12, s, es, vq⟩ := V
        obtain ⟨e9, dn, hdn, edn⟩ := h9
        obtain ⟨c, hc, j1, j2, j3⟩ := cl_eq (M := M) (coin := z) (dn := dn) (h := hN (M 68)) (show k < 40 by omega) hq hp hg hw2 ep ep' eg eg' ew ew' h3.1 (fun p q a b => (h2.1 p q a b).2) V0
        by_cases hc0 : c = 0
        · obtain ⟨i1, i2⟩ := j2 hc0
          have hgq : g ≠ q := by
            have := ((vq q hq).2.2.2.2.2 i1).2
            obtain ⟨_, _, _, _, _, hne⟩ := this
            intro e
            apply hne
            rw [eg, e]
          have hle12 := (h2.1 p g hp hg).2
          have hle12q := (h2.1 p q hp hq).2
          obtain ⟨r1, r2, r3, r4, a1, a2⟩ := hdr_move (M := j_up M 1 9 (M 1 9 + nI 1)) (t := 7) (h := hN (M 68)) (by simpa (disch := omega) only [ju_row, ju_cell, ju_cell2, ju_same, jr_ne, jr_at, jr_at2, jr_ne2, rE_up, rD_up, rP_up, rM_up, rH_up, rL_up, rE_jr, rD_jr, rP_jr, rM_jr, rH_jr, rL_jr] using h3) hp hg hq hgq i2 (by omega) (by omega)
          obtain ⟨r, b1, b2⟩ := rfr_moves (M := j_up (j_up (jr4 (j_up M 1 9 (M 1 9 + nI 1)) 7 r1 r2 r3 r4) (b + 5) 17 (nI q)) 66 0 (nI 0)) (h := hN (M 68)) (by unfold jr4; simp (disch := omega) only [ju_row, ju_cell, ju_cell2, ju_same, jr_ne, jr_at, jr_at2, jr_ne2, rE_up, rD_up, rP_up, rM_up, rH_up, rL_up, rE_jr, rD_jr, rP_jr, rM_jr, rH_jr, rL_jr]; exact tw_rep h2) hp hg hq hgq i2
          obtain ⟨q1, q2⟩ := mv_fin h2 hp hg hq hgq i2 b2
          refine ⟨nI 0, j_up (jr4 (j_up M 1 9 (M 1 9 + nI 1)) 7 r1 r2 r3 r4) (b + 5) 17 (nI q), j_up (jr (j_up (j_up (jr4 (j_up M 1 9 (M 1 9 + nI 1)) 7 r1 r2 r3 r4) (b + 5) 17 (nI q)) 66 0 (nI 0)) 68 r) 106 k (nI q), ?_, ?_, ?_⟩
          · unfold fX11_claim
            rw [x1, Option.bind_some, jo_s, jg_d hS, y1, Option.bind_some, if_neg (by decide), if_pos c0, edn, j1, hc0, Option.bind_some, if_pos (by decide), ju_row _ _ (show b + 1 ≠ 1 by omega), ep', eg', ew']
            have a1' : fX1_move 7 (nI p) (nI g) (nI q) (nI w) (j_up M 1 9 (M 1 9 + (1 : Int32))) = _ := a1
            rw [a1', Option.bind_some]
            have g17 : ∀ {α : Type} (z : Option α), j_g (j_in (17 : Int32) 19) z = z := fun z => jg_in (k := 17) (by omega) (by decide)
            rw [g17]; rfl
          · unfold fX12_claim
            rw [x2 _ (by rw [ju_cell _ _ (by omega), ju_row _ _ (by omega)]; unfold jr4; simp (disch := omega) only [ju_row, ju_cell, ju_cell2, ju_same, jr_ne, jr_at, jr_at2, jr_ne2, rE_up, rD_up, rP_up, rM_up, rH_up, rL_up, rE_jr, rD_jr, rP_jr, rM_jr, rH_jr, rL_jr]), Option.bind_some, if_neg (by decide), y2, Option.bind_some, if_neg (by decide), if_pos c0]
            refine j3 _ (fun a h1 h2 => ?_) ?_ ?_ ?_ y2 _ (fun _ => ?_) (fun h => absurd hc0 h)
            · rw [ju_row _ _ (by omega), ju_row _ _ (by omega)]; unfold jr4; simp (disch := omega) only [ju_row, ju_cell, ju_cell2, ju_same, jr_ne, jr_at, jr_at2, jr_ne2, rE_up, rD_up, rP_up, rM_up, rH_up, rL_up, rE_jr, rD_jr, rP_jr, rM_jr, rH_jr, rL_jr]
            · rw [ju_cell _ _ (by omega), ju_row _ _ (by omega)]; unfold jr4; simp (disch := omega) only [ju_row, ju_cell, ju_cell2, ju_same, jr_ne, jr_at, jr_at2, jr_ne2, rE_up, rD_up, rP_up, rM_up, rH_up, rL_up, rE_jr, rD_jr, rP_jr, rM_jr, rH_jr, rL_jr]
              rw [← e9, edn]
            · rw [ju_row _ _ (by omega), ju_row _ _ (by omega)]; unfold jr4; simp (disch := omega) only [ju_row, ju_cell, ju_cell2, ju_same, jr_ne, jr_at, jr_at2, jr_ne2, rE_up, rD_up, rP_up, rM_up, rH_up, rL_up, rE_jr, rD_jr, rP_jr, rM_jr, rH_jr, rL_jr]
              exact tw_rep h2
            · exact x2 _ (by rw [ju_cell _ _ (by omega), ju_row _ _ (by omega)]; unfold jr4; simp (disch := omega) only [ju_row, ju_cell, ju_cell2, ju_same, jr_ne, jr_at, jr_at2, jr_ne2, rE_up, rD_up, rP_up, rM_up, rH_up, rL_up, rE_jr, rD_jr, rP_jr, rM_jr, rH_jr, rL_jr])
            · have b1' : fX12_moves (nI p) (nI g) (nI q) (nI w) (j_up (j_up (jr4 (j_up M 1 9 (M 1 9 + nI 1)) 7 r1 r2 r3 r4) (b + 5) 17 (nI q)) 66 0 (0 : Int32)) = _ := b1
              rw [b1']; rfl
          · generalize hM2 : j_up (jr (j_up (j_up (jr4 (j_up M 1 9 (M 1 9 + nI 1)) 7 r1 r2 r3 r4) (b + 5) 17 (nI q)) 66 0 (nI 0)) 68 r) 106 k (nI q) = M2
            have ro : ∀ a, a ≠ b + 5 → (137 ≤ a ∨ (96 ≤ a ∧ a ≤ 113)) → a ≠ 106 → M2 a = M a := by
              intro a h1 h2 h3
              rw [← hM2, ju_row _ _ (by omega), jr_ne _ _ (by omega), ju_row _ _ (by omega), ju_row _ _ (by omega)]; unfold jr4; simp (disch := omega) only [ju_row, ju_cell, ju_cell2, ju_same, jr_ne, jr_at, jr_at2, jr_ne2, rE_up, rD_up, rP_up, rM_up, rH_up, rL_up, rE_jr, rD_jr, rP_jr, rM_jr, rH_jr, rL_jr]
            have r5 : ∀ j, M2 (b + 5) j = if j = 17 then nI q else M (b + 5) j := by
              intro j
              rw [← hM2, ju_row _ _ (by omega), jr_ne _ _ (by omega), ju_row _ _ (by omega), ju_at]
              unfold jr4; simp (disch := omega) only [ju_row, ju_cell, ju_cell2, ju_same, jr_ne, jr_at, jr_at2, jr_ne2, rE_up, rD_up, rP_up, rM_up, rH_up, rL_up, rE_jr, rD_jr, rP_jr, rM_jr, rH_jr, rL_jr]
            have r106 : ∀ j, M2 106 j = if j = k then nI q else M 106 j := by
              intro j
              rw [← hM2, ju_at]
              show (if j = k then nI q else _) = _
              rw [jr_ne _ _ (by omega), ju_row _ _ (by omega), ju_row _ _ (by omega)]
              unfold jr4; simp (disch := omega) only [ju_row, ju_cell, ju_cell2, ju_same, jr_ne, jr_at, jr_at2, jr_ne2, rE_up, rD_up, rP_up, rM_up, rH_up, rL_up, rE_jr, rD_jr, rP_jr, rM_jr, rH_jr, rL_jr]
            have self : vP1 k (M2 b) (M2 (b + 1)) (M2 (b + 2)) (M2 (b + 3)) (M2 (b + 4)) (M2 (b + 5)) M2 := by
              unfold vP1
              rw [ro 96 (by omega) (by omega) (by omega), ro 97 (by omega) (by omega) (by omega), ro 98 (by omega) (by omega) (by omega), ro 99 (by omega) (by omega) (by omega), ro 100 (by omega) (by omega) (by omega), ro 101 (by omega) (by omega) (by omega), ro 102 (by omega) (by omega) (by omega), ro 103 (by omega) (by omega) (by omega), ro 104 (by omega) (by omega) (by omega), ro 105 (by omega) (by omega) (by omega), ro 107 (by omega) (by omega) (by omega), ro 108 (by omega) (by omega) (by omega), ro b (by omega) (by omega) (by omega), ro (b + 1) (by omega) (by omega) (by omega), ro (b + 2) (by omega) (by omega) (by omega), ro (b + 3) (by omega) (by omega) (by omega), ro (b + 4) (by omega) (by omega) (by omega), r106, if_pos rfl, r5 18, r5 17, if_pos rfl, if_neg (by omega)]
              refine ⟨⟨p, hp, ep, ep'⟩, v2, ⟨g, hg, eg, eg'⟩, ⟨w, hw1, hw2, ew, ew'⟩, v5, v6, v7, v8, v9, v10, ⟨rfl, Or.inr ⟨q, hq, rfl⟩⟩, v12, s, es, fun q' hq' => ?_⟩
              have vv := vq q' hq'
              unfold vP2 at vv ⊢
              rw [ro 109 (by omega) (by omega) (by omega), ro 110 (by omega) (by omega) (by omega), ro 111 (by omega) (by omega) (by omega), ro 112 (by omega) (by omega) (by omega), ro 113 (by omega) (by omega) (by omega), r5 q', r5 16, if_neg (show ¬ q' = 17 by omega), if_neg (by omega)]
              exact vv
            obtain ⟨s1, s2, s3⟩ := st_set h13 h16 (show k < 40 by omega) hb h137 (M2 := M2) (fun a h1 h2 => ro a h2 (by omega) (by omega)) (fun a j h1 h2 h3 => by
              by_cases e : a = 106
              · subst e; rw [r106, if_neg h3]
              · rw [ro a (by omega) (by omega) e]) (fun a j q' h1 h2 h3 h4 => by rw [ro a (by omega) (by omega) (by omega)]) self
            have h9 : vNow (M 1 8) (M 66 8) := ⟨e9, dn, hdn, edn⟩
            subst hM2
            unfold jr4 at s1 s2 s3 ⊢
            rw [show 7 + 1 = 8 from rfl, show 7 + 2 = 9 from rfl, show 7 + 3 = 10 from rfl, show 7 + 4 = 11 from rfl] at s1 s2 s3 ⊢
            refine ⟨(by simpa (disch := omega) only [ju_row, ju_cell, ju_cell2, ju_same, jr_ne, jr_at, jr_at2, jr_ne2, rE_up, rD_up, rP_up, rM_up, rH_up, rL_up, rE_jr, rD_jr, rP_jr, rM_jr, rH_jr, rL_jr] using h1), ?_, ?_, (by simpa (disch := omega) only [ju_row, ju_cell, ju_cell2, ju_same, jr_ne, jr_at, jr_at2, jr_ne2, rE_up, rD_up, rP_up, rM_up, rH_up, rL_up, rE_jr, rD_jr, rP_jr, rM_jr, rH_jr, rL_jr] using h4), (by simpa (disch := omega) only [ju_row, ju_cell, ju_cell2, ju_same, jr_ne, jr_at, jr_at2, jr_ne2, rE_up, rD_up, rP_up, rM_up, rH_up, rL_up, rE_jr, rD_jr, rP_jr, rM_jr, rH_jr, rL_jr] using h5), (by simpa (disch := omega) only [ju_row, ju_cell, ju_cell2, ju_same, jr_ne, jr_at, jr_at2, jr_ne2, rE_up, rD_up, rP_up, rM_up, rH_up, rL_up, rE_jr, rD_jr, rP_jr, rM_jr, rH_jr, rL_jr] using h6), (by simpa (disch := omega) only [ju_row, ju_cell, ju_cell2, ju_same, jr_ne, jr_at, jr_at2, jr_ne2, rE_up, rD_up, rP_up, rM_up, rH_up, rL_up, rE_jr, rD_jr, rP_jr, rM_jr, rH_jr, rL_jr] using h7), (by simpa (disch := omega) only [ju_row, ju_cell, ju_cell2, ju_same, jr_ne, jr_at, jr_at2, jr_ne2, rE_up, rD_up, rP_up, rM_up, rH_up, rL_up, rE_jr, rD_jr, rP_jr, rM_jr, rH_jr, rL_jr] using h8), (by simpa (disch := omega) only [ju_row, ju_cell, ju_cell2, ju_same, jr_ne, jr_at, jr_at2, jr_ne2, rE_up, rD_up, rP_up, rM_up, rH_up, rL_up, rE_jr, rD_jr, rP_jr, rM_jr, rH_jr, rL_jr] using h9), (by simpa (disch := omega) only [ju_row, ju_cell, ju_cell2, ju_same, jr_ne, jr_at, jr_at2, jr_ne2, rE_up, rD_up, rP_up, rM_up, rH_up, rL_up, rE_jr, rD_jr, rP_jr, rM_jr, rH_jr, rL_jr] using h10), (by simpa (disch := omega) only [ju_row, ju_cell, ju_cell2, ju_same, jr_ne, jr_at, jr_at2, jr_ne2, rE_up, rD_up, rP_up, rM_up, rH_up, rL_up, rE_jr, rD_jr, rP_jr, rM_jr, rH_jr, rL_jr] using (vChg_up h11 hn)), (by simpa (disch := omega) only [ju_row, ju_cell, ju_cell2, ju_same, jr_ne, jr_at, jr_at2, jr_ne2, rE_up, rD_up, rP_up, rM_up, rH_up, rL_up, rE_jr, rD_jr, rP_jr, rM_jr, rH_jr, rL_jr] using h12), ?_, ?_, ?_, (by simpa (disch := omega) only [ju_row, ju_cell, ju_cell2, ju_same, jr_ne, jr_at, jr_at2, jr_ne2, rE_up, rD_up, rP_up, rM_up, rH_up, rL_up, rE_jr, rD_jr, rP_jr, rM_jr, rH_jr, rL_jr] using (vOb_n h16)), (by simpa (disch := omega) only [ju_row, ju_cell, ju_cell2, ju_same, jr_ne, jr_at, jr_at2, jr_ne2, rE_up, rD_up, rP_up, rM_up, rH_up, rL_up, rE_jr, rD_jr, rP_jr, rM_jr, rH_jr, rL_jr] using (vC1_vac h11 hn)), (by simpa (disch := omega) only [ju_row, ju_cell, ju_cell2, ju_same, jr_ne, jr_at, jr_at2, jr_ne2, rE_up, rD_up, rP_up, rM_up, rH_up, rL_up, rE_jr, rD_jr, rP_jr, rM_jr, rH_jr, rL_jr] using (vC2_vac h11 hn)), (by simpa (disch := omega) only [ju_row, ju_cell, ju_cell2, ju_same, jr_ne, jr_at, jr_at2, jr_ne2, rE_up, rD_up, rP_up, rM_up, rH_up, rL_up, rE_jr, rD_jr, rP_jr, rM_jr, rH_jr, rL_jr] using (vC3_vac h11 hn))⟩
            · simp (disch := omega) only [ju_row, ju_cell, ju_cell2, ju_same, jr_ne, jr_at, jr_at2, jr_ne2, rE_up, rD_up, rP_up, rM_up, rH_up, rL_up, rE_jr, rD_jr, rP_jr, rM_jr, rH_jr, rL_jr]; exact q1
            · simp (disch := omega) only [ju_row, ju_cell, ju_cell2, ju_same, jr_ne, jr_at, jr_at2, jr_ne2, rE_up, rD_up, rP_up, rM_up, rH_up, rL_up, rE_jr, rD_jr, rP_jr, rM_jr, rH_jr, rL_jr]; exact q2 _ _ _ _ a2
            · simp (disch := omega) only [ju_row, ju_cell, ju_cell2, ju_same, jr_ne, jr_at, jr_at2, jr_ne2, rE_up, rD_up, rP_up, rM_up, rH_up, rL_up, rE_jr, rD_jr, rP_jr, rM_jr, rH_jr, rL_jr] at s1 ⊢; exact s1
            · have := s2 _ _ _ _ h14
              simp (disch := omega) only [ju_row, ju_cell, ju_cell2, ju_same, jr_ne, jr_at, jr_at2, jr_ne2, rE_up, rD_up, rP_up, rM_up, rH_up, rL_up, rE_jr, rD_jr, rP_jr, rM_jr, rH_jr, rL_jr] at this ⊢; exact this
            · have := s3 _ _ _ _ _ _ (vMk_n h15)
              simp (disch := omega) only [ju_row, ju_cell, ju_cell2, ju_same, jr_ne, jr_at, jr_at2, jr_ne2, rE_up, rD_up, rP_up, rM_up, rH_up, rL_up, rE_jr, rD_jr, rP_jr, rM_jr, rH_jr, rL_jr] at this ⊢; exact this
        · refine no (nI c) ?_ ?_
          · unfold fX11_claim
            rw [x1, Option.bind_some, jo_s, jg_d hS, y1, Option.bind_some, if_neg (by decide), if_pos c0, edn, j1, Option.bind_some, if_neg (show ¬ nI c = 0 from nI_ne0 (by omega) (by omega))]
          · unfold fX12_claim
            rw [x2 _ (by rw [ju_cell _ _ (by omega)]), Option.bind_some, if_neg (by decide), y2, Option.bind_some, if_neg (by decide), if_pos c0]
            refine j3 _ (fun a h1 h2 => ?_) ?_ ?_ ?_ y2 _ (fun h => absurd h hc0) (fun _ => rfl)
            · rw [ju_row _ _ (by omega)]
            · rw [ju_cell _ _ (by omega), ← e9, edn]
            · rw [ju_row _ _ (by omega)]; exact tw_rep h2
            · exact x2 _ (by rw [ju_cell _ _ (by omega)])
      · exact no (-nI 1) (by unfold fX11_claim; rw [x1, Option.bind_some, jo_s, jg_d hS, y1, Option.bind_some, if_neg (by decide), if_neg c0]; rfl) (by unfold fX12_claim; rw [x2 _ (ju_cell _ _ (by omega)), Option.bind_some, if_neg (by decide), y2, Option.bind_some, if_neg (by decide), if_neg c0]; rfl)
