/-! ===== feed ===== -/
def cS (v j : Nat) : Nat := v / 2 ^ (56 - 8 * j) % 256
def okC (c : Nat) : Bool := decide (c = 10) || (decide (32 ≤ c) && decide (c ≤ 126))
def stp (s : Nat × (Nat → Int32)) (c : Nat) : Nat × (Nat → Int32) := if s.1 < 1000 ∧ okC c = true then (s.1 + 1, fun i => if i = s.1 then nI c else s.2 i) else s
theorem sg_cls {v j : Nat} (hv : v < 2 ^ 64) (hj : j < 8) : (((lN v).toUInt64 >>> ((nI (56 - 8 * j)).toInt64.toUInt64 &&& Int64.toUInt64 63)).toInt64.toInt32 &&& (255 : Int32)) = nI (cS v j) := by
  rw [wb_shr hv (by omega), lN_i]
  exact fa_mask _ 8
theorem sg_ref {v k : Nat} (hv : v < 2 ^ 64) : (((lN v).toUInt64 >>> (((56 : Int32) - ((8 : Int32) * (nI k &&& (7 : Int32)))).toInt64.toUInt64 &&& Int64.toUInt64 63)).toInt64 &&& (255 : Int64)).toInt32 = nI (cS v (k % 8)) := by
  have e1 : nI k &&& (7 : Int32) = nI (k % 8) := fa_mask k 3
  have e2 : (56 : Int32) - ((8 : Int32) * nI (k % 8)) = nI (56 - 8 * (k % 8)) := by
    show nI 56 - nI 8 * nI (k % 8) = _
    rw [pk_mul]
    exact pk_sub (by omega)
  rw [e1, e2, wb_shr hv (by omega)]
  have e3 : ∀ x, lN x &&& (255 : Int64) = lN (x % 256) := fun x => fb_maskL x 8
  rw [e3, lN_i]; rfl
theorem cS_lt (v j : Nat) : cS v j < 256 := Nat.mod_lt _ (by omega)
/-- the memory with this tape on it -/
def tC (M : JI) (s : Nat × (Nat → Int32)) : JI := j_up (jr M 13 s.2) 12 1 (nI s.1)
def tR (M : JI) (s : Nat × (Nat → Int32)) : JI := j_up (jr M 74 s.2) 66 9 (nI s.1)
theorem tC_id {M : JI} {m : Nat} (h : M 12 1 = nI m) : tC M (m, M 13) = M := by
  funext a k
  unfold tC
  by_cases e : a = 12 ∧ k = 1
  · rw [e.1, e.2, ju_same, h]
  · rw [j_up_ne _ _ e]
    by_cases e2 : a = 13
    · subst e2; rw [jr_at]
    · rw [jr_ne _ _ e2]
theorem tR_id {M : JI} {m : Nat} (h : M 66 9 = nI m) : tR M (m, M 74) = M := by
  funext a k
  unfold tR
  by_cases e : a = 66 ∧ k = 9
  · rw [e.1, e.2, ju_same, h]
  · rw [j_up_ne _ _ e]
    by_cases e2 : a = 74
    · subst e2; rw [jr_at]
    · rw [jr_ne _ _ e2]
theorem tC_up (M : JI) (s : Nat × (Nat → Int32)) (x : Int32) : j_up (j_up (tC M s) 13 s.1 x) 12 1 (nI (s.1 + 1)) = tC M (s.1 + 1, fun i => if i = s.1 then x else s.2 i) := by
  funext a k
  unfold tC
  by_cases e : a = 12 ∧ k = 1
  · rw [e.1, e.2, ju_same, ju_same]
  · rw [j_up_ne _ _ e, j_up_ne _ _ e]
    by_cases e2 : a = 13
    · subst e2
      rw [ju_at, jr_at]
      show (if k = s.1 then x else _) = _
      rw [ju_row _ _ (by omega), jr_at]
    · rw [ju_row _ _ e2, j_up_ne _ _ e, jr_ne _ _ e2, jr_ne _ _ e2]
theorem tR_up (M : JI) (s : Nat × (Nat → Int32)) (x : Int32) : j_up (j_up (tR M s) 74 s.1 x) 66 9 (nI (s.1 + 1)) = tR M (s.1 + 1, fun i => if i = s.1 then x else s.2 i) := by
  funext a k
  unfold tR
  by_cases e : a = 66 ∧ k = 9
  · rw [e.1, e.2, ju_same, ju_same]
  · rw [j_up_ne _ _ e, j_up_ne _ _ e]
    by_cases e2 : a = 74
    · subst e2
      rw [ju_at, jr_at]
      show (if k = s.1 then x else _) = _
      rw [ju_row _ _ (by omega), jr_at]
    · rw [ju_row _ _ e2, j_up_ne _ _ e, jr_ne _ _ e2, jr_ne _ _ e2]
theorem stp_le {s : Nat × (Nat → Int32)} (h : s.1 ≤ 1000) (c : Nat) : (stp s c).1 ≤ 1000 := by
  unfold stp
  split
  · show s.1 + 1 ≤ 1000; omega
  · exact h
theorem wr_loop (M : JI) {v : Nat} (hv : v < 2 ^ 64) : ∀ d j, j + d = 8 → ∀ n, d < n → ∀ s : Nat × (Nat → Int32), s.1 ≤ 1000 → fX8_write_3 n (lN v) (nI 56 - nI (8 * j)) (tC M s) = some (tC M (((List.range' j d).map (cS v)).foldl stp s)) := by
  intro d
  induction d with
  | zero =>
    intro j hj n hn s hs
    obtain ⟨n', rfl⟩ := suc_of hn
    have : j = 8 := by omega
    subst this
    rw [fX8_write_3, if_pos (by decide)]; rfl
  | succ d ih =>
    intro j hj n hn s hs
    obtain ⟨n', rfl⟩ := suc_of hn
    have e0 : nI 56 - nI (8 * j) = nI (56 - 8 * j) := pk_sub (by omega)
    have e8 : nI (56 - 8 * j) + (-8 : Int32) = nI 56 - nI (8 * (j + 1)) := by
      rw [← e0]
      have : nI (8 * (j + 1)) = nI (8 * j) + 8 := by
        show _ = nI (8 * j) + nI 8
        rw [nI_add]; rfl
      rw [this, Int32.sub_eq_add_neg, Int32.sub_eq_add_neg, Int32.neg_add, Int32.add_assoc, Int32.sub_eq_add_neg]
    have hlen : (tC M s) 12 1 = nI s.1 := ju_same _ _ _ _
    have hrec := fun s' hs' => ih (j + 1) (by omega) n' (by omega) s' hs'
    rw [List.range'_succ, List.map_cons, List.foldl_cons]
    have hnext := hrec (stp s (cS v j)) (stp_le hs _)
    rw [fX8_write_3, e0, if_neg (show ¬ nI (56 - 8 * j) < 0 from nI_pos (by omega)), hlen, e8, sg_cls hv (by omega)]
    have hc := cS_lt v j
    have skip : (¬ (s.1 < 1000 ∧ okC (cS v j) = true)) → stp s (cS v j) = s := fun h => by unfold stp; rw [if_neg h]
    have take : (s.1 < 1000) → okC (cS v j) = true → cS v j ≤ 126 → fX8_write_48 (fX8_write_3 n') (lN v) (nI (56 - 8 * j)) (nI (cS v j)) (tC M s) = some (tC M (((List.range' (j + 1) d).map (cS v)).foldl stp (stp s (cS v j)))) := by
      intro h1 h2 h3
      unfold fX8_write_48
      have eb : (nI (cS v j)).toInt8.toInt32.toInt8.toInt32 = nI (cS v j) := by rw [fa_byte_small (by omega), fa_byte_small (by omega)]
      rw [hlen, jg_in h1 (by decide), nI_clamp (by omega), eb, ju_row _ _ (show (12 : Nat) ≠ 13 by omega), hlen, e8]
      have : nI s.1 + (1 : Int32) = nI (s.1 + 1) := nI_1 _
      rw [this, tC_up]
      have hst : stp s (cS v j) = (s.1 + 1, fun i => if i = s.1 then nI (cS v j) else s.2 i) := by unfold stp; rw [if_pos ⟨h1, h2⟩]
      rw [← hst]
      exact hnext
    by_cases h1 : s.1 < 1000
    · rw [if_neg (show ¬ (1000 : Int32) ≤ nI s.1 from nI_ge (b := 1000) h1 (by omega))]
      by_cases c1 : cS v j = 10
      · rw [if_pos (show nI (cS v j) = (10 : Int32) by rw [c1]; rfl)]
        exact take h1 (by unfold okC; simp [c1]) (by omega)
      · rw [if_neg (show ¬ nI (cS v j) = (10 : Int32) from fun e => c1 ((nI_eq (b := 10) (by omega) (by omega)).mp e))]
        by_cases c2 : cS v j < 32
        · rw [if_pos (show nI (cS v j) < (32 : Int32) from nI_lt (b := 32) c2 (by omega))]
          rw [skip (by unfold okC; simp [c1]; omega)] at hnext ⊢
          exact hnext
        · rw [if_neg (show ¬ nI (cS v j) < (32 : Int32) from nI_nlt (b := 32) (by omega) (by omega))]
          by_cases c3 : 126 < cS v j
          · rw [if_pos (show (126 : Int32) < nI (cS v j) from nI_lt (a := 126) c3 (by omega))]
            rw [skip (by unfold okC; simp [c1]; omega)] at hnext ⊢
            exact hnext
          · rw [if_neg (show ¬ (126 : Int32) < nI (cS v j) from nI_nlt (a := 126) (by omega) (by omega))]
            exact take h1 (by unfold okC; simp; omega) (by omega)
    · rw [if_pos (show (1000 : Int32) ≤ nI s.1 from nI_le (a := 1000) (by omega) (by omega))]
      rw [skip (by omega)] at hnext ⊢
      exact hnext
def sgN (a b c k : Nat) : Nat := cS (if k < 8 then a else if k < 16 then b else c) (k % 8)
theorem rf_loop (M : JI) {a b c : Nat} (ha : a < 2 ^ 64) (hb : b < 2 ^ 64) (hc : c < 2 ^ 64) : ∀ d k, k + d = 24 → ∀ n, d < n → ∀ s : Nat × (Nat → Int32), s.1 ≤ 1000 → fX12_feed_8 n (lN a) (lN b) (lN c) (nI k) (tR M s) = some (nI (((List.range' k d).map (sgN a b c)).foldl stp s).1, tR M (((List.range' k d).map (sgN a b c)).foldl stp s)) := by
  intro d
  induction d with
  | zero =>
    intro k hk n hn s hs
    obtain ⟨n', rfl⟩ := suc_of hn
    have : k = 24 := by omega
    subst this
    have hlen : (tR M s) 66 9 = nI s.1 := ju_same _ _ _ _
    rw [fX12_feed_8, if_pos (by decide), hlen]; rfl
  | succ d ih =>
    intro k hk n hn s hs
    obtain ⟨n', rfl⟩ := suc_of hn
    have e1 : nI k + (1 : Int32) = nI (k + 1) := nI_1 k
    have hlen : (tR M s) 66 9 = nI s.1 := ju_same _ _ _ _
    rw [List.range'_succ, List.map_cons, List.foldl_cons]
    have hnext := ih (k + 1) (by omega) n' (by omega) (stp s (sgN a b c k)) (stp_le hs _)
    have core : ∀ v, v < 2 ^ 64 → sgN a b c k = cS v (k % 8) → fX12_feed_39 (fX12_feed_8 n') (lN a) (lN b) (lN c) (nI k) (lN v) (tR M s) = some (nI (((List.range' (k + 1) d).map (sgN a b c)).foldl stp (stp s (sgN a b c k))).1, tR M (((List.range' (k + 1) d).map (sgN a b c)).foldl stp (stp s (sgN a b c k)))) := by
      intro v hv ev
      unfold fX12_feed_39
      rw [hlen, e1, sg_ref hv, ← ev]
      have hcl : sgN a b c k < 256 := cS_lt _ _
      have skip : (¬ (s.1 < 1000 ∧ okC (sgN a b c k) = true)) → stp s (sgN a b c k) = s := fun h => by unfold stp; rw [if_neg h]
      have take : (s.1 < 1000) → okC (sgN a b c k) = true → fX12_feed_93 (fX12_feed_8 n') (lN a) (lN b) (lN c) (nI k) (nI (sgN a b c k)) (tR M s) = some (nI (((List.range' (k + 1) d).map (sgN a b c)).foldl stp (stp s (sgN a b c k))).1, tR M (((List.range' (k + 1) d).map (sgN a b c)).foldl stp (stp s (sgN a b c k)))) := by
        intro h1 h2
        unfold fX12_feed_93
        rw [hlen, jg_in h1 (by decide), nI_clamp (by omega), ju_row _ _ (show (66 : Nat) ≠ 74 by omega), hlen, e1]
        have : nI s.1 + (1 : Int32) = nI (s.1 + 1) := nI_1 _
        rw [this, tR_up]
        have hst : stp s (sgN a b c k) = (s.1 + 1, fun i => if i = s.1 then nI (sgN a b c k) else s.2 i) := by unfold stp; rw [if_pos ⟨h1, h2⟩]
        rw [← hst]
        exact hnext
      by_cases h1 : s.1 < 1000
      · rw [if_neg (show ¬ (1000 : Int32) ≤ nI s.1 from nI_ge (b := 1000) h1 (by omega))]
        by_cases c1 : sgN a b c k = 10
        · rw [if_pos (show nI (sgN a b c k) = (10 : Int32) by rw [c1]; rfl)]
          exact take h1 (by unfold okC; simp [c1])
        · rw [if_neg (show ¬ nI (sgN a b c k) = (10 : Int32) from fun e => c1 ((nI_eq (b := 10) (by omega) (by omega)).mp e))]
          by_cases c2 : sgN a b c k < 32
          · rw [if_pos (show nI (sgN a b c k) < (32 : Int32) from nI_lt (b := 32) c2 (by omega))]
            rw [skip (by unfold okC; simp [c1]; omega)] at hnext ⊢
            exact hnext
          · rw [if_neg (show ¬ nI (sgN a b c k) < (32 : Int32) from nI_nlt (b := 32) (by omega) (by omega))]
            by_cases c3 : 126 < sgN a b c k
            · rw [if_pos (show (126 : Int32) < nI (sgN a b c k) from nI_lt (a := 126) c3 (by omega))]
              rw [skip (by unfold okC; simp [c1]; omega)] at hnext ⊢
              exact hnext
            · rw [if_neg (show ¬ (126 : Int32) < nI (sgN a b c k) from nI_nlt (a := 126) (by omega) (by omega))]
              exact take h1 (by unfold okC; simp; omega)
      · rw [if_pos (show (1000 : Int32) ≤ nI s.1 from nI_le (a := 1000) (by omega) (by omega))]
        rw [skip (by omega)] at hnext ⊢
        exact hnext
    rw [fX12_feed_8, if_neg (show ¬ (24 : Int32) ≤ nI k from nI_ge (b := 24) (by omega) (by omega))]
    by_cases k8 : k < 8
    · rw [if_neg (show ¬ (8 : Int32) ≤ nI k from nI_ge (b := 8) (by omega) (by omega))]
      exact core a ha (by unfold sgN; rw [if_pos k8])
    · rw [if_pos (show (8 : Int32) ≤ nI k from nI_le (a := 8) (by omega) (by omega))]
      by_cases k16 : k < 16
      · rw [if_neg (show ¬ (16 : Int32) ≤ nI k from nI_ge (b := 16) (by omega) (by omega))]
        exact core b hb (by unfold sgN; rw [if_neg k8, if_pos k16])
      · rw [if_pos (show (16 : Int32) ≤ nI k from nI_le (a := 16) (by omega) (by omega))]
        exact core c hc (by unfold sgN; rw [if_neg k8, if_neg k16])
theorem fd_same : ∀ (l : List Nat) (s s' : Nat × (Nat → Int32)), s.1 = s'.1 → s.1 ≤ 1000 → (∀ k, k < s.1 → s.2 k = s'.2 k ∧ ∃ c, s'.2 k = nI c ∧ (c = 10 ∨ (32 ≤ c ∧ c ≤ 126))) → (l.foldl stp s).1 = (l.foldl stp s').1 ∧ (l.foldl stp s).1 ≤ 1000 ∧ ∀ k, k < (l.foldl stp s).1 → (l.foldl stp s).2 k = (l.foldl stp s').2 k ∧ ∃ c, (l.foldl stp s').2 k = nI c ∧ (c = 10 ∨ (32 ≤ c ∧ c ≤ 126)) := by
  intro l
  induction l with
  | nil => intro s s' h1 h2 h3; exact ⟨h1, h2, h3⟩
  | cons c l ih =>
    intro s s' h1 h2 h3
    rw [List.foldl_cons, List.foldl_cons]
    refine ih (stp s c) (stp s' c) ?_ (stp_le h2 c) ?_
    · unfold stp
      rw [← h1]
      split
      · rfl
      · exact h1
    · unfold stp
      rw [← h1]
      split
      · rename_i hc
        intro k hk
        have hk' : k < s.1 + 1 := hk
        show (if k = s.1 then nI c else s.2 k) = (if k = s.1 then nI c else s'.2 k) ∧ ∃ c', (if k = s.1 then nI c else s'.2 k) = nI c' ∧ _
        by_cases e : k = s.1
        · rw [if_pos e, if_pos e]
          refine ⟨rfl, c, rfl, ?_⟩
          have := hc.2
          unfold okC at this
          simp at this
          omega
        · rw [if_neg e, if_neg e]
          exact h3 k (by omega)
      · exact h3
theorem fd_le : ∀ (l : List Nat) (s : Nat × (Nat → Int32)), s.1 ≤ 1000 → (l.foldl stp s).1 ≤ 1000 := by
  intro l
  induction l with
  | nil => intro s h; exact h
  | cons c l ih => intro s h; rw [List.foldl_cons]; exact ih _ (stp_le h c)
theorem feed_core {n : Nat} {M : JI} {L : JL} {D : JG} {S : JS} (h : Inv n M L D S) {x y z : Int64} {l l1 l2 l3 : List Nat} (hl : l = l1 ++ (l2 ++ l3)) (w1 : ∀ s : Nat × (Nat → Int32), s.1 ≤ 1000 → fX8_write x (tC M s) = some (tC M (l1.foldl stp s))) (w2 : ∀ s : Nat × (Nat → Int32), s.1 ≤ 1000 → fX8_write y (tC M s) = some (tC M (l2.foldl stp s))) (w3 : ∀ s : Nat × (Nat → Int32), s.1 ≤ 1000 → fX8_write z (tC M s) = some (tC M (l3.foldl stp s))) (hr : ∀ (N : JI) (s : Nat × (Nat → Int32)), s.1 ≤ 1000 → fX12_feed_8 100000 x y z 0 (tR N s) = some (nI (l.foldl stp s).1, tR N (l.foldl stp s))) : ∃ r M1 M2, fX11_feed x y z M = some (r, M1) ∧ fX12_feed x y z M1 = some (r, M2) ∧ Inv (n + 1) M2 L D S := by
  obtain ⟨h1, h2, h3, h4, h5, h6, h7, h8, h9, h10, h11, h12, h13, h14, h15, h16, h17, h18, h19⟩ := h
  obtain ⟨m, hm, e1, e2, ht⟩ := h10
  obtain ⟨q1, q2, q3⟩ := fd_same l (m, M 13) (m, M 74) rfl hm ht
  have hcls : fX11_feed x y z M = some (nI (l.foldl stp (m, M 13)).1, tC M (l.foldl stp (m, M 13))) := by
    unfold fX11_feed
    have h1 := w1 (m, M 13) hm
    rw [tC_id e1] at h1
    rw [h1, Option.bind_some, w2 _ (fd_le _ _ hm), Option.bind_some, w3 _ (fd_le _ _ (fd_le _ _ hm)), Option.bind_some, hl, List.foldl_append, List.foldl_append]
    congr 2
  generalize hsC : l.foldl stp (m, M 13) = sC at q1 q2 q3 hcls
  have hN : (j_up (tC M sC) 66 0 (0 : Int32)) 66 9 = nI m := by
    rw [ju_cell _ _ (by omega)]; unfold tC; rw [ju_row _ _ (by omega), jr_ne _ _ (by omega), e2]
  have hN74 : (j_up (tC M sC) 66 0 (0 : Int32)) 74 = M 74 := by
    rw [ju_row _ _ (by omega)]; unfold tC; rw [ju_row _ _ (by omega), jr_ne _ _ (by omega)]
  have href : fX12_feed x y z (tC M sC) = some (nI (l.foldl stp (m, M 74)).1, tR (j_up (tC M sC) 66 0 (0 : Int32)) (l.foldl stp (m, M 74))) := by
    unfold fX12_feed
    have h1 := hr (j_up (tC M sC) 66 0 (0 : Int32)) (m, M 74) hm
    rw [← hN74, tR_id hN, hN74] at h1
    exact h1
  generalize hsR : l.foldl stp (m, M 74) = sR at q1 q3 href
  refine ⟨nI sC.1, tC M sC, tR (j_up (tC M sC) 66 0 (0 : Int32)) sR, hcls, ?_, ?_⟩
  · rw [href, q1]
  · have h10 : vTape sC.2 (nI sC.1) sR.2 (nI sR.1) := ⟨sC.1, q2, rfl, by rw [q1], q3⟩
    clear hcls href hsC hsR hr w1 w2 w3
    unfold tR tC
    refine ⟨(by simpa (disch := omega) only [ju_row, ju_cell, ju_cell2, ju_same, jr_ne, jr_at, jr_at2, jr_ne2, rE_up, rD_up, rP_up, rM_up, rH_up, rL_up, rE_jr, rD_jr, rP_jr, rM_jr, rH_jr, rL_jr] using h1), (by simpa (disch := omega) only [ju_row, ju_cell, ju_cell2, ju_same, jr_ne, jr_at, jr_at2, jr_ne2, rE_up, rD_up, rP_up, rM_up, rH_up, rL_up, rE_jr, rD_jr, rP_jr, rM_jr, rH_jr, rL_jr] using h2), (by simpa (disch := omega) only [ju_row, ju_cell, ju_cell2, ju_same, jr_ne, jr_at, jr_at2, jr_ne2, rE_up, rD_up, rP_up, rM_up, rH_up, rL_up, rE_jr, rD_jr, rP_jr, rM_jr, rH_jr, rL_jr] using h3), (by simpa (disch := omega) only [ju_row, ju_cell, ju_cell2, ju_same, jr_ne, jr_at, jr_at2, jr_ne2, rE_up, rD_up, rP_up, rM_up, rH_up, rL_up, rE_jr, rD_jr, rP_jr, rM_jr, rH_jr, rL_jr] using h4), (by simpa (disch := omega) only [ju_row, ju_cell, ju_cell2, ju_same, jr_ne, jr_at, jr_at2, jr_ne2, rE_up, rD_up, rP_up, rM_up, rH_up, rL_up, rE_jr, rD_jr, rP_jr, rM_jr, rH_jr, rL_jr] using h5), (by simpa (disch := omega) only [ju_row, ju_cell, ju_cell2, ju_same, jr_ne, jr_at, jr_at2, jr_ne2, rE_up, rD_up, rP_up, rM_up, rH_up, rL_up, rE_jr, rD_jr, rP_jr, rM_jr, rH_jr, rL_jr] using h6), (by simpa (disch := omega) only [ju_row, ju_cell, ju_cell2, ju_same, jr_ne, jr_at, jr_at2, jr_ne2, rE_up, rD_up, rP_up, rM_up, rH_up, rL_up, rE_jr, rD_jr, rP_jr, rM_jr, rH_jr, rL_jr] using h7), (by simpa (disch := omega) only [ju_row, ju_cell, ju_cell2, ju_same, jr_ne, jr_at, jr_at2, jr_ne2, rE_up, rD_up, rP_up, rM_up, rH_up, rL_up, rE_jr, rD_jr, rP_jr, rM_jr, rH_jr, rL_jr] using h8), (by simpa (disch := omega) only [ju_row, ju_cell, ju_cell2, ju_same, jr_ne, jr_at, jr_at2, jr_ne2, rE_up, rD_up, rP_up, rM_up, rH_up, rL_up, rE_jr, rD_jr, rP_jr, rM_jr, rH_jr, rL_jr] using h9), ?_, (by simpa (disch := omega) only [ju_row, ju_cell, ju_cell2, ju_same, jr_ne, jr_at, jr_at2, jr_ne2, rE_up, rD_up, rP_up, rM_up, rH_up, rL_up, rE_jr, rD_jr, rP_jr, rM_jr, rH_jr, rL_jr] using (vChg_n h11)), (by simpa (disch := omega) only [ju_row, ju_cell, ju_cell2, ju_same, jr_ne, jr_at, jr_at2, jr_ne2, rE_up, rD_up, rP_up, rM_up, rH_up, rL_up, rE_jr, rD_jr, rP_jr, rM_jr, rH_jr, rL_jr] using h12), (by simpa (disch := omega) only [ju_row, ju_cell, ju_cell2, ju_same, jr_ne, jr_at, jr_at2, jr_ne2, rE_up, rD_up, rP_up, rM_up, rH_up, rL_up, rE_jr, rD_jr, rP_jr, rM_jr, rH_jr, rL_jr] using h13), (by simpa (disch := omega) only [ju_row, ju_cell, ju_cell2, ju_same, jr_ne, jr_at, jr_at2, jr_ne2, rE_up, rD_up, rP_up, rM_up, rH_up, rL_up, rE_jr, rD_jr, rP_jr, rM_jr, rH_jr, rL_jr] using h14), (by simpa (disch := omega) only [ju_row, ju_cell, ju_cell2, ju_same, jr_ne, jr_at, jr_at2, jr_ne2, rE_up, rD_up, rP_up, rM_up, rH_up, rL_up, rE_jr, rD_jr, rP_jr, rM_jr, rH_jr, rL_jr] using (vMk_n h15)), (by simpa (disch := omega) only [ju_row, ju_cell, ju_cell2, ju_same, jr_ne, jr_at, jr_at2, jr_ne2, rE_up, rD_up, rP_up, rM_up, rH_up, rL_up, rE_jr, rD_jr, rP_jr, rM_jr, rH_jr, rL_jr] using (vOb_n h16)), (by simpa (disch := omega) only [ju_row, ju_cell, ju_cell2, ju_same, jr_ne, jr_at, jr_at2, jr_ne2, rE_up, rD_up, rP_up, rM_up, rH_up, rL_up, rE_jr, rD_jr, rP_jr, rM_jr, rH_jr, rL_jr] using h17), (by simpa (disch := omega) only [ju_row, ju_cell, ju_cell2, ju_same, jr_ne, jr_at, jr_at2, jr_ne2, rE_up, rD_up, rP_up, rM_up, rH_up, rL_up, rE_jr, rD_jr, rP_jr, rM_jr, rH_jr, rL_jr] using h18), (by simpa (disch := omega) only [ju_row, ju_cell, ju_cell2, ju_same, jr_ne, jr_at, jr_at2, jr_ne2, rE_up, rD_up, rP_up, rM_up, rH_up, rL_up, rE_jr, rD_jr, rP_jr, rM_jr, rH_jr, rL_jr] using h19)⟩
    simp (disch := omega) only [ju_row, ju_cell, ju_cell2, ju_same, jr_ne, jr_at, jr_at2, jr_ne2, rE_up, rD_up, rP_up, rM_up, rH_up, rL_up, rE_jr, rD_jr, rP_jr, rM_jr, rH_jr, rL_jr]
    exact h10
theorem fd_split (a b c : Nat) : (List.range' 0 24).map (sgN a b c) = (List.range' 0 8).map (cS a) ++ ((List.range' 0 8).map (cS b) ++ (List.range' 0 8).map (cS c)) := rfl
theorem op_feed {n : Nat} {M : JI} {L : JL} {D : JG} {S : JS} (h : Inv n M L D S) (x y z : Int64) : ∃ r M1 M2, fX11_feed x y z M = some (r, M1) ∧ fX12_feed x y z M1 = some (r, M2) ∧ Inv (n + 1) M2 L D S := by
  obtain ⟨a, ha, rfl⟩ := wb_of x
  obtain ⟨b, hb, rfl⟩ := wb_of y
  obtain ⟨c, hc, rfl⟩ := wb_of z
  exact feed_core h (fd_split a b c) (fun s hs => wr_loop M ha 8 0 rfl 100000 (by omega) s hs) (fun s hs => wr_loop M hb 8 0 rfl 100000 (by omega) s hs) (fun s hs => wr_loop M hc 8 0 rfl 100000 (by omega) s hs) (fun N s hs => rf_loop N ha hb hc 24 0 rfl 100000 (by omega) s hs)
