theorem t_parcel {e : Nat → Nat} {k23 : Int32 → JI → JL → JG → JG → JS → Option Int32} {i n : Nat} {M : JI} {L : JL} {G D : JG} {S : JS} (he : e 104 ≤ 4096) (hi : i + 8 ≤ e 104) (h : Inv n M L D S) (hn : n < 4000) (hk : ∀ (M : JI) (L : JL) (G D : JG) (S : JS), Inv (n + 3) M L D S → k23 (nI (i + 8)) M L G D S = some (nI 1)) : fL_law_176 e k23 (nI i) M L G D S = some (nI 1) := by
  obtain ⟨r, M1, M2, a1, a2, a3⟩ := op_parcel h (by omega) (nI (e (1000 + (i + 1)))) (nI (e (1000 + (i + 2))))
  unfold fL_law_176
  simp (disch := omega) only [li_1, li_2, li_3, li_4, li_5, li_6, li_7, li_8, nI_add, nI_clamp, jg_in]
  rw [a1, Option.bind_some]
  try dsimp only
  rw [a2, Option.bind_some]
  try dsimp only
  rw [if_pos rfl]
  exact hk M2 L G D S (inv_n (inv_n a3))

theorem t_part {e : Nat → Nat} {k23 : Int32 → JI → JL → JG → JG → JS → Option Int32} {i n : Nat} {M : JI} {L : JL} {G D : JG} {S : JS} (he : e 104 ≤ 4096) (hi : i + 8 ≤ e 104) (h : Inv n M L D S) (hn : n < 4000) (hk : ∀ (M : JI) (L : JL) (G D : JG) (S : JS), Inv (n + 3) M L D S → k23 (nI (i + 8)) M L G D S = some (nI 1)) : fL_law_213 e k23 (nI i) M L G D S = some (nI 1) := by
  obtain ⟨r, M1, M2, a1, a2, a3⟩ := op_part h (by omega) (nI (e (1000 + (i + 1)))) (nI (e (1000 + (i + 2)))) (nI (e (1000 + (i + 3)))) (nI (e (1000 + (i + 4))))
  unfold fL_law_213
  simp (disch := omega) only [li_1, li_2, li_3, li_4, li_5, li_6, li_7, li_8, nI_add, nI_clamp, jg_in]
  rw [a1, Option.bind_some]
  try dsimp only
  rw [a2, Option.bind_some]
  try dsimp only
  rw [if_pos rfl]
  exact hk M2 L G D S (inv_n (inv_n a3))

theorem t_beside {e : Nat → Nat} {k23 : Int32 → JI → JL → JG → JG → JS → Option Int32} {i n : Nat} {M : JI} {L : JL} {G D : JG} {S : JS} (he : e 104 ≤ 4096) (hi : i + 8 ≤ e 104) (h : Inv n M L D S) (hn : n < 4000) (hk : ∀ (M : JI) (L : JL) (G D : JG) (S : JS), Inv (n + 3) M L D S → k23 (nI (i + 8)) M L G D S = some (nI 1)) : fL_law_274 e k23 (nI i) M L G D S = some (nI 1) := by
  obtain ⟨r, M1, M2, a1, a2, a3⟩ := op_beside h (by omega) (nI (e (1000 + (i + 1)))) (nI (e (1000 + (i + 2)))) (nI (e (1000 + (i + 3))))
  unfold fL_law_274
  simp (disch := omega) only [li_1, li_2, li_3, li_4, li_5, li_6, li_7, li_8, nI_add, nI_clamp, jg_in]
  rw [a1, Option.bind_some]
  try dsimp only
  rw [a2, Option.bind_some]
  try dsimp only
  rw [if_pos rfl]
  exact hk M2 L G D S (inv_n (inv_n a3))

theorem t_water {e : Nat → Nat} {k23 : Int32 → JI → JL → JG → JG → JS → Option Int32} {i n : Nat} {M : JI} {L : JL} {G D : JG} {S : JS} (he : e 104 ≤ 4096) (hi : i + 8 ≤ e 104) (h : Inv n M L D S) (hn : n < 4000) (hk : ∀ (M : JI) (L : JL) (G D : JG) (S : JS), Inv (n + 3) M L D S → k23 (nI (i + 8)) M L G D S = some (nI 1)) : fL_law_323 e k23 (nI i) M L G D S = some (nI 1) := by
  obtain ⟨r, M1, M2, a1, a2, a3⟩ := op_water h (by omega) (nI (e (1000 + (i + 1)))) (nI (e (1000 + (i + 2))))
  unfold fL_law_323
  simp (disch := omega) only [li_1, li_2, li_3, li_4, li_5, li_6, li_7, li_8, nI_add, nI_clamp, jg_in]
  rw [a1, Option.bind_some]
  try dsimp only
  rw [a2, Option.bind_some]
  try dsimp only
  rw [if_pos rfl]
  exact hk M2 L G D S (inv_n (inv_n a3))

theorem t_kin {e : Nat → Nat} {k23 : Int32 → JI → JL → JG → JG → JS → Option Int32} {i n : Nat} {M : JI} {L : JL} {G D : JG} {S : JS} (he : e 104 ≤ 4096) (hi : i + 8 ≤ e 104) (h : Inv n M L D S) (hn : n < 4000) (hk : ∀ (M : JI) (L : JL) (G D : JG) (S : JS), Inv (n + 3) M L D S → k23 (nI (i + 8)) M L G D S = some (nI 1)) : fL_law_360 e k23 (nI i) M L G D S = some (nI 1) := by
  obtain ⟨r, M1, M2, a1, a2, a3⟩ := op_kin h (by omega) (nI (e (1000 + (i + 1)))) (nI (e (1000 + (i + 2)))) (nI (e (1000 + (i + 3))))
  unfold fL_law_360
  simp (disch := omega) only [li_1, li_2, li_3, li_4, li_5, li_6, li_7, li_8, nI_add, nI_clamp, jg_in]
  rw [a1, Option.bind_some]
  try dsimp only
  rw [a2, Option.bind_some]
  try dsimp only
  rw [if_pos rfl]
  exact hk M2 L G D S (inv_n (inv_n a3))

theorem t_days {e : Nat → Nat} {k23 : Int32 → JI → JL → JG → JG → JS → Option Int32} {i n : Nat} {M : JI} {L : JL} {G D : JG} {S : JS} (he : e 104 ≤ 4096) (hi : i + 8 ≤ e 104) (h : Inv n M L D S) (hn : n < 4000) (hk : ∀ (M : JI) (L : JL) (G D : JG) (S : JS), Inv (n + 3) M L D S → k23 (nI (i + 8)) M L G D S = some (nI 1)) : fL_law_515 e k23 (nI i) M L G D S = some (nI 1) := by
  obtain ⟨r, M1, M2, a1, a2, a3⟩ := op_days h (by omega) (nI (e (1000 + (i + 1))))
  unfold fL_law_515
  simp (disch := omega) only [li_1, li_2, li_3, li_4, li_5, li_6, li_7, li_8, nI_add, nI_clamp, jg_in]
  rw [a1, Option.bind_some]
  try dsimp only
  rw [a2, Option.bind_some]
  try dsimp only
  rw [if_pos rfl]
  exact hk M2 L G D S (inv_n (inv_n a3))

theorem t_feed {e : Nat → Nat} {k23 : Int32 → JI → JL → JG → JG → JS → Option Int32} {i n : Nat} {M : JI} {L : JL} {G D : JG} {S : JS} (he : e 104 ≤ 4096) (hi : i + 8 ≤ e 104) (h : Inv n M L D S) (hn : n < 4000) (hk : ∀ (M : JI) (L : JL) (G D : JG) (S : JS), Inv (n + 3) M L D S → k23 (nI (i + 8)) M L G D S = some (nI 1)) : fL_law_540 e k23 (nI i) M L G D S = some (nI 1) := by
  obtain ⟨r, M1, M2, a1, a2, a3⟩ := op_feed h (((nI (e (1000 + (i + 1)))).toInt64 <<< ((32 : Int32).toInt64 &&& 63)) ||| ((nI (e (1000 + (i + 2)))).toInt64 &&& (4294967295 : Int64))) (((nI (e (1000 + (i + 3)))).toInt64 <<< ((32 : Int32).toInt64 &&& 63)) ||| ((nI (e (1000 + (i + 4)))).toInt64 &&& (4294967295 : Int64))) (((nI (e (1000 + (i + 5)))).toInt64 <<< ((32 : Int32).toInt64 &&& 63)) ||| ((nI (e (1000 + (i + 6)))).toInt64 &&& (4294967295 : Int64)))
  unfold fL_law_540
  simp (disch := omega) only [li_1, li_2, li_3, li_4, li_5, li_6, li_7, li_8, nI_add, nI_clamp, jg_in]
  rw [a1, Option.bind_some]
  try dsimp only
  rw [a2, Option.bind_some]
  try dsimp only
  rw [if_pos rfl]
  exact hk M2 L G D S (inv_n (inv_n a3))

theorem t_law {e : Nat → Nat} {k23 : Int32 → JI → JL → JG → JG → JS → Option Int32} {i n : Nat} {M : JI} {L : JL} {G D : JG} {S : JS} (he : e 104 ≤ 4096) (hi : i + 8 ≤ e 104) (h : Inv n M L D S) (hn : n < 4000) (hk : ∀ (M : JI) (L : JL) (G D : JG) (S : JS), Inv (n + 3) M L D S → k23 (nI (i + 8)) M L G D S = some (nI 1)) : fL_law_687 e k23 (nI i) M L G D S = some (nI 1) := by
  obtain ⟨r, M1, L1, D1, M2, L2, a1, a2, a3⟩ := op_law h (by omega)
  unfold fL_law_687
  rw [a1, Option.bind_some]
  try dsimp only
  rw [a2, Option.bind_some]
  try dsimp only
  rw [if_pos rfl, show nI i + (8 : Int32) = nI (i + 8) from nI_add i 8]
  exact hk M2 L2 G D1 S (inv_n (inv_n a3))

theorem t_holds {e : Nat → Nat} {k23 : Int32 → JI → JL → JG → JG → JS → Option Int32} {i n : Nat} {M : JI} {L : JL} {G D : JG} {S : JS} (he : e 104 ≤ 4096) (hi : i + 8 ≤ e 104) (h : Inv n M L D S) (hn : n < 4000) (hk : ∀ (M : JI) (L : JL) (G D : JG) (S : JS), Inv (n + 3) M L D S → k23 (nI (i + 8)) M L G D S = some (nI 1)) : fL_law_700 e k23 (nI i) M L G D S = some (nI 1) := by
  obtain ⟨r, M2, a1, a2, a3⟩ := op_holds h (nI (e (1000 + (i + 1)))) (nI (e (1000 + (i + 2))))
  unfold fL_law_700
  simp (disch := omega) only [li_1, li_2, li_3, li_4, li_5, li_6, li_7, li_8, nI_add, nI_clamp, jg_in]
  rw [a1, Option.bind_some]
  try dsimp only
  rw [a2, Option.bind_some]
  try dsimp only
  rw [if_pos rfl]
  exact hk M2 L G D S (inv_n (inv_n a3))

theorem t_stands {e : Nat → Nat} {k23 : Int32 → JI → JL → JG → JG → JS → Option Int32} {i n : Nat} {M : JI} {L : JL} {G D : JG} {S : JS} (he : e 104 ≤ 4096) (hi : i + 8 ≤ e 104) (h : Inv n M L D S) (hn : n < 4000) (hk : ∀ (M : JI) (L : JL) (G D : JG) (S : JS), Inv (n + 3) M L D S → k23 (nI (i + 8)) M L G D S = some (nI 1)) : fL_law_737 e k23 (nI i) M L G D S = some (nI 1) := by
  obtain ⟨r, M2, a1, a2, a3⟩ := op_stands h (nI (e (1000 + (i + 1)))) (nI (e (1000 + (i + 2)))) (nI (e (1000 + (i + 3))))
  unfold fL_law_737
  simp (disch := omega) only [li_1, li_2, li_3, li_4, li_5, li_6, li_7, li_8, nI_add, nI_clamp, jg_in]
  rw [a1, Option.bind_some]
  try dsimp only
  rw [a2, Option.bind_some]
  try dsimp only
  rw [if_pos rfl]
  exact hk M2 L G D S (inv_n (inv_n a3))

theorem t_pass {e : Nat → Nat} {k23 : Int32 → JI → JL → JG → JG → JS → Option Int32} {i n : Nat} {M : JI} {L : JL} {G D : JG} {S : JS} (he : e 104 ≤ 4096) (hi : i + 8 ≤ e 104) (h : Inv n M L D S) (hn : n < 4000) (hk : ∀ (M : JI) (L : JL) (G D : JG) (S : JS), Inv (n + 3) M L D S → k23 (nI (i + 8)) M L G D S = some (nI 1)) : fL_law_786 e k23 (nI i) M L G D S = some (nI 1) := by
  obtain ⟨r, M1, L1, G1, D1, S1, M2, a1, a2, a3⟩ := op_pass (G := G) h (by omega) (nI (e (1000 + (i + 1)))) (nI (e (1000 + (i + 2)))) (nI (e (1000 + (i + 3)))) (nI (e (1000 + (i + 4)))) (nI (e (1000 + (i + 5)))) (nI (e (1000 + (i + 6)))) (nI (e (1000 + (i + 7))))
  unfold fL_law_786
  simp (disch := omega) only [li_1, li_2, li_3, li_4, li_5, li_6, li_7, li_8, nI_add, nI_clamp, jg_in]
  rw [a1, Option.bind_some]
  try dsimp only
  rw [a2, Option.bind_some]
  try dsimp only
  rw [if_pos rfl]
  exact hk M2 L1 G1 D1 S1 (a3)

theorem t_would {e : Nat → Nat} {k23 : Int32 → JI → JL → JG → JG → JS → Option Int32} {i n : Nat} {M : JI} {L : JL} {G D : JG} {S : JS} (he : e 104 ≤ 4096) (hi : i + 8 ≤ e 104) (h : Inv n M L D S) (hn : n < 4000) (hk : ∀ (M : JI) (L : JL) (G D : JG) (S : JS), Inv (n + 3) M L D S → k23 (nI (i + 8)) M L G D S = some (nI 1)) : fL_law_887 e k23 (nI i) M L G D S = some (nI 1) := by
  obtain ⟨r, M1, D1, M2, a1, a2, a3⟩ := op_would h (nI (e (1000 + (i + 1)))) (nI (e (1000 + (i + 2)))) (nI (e (1000 + (i + 3)))) (nI (e (1000 + (i + 4)))) (nI (e (1000 + (i + 5)))) (nI (e (1000 + (i + 6)))) (nI (e (1000 + (i + 7))))
  unfold fL_law_887
  simp (disch := omega) only [li_1, li_2, li_3, li_4, li_5, li_6, li_7, li_8, nI_add, nI_clamp, jg_in]
  rw [a1, Option.bind_some]
  try dsimp only
  rw [a2, Option.bind_some]
  try dsimp only
  rw [if_pos rfl]
  exact hk M2 L G D1 S (inv_n (inv_n a3))

theorem t_may {e : Nat → Nat} {k23 : Int32 → JI → JL → JG → JG → JS → Option Int32} {i n : Nat} {M : JI} {L : JL} {G D : JG} {S : JS} (he : e 104 ≤ 4096) (hi : i + 8 ≤ e 104) (h : Inv n M L D S) (hn : n < 4000) (hk : ∀ (M : JI) (L : JL) (G D : JG) (S : JS), Inv (n + 3) M L D S → k23 (nI (i + 8)) M L G D S = some (nI 1)) : fL_law_1056 e k23 (nI i) M L G D S = some (nI 1) := by
  obtain ⟨r, M2, a1, a2, a3⟩ := op_may h (nI (e (1000 + (i + 1)))) (nI (e (1000 + (i + 2))))
  unfold fL_law_1056
  simp (disch := omega) only [li_1, li_2, li_3, li_4, li_5, li_6, li_7, li_8, nI_add, nI_clamp, jg_in]
  rw [a1, Option.bind_some]
  try dsimp only
  rw [a2, Option.bind_some]
  try dsimp only
  rw [if_pos rfl]
  exact hk M2 L G D S (inv_n (inv_n a3))

theorem t_order {e : Nat → Nat} {k23 : Int32 → JI → JL → JG → JG → JS → Option Int32} {i n : Nat} {M : JI} {L : JL} {G D : JG} {S : JS} (he : e 104 ≤ 4096) (hi : i + 8 ≤ e 104) (h : Inv n M L D S) (hn : n < 4000) (hk : ∀ (M : JI) (L : JL) (G D : JG) (S : JS), Inv (n + 3) M L D S → k23 (nI (i + 8)) M L G D S = some (nI 1)) : fL_law_1093 e k23 (nI i) M L G D S = some (nI 1) := by
  obtain ⟨r, M2, a1, a2, a3⟩ := op_order h (nI (e (1000 + (i + 1)))) (nI (e (1000 + (i + 2))))
  unfold fL_law_1093
  simp (disch := omega) only [li_1, li_2, li_3, li_4, li_5, li_6, li_7, li_8, nI_add, nI_clamp, jg_in]
  rw [a1, Option.bind_some]
  try dsimp only
  rw [a2, Option.bind_some]
  try dsimp only
  rw [if_pos rfl]
  exact hk M2 L G D S (inv_n (inv_n a3))

theorem t_hears {e : Nat → Nat} {k23 : Int32 → JI → JL → JG → JG → JS → Option Int32} {i n : Nat} {M : JI} {L : JL} {G D : JG} {S : JS} (he : e 104 ≤ 4096) (hi : i + 8 ≤ e 104) (h : Inv n M L D S) (hn : n < 4000) (hk : ∀ (M : JI) (L : JL) (G D : JG) (S : JS), Inv (n + 3) M L D S → k23 (nI (i + 8)) M L G D S = some (nI 1)) : fL_law_1130 e k23 (nI i) M L G D S = some (nI 1) := by
  obtain ⟨r, M1, M2, a1, a2, a3⟩ := op_hears h (nI (e (1000 + (i + 1)))) (nI (e (1000 + (i + 2)))) (nI (e (1000 + (i + 3))))
  unfold fL_law_1130
  simp (disch := omega) only [li_1, li_2, li_3, li_4, li_5, li_6, li_7, li_8, nI_add, nI_clamp, jg_in]
  rw [a1, Option.bind_some]
  try dsimp only
  rw [a2, Option.bind_some]
  try dsimp only
  rw [if_pos rfl]
  exact hk M2 L G D S (inv_n (inv_n a3))

theorem t_till {e : Nat → Nat} {k23 : Int32 → JI → JL → JG → JG → JS → Option Int32} {i n : Nat} {M : JI} {L : JL} {G D : JG} {S : JS} (he : e 104 ≤ 4096) (hi : i + 8 ≤ e 104) (h : Inv n M L D S) (hn : n < 4000) (hk : ∀ (M : JI) (L : JL) (G D : JG) (S : JS), Inv (n + 3) M L D S → k23 (nI (i + 8)) M L G D S = some (nI 1)) : fL_law_1179 e k23 (nI i) M L G D S = some (nI 1) := by
  obtain ⟨r, M2, a1, a2, a3⟩ := op_till h (nI (e (1000 + (i + 1)))) (nI (e (1000 + (i + 2))))
  unfold fL_law_1179
  simp (disch := omega) only [li_1, li_2, li_3, li_4, li_5, li_6, li_7, li_8, nI_add, nI_clamp, jg_in]
  rw [a1, Option.bind_some]
  try dsimp only
  rw [a2, Option.bind_some]
  try dsimp only
  rw [if_pos rfl]
  exact hk M2 L G D S (inv_n (inv_n a3))

theorem t_waive {e : Nat → Nat} {k23 : Int32 → JI → JL → JG → JG → JS → Option Int32} {i n : Nat} {M : JI} {L : JL} {G D : JG} {S : JS} (he : e 104 ≤ 4096) (hi : i + 8 ≤ e 104) (h : Inv n M L D S) (hn : n < 4000) (hk : ∀ (M : JI) (L : JL) (G D : JG) (S : JS), Inv (n + 3) M L D S → k23 (nI (i + 8)) M L G D S = some (nI 1)) : fL_law_1216 e k23 (nI i) M L G D S = some (nI 1) := by
  obtain ⟨r, M1, M2, a1, a2, a3⟩ := op_waive h (nI (e (1000 + (i + 1)))) (nI (e (1000 + (i + 2))))
  unfold fL_law_1216
  simp (disch := omega) only [li_1, li_2, li_3, li_4, li_5, li_6, li_7, li_8, nI_add, nI_clamp, jg_in]
  rw [a1, Option.bind_some]
  try dsimp only
  rw [a2, Option.bind_some]
  try dsimp only
  rw [if_pos rfl]
  exact hk M2 L G D S (inv_n (inv_n a3))

theorem t_truly {e : Nat → Nat} {k23 : Int32 → JI → JL → JG → JG → JS → Option Int32} {i n : Nat} {M : JI} {L : JL} {G D : JG} {S : JS} (he : e 104 ≤ 4096) (hi : i + 8 ≤ e 104) (h : Inv n M L D S) (hn : n < 4000) (hk : ∀ (M : JI) (L : JL) (G D : JG) (S : JS), Inv (n + 3) M L D S → k23 (nI (i + 8)) M L G D S = some (nI 1)) : fL_law_1253 e k23 (nI i) M L G D S = some (nI 1) := by
  obtain ⟨r, M1, M2, a1, a2, a3⟩ := op_truly h (nI (e (1000 + (i + 1)))) (nI (e (1000 + (i + 2))))
  unfold fL_law_1253
  simp (disch := omega) only [li_1, li_2, li_3, li_4, li_5, li_6, li_7, li_8, nI_add, nI_clamp, jg_in]
  rw [a1, Option.bind_some]
  try dsimp only
  rw [a2, Option.bind_some]
  try dsimp only
  rw [if_pos rfl]
  exact hk M2 L G D S (inv_n (inv_n a3))

theorem t_claim {e : Nat → Nat} {k23 : Int32 → JI → JL → JG → JG → JS → Option Int32} {i n : Nat} {M : JI} {L : JL} {G D : JG} {S : JS} (he : e 104 ≤ 4096) (hi : i + 8 ≤ e 104) (h : Inv n M L D S) (hn : n < 4000) (hk : ∀ (M : JI) (L : JL) (G D : JG) (S : JS), Inv (n + 3) M L D S → k23 (nI (i + 8)) M L G D S = some (nI 1)) : fL_law_1290 e k23 (nI i) M L G D S = some (nI 1) := by
  obtain ⟨r, M1, M2, a1, a2, a3⟩ := op_claim h (by omega) (nI (e (1000 + (i + 1)))) (nI (e (1000 + (i + 2)))) (nI (e (1000 + (i + 3))))
  unfold fL_law_1290
  simp (disch := omega) only [li_1, li_2, li_3, li_4, li_5, li_6, li_7, li_8, nI_add, nI_clamp, jg_in]
  rw [a1, Option.bind_some]
  try dsimp only
  rw [a2, Option.bind_some]
  try dsimp only
  rw [if_pos rfl]
  exact hk M2 L G D S (inv_n (inv_n a3))

theorem t_parted {e : Nat → Nat} {k23 : Int32 → JI → JL → JG → JG → JS → Option Int32} {i n : Nat} {M : JI} {L : JL} {G D : JG} {S : JS} (he : e 104 ≤ 4096) (hi : i + 8 ≤ e 104) (h : Inv n M L D S) (hn : n < 4000) (hk : ∀ (M : JI) (L : JL) (G D : JG) (S : JS), Inv (n + 3) M L D S → k23 (nI (i + 8)) M L G D S = some (nI 1)) : fL_law_1339 e k23 (nI i) M L G D S = some (nI 1) := by
  obtain ⟨r, M2, a1, a2, a3⟩ := op_parted h (nI (e (1000 + (i + 1)))) (nI (e (1000 + (i + 2))))
  unfold fL_law_1339
  simp (disch := omega) only [li_1, li_2, li_3, li_4, li_5, li_6, li_7, li_8, nI_add, nI_clamp, jg_in]
  rw [a1, Option.bind_some]
  try dsimp only
  rw [a2, Option.bind_some]
  try dsimp only
  rw [if_pos rfl]
  exact hk M2 L G D S (inv_n (inv_n a3))

theorem t_sly {e : Nat → Nat} {k23 : Int32 → JI → JL → JG → JG → JS → Option Int32} {i n : Nat} {M : JI} {L : JL} {G D : JG} {S : JS} (he : e 104 ≤ 4096) (hi : i + 8 ≤ e 104) (h : Inv n M L D S) (hn : n < 4000) (hk : ∀ (M : JI) (L : JL) (G D : JG) (S : JS), Inv (n + 3) M L D S → k23 (nI (i + 8)) M L G D S = some (nI 1)) : fL_law_1376 e k23 (nI i) M L G D S = some (nI 1) := by
  obtain ⟨r, M1, D1, M2, a1, a2, a3⟩ := op_sly h (nI (e (1000 + (i + 1)))) (nI (e (1000 + (i + 2)))) (nI (e (1000 + (i + 3)))) (nI (e (1000 + (i + 4))))
  unfold fL_law_1376
  simp (disch := omega) only [li_1, li_2, li_3, li_4, li_5, li_6, li_7, li_8, nI_add, nI_clamp, jg_in]
  rw [a1, Option.bind_some]
  try dsimp only
  rw [a2, Option.bind_some]
  try dsimp only
  rw [if_pos rfl]
  exact hk M2 L G D1 S (inv_n (inv_n a3))

theorem t_slyRow {e : Nat → Nat} {k23 : Int32 → JI → JL → JG → JG → JS → Option Int32} {i n : Nat} {M : JI} {L : JL} {G D : JG} {S : JS} (he : e 104 ≤ 4096) (hi : i + 8 ≤ e 104) (h : Inv n M L D S) (hn : n < 4000) (hk : ∀ (M : JI) (L : JL) (G D : JG) (S : JS), Inv (n + 3) M L D S → k23 (nI (i + 8)) M L G D S = some (nI 1)) : fL_law_1437 e k23 (nI i) M L G D S = some (nI 1) := by
  obtain ⟨r, M1, D1, M2, a1, a2, a3⟩ := op_slyRow h (nI (e (1000 + (i + 1)))) (nI (e (1000 + (i + 2)))) (nI (e (1000 + (i + 3)))) (nI (e (1000 + (i + 4)))) (nI (e (1000 + (i + 5)))) (nI (e (1000 + (i + 6))))
  unfold fL_law_1437
  simp (disch := omega) only [li_1, li_2, li_3, li_4, li_5, li_6, li_7, li_8, nI_add, nI_clamp, jg_in]
  rw [a1, Option.bind_some]
  try dsimp only
  rw [a2, Option.bind_some]
  try dsimp only
  rw [if_pos rfl]
  exact hk M2 L G D1 S (inv_n (inv_n a3))

theorem t_far {e : Nat → Nat} {k23 : Int32 → JI → JL → JG → JG → JS → Option Int32} {i n : Nat} {M : JI} {L : JL} {G D : JG} {S : JS} (he : e 104 ≤ 4096) (hi : i + 8 ≤ e 104) (h : Inv n M L D S) (hn : n < 4000) (hk : ∀ (M : JI) (L : JL) (G D : JG) (S : JS), Inv (n + 3) M L D S → k23 (nI (i + 8)) M L G D S = some (nI 1)) : fL_law_1524 e k23 (nI i) M L G D S = some (nI 1) := by
  obtain ⟨r, M1, L1, D1, M2, a1, a2, a3⟩ := op_far h (nI (e (1000 + (i + 1)))) (nI (e (1000 + (i + 2)))) (nI (e (1000 + (i + 3)))) (nI (e (1000 + (i + 4))))
  unfold fL_law_1524
  simp (disch := omega) only [li_1, li_2, li_3, li_4, li_5, li_6, li_7, li_8, nI_add, nI_clamp, jg_in]
  rw [a1, Option.bind_some]
  try dsimp only
  rw [a2, Option.bind_some]
  try dsimp only
  rw [if_pos rfl]
  exact hk M2 L1 G D1 S (inv_n (inv_n a3))

theorem t_honest {e : Nat → Nat} {k23 : Int32 → JI → JL → JG → JG → JS → Option Int32} {i n : Nat} {M : JI} {L : JL} {G D : JG} {S : JS} (he : e 104 ≤ 4096) (hi : i + 8 ≤ e 104) (h : Inv n M L D S) (hn : n < 4000) (hk : ∀ (M : JI) (L : JL) (G D : JG) (S : JS), Inv (n + 3) M L D S → k23 (nI (i + 8)) M L G D S = some (nI 1)) : fL_law_1585 e k23 (nI i) M L G D S = some (nI 1) := by
  obtain ⟨r, M1, L1, G1, D1, S1, M2, a1, a2, a3⟩ := op_honest (G := G) h (by omega) (nI (e (1000 + (i + 1)))) (nI (e (1000 + (i + 2)))) (nI (e (1000 + (i + 3)))) (nI (e (1000 + (i + 4)))) (nI (e (1000 + (i + 5)))) (nI (e (1000 + (i + 6))))
  unfold fL_law_1585
  simp (disch := omega) only [li_1, li_2, li_3, li_4, li_5, li_6, li_7, li_8, nI_add, nI_clamp, jg_in]
  rw [a1, Option.bind_some]
  try dsimp only
  rw [a2, Option.bind_some]
  try dsimp only
  rw [if_pos rfl]
  exact hk M2 L1 G1 D1 S1 (a3)

theorem t_mended {e : Nat → Nat} {k23 : Int32 → JI → JL → JG → JG → JS → Option Int32} {i n : Nat} {M : JI} {L : JL} {G D : JG} {S : JS} (he : e 104 ≤ 4096) (hi : i + 8 ≤ e 104) (h : Inv n M L D S) (hn : n < 4000) (hk : ∀ (M : JI) (L : JL) (G D : JG) (S : JS), Inv (n + 3) M L D S → k23 (nI (i + 8)) M L G D S = some (nI 1)) : fL_law_1672 e k23 (nI i) M L G D S = some (nI 1) := by
  obtain ⟨r, M1, L1, D1, M2, a1, a2, a3⟩ := op_mended h (by omega) (nI (e (1000 + (i + 1)))) (nI (e (1000 + (i + 2)))) (nI (e (1000 + (i + 3)))) (nI (e (1000 + (i + 4)))) (nI (e (1000 + (i + 5))))
  unfold fL_law_1672
  simp (disch := omega) only [li_1, li_2, li_3, li_4, li_5, li_6, li_7, li_8, nI_add, nI_clamp, jg_in]
  rw [a1, Option.bind_some]
  try dsimp only
  rw [a2, Option.bind_some]
  try dsimp only
  rw [if_pos rfl]
  exact hk M2 L1 G D1 S (inv_n (inv_n a3))

theorem t_count {e : Nat → Nat} {k23 : Int32 → JI → JL → JG → JG → JS → Option Int32} {i n : Nat} {M : JI} {L : JL} {G D : JG} {S : JS} (he : e 104 ≤ 4096) (hi : i + 8 ≤ e 104) (h : Inv n M L D S) (hn : n < 4000) (hk : ∀ (M : JI) (L : JL) (G D : JG) (S : JS), Inv (n + 3) M L D S → k23 (nI (i + 8)) M L G D S = some (nI 1)) : fL_law_1798 e k23 (nI i) M L G D S = some (nI 1) := by
  obtain ⟨r, M2, a1, a2, a3⟩ := op_count h (nI (e (1000 + (i + 1))))
  unfold fL_law_1798
  simp (disch := omega) only [li_1, li_2, li_3, li_4, li_5, li_6, li_7, li_8, nI_add, nI_clamp, jg_in]
  rw [a1, Option.bind_some]
  try dsimp only
  rw [a2, Option.bind_some]
  try dsimp only
  rw [if_pos rfl]
  exact hk M2 L G D S (inv_n (inv_n a3))

theorem t_need {e : Nat → Nat} {k23 : Int32 → JI → JL → JG → JG → JS → Option Int32} {i n : Nat} {M : JI} {L : JL} {G D : JG} {S : JS} (he : e 104 ≤ 4096) (hi : i + 8 ≤ e 104) (h : Inv n M L D S) (hn : n < 4000) (hk : ∀ (M : JI) (L : JL) (G D : JG) (S : JS), Inv (n + 3) M L D S → k23 (nI (i + 8)) M L G D S = some (nI 1)) : fL_law_409 e k23 (nI i) M L G D S = some (nI 1) := by
  unfold fL_law_409 fL_law_430
  simp (disch := omega) only [li_1, li_2, li_3, li_4, li_5, li_6, li_7, li_8, nI_add, nI_clamp, jg_in]
  by_cases c : nI (e (1000 + (i + 2))) = (0 : Int32)
  · obtain ⟨r, M1, M2, a1, a2, a3⟩ := op_need h (by omega) (nI (e (1000 + (i + 1)))) false
    have a1' : fX11_need (nI (e (1000 + (i + 1)))) (0 : Int32) M = some (r, M1) := a1
    have a2' : fX12_need (nI (e (1000 + (i + 1)))) (0 : Int32) M1 = some (r, M2) := a2
    rw [if_pos c, a1', Option.bind_some]
    dsimp only
    rw [if_pos c, a2', Option.bind_some]
    dsimp only
    rw [if_pos rfl]
    exact hk M2 L G D S (inv_n (inv_n a3))
  · obtain ⟨r, M1, M2, a1, a2, a3⟩ := op_need h (by omega) (nI (e (1000 + (i + 1)))) true
    have a1' : fX11_need (nI (e (1000 + (i + 1)))) (nI 1) M = some (r, M1) := a1
    have a2' : fX12_need (nI (e (1000 + (i + 1)))) (nI 1) M1 = some (r, M2) := a2
    rw [if_neg c, a1', Option.bind_some]
    dsimp only
    rw [if_neg c, a2', Option.bind_some]
    dsimp only
    rw [if_pos rfl]
    exact hk M2 L G D S (inv_n (inv_n a3))

theorem t_care {e : Nat → Nat} {k23 : Int32 → JI → JL → JG → JG → JS → Option Int32} {i n : Nat} {M : JI} {L : JL} {G D : JG} {S : JS} (he : e 104 ≤ 4096) (hi : i + 8 ≤ e 104) (h : Inv n M L D S) (hn : n < 4000) (hk : ∀ (M : JI) (L : JL) (G D : JG) (S : JS), Inv (n + 3) M L D S → k23 (nI (i + 8)) M L G D S = some (nI 1)) : fL_law_462 e k23 (nI i) M L G D S = some (nI 1) := by
  unfold fL_law_462 fL_law_483
  simp (disch := omega) only [li_1, li_2, li_3, li_4, li_5, li_6, li_7, li_8, nI_add, nI_clamp, jg_in]
  by_cases c : nI (e (1000 + (i + 2))) = (0 : Int32)
  · obtain ⟨r, M1, M2, a1, a2, a3⟩ := op_care h (by omega) (nI (e (1000 + (i + 1)))) false
    have a1' : fX11_care (nI (e (1000 + (i + 1)))) (0 : Int32) M = some (r, M1) := a1
    have a2' : fX12_care (nI (e (1000 + (i + 1)))) (0 : Int32) M1 = some (r, M2) := a2
    rw [if_pos c, a1', Option.bind_some]
    dsimp only
    rw [if_pos c, a2', Option.bind_some]
    dsimp only
    rw [if_pos rfl]
    exact hk M2 L G D S (inv_n (inv_n a3))
  · obtain ⟨r, M1, M2, a1, a2, a3⟩ := op_care h (by omega) (nI (e (1000 + (i + 1)))) true
    have a1' : fX11_care (nI (e (1000 + (i + 1)))) (nI 1) M = some (r, M1) := a1
    have a2' : fX12_care (nI (e (1000 + (i + 1)))) (nI 1) M1 = some (r, M2) := a2
    rw [if_neg c, a1', Option.bind_some]
    dsimp only
    rw [if_neg c, a2', Option.bind_some]
    dsimp only
    rw [if_pos rfl]
    exact hk M2 L G D S (inv_n (inv_n a3))

theorem t_mark {e : Nat → Nat} {k23 : Int32 → JI → JL → JG → JG → JS → Option Int32} {i n : Nat} {M : JI} {L : JL} {G D : JG} {S : JS} (he : e 104 ≤ 4096) (hi : i + 8 ≤ e 104) (h : Inv n M L D S) (hn : n < 4000) (hk : ∀ (M : JI) (L : JL) (G D : JG) (S : JS), Inv (n + 3) M L D S → k23 (nI (i + 8)) M L G D S = some (nI 1)) : fL_law_1745 e k23 (nI i) M L G D S = some (nI 1) := by
  unfold fL_law_1745 fL_law_1766
  simp (disch := omega) only [li_1, li_2, li_3, li_4, li_5, li_6, li_7, li_8, nI_add, nI_clamp, jg_in]
  by_cases c : nI (e (1000 + (i + 2))) = (0 : Int32)
  · obtain ⟨r, M1, L1, G1, D1, S1, M2, a1, a2, a3⟩ := op_mark (G := G) h (by omega) (nI (e (1000 + (i + 1)))) false
    have a1' : fX11_mark (nI (e (1000 + (i + 1)))) (0 : Int32) M L G D S = some (r, M1, L1, G1, D1, S1) := a1
    have a2' : fX12_mark (nI (e (1000 + (i + 1)))) (0 : Int32) M1 = some (r, M2) := a2
    rw [if_pos c, a1', Option.bind_some]
    dsimp only
    rw [if_pos c, a2', Option.bind_some]
    dsimp only
    rw [if_pos rfl]
    exact hk M2 L1 G1 D1 S1 (a3)
  · obtain ⟨r, M1, L1, G1, D1, S1, M2, a1, a2, a3⟩ := op_mark (G := G) h (by omega) (nI (e (1000 + (i + 1)))) true
    have a1' : fX11_mark (nI (e (1000 + (i + 1)))) (nI 1) M L G D S = some (r, M1, L1, G1, D1, S1) := a1
    have a2' : fX12_mark (nI (e (1000 + (i + 1)))) (nI 1) M1 = some (r, M2) := a2
    rw [if_neg c, a1', Option.bind_some]
    dsimp only
    rw [if_neg c, a2', Option.bind_some]
    dsimp only
    rw [if_pos rfl]
    exact hk M2 L1 G1 D1 S1 (a3)

theorem lg_self (x : Int64) : lg_cmp x x = 0 := (lg_cmp_eq _ _).mpr rfl
theorem t_look {e : Nat → Nat} {k23 : Int32 → JI → JL → JG → JG → JS → Option Int32} {i n : Nat} {M : JI} {L : JL} {G D : JG} {S : JS} (he : e 104 ≤ 4096) (hi : i + 8 ≤ e 104) (h : Inv n M L D S) (hn : n < 4000) (hk : ∀ (M : JI) (L : JL) (G D : JG) (S : JS), Inv (n + 3) M L D S → k23 (nI (i + 8)) M L G D S = some (nI 1)) : fL_law_988 e k23 (nI i) M L G D S = some (nI 1) := by
  obtain ⟨k, L1, S1, r, M2, a1, a2, a3, a4, a5, a6, a7⟩ := op_look h (nI (e (1000 + (i + 1)))) (nI (e (1000 + (i + 2))))
  have a8 := hk (j_up M 66 0 k) L1 G D S1 (inv_n (inv_n (inv_look h a5 a6)))
  rw [← a7] at a8
  unfold fL_law_988 fX12_thrown
  simp (disch := omega) only [li_1, li_2, li_3, li_4, li_5, li_6, li_7, li_8, nI_add, nI_clamp, jg_in]
  rw [a1, Option.bind_some]
  try dsimp only
  rw [a2, Option.bind_some]
  try dsimp only
  rw [Option.bind_some, a3, if_pos rfl]
  by_cases c : k = (0 : Int32)
  · rw [if_pos c, show j_in (0 : Int32) 1 = true by decide]
    show (if lg_cmp (L1 136 0) r.toInt64 = 0 then _ else _) = _
    rw [a4 c, if_pos (lg_self _)]
    exact a8
  · rw [if_neg c]
    exact a8
