-- ===== Lay and the old cells behind the calls that make something =====
theorem jx_p88 {l1 l2 l3 l4 : Int32} {I : JI} {L : JL} {G D : JG} {S : JS} {q : Int32 × JI × JL × JG × JG × JS} (h : fX11_pass_88 l1 l2 l3 l4 I L G D S = some q) : q.2.2.2.1 = G ∧ q.2.2.2.2.2 = S := by
  unfold fX11_pass_88 at h
  obtain ⟨q6, _, h⟩ := j_bs h
  obtain ⟨_, h⟩ := j_gs h
  rcases j_os h with ⟨_, h⟩ | ⟨b, _, h⟩
  · cases h
  obtain ⟨_, h⟩ := j_gs h
  obtain ⟨q8, _, h⟩ := j_bs h
  obtain ⟨q9, _, h⟩ := j_bs h
  cases h
  exact ⟨rfl, rfl⟩
theorem jx_i7 {t : Nat} {I : JI} {L : JL} {G D : JG} {S : JS} {q : JI × JL × JG × JG × JS} (h : fX7_init t I L G D S = some q) : ∃ T, q.2.2.2.2 = S ++ T := by
  unfold fX7_init fX0_init at h
  cases h
  exact ⟨[(0, 7), (20, 16), (20, 16), (20, 16), (20, 19)], by simp⟩
theorem jx_i5 {t : Nat} {I : JI} {L : JL} {G D : JG} {S : JS} {q : JI × JL × JG × JG × JS} (h : fX5_init t I L G D S = some q) : ∃ T, q.2.2.2.2 = S ++ T := by
  unfold fX5_init fX1_init at h
  obtain ⟨q1, h1, h⟩ := j_bs h
  cases h1
  obtain ⟨-, h⟩ := j_gs h
  obtain ⟨-, h⟩ := j_gs h
  cases h
  exact ⟨[(1, 4), (20, 192), (20, 12), (20, 16), (20, 16), (20, 760)], by simp⟩
theorem jx_pass {l1 l2 l3 l4 l5 l6 l7 : Int32} {I : JI} {L : JL} {G D : JG} {S : JS} {q : Int32 × JI × JL × JG × JG × JS} (hL : Lay G S) (h : fX11_pass l1 l2 l3 l4 l5 l6 l7 I L G D S = some q) : Lay q.2.2.2.1 q.2.2.2.2.2 ∧ ∃ T, q.2.2.2.2.2 = S ++ T := by
  unfold fX11_pass at h
  obtain ⟨q1, _, h⟩ := j_bs h
  obtain ⟨q2, _, h⟩ := j_bs h
  by_cases hc : q2 = 0
  · replace h := j_pos hc h
    cases h
    exact ⟨hL, [], by simp⟩
  replace h := j_neg hc h
  by_cases hc2 : (q1 0 12) < (40 : Int32)
  · replace h := j_pos hc2 h
    obtain ⟨_, h⟩ := j_gs h
    rcases j_os h with ⟨_, h⟩ | ⟨b, _, h⟩
    · obtain ⟨q4, h4, h⟩ := j_bs h
      obtain ⟨_, h⟩ := j_gs h
      obtain ⟨_, h⟩ := j_gs h
      obtain ⟨e1, e2⟩ := jx_p88 h
      rw [e1, e2]
      refine ⟨lyX7_init hL h4, ?_⟩
      obtain ⟨T, hT⟩ := jx_i7 h4
      exact ⟨(7, 9) :: T, by rw [hT]; simp⟩
    · obtain ⟨_, h⟩ := j_gs h
      obtain ⟨e1, e2⟩ := jx_p88 h
      rw [e1, e2]
      exact ⟨hL, [], by simp⟩
  · replace h := j_neg hc2 h
    cases h
    exact ⟨hL, [], by simp⟩
theorem jx_m43 {l1 : Int32} {I : JI} {L : JL} {G D : JG} {S : JS} {q : Int32 × JI × JL × JG × JG × JS} (h : fX11_mark_43 l1 I L G D S = some q) : q.2.2.2.1 = G ∧ q.2.2.2.2.2 = S := by
  unfold fX11_mark_43 at h
  obtain ⟨_, h⟩ := j_gs h
  rcases j_os h with ⟨_, h⟩ | ⟨b, _, h⟩
  · cases h
  obtain ⟨_, h⟩ := j_gs h
  obtain ⟨q6, _, h⟩ := j_bs h
  cases h
  exact ⟨rfl, rfl⟩
theorem jx_mark {l1 l2 : Int32} {I : JI} {L : JL} {G D : JG} {S : JS} {q : Int32 × JI × JL × JG × JG × JS} (hL : Lay G S) (h : fX11_mark l1 l2 I L G D S = some q) : Lay q.2.2.2.1 q.2.2.2.2.2 ∧ ∃ T, q.2.2.2.2.2 = S ++ T := by
  unfold fX11_mark at h
  by_cases hc : l1 < 0
  · replace h := j_pos hc h
    cases h
    exact ⟨hL, [], by simp⟩
  replace h := j_neg hc h
  by_cases hc : l1 < (4 : Int32)
  · replace h := j_pos hc h
    by_cases hc : l2 = 0
    · replace h := j_pos hc h
      obtain ⟨_, h⟩ := j_gs h
      rcases j_os h with ⟨_, h⟩ | ⟨b, _, h⟩
      · obtain ⟨q4, h4, h⟩ := j_bs h
        obtain ⟨_, h⟩ := j_gs h
        obtain ⟨_, h⟩ := j_gs h
        obtain ⟨e1, e2⟩ := jx_m43 h
        rw [e1, e2]
        refine ⟨lyX5_init hL h4, ?_⟩
        obtain ⟨T, hT⟩ := jx_i5 h4
        exact ⟨(5, 6) :: T, by rw [hT]; simp⟩
      · obtain ⟨_, h⟩ := j_gs h
        obtain ⟨e1, e2⟩ := jx_m43 h
        rw [e1, e2]
        exact ⟨hL, [], by simp⟩
    · replace h := j_neg hc h
      obtain ⟨q4, _, h⟩ := j_bs h
      obtain ⟨_, h⟩ := j_gs h
      cases h
      exact ⟨hL, [], by simp⟩
  · replace h := j_neg hc h
    cases h
    exact ⟨hL, [], by simp⟩
theorem jx_add {l1 : Nat} {I : JI} {L : JL} {G D : JG} {S : JS} {q : JI × JL × JG × JG × JS} (hL : Lay G S) (h : fX6_addHonest l1 I L G D S = some q) : Lay q.2.2.1 q.2.2.2.2 ∧ ∃ T, q.2.2.2.2 = S ++ T := by
  unfold fX6_addHonest at h
  by_cases hc : (6 : Int32) ≤ (I 30 6)
  · replace h := j_pos hc h
    cases h
    exact ⟨hL, [], by simp⟩
  replace h := j_neg hc h
  obtain ⟨q1, h1, h⟩ := j_bs h
  obtain ⟨_, h⟩ := j_gs h
  obtain ⟨_, h⟩ := j_gs h
  rcases j_os h with ⟨_, h⟩ | ⟨b, _, h⟩
  · cases h
  obtain ⟨_, h⟩ := j_gs h
  obtain ⟨q3, _, h⟩ := j_bs h
  cases h
  exact ⟨lyX0_init hL h1, [(0, 7)], rfl⟩
theorem jx_honest {l1 l2 l3 l4 l5 l6 : Int32} {I : JI} {L : JL} {G D : JG} {S : JS} {q : Int32 × JI × JL × JG × JG × JS} (hL : Lay G S) (h : fX11_honest l1 l2 l3 l4 l5 l6 I L G D S = some q) : Lay q.2.2.2.1 q.2.2.2.2.2 ∧ ∃ T, q.2.2.2.2.2 = S ++ T := by
  unfold fX11_honest at h
  obtain ⟨q1, _, h⟩ := j_bs h
  obtain ⟨q2, _, h⟩ := j_bs h
  by_cases hc : q2 = 0
  · replace h := j_pos hc h
    cases h
    exact ⟨hL, [], by simp⟩
  replace h := j_neg hc h
  by_cases hc2 : (q1 30 6) < (6 : Int32)
  · replace h := j_pos hc2 h
    obtain ⟨q3, h3, h⟩ := j_bs h
    cases h
    exact jx_add hL h3
  · replace h := j_neg hc2 h
    cases h
    exact ⟨hL, [], by simp⟩
theorem lyX11_pass {l1 l2 l3 l4 l5 l6 l7 : Int32} {I : JI} {L : JL} {G D : JG} {S : JS} {q : Int32 × JI × JL × JG × JG × JS} (hL : Lay G S) (h : fX11_pass l1 l2 l3 l4 l5 l6 l7 I L G D S = some q) : Lay q.2.2.2.1 q.2.2.2.2.2 := (jx_pass hL h).1
theorem lyX11_mark {l1 l2 : Int32} {I : JI} {L : JL} {G D : JG} {S : JS} {q : Int32 × JI × JL × JG × JG × JS} (hL : Lay G S) (h : fX11_mark l1 l2 I L G D S = some q) : Lay q.2.2.2.1 q.2.2.2.2.2 := (jx_mark hL h).1
theorem lyX11_honest {l1 l2 l3 l4 l5 l6 : Int32} {I : JI} {L : JL} {G D : JG} {S : JS} {q : Int32 × JI × JL × JG × JG × JS} (hL : Lay G S) (h : fX11_honest l1 l2 l3 l4 l5 l6 I L G D S = some q) : Lay q.2.2.2.1 q.2.2.2.2.2 := (jx_honest hL h).1
theorem preX11_pass {l1 l2 l3 l4 l5 l6 l7 : Int32} {I : JI} {L : JL} {G D : JG} {S : JS} {q : Int32 × JI × JL × JG × JG × JS} {a : Nat} {sh : Nat × Nat} (hL : Lay G S) (h3 : S[a]? = some sh) (h : fX11_pass l1 l2 l3 l4 l5 l6 l7 I L G D S = some q) : q.2.2.2.2.2[a]? = some sh := by
  obtain ⟨T, hT⟩ := (jx_pass hL h).2
  rw [hT]
  exact jm_pre h3
theorem preX11_mark {l1 l2 : Int32} {I : JI} {L : JL} {G D : JG} {S : JS} {q : Int32 × JI × JL × JG × JG × JS} {a : Nat} {sh : Nat × Nat} (hL : Lay G S) (h3 : S[a]? = some sh) (h : fX11_mark l1 l2 I L G D S = some q) : q.2.2.2.2.2[a]? = some sh := by
  obtain ⟨T, hT⟩ := (jx_mark hL h).2
  rw [hT]
  exact jm_pre h3
theorem preX11_honest {l1 l2 l3 l4 l5 l6 : Int32} {I : JI} {L : JL} {G D : JG} {S : JS} {q : Int32 × JI × JL × JG × JG × JS} {a : Nat} {sh : Nat × Nat} (hL : Lay G S) (h3 : S[a]? = some sh) (h : fX11_honest l1 l2 l3 l4 l5 l6 I L G D S = some q) : q.2.2.2.2.2[a]? = some sh := by
  obtain ⟨T, hT⟩ := (jx_honest hL h).2
  rw [hT]
  exact jm_pre h3
