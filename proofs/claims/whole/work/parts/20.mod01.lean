def fX12_reads_399 (l1 : Int32) (I : JI) (L : JL) : Option (Int32 × JI × JL) :=
  if l1 = 0 then ((fX12_isSign (59 : Int32) I).bind (fun q30 => if q30 = 0 then ((fX12_fails (1 : Int32) I).bind (fun q31 => j_g (decide (jm_b01 q31.1 = q31.1)) (some (q31.1, q31.2, L)))) else ((fX12_nextToken I L).bind (fun q32 => some ((1 : Int32), q32.1, q32.2))))) else ((fX12_fails (1 : Int32) I).bind (fun q29 => j_g (decide (jm_b01 q29.1 = q29.1)) (some (q29.1, q29.2, L))))
set_option maxHeartbeats 4000000 in
set_option maxRecDepth 100000 in
theorem kX12_reads_399 {E : JE} {r : Int32 × JI × JL} {G : JG} {D : JG} {S : JS} (hL : Lay G S) : ∀ (l1 : Int32) (I : JI) (L : JL), fX12_reads_399 l1 I L = some r → AtJ E xX12_reads (Zr E (some (.int r.1)) r.2.1 r.2.2 G D S) ((S).length, jm_sl S) 4 399 [(0, .ref (E.1 + 66)), (1, .int l1)] [] I L G D S := by
  intro l1 I L  h
  unfold fX12_reads_399 at h
  refine j_iload_n 400 dX12_reads_399 rfl rfl 1 rfl ?_
  refine j_if_ne 418 403 dX12_reads_400 (by decide) rfl (fun hc => ?_) (fun hc => ?_)
  · replace h := j_neg hc h
    refine j_aload_n 419 dX12_reads_418 rfl rfl 0 rfl ?_
    refine j_iconst (v := (1 : Int32)) 420 dX12_reads_419 rfl (by decide) ?_
    obtain ⟨q29, hq29, h⟩ := j_bs h
    refine j_callV (rest := []) (As := [.int (1 : Int32)]) 423 dX12_reads_420 rfl jyX12_fails (tcX12_fails hL  hq29) (sh_66 hL) cl12 flX12_329 wm1785 wm48 (by decide) rfl rfl (Nat.le_of_ble_eq_true rfl) ?_
    obtain ⟨hz, h⟩ := j_gs h
    cases h
    exact j_zret dX12_reads_423 rfl (of_decide_eq_true hz)
  · replace h := j_pos hc h
    refine j_aload_n 404 dX12_reads_403 rfl rfl 0 rfl ?_
    refine j_bipush (v := (59 : Int32)) 406 dX12_reads_404 rfl (by decide) ?_
    obtain ⟨q30, hq30, h⟩ := j_bs h
    refine j_callV (rest := []) (As := [.int (59 : Int32)]) 409 dX12_reads_406 rfl jyX12_isSign (tcX12_isSign hL  hq30) (sh_66 hL) cl12 flX12_326 wm1797 wm50 (by decide) rfl rfl (Nat.le_of_ble_eq_true rfl) ?_
    refine j_if_eq 418 412 dX12_reads_409 (by decide) rfl (fun hc => ?_) (fun hc => ?_)
    · replace h := j_pos hc h
      refine j_aload_n 419 dX12_reads_418 rfl rfl 0 rfl ?_
      refine j_iconst (v := (1 : Int32)) 420 dX12_reads_419 rfl (by decide) ?_
      obtain ⟨q31, hq31, h⟩ := j_bs h
      refine j_callV (rest := []) (As := [.int (1 : Int32)]) 423 dX12_reads_420 rfl jyX12_fails (tcX12_fails hL  hq31) (sh_66 hL) cl12 flX12_329 wm1785 wm48 (by decide) rfl rfl (Nat.le_of_ble_eq_true rfl) ?_
      obtain ⟨hz, h⟩ := j_gs h
      cases h
      exact j_zret dX12_reads_423 rfl (of_decide_eq_true hz)
    · replace h := j_neg hc h
      refine j_aload_n 413 dX12_reads_412 rfl rfl 0 rfl ?_
      obtain ⟨q32, hq32, h⟩ := j_bs h
      refine j_callV (rest := []) (As := []) 416 dX12_reads_413 rfl jyX12_nextToken (tcX12_nextToken hL  hq32) (sh_66 hL) cl12 flX12_336 wm1769 wm45 (by decide) rfl rfl (Nat.le_of_ble_eq_true rfl) ?_
      refine j_iconst (v := (1 : Int32)) 417 dX12_reads_416 rfl (by decide) ?_
      cases h
      exact j_zret dX12_reads_417 rfl j_b01_1
def fX12_reads_424 (k11 : Int32 → Int32 → JI → JL → Option (Int32 × JI × JL)) (l1 : Int32) (l2 : Int32) (I : JI) (L : JL) : Option (Int32 × JI × JL) :=
  (fX12_nextToken I L).bind (fun q25 => k11 l1 l2 q25.1 q25.2)
set_option maxHeartbeats 4000000 in
set_option maxRecDepth 100000 in
theorem kX12_reads_424 {E : JE} {k11 : Int32 → Int32 → JI → JL → Option (Int32 × JI × JL)} {r : Int32 × JI × JL} {G : JG} {D : JG} {S : JS} (hL : Lay G S) (H11 : ∀ (l1 : Int32) (l2 : Int32) (I : JI) (L : JL), k11 l1 l2 I L = some r → AtJ E xX12_reads (Zr E (some (.int r.1)) r.2.1 r.2.2 G D S) ((S).length, jm_sl S) 4 11 [(0, .ref (E.1 + 66)), (1, .int l1), (2, .int l2)] [] I L G D S) : ∀ (l1 : Int32) (l2 : Int32) (I : JI) (L : JL), fX12_reads_424 k11 l1 l2 I L = some r → AtJ E xX12_reads (Zr E (some (.int r.1)) r.2.1 r.2.2 G D S) ((S).length, jm_sl S) 4 424 [(0, .ref (E.1 + 66)), (1, .int l1), (2, .int l2)] [] I L G D S := by
  intro l1 l2 I L  h
  unfold fX12_reads_424 at h
  refine j_aload_n 425 dX12_reads_424 rfl rfl 0 rfl ?_
  obtain ⟨q25, hq25, h⟩ := j_bs h
  refine j_callV (rest := []) (As := []) 428 dX12_reads_425 rfl jyX12_nextToken (tcX12_nextToken hL  hq25) (sh_66 hL) cl12 flX12_336 wm1769 wm45 (by decide) rfl rfl (Nat.le_of_ble_eq_true rfl) ?_
  refine j_goto 11 dX12_reads_428 (by decide) ?_
  exact H11 _ _ _ _  h
def fX12_reads_379 (k11 : Int32 → Int32 → JI → JL → Option (Int32 × JI × JL)) : Nat → Int32 → Int32 → JI → JL → Option (Int32 × JI × JL)
  | 0, _, _, _, _ => none
  | n + 1, l1, l2, I, L =>
    if l1 ≤ 0 then (fX12_reads_424 k11 l1 l2 I L) else (j_g (j_in l1 7) (if (I 84 l1.toNatClampNeg) = (1 : Int32) then ((fX12_reads_379 k11 n) (l1 + (-1 : Int32)) l2 I L) else (fX12_reads_424 k11 l1 l2 I L)))
set_option maxHeartbeats 4000000 in
set_option maxRecDepth 100000 in
theorem kX12_reads_379 {E : JE} {k11 : Int32 → Int32 → JI → JL → Option (Int32 × JI × JL)} {r : Int32 × JI × JL} {G : JG} {D : JG} {S : JS} (hL : Lay G S) (H11 : ∀ (l1 : Int32) (l2 : Int32) (I : JI) (L : JL), k11 l1 l2 I L = some r → AtJ E xX12_reads (Zr E (some (.int r.1)) r.2.1 r.2.2 G D S) ((S).length, jm_sl S) 4 11 [(0, .ref (E.1 + 66)), (1, .int l1), (2, .int l2)] [] I L G D S) : ∀ (n : Nat) (l1 : Int32) (l2 : Int32) (I : JI) (L : JL), fX12_reads_379 k11 n l1 l2 I L = some r → AtJ E xX12_reads (Zr E (some (.int r.1)) r.2.1 r.2.2 G D S) ((S).length, jm_sl S) 4 379 [(0, .ref (E.1 + 66)), (1, .int l1), (2, .int l2)] [] I L G D S := by
  intro n
  induction n with
  | zero => intro l1 l2 I L  h; simp [fX12_reads_379] at h
  | succ n ih =>
    intro l1 l2 I L  h
    rw [fX12_reads_379] at h
    refine j_iload_n 380 dX12_reads_379 rfl rfl 1 rfl ?_
    refine j_if_le 424 383 dX12_reads_380 (by decide) rfl (fun hc => ?_) (fun hc => ?_)
    · replace h := j_pos hc h
      exact kX12_reads_424 hL   H11 _ _ _ _  h
    · replace h := j_neg hc h
      refine j_aload_n 384 dX12_reads_383 rfl rfl 0 rfl ?_
      refine j_getG 387 dX12_reads_384 rfl (sh_66 hL) cl12 (k := 31) (by decide) flX12_62 rfl (gs_66_31 hL) ?_
      refine j_iload_n 388 dX12_reads_387 rfl rfl 1 rfl ?_
      obtain ⟨hg, h⟩ := j_gs h
      refine j_iald 389 dX12_reads_388 rfl (sh_84 hL) (j_inv hg) ?_
      refine j_iconst (v := (1 : Int32)) 390 dX12_reads_389 rfl (by decide) ?_
      refine j_icmp_ne 424 393 dX12_reads_390 (by decide) rfl (fun hc => ?_) (fun hc => ?_)
      · replace h := j_neg hc h
        exact kX12_reads_424 hL   H11 _ _ _ _  h
      · replace h := j_pos hc h
        refine j_iinc (v := (l1 + (-1 : Int32))) (lv' := [(1, .int (l1 + (-1 : Int32))), (0, .ref (E.1 + 66)), (2, .int l2)]) (q := 1) 396 dX12_reads_393 rfl rfl rfl (by decide) rfl ?_
        refine j_goto 379 dX12_reads_396 (by decide) ?_
        refine j_sub [1, 0, 2] rfl ?_
        exact ih _ _ _ _  h
def fX12_reads_324 (k11 : Int32 → Int32 → JI → JL → Option (Int32 × JI × JL)) (l1 : Int32) (I : JI) (L : JL) : Option (Int32 × JI × JL) :=
  (fX12_isWord (1111 : Int64) I L).bind (fun q26 => if q26 = 0 then ((fX12_puts (27 : Int32) I).bind (fun q27 => j_g (j_in l1 7) (fX12_reads_424 k11 l1 (1 : Int32) (j_up q27 85 l1.toNatClampNeg (0 : Int32)) L))) else ((fX12_puts (26 : Int32) I).bind (fun q28 => j_g (j_in l1 7) (fX12_reads_424 k11 l1 (1 : Int32) (j_up q28 85 l1.toNatClampNeg (0 : Int32)) L))))
set_option maxHeartbeats 4000000 in
set_option maxRecDepth 100000 in
theorem kX12_reads_324 {E : JE} {k11 : Int32 → Int32 → JI → JL → Option (Int32 × JI × JL)} {r : Int32 × JI × JL} {G : JG} {D : JG} {S : JS} (hL : Lay G S) (H11 : ∀ (l1 : Int32) (l2 : Int32) (I : JI) (L : JL), k11 l1 l2 I L = some r → AtJ E xX12_reads (Zr E (some (.int r.1)) r.2.1 r.2.2 G D S) ((S).length, jm_sl S) 4 11 [(0, .ref (E.1 + 66)), (1, .int l1), (2, .int l2)] [] I L G D S) : ∀ (l1 : Int32) (I : JI) (L : JL), fX12_reads_324 k11 l1 I L = some r → AtJ E xX12_reads (Zr E (some (.int r.1)) r.2.1 r.2.2 G D S) ((S).length, jm_sl S) 4 324 [(0, .ref (E.1 + 66)), (1, .int l1)] [] I L G D S := by
  intro l1 I L  h
  unfold fX12_reads_324 at h
  refine j_aload_n 325 dX12_reads_324 rfl rfl 0 rfl ?_
  refine j_aload_n 326 dX12_reads_325 rfl rfl 0 rfl ?_
  refine j_ldc2 (v := (1111 : Int64)) 329 dX12_reads_326 rfl wm1846 ?_
  obtain ⟨q26, hq26, h⟩ := j_bs h
  refine j_callV (rest := [.ref (E.1 + 66)]) (As := [.long (1111 : Int64)]) 332 dX12_reads_329 rfl jyX12_isWord (tcX12_isWord hL  hq26) (sh_66 hL) cl12 flX12_313 wm1780 wm47 (by decide) rfl rfl (Nat.le_of_ble_eq_true rfl) ?_
  refine j_if_eq 340 335 dX12_reads_332 (by decide) rfl (fun hc => ?_) (fun hc => ?_)
  · replace h := j_pos hc h
    refine j_bipush (v := (27 : Int32)) 342 dX12_reads_340 rfl (by decide) ?_
    obtain ⟨q27, hq27, h⟩ := j_bs h
    refine j_callV (rest := []) (As := [.int (27 : Int32)]) 345 dX12_reads_342 rfl jyX12_puts (tcX12_puts hL  hq27) (sh_66 hL) cl12 flX12_332 wm1844 wm56 (by decide) rfl rfl (Nat.le_of_ble_eq_true rfl) ?_
    refine j_aload_n 346 dX12_reads_345 rfl rfl 0 rfl ?_
    refine j_getG 349 dX12_reads_346 rfl (sh_66 hL) cl12 (k := 32) (by decide) flX12_65 rfl (gs_66_32 hL) ?_
    refine j_iload_n 350 dX12_reads_349 rfl rfl 1 rfl ?_
    refine j_iconst (v := (0 : Int32)) 351 dX12_reads_350 rfl (by decide) ?_
    obtain ⟨hg, h⟩ := j_gs h
    refine j_zast 352 dX12_reads_351 rfl (sh_85 hL) (j_inv hg) j_b01_0 ?_
    refine j_iconst (v := (1 : Int32)) 353 dX12_reads_352 rfl (by decide) ?_
    refine j_istore_n (lv' := [(2, .int (1 : Int32)), (0, .ref (E.1 + 66)), (1, .int l1)]) 354 dX12_reads_353 rfl rfl (by decide) rfl ?_
    refine j_goto 424 dX12_reads_354 (by decide) ?_
    refine j_sub [1, 2, 0] rfl ?_
    exact kX12_reads_424 hL   H11 _ _ _ _  h
  · replace h := j_neg hc h
    refine j_bipush (v := (26 : Int32)) 337 dX12_reads_335 rfl (by decide) ?_
    refine j_goto 342 dX12_reads_337 (by decide) ?_
    obtain ⟨q28, hq28, h⟩ := j_bs h
    refine j_callV (rest := []) (As := [.int (26 : Int32)]) 345 dX12_reads_342 rfl jyX12_puts (tcX12_puts hL  hq28) (sh_66 hL) cl12 flX12_332 wm1844 wm56 (by decide) rfl rfl (Nat.le_of_ble_eq_true rfl) ?_
    refine j_aload_n 346 dX12_reads_345 rfl rfl 0 rfl ?_
    refine j_getG 349 dX12_reads_346 rfl (sh_66 hL) cl12 (k := 32) (by decide) flX12_65 rfl (gs_66_32 hL) ?_
    refine j_iload_n 350 dX12_reads_349 rfl rfl 1 rfl ?_
    refine j_iconst (v := (0 : Int32)) 351 dX12_reads_350 rfl (by decide) ?_
    obtain ⟨hg, h⟩ := j_gs h
    refine j_zast 352 dX12_reads_351 rfl (sh_85 hL) (j_inv hg) j_b01_0 ?_
    refine j_iconst (v := (1 : Int32)) 353 dX12_reads_352 rfl (by decide) ?_
    refine j_istore_n (lv' := [(2, .int (1 : Int32)), (0, .ref (E.1 + 66)), (1, .int l1)]) 354 dX12_reads_353 rfl rfl (by decide) rfl ?_
    refine j_goto 424 dX12_reads_354 (by decide) ?_
    refine j_sub [1, 2, 0] rfl ?_
    exact kX12_reads_424 hL   H11 _ _ _ _  h
def fX12_reads_304 (k11 : Int32 → Int32 → JI → JL → Option (Int32 × JI × JL)) (l1 : Int32) (l2 : Int32) (I : JI) (L : JL) : Option (Int32 × JI × JL) :=
  (fX12_isWord (1111 : Int64) I L).bind (fun q18 => if q18 = 0 then ((fX12_isWord (423 : Int64) I L).bind (fun q19 => if q19 = 0 then ((fX12_isSign (41 : Int32) I).bind (fun q20 => if q20 = 0 then (fX12_reads_399 l1 I L) else (if l1 ≤ 0 then (fX12_reads_399 l1 I L) else ((fX12_puts (29 : Int32) I).bind (fun q21 => fX12_reads_379 k11 100000 (l1 + (-1 : Int32)) l2 q21 L))))) else (fX12_reads_324 k11 l1 I L))) else (fX12_reads_324 k11 l1 I L))
set_option maxHeartbeats 4000000 in
set_option maxRecDepth 100000 in
theorem kX12_reads_304 {E : JE} {k11 : Int32 → Int32 → JI → JL → Option (Int32 × JI × JL)} {r : Int32 × JI × JL} {G : JG} {D : JG} {S : JS} (hL : Lay G S) (H11 : ∀ (l1 : Int32) (l2 : Int32) (I : JI) (L : JL), k11 l1 l2 I L = some r → AtJ E xX12_reads (Zr E (some (.int r.1)) r.2.1 r.2.2 G D S) ((S).length, jm_sl S) 4 11 [(0, .ref (E.1 + 66)), (1, .int l1), (2, .int l2)] [] I L G D S) : ∀ (l1 : Int32) (l2 : Int32) (I : JI) (L : JL), fX12_reads_304 k11 l1 l2 I L = some r → AtJ E xX12_reads (Zr E (some (.int r.1)) r.2.1 r.2.2 G D S) ((S).length, jm_sl S) 4 304 [(0, .ref (E.1 + 66)), (1, .int l1), (2, .int l2)] [] I L G D S := by
  intro l1 l2 I L  h
  unfold fX12_reads_304 at h
  refine j_aload_n 305 dX12_reads_304 rfl rfl 0 rfl ?_
  refine j_ldc2 (v := (1111 : Int64)) 308 dX12_reads_305 rfl wm1846 ?_
  obtain ⟨q18, hq18, h⟩ := j_bs h
  refine j_callV (rest := []) (As := [.long (1111 : Int64)]) 311 dX12_reads_308 rfl jyX12_isWord (tcX12_isWord hL  hq18) (sh_66 hL) cl12 flX12_313 wm1780 wm47 (by decide) rfl rfl (Nat.le_of_ble_eq_true rfl) ?_
  refine j_if_ne 324 314 dX12_reads_311 (by decide) rfl (fun hc => ?_) (fun hc => ?_)
  · replace h := j_neg hc h
    refine j_sub [0, 1] rfl ?_
    exact kX12_reads_324 hL   H11 _ _ _  h
  · replace h := j_pos hc h
    refine j_aload_n 315 dX12_reads_314 rfl rfl 0 rfl ?_
    refine j_ldc2 (v := (423 : Int64)) 318 dX12_reads_315 rfl wm1847 ?_
    obtain ⟨q19, hq19, h⟩ := j_bs h
    refine j_callV (rest := []) (As := [.long (423 : Int64)]) 321 dX12_reads_318 rfl jyX12_isWord (tcX12_isWord hL  hq19) (sh_66 hL) cl12 flX12_313 wm1780 wm47 (by decide) rfl rfl (Nat.le_of_ble_eq_true rfl) ?_
    refine j_if_eq 357 324 dX12_reads_321 (by decide) rfl (fun hc => ?_) (fun hc => ?_)
    · replace h := j_pos hc h
      refine j_aload_n 358 dX12_reads_357 rfl rfl 0 rfl ?_
      refine j_bipush (v := (41 : Int32)) 360 dX12_reads_358 rfl (by decide) ?_
      obtain ⟨q20, hq20, h⟩ := j_bs h
      refine j_callV (rest := []) (As := [.int (41 : Int32)]) 363 dX12_reads_360 rfl jyX12_isSign (tcX12_isSign hL  hq20) (sh_66 hL) cl12 flX12_326 wm1797 wm50 (by decide) rfl rfl (Nat.le_of_ble_eq_true rfl) ?_
      refine j_if_eq 399 366 dX12_reads_363 (by decide) rfl (fun hc => ?_) (fun hc => ?_)
      · replace h := j_pos hc h
        refine j_sub [0, 1] rfl ?_
        exact kX12_reads_399 hL    _ _ _  h
      · replace h := j_neg hc h
        refine j_iload_n 367 dX12_reads_366 rfl rfl 1 rfl ?_
        refine j_if_le 399 370 dX12_reads_367 (by decide) rfl (fun hc => ?_) (fun hc => ?_)
        · replace h := j_pos hc h
          refine j_sub [0, 1] rfl ?_
          exact kX12_reads_399 hL    _ _ _  h
        · replace h := j_neg hc h
          refine j_aload_n 371 dX12_reads_370 rfl rfl 0 rfl ?_
          refine j_bipush (v := (29 : Int32)) 373 dX12_reads_371 rfl (by decide) ?_
          obtain ⟨q21, hq21, h⟩ := j_bs h
          refine j_callV (rest := []) (As := [.int (29 : Int32)]) 376 dX12_reads_373 rfl jyX12_puts (tcX12_puts hL  hq21) (sh_66 hL) cl12 flX12_332 wm1844 wm56 (by decide) rfl rfl (Nat.le_of_ble_eq_true rfl) ?_
          refine j_iinc (v := (l1 + (-1 : Int32))) (lv' := [(1, .int (l1 + (-1 : Int32))), (0, .ref (E.1 + 66)), (2, .int l2)]) (q := 1) 379 dX12_reads_376 rfl rfl rfl (by decide) rfl ?_
          refine j_sub [1, 0, 2] rfl ?_
          exact kX12_reads_379 hL   H11 100000 _ _ _ _  h
    · replace h := j_neg hc h
      refine j_sub [0, 1] rfl ?_
      exact kX12_reads_324 hL   H11 _ _ _  h
def fX12_reads_263 (k11 : Int32 → Int32 → JI → JL → Option (Int32 × JI × JL)) (l1 : Int32) (l2 : Int32) (I : JI) (L : JL) : Option (Int32 × JI × JL) :=
  j_g (j_in l1 7) (if (jm_b01 (I 85 l1.toNatClampNeg)) = 0 then ((fX12_isSign (60 : Int32) I).bind (fun q15 => if q15 = 0 then ((fX12_puts (25 : Int32) I).bind (fun q16 => j_g (j_in l1 7) (fX12_reads_424 k11 l1 (1 : Int32) (j_up q16 85 l1.toNatClampNeg (1 : Int32)) L))) else ((fX12_puts (24 : Int32) I).bind (fun q17 => j_g (j_in l1 7) (fX12_reads_424 k11 l1 (1 : Int32) (j_up q17 85 l1.toNatClampNeg (1 : Int32)) L))))) else (fX12_reads_304 k11 l1 l2 I L))
set_option maxHeartbeats 4000000 in
set_option maxRecDepth 100000 in
theorem kX12_reads_263 {E : JE} {k11 : Int32 → Int32 → JI → JL → Option (Int32 × JI × JL)} {r : Int32 × JI × JL} {G : JG} {D : JG} {S : JS} (hL : Lay G S) (H11 : ∀ (l1 : Int32) (l2 : Int32) (I : JI) (L : JL), k11 l1 l2 I L = some r → AtJ E xX12_reads (Zr E (some (.int r.1)) r.2.1 r.2.2 G D S) ((S).length, jm_sl S) 4 11 [(0, .ref (E.1 + 66)), (1, .int l1), (2, .int l2)] [] I L G D S) : ∀ (l1 : Int32) (l2 : Int32) (I : JI) (L : JL), fX12_reads_263 k11 l1 l2 I L = some r → AtJ E xX12_reads (Zr E (some (.int r.1)) r.2.1 r.2.2 G D S) ((S).length, jm_sl S) 4 263 [(0, .ref (E.1 + 66)), (1, .int l1), (2, .int l2)] [] I L G D S := by
  intro l1 l2 I L  h
  unfold fX12_reads_263 at h
  refine j_aload_n 264 dX12_reads_263 rfl rfl 0 rfl ?_
  refine j_getG 267 dX12_reads_264 rfl (sh_66 hL) cl12 (k := 32) (by decide) flX12_65 rfl (gs_66_32 hL) ?_
  refine j_iload_n 268 dX12_reads_267 rfl rfl 1 rfl ?_
  obtain ⟨hg, h⟩ := j_gs h
  refine j_zald 269 dX12_reads_268 rfl (sh_85 hL) (j_inv hg) ?_
  refine j_if_ne 304 272 dX12_reads_269 (by decide) rfl (fun hc => ?_) (fun hc => ?_)
  · replace h := j_neg hc h
    exact kX12_reads_304 hL   H11 _ _ _ _  h
  · replace h := j_pos hc h
    refine j_aload_n 273 dX12_reads_272 rfl rfl 0 rfl ?_
    refine j_aload_n 274 dX12_reads_273 rfl rfl 0 rfl ?_
    refine j_bipush (v := (60 : Int32)) 276 dX12_reads_274 rfl (by decide) ?_
    obtain ⟨q15, hq15, h⟩ := j_bs h
    refine j_callV (rest := [.ref (E.1 + 66)]) (As := [.int (60 : Int32)]) 279 dX12_reads_276 rfl jyX12_isSign (tcX12_isSign hL  hq15) (sh_66 hL) cl12 flX12_326 wm1797 wm50 (by decide) rfl rfl (Nat.le_of_ble_eq_true rfl) ?_
    refine j_if_eq 287 282 dX12_reads_279 (by decide) rfl (fun hc => ?_) (fun hc => ?_)
    · replace h := j_pos hc h
      refine j_bipush (v := (25 : Int32)) 289 dX12_reads_287 rfl (by decide) ?_
      obtain ⟨q16, hq16, h⟩ := j_bs h
      refine j_callV (rest := []) (As := [.int (25 : Int32)]) 292 dX12_reads_289 rfl jyX12_puts (tcX12_puts hL  hq16) (sh_66 hL) cl12 flX12_332 wm1844 wm56 (by decide) rfl rfl (Nat.le_of_ble_eq_true rfl) ?_
      refine j_aload_n 293 dX12_reads_292 rfl rfl 0 rfl ?_
      refine j_getG 296 dX12_reads_293 rfl (sh_66 hL) cl12 (k := 32) (by decide) flX12_65 rfl (gs_66_32 hL) ?_
      refine j_iload_n 297 dX12_reads_296 rfl rfl 1 rfl ?_
      refine j_iconst (v := (1 : Int32)) 298 dX12_reads_297 rfl (by decide) ?_
      obtain ⟨hg, h⟩ := j_gs h
      refine j_zast 299 dX12_reads_298 rfl (sh_85 hL) (j_inv hg) j_b01_1 ?_
      refine j_iconst (v := (1 : Int32)) 300 dX12_reads_299 rfl (by decide) ?_
      refine j_istore_n (lv' := [(2, .int (1 : Int32)), (0, .ref (E.1 + 66)), (1, .int l1)]) 301 dX12_reads_300 rfl rfl (by decide) rfl ?_
      refine j_goto 424 dX12_reads_301 (by decide) ?_
      refine j_sub [1, 2, 0] rfl ?_
      exact kX12_reads_424 hL   H11 _ _ _ _  h
    · replace h := j_neg hc h
      refine j_bipush (v := (24 : Int32)) 284 dX12_reads_282 rfl (by decide) ?_
      refine j_goto 289 dX12_reads_284 (by decide) ?_
      obtain ⟨q17, hq17, h⟩ := j_bs h
      refine j_callV (rest := []) (As := [.int (24 : Int32)]) 292 dX12_reads_289 rfl jyX12_puts (tcX12_puts hL  hq17) (sh_66 hL) cl12 flX12_332 wm1844 wm56 (by decide) rfl rfl (Nat.le_of_ble_eq_true rfl) ?_
      refine j_aload_n 293 dX12_reads_292 rfl rfl 0 rfl ?_
      refine j_getG 296 dX12_reads_293 rfl (sh_66 hL) cl12 (k := 32) (by decide) flX12_65 rfl (gs_66_32 hL) ?_
      refine j_iload_n 297 dX12_reads_296 rfl rfl 1 rfl ?_
      refine j_iconst (v := (1 : Int32)) 298 dX12_reads_297 rfl (by decide) ?_
      obtain ⟨hg, h⟩ := j_gs h
      refine j_zast 299 dX12_reads_298 rfl (sh_85 hL) (j_inv hg) j_b01_1 ?_
      refine j_iconst (v := (1 : Int32)) 300 dX12_reads_299 rfl (by decide) ?_
      refine j_istore_n (lv' := [(2, .int (1 : Int32)), (0, .ref (E.1 + 66)), (1, .int l1)]) 301 dX12_reads_300 rfl rfl (by decide) rfl ?_
      refine j_goto 424 dX12_reads_301 (by decide) ?_
      refine j_sub [1, 2, 0] rfl ?_
      exact kX12_reads_424 hL   H11 _ _ _ _  h
def fX12_reads_206 (k11 : Int32 → Int32 → JI → JL → Option (Int32 × JI × JL)) (l1 : Int32) (I : JI) (L : JL) : Option (Int32 × JI × JL) :=
  (fX12_isSign (43 : Int32) I).bind (fun q10 => if q10 = 0 then ((fX12_isSign (45 : Int32) I).bind (fun q11 => if q11 = 0 then ((fX12_puts (22 : Int32) I).bind (fun q12 => fX12_reads_424 k11 l1 (1 : Int32) q12 L)) else ((fX12_puts (21 : Int32) I).bind (fun q13 => fX12_reads_424 k11 l1 (1 : Int32) q13 L)))) else ((fX12_puts (20 : Int32) I).bind (fun q14 => fX12_reads_424 k11 l1 (1 : Int32) q14 L)))
set_option maxHeartbeats 4000000 in
set_option maxRecDepth 100000 in
theorem kX12_reads_206 {E : JE} {k11 : Int32 → Int32 → JI → JL → Option (Int32 × JI × JL)} {r : Int32 × JI × JL} {G : JG} {D : JG} {S : JS} (hL : Lay G S) (H11 : ∀ (l1 : Int32) (l2 : Int32) (I : JI) (L : JL), k11 l1 l2 I L = some r → AtJ E xX12_reads (Zr E (some (.int r.1)) r.2.1 r.2.2 G D S) ((S).length, jm_sl S) 4 11 [(0, .ref (E.1 + 66)), (1, .int l1), (2, .int l2)] [] I L G D S) : ∀ (l1 : Int32) (I : JI) (L : JL), fX12_reads_206 k11 l1 I L = some r → AtJ E xX12_reads (Zr E (some (.int r.1)) r.2.1 r.2.2 G D S) ((S).length, jm_sl S) 4 206 [(0, .ref (E.1 + 66)), (1, .int l1)] [] I L G D S := by
  intro l1 I L  h
  unfold fX12_reads_206 at h
  refine j_aload_n 207 dX12_reads_206 rfl rfl 0 rfl ?_
  refine j_aload_n 208 dX12_reads_207 rfl rfl 0 rfl ?_
  refine j_bipush (v := (43 : Int32)) 210 dX12_reads_208 rfl (by decide) ?_
  obtain ⟨q10, hq10, h⟩ := j_bs h
  refine j_callV (rest := [.ref (E.1 + 66)]) (As := [.int (43 : Int32)]) 213 dX12_reads_210 rfl jyX12_isSign (tcX12_isSign hL  hq10) (sh_66 hL) cl12 flX12_326 wm1797 wm50 (by decide) rfl rfl (Nat.le_of_ble_eq_true rfl) ?_
  refine j_if_eq 221 216 dX12_reads_213 (by decide) rfl (fun hc => ?_) (fun hc => ?_)
  · replace h := j_pos hc h
    refine j_aload_n 222 dX12_reads_221 rfl rfl 0 rfl ?_
    refine j_bipush (v := (45 : Int32)) 224 dX12_reads_222 rfl (by decide) ?_
    obtain ⟨q11, hq11, h⟩ := j_bs h
    refine j_callV (rest := [.ref (E.1 + 66)]) (As := [.int (45 : Int32)]) 227 dX12_reads_224 rfl jyX12_isSign (tcX12_isSign hL  hq11) (sh_66 hL) cl12 flX12_326 wm1797 wm50 (by decide) rfl rfl (Nat.le_of_ble_eq_true rfl) ?_
    refine j_if_eq 235 230 dX12_reads_227 (by decide) rfl (fun hc => ?_) (fun hc => ?_)
    · replace h := j_pos hc h
      refine j_bipush (v := (22 : Int32)) 237 dX12_reads_235 rfl (by decide) ?_
      obtain ⟨q12, hq12, h⟩ := j_bs h
      refine j_callV (rest := []) (As := [.int (22 : Int32)]) 240 dX12_reads_237 rfl jyX12_puts (tcX12_puts hL  hq12) (sh_66 hL) cl12 flX12_332 wm1844 wm56 (by decide) rfl rfl (Nat.le_of_ble_eq_true rfl) ?_
      refine j_iconst (v := (1 : Int32)) 241 dX12_reads_240 rfl (by decide) ?_
      refine j_istore_n (lv' := [(2, .int (1 : Int32)), (0, .ref (E.1 + 66)), (1, .int l1)]) 242 dX12_reads_241 rfl rfl (by decide) rfl ?_
      refine j_goto 424 dX12_reads_242 (by decide) ?_
      refine j_sub [1, 2, 0] rfl ?_
      exact kX12_reads_424 hL   H11 _ _ _ _  h
    · replace h := j_neg hc h
      refine j_bipush (v := (21 : Int32)) 232 dX12_reads_230 rfl (by decide) ?_
      refine j_goto 237 dX12_reads_232 (by decide) ?_
      obtain ⟨q13, hq13, h⟩ := j_bs h
      refine j_callV (rest := []) (As := [.int (21 : Int32)]) 240 dX12_reads_237 rfl jyX12_puts (tcX12_puts hL  hq13) (sh_66 hL) cl12 flX12_332 wm1844 wm56 (by decide) rfl rfl (Nat.le_of_ble_eq_true rfl) ?_
      refine j_iconst (v := (1 : Int32)) 241 dX12_reads_240 rfl (by decide) ?_
      refine j_istore_n (lv' := [(2, .int (1 : Int32)), (0, .ref (E.1 + 66)), (1, .int l1)]) 242 dX12_reads_241 rfl rfl (by decide) rfl ?_
      refine j_goto 424 dX12_reads_242 (by decide) ?_
      refine j_sub [1, 2, 0] rfl ?_
      exact kX12_reads_424 hL   H11 _ _ _ _  h
  · replace h := j_neg hc h
    refine j_bipush (v := (20 : Int32)) 218 dX12_reads_216 rfl (by decide) ?_
    refine j_goto 237 dX12_reads_218 (by decide) ?_
    obtain ⟨q14, hq14, h⟩ := j_bs h
    refine j_callV (rest := []) (As := [.int (20 : Int32)]) 240 dX12_reads_237 rfl jyX12_puts (tcX12_puts hL  hq14) (sh_66 hL) cl12 flX12_332 wm1844 wm56 (by decide) rfl rfl (Nat.le_of_ble_eq_true rfl) ?_
    refine j_iconst (v := (1 : Int32)) 241 dX12_reads_240 rfl (by decide) ?_
    refine j_istore_n (lv' := [(2, .int (1 : Int32)), (0, .ref (E.1 + 66)), (1, .int l1)]) 242 dX12_reads_241 rfl rfl (by decide) rfl ?_
    refine j_goto 424 dX12_reads_242 (by decide) ?_
    refine j_sub [1, 2, 0] rfl ?_
    exact kX12_reads_424 hL   H11 _ _ _ _  h
def fX12_reads_172 (k11 : Int32 → Int32 → JI → JL → Option (Int32 × JI × JL)) (l1 : Int32) (l2 : Int32) (I : JI) (L : JL) : Option (Int32 × JI × JL) :=
  (fX12_nextToken I L).bind (fun q34 => k11 l1 l2 q34.1 q34.2)
set_option maxHeartbeats 4000000 in
set_option maxRecDepth 100000 in
theorem kX12_reads_172 {E : JE} {k11 : Int32 → Int32 → JI → JL → Option (Int32 × JI × JL)} {r : Int32 × JI × JL} {G : JG} {D : JG} {S : JS} (hL : Lay G S) (H11 : ∀ (l1 : Int32) (l2 : Int32) (I : JI) (L : JL), k11 l1 l2 I L = some r → AtJ E xX12_reads (Zr E (some (.int r.1)) r.2.1 r.2.2 G D S) ((S).length, jm_sl S) 4 11 [(0, .ref (E.1 + 66)), (1, .int l1), (2, .int l2)] [] I L G D S) : ∀ (l1 : Int32) (l2 : Int32) (I : JI) (L : JL), fX12_reads_172 k11 l1 l2 I L = some r → AtJ E xX12_reads (Zr E (some (.int r.1)) r.2.1 r.2.2 G D S) ((S).length, jm_sl S) 4 172 [(0, .ref (E.1 + 66)), (1, .int l1), (2, .int l2)] [] I L G D S := by
  intro l1 l2 I L  h
  unfold fX12_reads_172 at h
  refine j_aload_n 173 dX12_reads_172 rfl rfl 0 rfl ?_
  obtain ⟨q34, hq34, h⟩ := j_bs h
  refine j_callV (rest := []) (As := []) 176 dX12_reads_173 rfl jyX12_nextToken (tcX12_nextToken hL  hq34) (sh_66 hL) cl12 flX12_336 wm1769 wm45 (by decide) rfl rfl (Nat.le_of_ble_eq_true rfl) ?_
  refine j_goto 11 dX12_reads_176 (by decide) ?_
  exact H11 _ _ _ _  h
def fX12_reads_152 (k11 : Int32 → Int32 → JI → JL → Option (Int32 × JI × JL)) : Nat → Int32 → Int32 → JI → JL → Option (Int32 × JI × JL)
  | 0, _, _, _, _ => none
  | n + 1, l1, l2, I, L =>
    if l1 ≤ 0 then (fX12_reads_172 k11 l1 l2 I L) else (j_g (j_in l1 7) (if (I 84 l1.toNatClampNeg) = (1 : Int32) then ((fX12_reads_152 k11 n) (l1 + (-1 : Int32)) l2 I L) else (fX12_reads_172 k11 l1 l2 I L)))
set_option maxHeartbeats 4000000 in
set_option maxRecDepth 100000 in
theorem kX12_reads_152 {E : JE} {k11 : Int32 → Int32 → JI → JL → Option (Int32 × JI × JL)} {r : Int32 × JI × JL} {G : JG} {D : JG} {S : JS} (hL : Lay G S) (H11 : ∀ (l1 : Int32) (l2 : Int32) (I : JI) (L : JL), k11 l1 l2 I L = some r → AtJ E xX12_reads (Zr E (some (.int r.1)) r.2.1 r.2.2 G D S) ((S).length, jm_sl S) 4 11 [(0, .ref (E.1 + 66)), (1, .int l1), (2, .int l2)] [] I L G D S) : ∀ (n : Nat) (l1 : Int32) (l2 : Int32) (I : JI) (L : JL), fX12_reads_152 k11 n l1 l2 I L = some r → AtJ E xX12_reads (Zr E (some (.int r.1)) r.2.1 r.2.2 G D S) ((S).length, jm_sl S) 4 152 [(0, .ref (E.1 + 66)), (1, .int l1), (2, .int l2)] [] I L G D S := by
  intro n
  induction n with
  | zero => intro l1 l2 I L  h; simp [fX12_reads_152] at h
  | succ n ih =>
    intro l1 l2 I L  h
    rw [fX12_reads_152] at h
    refine j_iload_n 153 dX12_reads_152 rfl rfl 1 rfl ?_
    refine j_if_le 172 156 dX12_reads_153 (by decide) rfl (fun hc => ?_) (fun hc => ?_)
    · replace h := j_pos hc h
      exact kX12_reads_172 hL   H11 _ _ _ _  h
    · replace h := j_neg hc h
      refine j_aload_n 157 dX12_reads_156 rfl rfl 0 rfl ?_
      refine j_getG 160 dX12_reads_157 rfl (sh_66 hL) cl12 (k := 31) (by decide) flX12_62 rfl (gs_66_31 hL) ?_
      refine j_iload_n 161 dX12_reads_160 rfl rfl 1 rfl ?_
      obtain ⟨hg, h⟩ := j_gs h
      refine j_iald 162 dX12_reads_161 rfl (sh_84 hL) (j_inv hg) ?_
      refine j_iconst (v := (1 : Int32)) 163 dX12_reads_162 rfl (by decide) ?_
      refine j_icmp_ne 172 166 dX12_reads_163 (by decide) rfl (fun hc => ?_) (fun hc => ?_)
      · replace h := j_neg hc h
        exact kX12_reads_172 hL   H11 _ _ _ _  h
      · replace h := j_pos hc h
        refine j_iinc (v := (l1 + (-1 : Int32))) (lv' := [(1, .int (l1 + (-1 : Int32))), (0, .ref (E.1 + 66)), (2, .int l2)]) (q := 1) 169 dX12_reads_166 rfl rfl rfl (by decide) rfl ?_
        refine j_goto 152 dX12_reads_169 (by decide) ?_
        refine j_sub [1, 0, 2] rfl ?_
        exact ih _ _ _ _  h
def fX12_reads_99 (k11 : Int32 → Int32 → JI → JL → Option (Int32 × JI × JL)) (l1 : Int32) (l2 : Int32) (l4 : Int32) (s0 : Int32) (I : JI) (L : JL) : Option (Int32 × JI × JL) :=
  (fX12_puts s0 I).bind (fun q33 => if l4 = 0 then (j_g (j_in (l1 + (1 : Int32)) 7) (j_g (j_in (l1 + (1 : Int32)) 7) (fX12_reads_172 k11 (l1 + (1 : Int32)) l2 (j_up (j_up q33 84 (l1 + (1 : Int32)).toNatClampNeg (2 : Int32)) 85 (l1 + (1 : Int32)).toNatClampNeg (0 : Int32)) L))) else (j_g (j_in (l1 + (1 : Int32)) 7) (j_g (j_in (l1 + (1 : Int32)) 7) (fX12_reads_172 k11 (l1 + (1 : Int32)) l2 (j_up (j_up q33 84 (l1 + (1 : Int32)).toNatClampNeg (1 : Int32)) 85 (l1 + (1 : Int32)).toNatClampNeg (0 : Int32)) L))))
set_option maxHeartbeats 4000000 in
set_option maxRecDepth 100000 in
theorem kX12_reads_99 {E : JE} {k11 : Int32 → Int32 → JI → JL → Option (Int32 × JI × JL)} {r : Int32 × JI × JL} {G : JG} {D : JG} {S : JS} (hL : Lay G S) (H11 : ∀ (l1 : Int32) (l2 : Int32) (I : JI) (L : JL), k11 l1 l2 I L = some r → AtJ E xX12_reads (Zr E (some (.int r.1)) r.2.1 r.2.2 G D S) ((S).length, jm_sl S) 4 11 [(0, .ref (E.1 + 66)), (1, .int l1), (2, .int l2)] [] I L G D S) : ∀ (l1 : Int32) (l2 : Int32) (l4 : Int32) (s0 : Int32) (I : JI) (L : JL), fX12_reads_99 k11 l1 l2 l4 s0 I L = some r → AtJ E xX12_reads (Zr E (some (.int r.1)) r.2.1 r.2.2 G D S) ((S).length, jm_sl S) 4 99 [(0, .ref (E.1 + 66)), (1, .int l1), (2, .int l2), (4, .int l4)] [.int s0, .ref (E.1 + 66)] I L G D S := by
  intro l1 l2 l4 s0 I L  h
  unfold fX12_reads_99 at h
  obtain ⟨q33, hq33, h⟩ := j_bs h
  refine j_callV (rest := []) (As := [.int s0]) 102 dX12_reads_99 rfl jyX12_puts (tcX12_puts hL  hq33) (sh_66 hL) cl12 flX12_332 wm1844 wm56 (by decide) rfl rfl (Nat.le_of_ble_eq_true rfl) ?_
  refine j_iinc (v := (l1 + (1 : Int32))) (lv' := [(1, .int (l1 + (1 : Int32))), (0, .ref (E.1 + 66)), (2, .int l2), (4, .int l4)]) (q := 1) 105 dX12_reads_102 rfl rfl rfl (by decide) rfl ?_
  refine j_aload_n 106 dX12_reads_105 rfl rfl 1 rfl ?_
  refine j_getG 109 dX12_reads_106 rfl (sh_66 hL) cl12 (k := 31) (by decide) flX12_62 rfl (gs_66_31 hL) ?_
  refine j_iload_n 110 dX12_reads_109 rfl rfl 0 rfl ?_
  refine j_iload 112 dX12_reads_110 rfl 3 rfl ?_
  refine j_if_eq 119 115 dX12_reads_112 (by decide) rfl (fun hc => ?_) (fun hc => ?_)
  · replace h := j_pos hc h
    refine j_iconst (v := (2 : Int32)) 120 dX12_reads_119 rfl (by decide) ?_
    obtain ⟨hg, h⟩ := j_gs h
    refine j_iast 121 dX12_reads_120 rfl (sh_84 hL) (j_inv hg) ?_
    refine j_aload_n 122 dX12_reads_121 rfl rfl 1 rfl ?_
    refine j_getG 125 dX12_reads_122 rfl (sh_66 hL) cl12 (k := 32) (by decide) flX12_65 rfl (gs_66_32 hL) ?_
    refine j_iload_n 126 dX12_reads_125 rfl rfl 0 rfl ?_
    refine j_iconst (v := (0 : Int32)) 127 dX12_reads_126 rfl (by decide) ?_
    obtain ⟨hg, h⟩ := j_gs h
    refine j_zast 128 dX12_reads_127 rfl (sh_85 hL) (j_inv hg) j_b01_0 ?_
    refine j_goto 172 dX12_reads_128 (by decide) ?_
    refine j_sub [1, 0, 2] rfl ?_
    exact kX12_reads_172 hL   H11 _ _ _ _  h
  · replace h := j_neg hc h
    refine j_iconst (v := (1 : Int32)) 116 dX12_reads_115 rfl (by decide) ?_
    refine j_goto 120 dX12_reads_116 (by decide) ?_
    obtain ⟨hg, h⟩ := j_gs h
    refine j_iast 121 dX12_reads_120 rfl (sh_84 hL) (j_inv hg) ?_
    refine j_aload_n 122 dX12_reads_121 rfl rfl 1 rfl ?_
    refine j_getG 125 dX12_reads_122 rfl (sh_66 hL) cl12 (k := 32) (by decide) flX12_65 rfl (gs_66_32 hL) ?_
    refine j_iload_n 126 dX12_reads_125 rfl rfl 0 rfl ?_
    refine j_iconst (v := (0 : Int32)) 127 dX12_reads_126 rfl (by decide) ?_
    obtain ⟨hg, h⟩ := j_gs h
    refine j_zast 128 dX12_reads_127 rfl (sh_85 hL) (j_inv hg) j_b01_0 ?_
    refine j_goto 172 dX12_reads_128 (by decide) ?_
    refine j_sub [1, 0, 2] rfl ?_
    exact kX12_reads_172 hL   H11 _ _ _ _  h
def fX12_reads_65 (k11 : Int32 → Int32 → JI → JL → Option (Int32 × JI × JL)) (l1 : Int32) (l2 : Int32) (l3 : Int32) (l4 : Int32) (l5 : Int32) (I : JI) (L : JL) : Option (Int32 × JI × JL) :=
  if l1 = (5 : Int32) then ((fX12_fails (5 : Int32) I).bind (fun q24 => j_g (decide (jm_b01 q24.1 = q24.1)) (some (q24.1, q24.2, L)))) else (if l4 = 0 then (if l5 = 0 then (if l3 ≤ 0 then ((fX12_puts ((100 : Int32) + (I 66 16)) I).bind (fun q22 => fX12_reads_152 k11 100000 l1 (0 : Int32) q22 L)) else ((fX12_puts l3 I).bind (fun q23 => fX12_reads_152 k11 100000 l1 (0 : Int32) q23 L))) else (if l4 = 0 then (fX12_reads_99 k11 l1 l2 l4 (28 : Int32) I L) else (fX12_reads_99 k11 l1 l2 l4 (30 : Int32) I L))) else (if l4 = 0 then (fX12_reads_99 k11 l1 l2 l4 (28 : Int32) I L) else (fX12_reads_99 k11 l1 l2 l4 (30 : Int32) I L)))
set_option maxHeartbeats 4000000 in
set_option maxRecDepth 100000 in
theorem kX12_reads_65 {E : JE} {k11 : Int32 → Int32 → JI → JL → Option (Int32 × JI × JL)} {r : Int32 × JI × JL} {G : JG} {D : JG} {S : JS} (hL : Lay G S) (H11 : ∀ (l1 : Int32) (l2 : Int32) (I : JI) (L : JL), k11 l1 l2 I L = some r → AtJ E xX12_reads (Zr E (some (.int r.1)) r.2.1 r.2.2 G D S) ((S).length, jm_sl S) 4 11 [(0, .ref (E.1 + 66)), (1, .int l1), (2, .int l2)] [] I L G D S) : ∀ (l1 : Int32) (l2 : Int32) (l3 : Int32) (l4 : Int32) (l5 : Int32) (I : JI) (L : JL), fX12_reads_65 k11 l1 l2 l3 l4 l5 I L = some r → AtJ E xX12_reads (Zr E (some (.int r.1)) r.2.1 r.2.2 G D S) ((S).length, jm_sl S) 4 65 [(0, .ref (E.1 + 66)), (1, .int l1), (2, .int l2), (3, .int l3), (4, .int l4), (5, .int l5)] [] I L G D S := by
  intro l1 l2 l3 l4 l5 I L  h
  unfold fX12_reads_65 at h
  refine j_iload_n 66 dX12_reads_65 rfl rfl 1 rfl ?_
  refine j_iconst (v := (5 : Int32)) 67 dX12_reads_66 rfl (by decide) ?_
  refine j_icmp_ne 76 70 dX12_reads_67 (by decide) rfl (fun hc => ?_) (fun hc => ?_)
  · replace h := j_neg hc h
    refine j_iload 78 dX12_reads_76 rfl 4 rfl ?_
    refine j_if_ne 86 81 dX12_reads_78 (by decide) rfl (fun hc => ?_) (fun hc => ?_)
    · replace h := j_neg hc h
      refine j_aload_n 87 dX12_reads_86 rfl rfl 0 rfl ?_
      refine j_iload 89 dX12_reads_87 rfl 4 rfl ?_
      refine j_if_eq 97 92 dX12_reads_89 (by decide) rfl (fun hc => ?_) (fun hc => ?_)
      · replace h := j_pos hc h
        refine j_bipush (v := (28 : Int32)) 99 dX12_reads_97 rfl (by decide) ?_
        refine j_sub [0, 1, 2, 4] rfl ?_
        exact kX12_reads_99 hL   H11 _ _ _ _ _ _  h
      · replace h := j_neg hc h
        refine j_bipush (v := (30 : Int32)) 94 dX12_reads_92 rfl (by decide) ?_
        refine j_goto 99 dX12_reads_94 (by decide) ?_
        refine j_sub [0, 1, 2, 4] rfl ?_
        exact kX12_reads_99 hL   H11 _ _ _ _ _ _  h
    · replace h := j_pos hc h
      refine j_iload 83 dX12_reads_81 rfl 5 rfl ?_
      refine j_if_eq 131 86 dX12_reads_83 (by decide) rfl (fun hc => ?_) (fun hc => ?_)
      · replace h := j_pos hc h
        refine j_aload_n 132 dX12_reads_131 rfl rfl 0 rfl ?_
        refine j_iload_n 133 dX12_reads_132 rfl rfl 3 rfl ?_
        refine j_if_le 140 136 dX12_reads_133 (by decide) rfl (fun hc => ?_) (fun hc => ?_)
        · replace h := j_pos hc h
          refine j_bipush (v := (100 : Int32)) 142 dX12_reads_140 rfl (by decide) ?_
          refine j_aload_n 143 dX12_reads_142 rfl rfl 0 rfl ?_
          refine j_getI 146 dX12_reads_143 rfl (sh_66 hL) cl12 (k := 16) (by decide) flX12_265 rfl ?_
          refine j_iadd 147 dX12_reads_146 rfl ?_
          obtain ⟨q22, hq22, h⟩ := j_bs h
          refine j_callV (rest := []) (As := [.int ((100 : Int32) + (I 66 16))]) 150 dX12_reads_147 rfl jyX12_puts (tcX12_puts hL  hq22) (sh_66 hL) cl12 flX12_332 wm1844 wm56 (by decide) rfl rfl (Nat.le_of_ble_eq_true rfl) ?_
          refine j_iconst (v := (0 : Int32)) 151 dX12_reads_150 rfl (by decide) ?_
          refine j_istore_n (lv' := [(2, .int (0 : Int32)), (0, .ref (E.1 + 66)), (1, .int l1), (3, .int l3), (4, .int l4), (5, .int l5)]) 152 dX12_reads_151 rfl rfl (by decide) rfl ?_
          refine j_sub [1, 2, 0] rfl ?_
          exact kX12_reads_152 hL   H11 100000 _ _ _ _  h
        · replace h := j_neg hc h
          refine j_iload_n 137 dX12_reads_136 rfl rfl 3 rfl ?_
          refine j_goto 147 dX12_reads_137 (by decide) ?_
          obtain ⟨q23, hq23, h⟩ := j_bs h
          refine j_callV (rest := []) (As := [.int l3]) 150 dX12_reads_147 rfl jyX12_puts (tcX12_puts hL  hq23) (sh_66 hL) cl12 flX12_332 wm1844 wm56 (by decide) rfl rfl (Nat.le_of_ble_eq_true rfl) ?_
          refine j_iconst (v := (0 : Int32)) 151 dX12_reads_150 rfl (by decide) ?_
          refine j_istore_n (lv' := [(2, .int (0 : Int32)), (0, .ref (E.1 + 66)), (1, .int l1), (3, .int l3), (4, .int l4), (5, .int l5)]) 152 dX12_reads_151 rfl rfl (by decide) rfl ?_
          refine j_sub [1, 2, 0] rfl ?_
          exact kX12_reads_152 hL   H11 100000 _ _ _ _  h
      · replace h := j_neg hc h
        refine j_aload_n 87 dX12_reads_86 rfl rfl 0 rfl ?_
        refine j_iload 89 dX12_reads_87 rfl 4 rfl ?_
        refine j_if_eq 97 92 dX12_reads_89 (by decide) rfl (fun hc => ?_) (fun hc => ?_)
        · replace h := j_pos hc h
          refine j_bipush (v := (28 : Int32)) 99 dX12_reads_97 rfl (by decide) ?_
          refine j_sub [0, 1, 2, 4] rfl ?_
          exact kX12_reads_99 hL   H11 _ _ _ _ _ _  h
        · replace h := j_neg hc h
          refine j_bipush (v := (30 : Int32)) 94 dX12_reads_92 rfl (by decide) ?_
          refine j_goto 99 dX12_reads_94 (by decide) ?_
          refine j_sub [0, 1, 2, 4] rfl ?_
          exact kX12_reads_99 hL   H11 _ _ _ _ _ _  h
  · replace h := j_pos hc h
    refine j_aload_n 71 dX12_reads_70 rfl rfl 0 rfl ?_
    refine j_iconst (v := (5 : Int32)) 72 dX12_reads_71 rfl (by decide) ?_
    obtain ⟨q24, hq24, h⟩ := j_bs h
    refine j_callV (rest := []) (As := [.int (5 : Int32)]) 75 dX12_reads_72 rfl jyX12_fails (tcX12_fails hL  hq24) (sh_66 hL) cl12 flX12_329 wm1785 wm48 (by decide) rfl rfl (Nat.le_of_ble_eq_true rfl) ?_
    obtain ⟨hz, h⟩ := j_gs h
    cases h
    exact j_zret dX12_reads_75 rfl (of_decide_eq_true hz)
def fX12_reads_11 : Nat → Int32 → Int32 → JI → JL → Option (Int32 × JI × JL)
  | 0, _, _, _, _ => none
  | n + 1, l1, l2, I, L =>
    if l2 = 0 then ((fX12_isSign (43 : Int32) I).bind (fun q1 => if q1 = 0 then ((fX12_isSign (45 : Int32) I).bind (fun q2 => if q2 = 0 then ((fX12_isSign (42 : Int32) I).bind (fun q3 => if q3 = 0 then ((fX12_isSign (60 : Int32) I).bind (fun q4 => if q4 = 0 then ((fX12_isSign (61 : Int32) I).bind (fun q5 => if q5 = 0 then (fX12_reads_304 (fX12_reads_11 n) l1 l2 I L) else (fX12_reads_263 (fX12_reads_11 n) l1 l2 I L))) else (fX12_reads_263 (fX12_reads_11 n) l1 l2 I L))) else (fX12_reads_206 (fX12_reads_11 n) l1 I L))) else (fX12_reads_206 (fX12_reads_11 n) l1 I L))) else (fX12_reads_206 (fX12_reads_11 n) l1 I L))) else ((fX12_fact I L).bind (fun q6 => (fX12_isWord (10631 : Int64) I L).bind (fun q7 => (fX12_isSign (40 : Int32) I).bind (fun q8 => if q6 = 0 then (if q7 = 0 then (if q8 = 0 then (if (I 66 14) = (2 : Int32) then (fX12_reads_65 (fX12_reads_11 n) l1 l2 q6 q7 q8 I L) else ((fX12_fails (1 : Int32) I).bind (fun q9 => j_g (decide (jm_b01 q9.1 = q9.1)) (some (q9.1, q9.2, L))))) else (fX12_reads_65 (fX12_reads_11 n) l1 l2 q6 q7 q8 I L)) else (fX12_reads_65 (fX12_reads_11 n) l1 l2 q6 q7 q8 I L)) else (fX12_reads_65 (fX12_reads_11 n) l1 l2 q6 q7 q8 I L)))))
set_option maxHeartbeats 4000000 in
set_option maxRecDepth 100000 in
theorem kX12_reads_11 {E : JE} {r : Int32 × JI × JL} {G : JG} {D : JG} {S : JS} (hL : Lay G S) : ∀ (n : Nat) (l1 : Int32) (l2 : Int32) (I : JI) (L : JL), fX12_reads_11 n l1 l2 I L = some r → AtJ E xX12_reads (Zr E (some (.int r.1)) r.2.1 r.2.2 G D S) ((S).length, jm_sl S) 4 11 [(0, .ref (E.1 + 66)), (1, .int l1), (2, .int l2)] [] I L G D S := by
  intro n
  induction n with
  | zero => intro l1 l2 I L  h; simp [fX12_reads_11] at h
  | succ n ih =>
    intro l1 l2 I L  h
    rw [fX12_reads_11] at h
    refine j_iload_n 12 dX12_reads_11 rfl rfl 2 rfl ?_
    refine j_if_eq 179 15 dX12_reads_12 (by decide) rfl (fun hc => ?_) (fun hc => ?_)
    · replace h := j_pos hc h
      refine j_aload_n 180 dX12_reads_179 rfl rfl 0 rfl ?_
      refine j_bipush (v := (43 : Int32)) 182 dX12_reads_180 rfl (by decide) ?_
      obtain ⟨q1, hq1, h⟩ := j_bs h
      refine j_callV (rest := []) (As := [.int (43 : Int32)]) 185 dX12_reads_182 rfl jyX12_isSign (tcX12_isSign hL  hq1) (sh_66 hL) cl12 flX12_326 wm1797 wm50 (by decide) rfl rfl (Nat.le_of_ble_eq_true rfl) ?_
      refine j_if_ne 206 188 dX12_reads_185 (by decide) rfl (fun hc => ?_) (fun hc => ?_)
      · replace h := j_neg hc h
        refine j_sub [0, 1] rfl ?_
        exact kX12_reads_206 hL   ih _ _ _  h
      · replace h := j_pos hc h
        refine j_aload_n 189 dX12_reads_188 rfl rfl 0 rfl ?_
        refine j_bipush (v := (45 : Int32)) 191 dX12_reads_189 rfl (by decide) ?_
        obtain ⟨q2, hq2, h⟩ := j_bs h
        refine j_callV (rest := []) (As := [.int (45 : Int32)]) 194 dX12_reads_191 rfl jyX12_isSign (tcX12_isSign hL  hq2) (sh_66 hL) cl12 flX12_326 wm1797 wm50 (by decide) rfl rfl (Nat.le_of_ble_eq_true rfl) ?_
        refine j_if_ne 206 197 dX12_reads_194 (by decide) rfl (fun hc => ?_) (fun hc => ?_)
        · replace h := j_neg hc h
          refine j_sub [0, 1] rfl ?_
          exact kX12_reads_206 hL   ih _ _ _  h
        · replace h := j_pos hc h
          refine j_aload_n 198 dX12_reads_197 rfl rfl 0 rfl ?_
          refine j_bipush (v := (42 : Int32)) 200 dX12_reads_198 rfl (by decide) ?_
          obtain ⟨q3, hq3, h⟩ := j_bs h
          refine j_callV (rest := []) (As := [.int (42 : Int32)]) 203 dX12_reads_200 rfl jyX12_isSign (tcX12_isSign hL  hq3) (sh_66 hL) cl12 flX12_326 wm1797 wm50 (by decide) rfl rfl (Nat.le_of_ble_eq_true rfl) ?_
          refine j_if_eq 245 206 dX12_reads_203 (by decide) rfl (fun hc => ?_) (fun hc => ?_)
          · replace h := j_pos hc h
            refine j_aload_n 246 dX12_reads_245 rfl rfl 0 rfl ?_
            refine j_bipush (v := (60 : Int32)) 248 dX12_reads_246 rfl (by decide) ?_
            obtain ⟨q4, hq4, h⟩ := j_bs h
            refine j_callV (rest := []) (As := [.int (60 : Int32)]) 251 dX12_reads_248 rfl jyX12_isSign (tcX12_isSign hL  hq4) (sh_66 hL) cl12 flX12_326 wm1797 wm50 (by decide) rfl rfl (Nat.le_of_ble_eq_true rfl) ?_
            refine j_if_ne 263 254 dX12_reads_251 (by decide) rfl (fun hc => ?_) (fun hc => ?_)
            · replace h := j_neg hc h
              exact kX12_reads_263 hL   ih _ _ _ _  h
            · replace h := j_pos hc h
              refine j_aload_n 255 dX12_reads_254 rfl rfl 0 rfl ?_
              refine j_bipush (v := (61 : Int32)) 257 dX12_reads_255 rfl (by decide) ?_
              obtain ⟨q5, hq5, h⟩ := j_bs h
              refine j_callV (rest := []) (As := [.int (61 : Int32)]) 260 dX12_reads_257 rfl jyX12_isSign (tcX12_isSign hL  hq5) (sh_66 hL) cl12 flX12_326 wm1797 wm50 (by decide) rfl rfl (Nat.le_of_ble_eq_true rfl) ?_
              refine j_if_eq 304 263 dX12_reads_260 (by decide) rfl (fun hc => ?_) (fun hc => ?_)
              · replace h := j_pos hc h
                exact kX12_reads_304 hL   ih _ _ _ _  h
              · replace h := j_neg hc h
                exact kX12_reads_263 hL   ih _ _ _ _  h
          · replace h := j_neg hc h
            refine j_sub [0, 1] rfl ?_
            exact kX12_reads_206 hL   ih _ _ _  h
    · replace h := j_neg hc h
      refine j_aload_n 16 dX12_reads_15 rfl rfl 0 rfl ?_
      obtain ⟨q6, hq6, h⟩ := j_bs h
      refine j_callV (rest := []) (As := []) 19 dX12_reads_16 rfl jyX12_fact (tcX12_fact hL  hq6) (sh_66 hL) cl12 flX12_321 wm1830 wm55 (by decide) rfl rfl (Nat.le_of_ble_eq_true rfl) ?_
      refine j_istore_n (lv' := [(3, .int q6), (0, .ref (E.1 + 66)), (1, .int l1), (2, .int l2)]) 20 dX12_reads_19 rfl rfl (by decide) rfl ?_
      refine j_aload_n 21 dX12_reads_20 rfl rfl 1 rfl ?_
      refine j_ldc2 (v := (10631 : Int64)) 24 dX12_reads_21 rfl wm1841 ?_
      obtain ⟨q7, hq7, h⟩ := j_bs h
      refine j_callV (rest := []) (As := [.long (10631 : Int64)]) 27 dX12_reads_24 rfl jyX12_isWord (tcX12_isWord hL  hq7) (sh_66 hL) cl12 flX12_313 wm1780 wm47 (by decide) rfl rfl (Nat.le_of_ble_eq_true rfl) ?_
      refine j_istore (lv' := [(4, .int q7), (3, .int q6), (0, .ref (E.1 + 66)), (1, .int l1), (2, .int l2)]) 29 dX12_reads_27 rfl (by decide) rfl ?_
      refine j_aload_n 30 dX12_reads_29 rfl rfl 2 rfl ?_
      refine j_bipush (v := (40 : Int32)) 32 dX12_reads_30 rfl (by decide) ?_
      obtain ⟨q8, hq8, h⟩ := j_bs h
      refine j_callV (rest := []) (As := [.int (40 : Int32)]) 35 dX12_reads_32 rfl jyX12_isSign (tcX12_isSign hL  hq8) (sh_66 hL) cl12 flX12_326 wm1797 wm50 (by decide) rfl rfl (Nat.le_of_ble_eq_true rfl) ?_
      refine j_istore (lv' := [(5, .int q8), (4, .int q7), (3, .int q6), (0, .ref (E.1 + 66)), (1, .int l1), (2, .int l2)]) 37 dX12_reads_35 rfl (by decide) rfl ?_
      refine j_iload_n 38 dX12_reads_37 rfl rfl 2 rfl ?_
      refine j_if_ne 65 41 dX12_reads_38 (by decide) rfl (fun hc => ?_) (fun hc => ?_)
      · replace h := j_neg hc h
        refine j_sub [3, 4, 5, 2, 1, 0] rfl ?_
        exact kX12_reads_65 hL   ih _ _ _ _ _ _ _  h
      · replace h := j_pos hc h
        refine j_iload 43 dX12_reads_41 rfl 1 rfl ?_
        refine j_if_ne 65 46 dX12_reads_43 (by decide) rfl (fun hc => ?_) (fun hc => ?_)
        · replace h := j_neg hc h
          refine j_sub [3, 4, 5, 2, 1, 0] rfl ?_
          exact kX12_reads_65 hL   ih _ _ _ _ _ _ _  h
        · replace h := j_pos hc h
          refine j_iload 48 dX12_reads_46 rfl 0 rfl ?_
          refine j_if_ne 65 51 dX12_reads_48 (by decide) rfl (fun hc => ?_) (fun hc => ?_)
          · replace h := j_neg hc h
            refine j_sub [3, 4, 5, 2, 1, 0] rfl ?_
            exact kX12_reads_65 hL   ih _ _ _ _ _ _ _  h
          · replace h := j_pos hc h
            refine j_aload_n 52 dX12_reads_51 rfl rfl 3 rfl ?_
            refine j_getI 55 dX12_reads_52 rfl (sh_66 hL) cl12 (k := 14) (by decide) flX12_268 rfl ?_
            refine j_iconst (v := (2 : Int32)) 56 dX12_reads_55 rfl (by decide) ?_
            refine j_icmp_eq 65 59 dX12_reads_56 (by decide) rfl (fun hc => ?_) (fun hc => ?_)
            · replace h := j_pos hc h
              refine j_sub [3, 4, 5, 2, 1, 0] rfl ?_
              exact kX12_reads_65 hL   ih _ _ _ _ _ _ _  h
            · replace h := j_neg hc h
              refine j_aload_n 60 dX12_reads_59 rfl rfl 3 rfl ?_
              refine j_iconst (v := (1 : Int32)) 61 dX12_reads_60 rfl (by decide) ?_
              obtain ⟨q9, hq9, h⟩ := j_bs h
              refine j_callV (rest := []) (As := [.int (1 : Int32)]) 64 dX12_reads_61 rfl jyX12_fails (tcX12_fails hL  hq9) (sh_66 hL) cl12 flX12_329 wm1785 wm48 (by decide) rfl rfl (Nat.le_of_ble_eq_true rfl) ?_
              obtain ⟨hz, h⟩ := j_gs h
              cases h
              exact j_zret dX12_reads_64 rfl (of_decide_eq_true hz)
def fX12_reads (I : JI) (L : JL) : Option (Int32 × JI × JL) :=
  j_g (j_in (0 : Int32) 7) (fX12_reads_11 100000 (0 : Int32) (1 : Int32) (j_up I 85 (0 : Int32).toNatClampNeg (0 : Int32)) L)
set_option maxHeartbeats 4000000 in
set_option maxRecDepth 100000 in
theorem tcX12_reads {E : JE} {r : Int32 × JI × JL} {I : JI} {L : JL} {G D : JG} {S : JS} (hL : Lay G S) (h : fX12_reads I L = some r) : CallJ E xX12_reads 4 [.ref (E.1 + 66)] I L G D S (some (.int r.1)) r.2.1 r.2.2 G D S := by
  unfold fX12_reads at h
  refine j_entry (by decide) (Nat.le_of_ble_eq_true rfl) ?_
  show AtJ E xX12_reads (Zr E (some (.int r.1)) r.2.1 r.2.2 G D S) ((S).length, jm_sl S) 4 0 [(0, .ref (E.1 + 66))] [] I L G D S
  refine j_iconst (v := (0 : Int32)) 1 dX12_reads_0 rfl (by decide) ?_
  refine j_istore_n (lv' := [(1, .int (0 : Int32)), (0, .ref (E.1 + 66))]) 2 dX12_reads_1 rfl rfl (by decide) rfl ?_
  refine j_iconst (v := (1 : Int32)) 3 dX12_reads_2 rfl (by decide) ?_
  refine j_istore_n (lv' := [(2, .int (1 : Int32)), (1, .int (0 : Int32)), (0, .ref (E.1 + 66))]) 4 dX12_reads_3 rfl rfl (by decide) rfl ?_
  refine j_aload_n 5 dX12_reads_4 rfl rfl 2 rfl ?_
  refine j_getG 8 dX12_reads_5 rfl (sh_66 hL) cl12 (k := 32) (by decide) flX12_65 rfl (gs_66_32 hL) ?_
  refine j_iconst (v := (0 : Int32)) 9 dX12_reads_8 rfl (by decide) ?_
  refine j_iconst (v := (0 : Int32)) 10 dX12_reads_9 rfl (by decide) ?_
  obtain ⟨hg, h⟩ := j_gs h
  refine j_zast 11 dX12_reads_10 rfl (sh_85 hL) (j_inv hg) j_b01_0 ?_
  refine j_sub [2, 1, 0] rfl ?_
  exact kX12_reads_11 hL    100000 _ _ _ _  h
def fX12_readsWhen (l1 : Int32) (I : JI) (L : JL) : Option (Int32 × JI × JL) :=
  (fX12_isWord (458690 : Int64) I L).bind (fun q1 => if q1 = 0 then ((fX12_fails (1 : Int32) I).bind (fun q4 => j_g (decide (jm_b01 q4.1 = q4.1)) (some (q4.1, q4.2, L)))) else ((fX12_nextToken I L).bind (fun q2 => j_g (j_in l1 36) (j_g (j_in l1 36) ((fX12_reads (j_up (j_up q2.1 80 l1.toNatClampNeg (1 : Int32)) 81 l1.toNatClampNeg ((j_up q2.1 80 l1.toNatClampNeg (1 : Int32)) 66 28)) q2.2).bind (fun q3 => if q3.1 = 0 then (some ((0 : Int32), q3.2.1, q3.2.2)) else (j_g (j_in l1 36) (some ((1 : Int32), (j_up q3.2.1 82 l1.toNatClampNeg (q3.2.1 66 28)), q3.2.2)))))))))
set_option maxHeartbeats 4000000 in
set_option maxRecDepth 100000 in
theorem tcX12_readsWhen {E : JE} {l1 : Int32} {r : Int32 × JI × JL} {I : JI} {L : JL} {G D : JG} {S : JS} (hL : Lay G S) (h : fX12_readsWhen l1 I L = some r) : CallJ E xX12_readsWhen 5 [.ref (E.1 + 66), .int l1] I L G D S (some (.int r.1)) r.2.1 r.2.2 G D S := by
  unfold fX12_readsWhen at h
  refine j_entry (by decide) (Nat.le_of_ble_eq_true rfl) ?_
  show AtJ E xX12_readsWhen (Zr E (some (.int r.1)) r.2.1 r.2.2 G D S) ((S).length, jm_sl S) 5 0 [(0, .ref (E.1 + 66)), (1, .int l1)] [] I L G D S
  refine j_aload_n 1 dX12_readsWhen_0 rfl rfl 0 rfl ?_
  refine j_ldc2 (v := (458690 : Int64)) 4 dX12_readsWhen_1 rfl wm1823 ?_
  obtain ⟨q1, hq1, h⟩ := j_bs h
  refine j_callV (rest := []) (As := [.long (458690 : Int64)]) 7 dX12_readsWhen_4 rfl jyX12_isWord (tcX12_isWord hL  hq1) (sh_66 hL) cl12 flX12_313 wm1780 wm47 (by decide) rfl rfl (Nat.le_of_ble_eq_true rfl) ?_
  refine j_if_ne 16 10 dX12_readsWhen_7 (by decide) rfl (fun hc => ?_) (fun hc => ?_)
  · replace h := j_neg hc h
    refine j_aload_n 17 dX12_readsWhen_16 rfl rfl 0 rfl ?_
    obtain ⟨q2, hq2, h⟩ := j_bs h
    refine j_callV (rest := []) (As := []) 20 dX12_readsWhen_17 rfl jyX12_nextToken (tcX12_nextToken hL  hq2) (sh_66 hL) cl12 flX12_336 wm1769 wm45 (by decide) rfl rfl (Nat.le_of_ble_eq_true rfl) ?_
    refine j_aload_n 21 dX12_readsWhen_20 rfl rfl 0 rfl ?_
    refine j_getG 24 dX12_readsWhen_21 rfl (sh_66 hL) cl12 (k := 24) (by decide) flX12_50 rfl (gs_66_24 hL) ?_
    refine j_iload_n 25 dX12_readsWhen_24 rfl rfl 1 rfl ?_
    refine j_iconst (v := (1 : Int32)) 26 dX12_readsWhen_25 rfl (by decide) ?_
    obtain ⟨hg, h⟩ := j_gs h
    refine j_zast 27 dX12_readsWhen_26 rfl (sh_80 hL) (j_inv hg) j_b01_1 ?_
    refine j_aload_n 28 dX12_readsWhen_27 rfl rfl 0 rfl ?_
    refine j_getG 31 dX12_readsWhen_28 rfl (sh_66 hL) cl12 (k := 25) (by decide) flX12_53 rfl (gs_66_25 hL) ?_
    refine j_iload_n 32 dX12_readsWhen_31 rfl rfl 1 rfl ?_
    refine j_aload_n 33 dX12_readsWhen_32 rfl rfl 0 rfl ?_
    refine j_getI 36 dX12_readsWhen_33 rfl (sh_66 hL) cl12 (k := 28) (by decide) flX12_282 rfl ?_
    obtain ⟨hg, h⟩ := j_gs h
    refine j_iast 37 dX12_readsWhen_36 rfl (sh_81 hL) (j_inv hg) ?_
    refine j_aload_n 38 dX12_readsWhen_37 rfl rfl 0 rfl ?_
    obtain ⟨q3, hq3, h⟩ := j_bs h
    refine j_callV (rest := []) (As := []) 41 dX12_readsWhen_38 rfl jyX12_reads (tcX12_reads hL  hq3) (sh_66 hL) cl12 flX12_345 wm1826 wm54 (by decide) rfl rfl (Nat.le_of_ble_eq_true rfl) ?_
    refine j_if_ne 46 44 dX12_readsWhen_41 (by decide) rfl (fun hc => ?_) (fun hc => ?_)
    · replace h := j_neg hc h
      refine j_aload_n 47 dX12_readsWhen_46 rfl rfl 0 rfl ?_
      refine j_getG 50 dX12_readsWhen_47 rfl (sh_66 hL) cl12 (k := 26) (by decide) flX12_56 rfl (gs_66_26 hL) ?_
      refine j_iload_n 51 dX12_readsWhen_50 rfl rfl 1 rfl ?_
      refine j_aload_n 52 dX12_readsWhen_51 rfl rfl 0 rfl ?_
      refine j_getI 55 dX12_readsWhen_52 rfl (sh_66 hL) cl12 (k := 28) (by decide) flX12_282 rfl ?_
      obtain ⟨hg, h⟩ := j_gs h
      refine j_iast 56 dX12_readsWhen_55 rfl (sh_82 hL) (j_inv hg) ?_
      refine j_iconst (v := (1 : Int32)) 57 dX12_readsWhen_56 rfl (by decide) ?_
      cases h
      exact j_zret dX12_readsWhen_57 rfl j_b01_1
    · replace h := j_pos hc h
      refine j_iconst (v := (0 : Int32)) 45 dX12_readsWhen_44 rfl (by decide) ?_
      cases h
      exact j_zret dX12_readsWhen_45 rfl j_b01_0
  · replace h := j_pos hc h
    refine j_aload_n 11 dX12_readsWhen_10 rfl rfl 0 rfl ?_
    refine j_iconst (v := (1 : Int32)) 12 dX12_readsWhen_11 rfl (by decide) ?_
    obtain ⟨q4, hq4, h⟩ := j_bs h
    refine j_callV (rest := []) (As := [.int (1 : Int32)]) 15 dX12_readsWhen_12 rfl jyX12_fails (tcX12_fails hL  hq4) (sh_66 hL) cl12 flX12_329 wm1785 wm48 (by decide) rfl rfl (Nat.le_of_ble_eq_true rfl) ?_
    obtain ⟨hz, h⟩ := j_gs h
    cases h
    exact j_zret dX12_readsWhen_15 rfl (of_decide_eq_true hz)
def fX12_readsFirst_158 (l1 : Int32) (I : JI) (L : JL) : Option (Int32 × JI × JL) :=
  j_g (j_in l1 36) (if (I 78 l1.toNatClampNeg) = 0 then ((fX12_fails (1 : Int32) I).bind (fun q15 => j_g (decide (jm_b01 q15.1 = q15.1)) (some (q15.1, q15.2, L)))) else ((fX12_isWord (335207579 : Int64) I L).bind (fun q16 => if q16 = 0 then ((fX12_fails (1 : Int32) I).bind (fun q24 => j_g (decide (jm_b01 q24.1 = q24.1)) (some (q24.1, q24.2, L)))) else ((fX12_nextToken I L).bind (fun q17 => if (q17.1 66 14) = (2 : Int32) then (if (q17.1 66 16) ≤ (999 : Int32) then (j_g (j_in l1 36) ((fX12_nextToken (j_up q17.1 79 l1.toNatClampNeg (q17.1 66 16)) q17.2).bind (fun q18 => j_g (j_in l1 36) ((fX12_isSign (59 : Int32) (j_up q18.1 80 l1.toNatClampNeg (0 : Int32))).bind (fun q19 => if q19 = 0 then ((fX12_readsWhen l1 (j_up q18.1 80 l1.toNatClampNeg (0 : Int32)) q18.2).bind (fun q21 => j_g (decide (jm_b01 q21.1 = q21.1)) (some (q21.1, q21.2.1, q21.2.2)))) else ((fX12_nextToken (j_up q18.1 80 l1.toNatClampNeg (0 : Int32)) q18.2).bind (fun q20 => some ((1 : Int32), q20.1, q20.2)))))))) else ((fX12_fails (4 : Int32) q17.1).bind (fun q22 => j_g (decide (jm_b01 q22.1 = q22.1)) (some (q22.1, q22.2, q17.2))))) else ((fX12_fails (1 : Int32) q17.1).bind (fun q23 => j_g (decide (jm_b01 q23.1 = q23.1)) (some (q23.1, q23.2, q17.2)))))))))
set_option maxHeartbeats 4000000 in
set_option maxRecDepth 100000 in
theorem kX12_readsFirst_158 {E : JE} {r : Int32 × JI × JL} {G : JG} {D : JG} {S : JS} (hL : Lay G S) : ∀ (l1 : Int32) (I : JI) (L : JL), fX12_readsFirst_158 l1 I L = some r → AtJ E xX12_readsFirst (Zr E (some (.int r.1)) r.2.1 r.2.2 G D S) ((S).length, jm_sl S) 6 158 [(0, .ref (E.1 + 66)), (1, .int l1)] [] I L G D S := by
  intro l1 I L  h
  unfold fX12_readsFirst_158 at h
  refine j_aload_n 159 dX12_readsFirst_158 rfl rfl 0 rfl ?_
  refine j_getG 162 dX12_readsFirst_159 rfl (sh_66 hL) cl12 (k := 22) (by decide) flX12_44 rfl (gs_66_22 hL) ?_
  refine j_iload_n 163 dX12_readsFirst_162 rfl rfl 1 rfl ?_
  obtain ⟨hg, h⟩ := j_gs h
  refine j_iald 164 dX12_readsFirst_163 rfl (sh_78 hL) (j_inv hg) ?_
  refine j_if_eq 177 167 dX12_readsFirst_164 (by decide) rfl (fun hc => ?_) (fun hc => ?_)
  · replace h := j_pos hc h
    refine j_aload_n 178 dX12_readsFirst_177 rfl rfl 0 rfl ?_
    refine j_iconst (v := (1 : Int32)) 179 dX12_readsFirst_178 rfl (by decide) ?_
    obtain ⟨q15, hq15, h⟩ := j_bs h
    refine j_callV (rest := []) (As := [.int (1 : Int32)]) 182 dX12_readsFirst_179 rfl jyX12_fails (tcX12_fails hL  hq15) (sh_66 hL) cl12 flX12_329 wm1785 wm48 (by decide) rfl rfl (Nat.le_of_ble_eq_true rfl) ?_
    obtain ⟨hz, h⟩ := j_gs h
    cases h
    exact j_zret dX12_readsFirst_182 rfl (of_decide_eq_true hz)
  · replace h := j_neg hc h
    refine j_aload_n 168 dX12_readsFirst_167 rfl rfl 0 rfl ?_
    refine j_ldc2 (v := (335207579 : Int64)) 171 dX12_readsFirst_168 rfl wm1818 ?_
    obtain ⟨q16, hq16, h⟩ := j_bs h
    refine j_callV (rest := []) (As := [.long (335207579 : Int64)]) 174 dX12_readsFirst_171 rfl jyX12_isWord (tcX12_isWord hL  hq16) (sh_66 hL) cl12 flX12_313 wm1780 wm47 (by decide) rfl rfl (Nat.le_of_ble_eq_true rfl) ?_
    refine j_if_ne 183 177 dX12_readsFirst_174 (by decide) rfl (fun hc => ?_) (fun hc => ?_)
    · replace h := j_neg hc h
      refine j_aload_n 184 dX12_readsFirst_183 rfl rfl 0 rfl ?_
      obtain ⟨q17, hq17, h⟩ := j_bs h
      refine j_callV (rest := []) (As := []) 187 dX12_readsFirst_184 rfl jyX12_nextToken (tcX12_nextToken hL  hq17) (sh_66 hL) cl12 flX12_336 wm1769 wm45 (by decide) rfl rfl (Nat.le_of_ble_eq_true rfl) ?_
      refine j_aload_n 188 dX12_readsFirst_187 rfl rfl 0 rfl ?_
      refine j_getI 191 dX12_readsFirst_188 rfl (sh_66 hL) cl12 (k := 14) (by decide) flX12_268 rfl ?_
      refine j_iconst (v := (2 : Int32)) 192 dX12_readsFirst_191 rfl (by decide) ?_
      refine j_icmp_eq 201 195 dX12_readsFirst_192 (by decide) rfl (fun hc => ?_) (fun hc => ?_)
      · replace h := j_pos hc h
        refine j_aload_n 202 dX12_readsFirst_201 rfl rfl 0 rfl ?_
        refine j_getI 205 dX12_readsFirst_202 rfl (sh_66 hL) cl12 (k := 16) (by decide) flX12_265 rfl ?_
        refine j_sipush (v := (999 : Int32)) 208 dX12_readsFirst_205 rfl (by decide) ?_
        refine j_icmp_le 217 211 dX12_readsFirst_208 (by decide) rfl (fun hc => ?_) (fun hc => ?_)
        · replace h := j_pos hc h
          refine j_aload_n 218 dX12_readsFirst_217 rfl rfl 0 rfl ?_
          refine j_getG 221 dX12_readsFirst_218 rfl (sh_66 hL) cl12 (k := 23) (by decide) flX12_47 rfl (gs_66_23 hL) ?_
          refine j_iload_n 222 dX12_readsFirst_221 rfl rfl 1 rfl ?_
          refine j_aload_n 223 dX12_readsFirst_222 rfl rfl 0 rfl ?_
          refine j_getI 226 dX12_readsFirst_223 rfl (sh_66 hL) cl12 (k := 16) (by decide) flX12_265 rfl ?_
          obtain ⟨hg, h⟩ := j_gs h
          refine j_iast 227 dX12_readsFirst_226 rfl (sh_79 hL) (j_inv hg) ?_
          refine j_aload_n 228 dX12_readsFirst_227 rfl rfl 0 rfl ?_
          obtain ⟨q18, hq18, h⟩ := j_bs h
          refine j_callV (rest := []) (As := []) 231 dX12_readsFirst_228 rfl jyX12_nextToken (tcX12_nextToken hL  hq18) (sh_66 hL) cl12 flX12_336 wm1769 wm45 (by decide) rfl rfl (Nat.le_of_ble_eq_true rfl) ?_
          refine j_aload_n 232 dX12_readsFirst_231 rfl rfl 0 rfl ?_
          refine j_getG 235 dX12_readsFirst_232 rfl (sh_66 hL) cl12 (k := 24) (by decide) flX12_50 rfl (gs_66_24 hL) ?_
          refine j_iload_n 236 dX12_readsFirst_235 rfl rfl 1 rfl ?_
          refine j_iconst (v := (0 : Int32)) 237 dX12_readsFirst_236 rfl (by decide) ?_
          obtain ⟨hg, h⟩ := j_gs h
          refine j_zast 238 dX12_readsFirst_237 rfl (sh_80 hL) (j_inv hg) j_b01_0 ?_
          refine j_aload_n 239 dX12_readsFirst_238 rfl rfl 0 rfl ?_
          refine j_bipush (v := (59 : Int32)) 241 dX12_readsFirst_239 rfl (by decide) ?_
          obtain ⟨q19, hq19, h⟩ := j_bs h
          refine j_callV (rest := []) (As := [.int (59 : Int32)]) 244 dX12_readsFirst_241 rfl jyX12_isSign (tcX12_isSign hL  hq19) (sh_66 hL) cl12 flX12_326 wm1797 wm50 (by decide) rfl rfl (Nat.le_of_ble_eq_true rfl) ?_
          refine j_if_ne 253 247 dX12_readsFirst_244 (by decide) rfl (fun hc => ?_) (fun hc => ?_)
          · replace h := j_neg hc h
            refine j_aload_n 254 dX12_readsFirst_253 rfl rfl 0 rfl ?_
            obtain ⟨q20, hq20, h⟩ := j_bs h
            refine j_callV (rest := []) (As := []) 257 dX12_readsFirst_254 rfl jyX12_nextToken (tcX12_nextToken hL  hq20) (sh_66 hL) cl12 flX12_336 wm1769 wm45 (by decide) rfl rfl (Nat.le_of_ble_eq_true rfl) ?_
            refine j_iconst (v := (1 : Int32)) 258 dX12_readsFirst_257 rfl (by decide) ?_
            cases h
            exact j_zret dX12_readsFirst_258 rfl j_b01_1
          · replace h := j_pos hc h
            refine j_aload_n 248 dX12_readsFirst_247 rfl rfl 0 rfl ?_
            refine j_iload_n 249 dX12_readsFirst_248 rfl rfl 1 rfl ?_
            obtain ⟨q21, hq21, h⟩ := j_bs h
            refine j_callV (rest := []) (As := [.int l1]) 252 dX12_readsFirst_249 rfl jyX12_readsWhen (tcX12_readsWhen hL  hq21) (sh_66 hL) cl12 flX12_361 wm1821 wm53 (by decide) rfl rfl (Nat.le_of_ble_eq_true rfl) ?_
            obtain ⟨hz, h⟩ := j_gs h
            cases h
            exact j_zret dX12_readsFirst_252 rfl (of_decide_eq_true hz)
        · replace h := j_neg hc h
          refine j_aload_n 212 dX12_readsFirst_211 rfl rfl 0 rfl ?_
          refine j_iconst (v := (4 : Int32)) 213 dX12_readsFirst_212 rfl (by decide) ?_
          obtain ⟨q22, hq22, h⟩ := j_bs h
          refine j_callV (rest := []) (As := [.int (4 : Int32)]) 216 dX12_readsFirst_213 rfl jyX12_fails (tcX12_fails hL  hq22) (sh_66 hL) cl12 flX12_329 wm1785 wm48 (by decide) rfl rfl (Nat.le_of_ble_eq_true rfl) ?_
          obtain ⟨hz, h⟩ := j_gs h
          cases h
          exact j_zret dX12_readsFirst_216 rfl (of_decide_eq_true hz)
      · replace h := j_neg hc h
        refine j_aload_n 196 dX12_readsFirst_195 rfl rfl 0 rfl ?_
        refine j_iconst (v := (1 : Int32)) 197 dX12_readsFirst_196 rfl (by decide) ?_
        obtain ⟨q23, hq23, h⟩ := j_bs h
        refine j_callV (rest := []) (As := [.int (1 : Int32)]) 200 dX12_readsFirst_197 rfl jyX12_fails (tcX12_fails hL  hq23) (sh_66 hL) cl12 flX12_329 wm1785 wm48 (by decide) rfl rfl (Nat.le_of_ble_eq_true rfl) ?_
        obtain ⟨hz, h⟩ := j_gs h
        cases h
        exact j_zret dX12_readsFirst_200 rfl (of_decide_eq_true hz)
    · replace h := j_pos hc h
      refine j_aload_n 178 dX12_readsFirst_177 rfl rfl 0 rfl ?_
      refine j_iconst (v := (1 : Int32)) 179 dX12_readsFirst_178 rfl (by decide) ?_
      obtain ⟨q24, hq24, h⟩ := j_bs h
      refine j_callV (rest := []) (As := [.int (1 : Int32)]) 182 dX12_readsFirst_179 rfl jyX12_fails (tcX12_fails hL  hq24) (sh_66 hL) cl12 flX12_329 wm1785 wm48 (by decide) rfl rfl (Nat.le_of_ble_eq_true rfl) ?_
      obtain ⟨hz, h⟩ := j_gs h
      cases h
      exact j_zret dX12_readsFirst_182 rfl (of_decide_eq_true hz)
def fX12_readsFirst_106 : Nat → Int32 → JI → JL → Option (Int32 × JI × JL)
  | 0, _, _, _ => none
  | n + 1, l1, I, L =>
    (fX12_form I L).bind (fun q10 => if q10 < 0 then (fX12_readsFirst_158 l1 I L) else (j_g (j_in l1 36) ((fX12_form I L).bind (fun q11 => if (((I 78 l1.toNatClampNeg) >>> (q11 &&& 31)) &&& (1 : Int32)) = (1 : Int32) then ((fX12_fails (3 : Int32) I).bind (fun q14 => j_g (decide (jm_b01 q14.1 = q14.1)) (some (q14.1, q14.2, L)))) else (j_g (j_in l1 36) ((fX12_form I L).bind (fun q12 => j_g (j_in l1 36) ((fX12_nextToken (j_up I 78 l1.toNatClampNeg ((I 78 l1.toNatClampNeg) ||| ((1 : Int32) <<< (q12 &&& 31)))) L).bind (fun q13 => (fX12_readsFirst_106 n) l1 q13.1 q13.2)))))))))
set_option maxHeartbeats 4000000 in
set_option maxRecDepth 100000 in
theorem kX12_readsFirst_106 {E : JE} {r : Int32 × JI × JL} {G : JG} {D : JG} {S : JS} (hL : Lay G S) : ∀ (n : Nat) (l1 : Int32) (I : JI) (L : JL), fX12_readsFirst_106 n l1 I L = some r → AtJ E xX12_readsFirst (Zr E (some (.int r.1)) r.2.1 r.2.2 G D S) ((S).length, jm_sl S) 6 106 [(0, .ref (E.1 + 66)), (1, .int l1)] [] I L G D S := by
  intro n
  induction n with
  | zero => intro l1 I L  h; simp [fX12_readsFirst_106] at h
  | succ n ih =>
    intro l1 I L  h
    rw [fX12_readsFirst_106] at h
    refine j_aload_n 107 dX12_readsFirst_106 rfl rfl 0 rfl ?_
    obtain ⟨q10, hq10, h⟩ := j_bs h
    refine j_callV (rest := []) (As := []) 110 dX12_readsFirst_107 rfl jyX12_form (tcX12_form hL  hq10) (sh_66 hL) cl12 flX12_307 wm1813 wm52 (by decide) rfl rfl (Nat.le_of_ble_eq_true rfl) ?_
    refine j_if_lt 158 113 dX12_readsFirst_110 (by decide) rfl (fun hc => ?_) (fun hc => ?_)
    · replace h := j_pos hc h
      exact kX12_readsFirst_158 hL    _ _ _  h
    · replace h := j_neg hc h
      refine j_aload_n 114 dX12_readsFirst_113 rfl rfl 0 rfl ?_
      refine j_getG 117 dX12_readsFirst_114 rfl (sh_66 hL) cl12 (k := 22) (by decide) flX12_44 rfl (gs_66_22 hL) ?_
      refine j_iload_n 118 dX12_readsFirst_117 rfl rfl 1 rfl ?_
      obtain ⟨hg, h⟩ := j_gs h
      refine j_iald 119 dX12_readsFirst_118 rfl (sh_78 hL) (j_inv hg) ?_
      refine j_aload_n 120 dX12_readsFirst_119 rfl rfl 0 rfl ?_
      obtain ⟨q11, hq11, h⟩ := j_bs h
      refine j_callV (rest := [.int (I 78 l1.toNatClampNeg)]) (As := []) 123 dX12_readsFirst_120 rfl jyX12_form (tcX12_form hL  hq11) (sh_66 hL) cl12 flX12_307 wm1813 wm52 (by decide) rfl rfl (Nat.le_of_ble_eq_true rfl) ?_
      refine j_ishr 124 dX12_readsFirst_123 rfl ?_
      refine j_iconst (v := (1 : Int32)) 125 dX12_readsFirst_124 rfl (by decide) ?_
      refine j_iand 126 dX12_readsFirst_125 rfl ?_
      refine j_iconst (v := (1 : Int32)) 127 dX12_readsFirst_126 rfl (by decide) ?_
      refine j_icmp_ne 136 130 dX12_readsFirst_127 (by decide) rfl (fun hc => ?_) (fun hc => ?_)
      · replace h := j_neg hc h
        refine j_aload_n 137 dX12_readsFirst_136 rfl rfl 0 rfl ?_
        refine j_getG 140 dX12_readsFirst_137 rfl (sh_66 hL) cl12 (k := 22) (by decide) flX12_44 rfl (gs_66_22 hL) ?_
        refine j_iload_n 141 dX12_readsFirst_140 rfl rfl 1 rfl ?_
        refine j_dup2_11 142 dX12_readsFirst_141 rfl rfl rfl ?_
        obtain ⟨hg, h⟩ := j_gs h
        refine j_iald 143 dX12_readsFirst_142 rfl (sh_78 hL) (j_inv hg) ?_
        refine j_iconst (v := (1 : Int32)) 144 dX12_readsFirst_143 rfl (by decide) ?_
        refine j_aload_n 145 dX12_readsFirst_144 rfl rfl 0 rfl ?_
        obtain ⟨q12, hq12, h⟩ := j_bs h
        refine j_callV (rest := [.int (1 : Int32), .int (I 78 l1.toNatClampNeg), .int l1, .ref (E.1 + 78)]) (As := []) 148 dX12_readsFirst_145 rfl jyX12_form (tcX12_form hL  hq12) (sh_66 hL) cl12 flX12_307 wm1813 wm52 (by decide) rfl rfl (Nat.le_of_ble_eq_true rfl) ?_
        refine j_ishl 149 dX12_readsFirst_148 rfl ?_
        refine j_ior 150 dX12_readsFirst_149 rfl ?_
        obtain ⟨hg, h⟩ := j_gs h
        refine j_iast 151 dX12_readsFirst_150 rfl (sh_78 hL) (j_inv hg) ?_
        refine j_aload_n 152 dX12_readsFirst_151 rfl rfl 0 rfl ?_
        obtain ⟨q13, hq13, h⟩ := j_bs h
        refine j_callV (rest := []) (As := []) 155 dX12_readsFirst_152 rfl jyX12_nextToken (tcX12_nextToken hL  hq13) (sh_66 hL) cl12 flX12_336 wm1769 wm45 (by decide) rfl rfl (Nat.le_of_ble_eq_true rfl) ?_
        refine j_goto 106 dX12_readsFirst_155 (by decide) ?_
        exact ih _ _ _  h
      · replace h := j_pos hc h
        refine j_aload_n 131 dX12_readsFirst_130 rfl rfl 0 rfl ?_
        refine j_iconst (v := (3 : Int32)) 132 dX12_readsFirst_131 rfl (by decide) ?_
        obtain ⟨q14, hq14, h⟩ := j_bs h
        refine j_callV (rest := []) (As := [.int (3 : Int32)]) 135 dX12_readsFirst_132 rfl jyX12_fails (tcX12_fails hL  hq14) (sh_66 hL) cl12 flX12_329 wm1785 wm48 (by decide) rfl rfl (Nat.le_of_ble_eq_true rfl) ?_
        obtain ⟨hz, h⟩ := j_gs h
        cases h
        exact j_zret dX12_readsFirst_135 rfl (of_decide_eq_true hz)
def fX12_readsFirst_57 (l1 : Int32) (s0 : Int32) (I : JI) (L : JL) : Option (Int32 × JI × JL) :=
  if 0 ≤ s0 then (j_g (j_in l1 36) ((fX12_nextToken (j_up I 77 l1.toNatClampNeg s0) L).bind (fun q5 => (fX12_isWord (419 : Int64) q5.1 q5.2).bind (fun q6 => if q6 = 0 then ((fX12_fails (1 : Int32) q5.1).bind (fun q8 => j_g (decide (jm_b01 q8.1 = q8.1)) (some (q8.1, q8.2, q5.2)))) else ((fX12_nextToken q5.1 q5.2).bind (fun q7 => j_g (j_in l1 36) (fX12_readsFirst_106 100000 l1 (j_up q7.1 78 l1.toNatClampNeg (0 : Int32)) q7.2))))))) else ((fX12_fails (1 : Int32) I).bind (fun q9 => j_g (decide (jm_b01 q9.1 = q9.1)) (some (q9.1, q9.2, L))))
set_option maxHeartbeats 4000000 in
set_option maxRecDepth 100000 in
theorem kX12_readsFirst_57 {E : JE} {r : Int32 × JI × JL} {G : JG} {D : JG} {S : JS} (hL : Lay G S) : ∀ (l1 : Int32) (s0 : Int32) (I : JI) (L : JL), fX12_readsFirst_57 l1 s0 I L = some r → AtJ E xX12_readsFirst (Zr E (some (.int r.1)) r.2.1 r.2.2 G D S) ((S).length, jm_sl S) 6 57 [(0, .ref (E.1 + 66)), (1, .int l1)] [.int s0] I L G D S := by
  intro l1 s0 I L  h
  unfold fX12_readsFirst_57 at h
  refine j_istore_n (lv' := [(2, .int s0), (0, .ref (E.1 + 66)), (1, .int l1)]) 58 dX12_readsFirst_57 rfl rfl (by decide) rfl ?_
  refine j_iload_n 59 dX12_readsFirst_58 rfl rfl 0 rfl ?_
  refine j_if_ge 68 62 dX12_readsFirst_59 (by decide) rfl (fun hc => ?_) (fun hc => ?_)
  · replace h := j_pos hc h
    refine j_aload_n 69 dX12_readsFirst_68 rfl rfl 1 rfl ?_
    refine j_getG 72 dX12_readsFirst_69 rfl (sh_66 hL) cl12 (k := 21) (by decide) flX12_41 rfl (gs_66_21 hL) ?_
    refine j_iload_n 73 dX12_readsFirst_72 rfl rfl 2 rfl ?_
    refine j_iload_n 74 dX12_readsFirst_73 rfl rfl 0 rfl ?_
    obtain ⟨hg, h⟩ := j_gs h
    refine j_iast 75 dX12_readsFirst_74 rfl (sh_77 hL) (j_inv hg) ?_
    refine j_aload_n 76 dX12_readsFirst_75 rfl rfl 1 rfl ?_
    obtain ⟨q5, hq5, h⟩ := j_bs h
    refine j_callV (rest := []) (As := []) 79 dX12_readsFirst_76 rfl jyX12_nextToken (tcX12_nextToken hL  hq5) (sh_66 hL) cl12 flX12_336 wm1769 wm45 (by decide) rfl rfl (Nat.le_of_ble_eq_true rfl) ?_
    refine j_aload_n 80 dX12_readsFirst_79 rfl rfl 1 rfl ?_
    refine j_ldc2 (v := (419 : Int64)) 83 dX12_readsFirst_80 rfl wm1810 ?_
    obtain ⟨q6, hq6, h⟩ := j_bs h
    refine j_callV (rest := []) (As := [.long (419 : Int64)]) 86 dX12_readsFirst_83 rfl jyX12_isWord (tcX12_isWord hL  hq6) (sh_66 hL) cl12 flX12_313 wm1780 wm47 (by decide) rfl rfl (Nat.le_of_ble_eq_true rfl) ?_
    refine j_if_ne 95 89 dX12_readsFirst_86 (by decide) rfl (fun hc => ?_) (fun hc => ?_)
    · replace h := j_neg hc h
      refine j_aload_n 96 dX12_readsFirst_95 rfl rfl 1 rfl ?_
      obtain ⟨q7, hq7, h⟩ := j_bs h
      refine j_callV (rest := []) (As := []) 99 dX12_readsFirst_96 rfl jyX12_nextToken (tcX12_nextToken hL  hq7) (sh_66 hL) cl12 flX12_336 wm1769 wm45 (by decide) rfl rfl (Nat.le_of_ble_eq_true rfl) ?_
      refine j_aload_n 100 dX12_readsFirst_99 rfl rfl 1 rfl ?_
      refine j_getG 103 dX12_readsFirst_100 rfl (sh_66 hL) cl12 (k := 22) (by decide) flX12_44 rfl (gs_66_22 hL) ?_
      refine j_iload_n 104 dX12_readsFirst_103 rfl rfl 2 rfl ?_
      refine j_iconst (v := (0 : Int32)) 105 dX12_readsFirst_104 rfl (by decide) ?_
      obtain ⟨hg, h⟩ := j_gs h
      refine j_iast 106 dX12_readsFirst_105 rfl (sh_78 hL) (j_inv hg) ?_
      refine j_sub [1, 2] rfl ?_
      exact kX12_readsFirst_106 hL    100000 _ _ _  h
    · replace h := j_pos hc h
      refine j_aload_n 90 dX12_readsFirst_89 rfl rfl 1 rfl ?_
      refine j_iconst (v := (1 : Int32)) 91 dX12_readsFirst_90 rfl (by decide) ?_
      obtain ⟨q8, hq8, h⟩ := j_bs h
      refine j_callV (rest := []) (As := [.int (1 : Int32)]) 94 dX12_readsFirst_91 rfl jyX12_fails (tcX12_fails hL  hq8) (sh_66 hL) cl12 flX12_329 wm1785 wm48 (by decide) rfl rfl (Nat.le_of_ble_eq_true rfl) ?_
      obtain ⟨hz, h⟩ := j_gs h
      cases h
      exact j_zret dX12_readsFirst_94 rfl (of_decide_eq_true hz)
  · replace h := j_neg hc h
    refine j_aload_n 63 dX12_readsFirst_62 rfl rfl 1 rfl ?_
    refine j_iconst (v := (1 : Int32)) 64 dX12_readsFirst_63 rfl (by decide) ?_
    obtain ⟨q9, hq9, h⟩ := j_bs h
    refine j_callV (rest := []) (As := [.int (1 : Int32)]) 67 dX12_readsFirst_64 rfl jyX12_fails (tcX12_fails hL  hq9) (sh_66 hL) cl12 flX12_329 wm1785 wm48 (by decide) rfl rfl (Nat.le_of_ble_eq_true rfl) ?_
    obtain ⟨hz, h⟩ := j_gs h
    cases h
    exact j_zret dX12_readsFirst_67 rfl (of_decide_eq_true hz)
def fX12_readsFirst (l1 : Int32) (I : JI) (L : JL) : Option (Int32 × JI × JL) :=
  (fX12_isWord (8276 : Int64) I L).bind (fun q1 => if q1 = 0 then ((fX12_isWord (10256063 : Int64) I L).bind (fun q2 => if q2 = 0 then ((fX12_isWord (380651 : Int64) I L).bind (fun q3 => if q3 = 0 then ((fX12_isWord (12257559 : Int64) I L).bind (fun q4 => if q4 = 0 then (fX12_readsFirst_57 l1 (-1 : Int32) I L) else (fX12_readsFirst_57 l1 (3 : Int32) I L))) else (fX12_readsFirst_57 l1 (2 : Int32) I L))) else (fX12_readsFirst_57 l1 (1 : Int32) I L))) else (fX12_readsFirst_57 l1 (0 : Int32) I L))
set_option maxHeartbeats 4000000 in
set_option maxRecDepth 100000 in
theorem tcX12_readsFirst {E : JE} {l1 : Int32} {r : Int32 × JI × JL} {I : JI} {L : JL} {G D : JG} {S : JS} (hL : Lay G S) (h : fX12_readsFirst l1 I L = some r) : CallJ E xX12_readsFirst 6 [.ref (E.1 + 66), .int l1] I L G D S (some (.int r.1)) r.2.1 r.2.2 G D S := by
  unfold fX12_readsFirst at h
  refine j_entry (by decide) (Nat.le_of_ble_eq_true rfl) ?_
  show AtJ E xX12_readsFirst (Zr E (some (.int r.1)) r.2.1 r.2.2 G D S) ((S).length, jm_sl S) 6 0 [(0, .ref (E.1 + 66)), (1, .int l1)] [] I L G D S
  refine j_aload_n 1 dX12_readsFirst_0 rfl rfl 0 rfl ?_
  refine j_ldc2 (v := (8276 : Int64)) 4 dX12_readsFirst_1 rfl wm1806 ?_
  obtain ⟨q1, hq1, h⟩ := j_bs h
  refine j_callV (rest := []) (As := [.long (8276 : Int64)]) 7 dX12_readsFirst_4 rfl jyX12_isWord (tcX12_isWord hL  hq1) (sh_66 hL) cl12 flX12_313 wm1780 wm47 (by decide) rfl rfl (Nat.le_of_ble_eq_true rfl) ?_
  refine j_if_eq 14 10 dX12_readsFirst_7 (by decide) rfl (fun hc => ?_) (fun hc => ?_)
  · replace h := j_pos hc h
    refine j_aload_n 15 dX12_readsFirst_14 rfl rfl 0 rfl ?_
    refine j_ldc2 (v := (10256063 : Int64)) 18 dX12_readsFirst_15 rfl wm1807 ?_
    obtain ⟨q2, hq2, h⟩ := j_bs h
    refine j_callV (rest := []) (As := [.long (10256063 : Int64)]) 21 dX12_readsFirst_18 rfl jyX12_isWord (tcX12_isWord hL  hq2) (sh_66 hL) cl12 flX12_313 wm1780 wm47 (by decide) rfl rfl (Nat.le_of_ble_eq_true rfl) ?_
    refine j_if_eq 28 24 dX12_readsFirst_21 (by decide) rfl (fun hc => ?_) (fun hc => ?_)
    · replace h := j_pos hc h
      refine j_aload_n 29 dX12_readsFirst_28 rfl rfl 0 rfl ?_
      refine j_ldc2 (v := (380651 : Int64)) 32 dX12_readsFirst_29 rfl wm1808 ?_
      obtain ⟨q3, hq3, h⟩ := j_bs h
      refine j_callV (rest := []) (As := [.long (380651 : Int64)]) 35 dX12_readsFirst_32 rfl jyX12_isWord (tcX12_isWord hL  hq3) (sh_66 hL) cl12 flX12_313 wm1780 wm47 (by decide) rfl rfl (Nat.le_of_ble_eq_true rfl) ?_
      refine j_if_eq 42 38 dX12_readsFirst_35 (by decide) rfl (fun hc => ?_) (fun hc => ?_)
      · replace h := j_pos hc h
        refine j_aload_n 43 dX12_readsFirst_42 rfl rfl 0 rfl ?_
        refine j_ldc2 (v := (12257559 : Int64)) 46 dX12_readsFirst_43 rfl wm1809 ?_
        obtain ⟨q4, hq4, h⟩ := j_bs h
        refine j_callV (rest := []) (As := [.long (12257559 : Int64)]) 49 dX12_readsFirst_46 rfl jyX12_isWord (tcX12_isWord hL  hq4) (sh_66 hL) cl12 flX12_313 wm1780 wm47 (by decide) rfl rfl (Nat.le_of_ble_eq_true rfl) ?_
        refine j_if_eq 56 52 dX12_readsFirst_49 (by decide) rfl (fun hc => ?_) (fun hc => ?_)
        · replace h := j_pos hc h
          refine j_iconst (v := (-1 : Int32)) 57 dX12_readsFirst_56 rfl (by decide) ?_
          exact kX12_readsFirst_57 hL    _ _ _ _  h
        · replace h := j_neg hc h
          refine j_iconst (v := (3 : Int32)) 53 dX12_readsFirst_52 rfl (by decide) ?_
          refine j_goto 57 dX12_readsFirst_53 (by decide) ?_
          exact kX12_readsFirst_57 hL    _ _ _ _  h
      · replace h := j_neg hc h
        refine j_iconst (v := (2 : Int32)) 39 dX12_readsFirst_38 rfl (by decide) ?_
        refine j_goto 57 dX12_readsFirst_39 (by decide) ?_
        exact kX12_readsFirst_57 hL    _ _ _ _  h
    · replace h := j_neg hc h
      refine j_iconst (v := (1 : Int32)) 25 dX12_readsFirst_24 rfl (by decide) ?_
      refine j_goto 57 dX12_readsFirst_25 (by decide) ?_
      exact kX12_readsFirst_57 hL    _ _ _ _  h
  · replace h := j_neg hc h
    refine j_iconst (v := (0 : Int32)) 11 dX12_readsFirst_10 rfl (by decide) ?_
    refine j_goto 57 dX12_readsFirst_11 (by decide) ?_
    exact kX12_readsFirst_57 hL    _ _ _ _  h
def fX12_readsWay_75 (I : JI) (L : JL) : Option (Int32 × JI × JL) :=
  (fX12_nextToken I L).bind (fun q6 => (fX12_isSign (59 : Int32) q6.1).bind (fun q7 => if q7 = 0 then ((fX12_fails (1 : Int32) q6.1).bind (fun q9 => j_g (decide (jm_b01 q9.1 = q9.1)) (some (q9.1, q9.2, q6.2)))) else ((fX12_nextToken q6.1 q6.2).bind (fun q8 => some ((1 : Int32), q8.1, q8.2)))))
set_option maxHeartbeats 4000000 in
set_option maxRecDepth 100000 in
theorem kX12_readsWay_75 {E : JE} {r : Int32 × JI × JL} {G : JG} {D : JG} {S : JS} (hL : Lay G S) : ∀ (I : JI) (L : JL), fX12_readsWay_75 I L = some r → AtJ E xX12_readsWay (Zr E (some (.int r.1)) r.2.1 r.2.2 G D S) ((S).length, jm_sl S) 3 75 [(0, .ref (E.1 + 66))] [] I L G D S := by
  intro I L  h
  unfold fX12_readsWay_75 at h
  refine j_aload_n 76 dX12_readsWay_75 rfl rfl 0 rfl ?_
  obtain ⟨q6, hq6, h⟩ := j_bs h
  refine j_callV (rest := []) (As := []) 79 dX12_readsWay_76 rfl jyX12_nextToken (tcX12_nextToken hL  hq6) (sh_66 hL) cl12 flX12_336 wm1769 wm45 (by decide) rfl rfl (Nat.le_of_ble_eq_true rfl) ?_
  refine j_aload_n 80 dX12_readsWay_79 rfl rfl 0 rfl ?_
  refine j_bipush (v := (59 : Int32)) 82 dX12_readsWay_80 rfl (by decide) ?_
  obtain ⟨q7, hq7, h⟩ := j_bs h
  refine j_callV (rest := []) (As := [.int (59 : Int32)]) 85 dX12_readsWay_82 rfl jyX12_isSign (tcX12_isSign hL  hq7) (sh_66 hL) cl12 flX12_326 wm1797 wm50 (by decide) rfl rfl (Nat.le_of_ble_eq_true rfl) ?_
  refine j_if_ne 94 88 dX12_readsWay_85 (by decide) rfl (fun hc => ?_) (fun hc => ?_)
  · replace h := j_neg hc h
    refine j_aload_n 95 dX12_readsWay_94 rfl rfl 0 rfl ?_
    obtain ⟨q8, hq8, h⟩ := j_bs h
    refine j_callV (rest := []) (As := []) 98 dX12_readsWay_95 rfl jyX12_nextToken (tcX12_nextToken hL  hq8) (sh_66 hL) cl12 flX12_336 wm1769 wm45 (by decide) rfl rfl (Nat.le_of_ble_eq_true rfl) ?_
    refine j_iconst (v := (1 : Int32)) 99 dX12_readsWay_98 rfl (by decide) ?_
    cases h
    exact j_zret dX12_readsWay_99 rfl j_b01_1
  · replace h := j_pos hc h
    refine j_aload_n 89 dX12_readsWay_88 rfl rfl 0 rfl ?_
    refine j_iconst (v := (1 : Int32)) 90 dX12_readsWay_89 rfl (by decide) ?_
    obtain ⟨q9, hq9, h⟩ := j_bs h
    refine j_callV (rest := []) (As := [.int (1 : Int32)]) 93 dX12_readsWay_90 rfl jyX12_fails (tcX12_fails hL  hq9) (sh_66 hL) cl12 flX12_329 wm1785 wm48 (by decide) rfl rfl (Nat.le_of_ble_eq_true rfl) ?_
    obtain ⟨hz, h⟩ := j_gs h
    cases h
    exact j_zret dX12_readsWay_93 rfl (of_decide_eq_true hz)
def fX12_readsWay_58 (l1 : Int32) (l2 : Int32) (I : JI) (L : JL) : Option (Int32 × JI × JL) :=
  if l1 = 0 then (j_g (decide (jm_b01 l2 = l2)) (fX12_readsWay_75 (j_up I 66 34 l2) L)) else (j_g (decide (jm_b01 l2 = l2)) (fX12_readsWay_75 (j_up I 66 33 l2) L))
set_option maxHeartbeats 4000000 in
set_option maxRecDepth 100000 in
theorem kX12_readsWay_58 {E : JE} {r : Int32 × JI × JL} {G : JG} {D : JG} {S : JS} (hL : Lay G S) : ∀ (l1 : Int32) (l2 : Int32) (I : JI) (L : JL), fX12_readsWay_58 l1 l2 I L = some r → AtJ E xX12_readsWay (Zr E (some (.int r.1)) r.2.1 r.2.2 G D S) ((S).length, jm_sl S) 3 58 [(0, .ref (E.1 + 66)), (1, .int l1), (2, .int l2)] [] I L G D S := by
  intro l1 l2 I L  h
  unfold fX12_readsWay_58 at h
  refine j_iload_n 59 dX12_readsWay_58 rfl rfl 1 rfl ?_
  refine j_if_eq 70 62 dX12_readsWay_59 (by decide) rfl (fun hc => ?_) (fun hc => ?_)
  · replace h := j_pos hc h
    refine j_aload_n 71 dX12_readsWay_70 rfl rfl 0 rfl ?_
    refine j_iload_n 72 dX12_readsWay_71 rfl rfl 2 rfl ?_
    obtain ⟨hz, h⟩ := j_gs h
    refine j_putZ 75 dX12_readsWay_72 rfl (sh_66 hL) cl12 (k := 34) (by decide) flX12_374 rfl rfl rfl (of_decide_eq_true hz) ?_
    refine j_sub [0] rfl ?_
    exact kX12_readsWay_75 hL    _ _  h
  · replace h := j_neg hc h
    refine j_aload_n 63 dX12_readsWay_62 rfl rfl 0 rfl ?_
    refine j_iload_n 64 dX12_readsWay_63 rfl rfl 2 rfl ?_
    obtain ⟨hz, h⟩ := j_gs h
    refine j_putZ 67 dX12_readsWay_64 rfl (sh_66 hL) cl12 (k := 33) (by decide) flX12_370 rfl rfl rfl (of_decide_eq_true hz) ?_
    refine j_goto 75 dX12_readsWay_67 (by decide) ?_
    refine j_sub [0] rfl ?_
    exact kX12_readsWay_75 hL    _ _  h
def fX12_readsWay_43 (l1 : Int32) (l2 : Int32) (s0 : Int32) (I : JI) (L : JL) : Option (Int32 × JI × JL) :=
  if l2 = 0 then (if s0 = 0 then ((fX12_fails (1 : Int32) I).bind (fun q5 => j_g (decide (jm_b01 q5.1 = q5.1)) (some (q5.1, q5.2, L)))) else (fX12_readsWay_58 l1 l2 I L)) else (fX12_readsWay_58 l1 l2 I L)
set_option maxHeartbeats 4000000 in
set_option maxRecDepth 100000 in
theorem kX12_readsWay_43 {E : JE} {r : Int32 × JI × JL} {G : JG} {D : JG} {S : JS} (hL : Lay G S) : ∀ (l1 : Int32) (l2 : Int32) (s0 : Int32) (I : JI) (L : JL), fX12_readsWay_43 l1 l2 s0 I L = some r → AtJ E xX12_readsWay (Zr E (some (.int r.1)) r.2.1 r.2.2 G D S) ((S).length, jm_sl S) 3 43 [(0, .ref (E.1 + 66)), (1, .int l1), (2, .int l2)] [.int s0] I L G D S := by
  intro l1 l2 s0 I L  h
  unfold fX12_readsWay_43 at h
  refine j_istore_n (lv' := [(3, .int s0), (0, .ref (E.1 + 66)), (1, .int l1), (2, .int l2)]) 44 dX12_readsWay_43 rfl rfl (by decide) rfl ?_
  refine j_iload_n 45 dX12_readsWay_44 rfl rfl 3 rfl ?_
  refine j_if_ne 58 48 dX12_readsWay_45 (by decide) rfl (fun hc => ?_) (fun hc => ?_)
  · replace h := j_neg hc h
    refine j_sub [1, 2, 3] rfl ?_
    exact kX12_readsWay_58 hL    _ _ _ _  h
  · replace h := j_pos hc h
    refine j_iload_n 49 dX12_readsWay_48 rfl rfl 0 rfl ?_
    refine j_if_ne 58 52 dX12_readsWay_49 (by decide) rfl (fun hc => ?_) (fun hc => ?_)
    · replace h := j_neg hc h
      refine j_sub [1, 2, 3] rfl ?_
      exact kX12_readsWay_58 hL    _ _ _ _  h
    · replace h := j_pos hc h
      refine j_aload_n 53 dX12_readsWay_52 rfl rfl 1 rfl ?_
      refine j_iconst (v := (1 : Int32)) 54 dX12_readsWay_53 rfl (by decide) ?_
      obtain ⟨q5, hq5, h⟩ := j_bs h
      refine j_callV (rest := []) (As := [.int (1 : Int32)]) 57 dX12_readsWay_54 rfl jyX12_fails (tcX12_fails hL  hq5) (sh_66 hL) cl12 flX12_329 wm1785 wm48 (by decide) rfl rfl (Nat.le_of_ble_eq_true rfl) ?_
      obtain ⟨hz, h⟩ := j_gs h
      cases h
      exact j_zret dX12_readsWay_57 rfl (of_decide_eq_true hz)
def fX12_readsWay_21 (l1 : Int32) (s0 : Int32) (I : JI) (L : JL) : Option (Int32 × JI × JL) :=
  if l1 = 0 then ((fX12_isWord (4350799 : Int64) I L).bind (fun q3 => fX12_readsWay_43 l1 s0 q3 I L)) else ((fX12_isWord (404923 : Int64) I L).bind (fun q4 => fX12_readsWay_43 l1 s0 q4 I L))
set_option maxHeartbeats 4000000 in
set_option maxRecDepth 100000 in
theorem kX12_readsWay_21 {E : JE} {r : Int32 × JI × JL} {G : JG} {D : JG} {S : JS} (hL : Lay G S) : ∀ (l1 : Int32) (s0 : Int32) (I : JI) (L : JL), fX12_readsWay_21 l1 s0 I L = some r → AtJ E xX12_readsWay (Zr E (some (.int r.1)) r.2.1 r.2.2 G D S) ((S).length, jm_sl S) 3 21 [(0, .ref (E.1 + 66)), (1, .int l1)] [.int s0] I L G D S := by
  intro l1 s0 I L  h
  unfold fX12_readsWay_21 at h
  refine j_istore_n (lv' := [(2, .int s0), (0, .ref (E.1 + 66)), (1, .int l1)]) 22 dX12_readsWay_21 rfl rfl (by decide) rfl ?_
  refine j_iload_n 23 dX12_readsWay_22 rfl rfl 2 rfl ?_
  refine j_if_eq 36 26 dX12_readsWay_23 (by decide) rfl (fun hc => ?_) (fun hc => ?_)
  · replace h := j_pos hc h
    refine j_aload_n 37 dX12_readsWay_36 rfl rfl 1 rfl ?_
    refine j_ldc2 (v := (4350799 : Int64)) 40 dX12_readsWay_37 rfl wm1794 ?_
    obtain ⟨q3, hq3, h⟩ := j_bs h
    refine j_callV (rest := []) (As := [.long (4350799 : Int64)]) 43 dX12_readsWay_40 rfl jyX12_isWord (tcX12_isWord hL  hq3) (sh_66 hL) cl12 flX12_313 wm1780 wm47 (by decide) rfl rfl (Nat.le_of_ble_eq_true rfl) ?_
    refine j_sub [1, 2, 0] rfl ?_
    exact kX12_readsWay_43 hL    _ _ _ _ _  h
  · replace h := j_neg hc h
    refine j_aload_n 27 dX12_readsWay_26 rfl rfl 1 rfl ?_
    refine j_ldc2 (v := (404923 : Int64)) 30 dX12_readsWay_27 rfl wm1793 ?_
    obtain ⟨q4, hq4, h⟩ := j_bs h
    refine j_callV (rest := []) (As := [.long (404923 : Int64)]) 33 dX12_readsWay_30 rfl jyX12_isWord (tcX12_isWord hL  hq4) (sh_66 hL) cl12 flX12_313 wm1780 wm47 (by decide) rfl rfl (Nat.le_of_ble_eq_true rfl) ?_
    refine j_goto 43 dX12_readsWay_33 (by decide) ?_
    refine j_sub [1, 2, 0] rfl ?_
    exact kX12_readsWay_43 hL    _ _ _ _ _  h
def fX12_readsWay (l1 : Int32) (I : JI) (L : JL) : Option (Int32 × JI × JL) :=
  if l1 = 0 then ((fX12_isWord (276913720 : Int64) I L).bind (fun q1 => fX12_readsWay_21 l1 q1 I L)) else ((fX12_isWord (315904 : Int64) I L).bind (fun q2 => fX12_readsWay_21 l1 q2 I L))
set_option maxHeartbeats 4000000 in
set_option maxRecDepth 100000 in
theorem tcX12_readsWay {E : JE} {l1 : Int32} {r : Int32 × JI × JL} {I : JI} {L : JL} {G D : JG} {S : JS} (hL : Lay G S) (h : fX12_readsWay l1 I L = some r) : CallJ E xX12_readsWay 3 [.ref (E.1 + 66), .int l1] I L G D S (some (.int r.1)) r.2.1 r.2.2 G D S := by
  unfold fX12_readsWay at h
  refine j_entry (by decide) (Nat.le_of_ble_eq_true rfl) ?_
  show AtJ E xX12_readsWay (Zr E (some (.int r.1)) r.2.1 r.2.2 G D S) ((S).length, jm_sl S) 3 0 [(0, .ref (E.1 + 66)), (1, .int l1)] [] I L G D S
  refine j_iload_n 1 dX12_readsWay_0 rfl rfl 1 rfl ?_
  refine j_if_eq 14 4 dX12_readsWay_1 (by decide) rfl (fun hc => ?_) (fun hc => ?_)
  · replace h := j_pos hc h
    refine j_aload_n 15 dX12_readsWay_14 rfl rfl 0 rfl ?_
    refine j_ldc2 (v := (276913720 : Int64)) 18 dX12_readsWay_15 rfl wm1792 ?_
    obtain ⟨q1, hq1, h⟩ := j_bs h
    refine j_callV (rest := []) (As := [.long (276913720 : Int64)]) 21 dX12_readsWay_18 rfl jyX12_isWord (tcX12_isWord hL  hq1) (sh_66 hL) cl12 flX12_313 wm1780 wm47 (by decide) rfl rfl (Nat.le_of_ble_eq_true rfl) ?_
    exact kX12_readsWay_21 hL    _ _ _ _  h
  · replace h := j_neg hc h
    refine j_aload_n 5 dX12_readsWay_4 rfl rfl 0 rfl ?_
    refine j_ldc2 (v := (315904 : Int64)) 8 dX12_readsWay_5 rfl wm1791 ?_
    obtain ⟨q2, hq2, h⟩ := j_bs h
    refine j_callV (rest := []) (As := [.long (315904 : Int64)]) 11 dX12_readsWay_8 rfl jyX12_isWord (tcX12_isWord hL  hq2) (sh_66 hL) cl12 flX12_313 wm1780 wm47 (by decide) rfl rfl (Nat.le_of_ble_eq_true rfl) ?_
    refine j_goto 21 dX12_readsWay_11 (by decide) ?_
    exact kX12_readsWay_21 hL    _ _ _ _  h
def fX12_readsAll_322 (l3 : Int32) (l4 : Int32) (I : JI) (L : JL) : Option (Int32 × JI × JL) :=
  some ((1 : Int32), (j_up I 66 35 (l3 + l4)), L)
set_option maxHeartbeats 4000000 in
set_option maxRecDepth 100000 in
theorem kX12_readsAll_322 {E : JE} {r : Int32 × JI × JL} {G : JG} {D : JG} {S : JS} (hL : Lay G S) : ∀ (l3 : Int32) (l4 : Int32) (I : JI) (L : JL), fX12_readsAll_322 l3 l4 I L = some r → AtJ E xX12_readsAll (Zr E (some (.int r.1)) r.2.1 r.2.2 G D S) ((S).length, jm_sl S) 7 322 [(0, .ref (E.1 + 66)), (3, .int l3), (4, .int l4)] [] I L G D S := by
  intro l3 l4 I L  h
  unfold fX12_readsAll_322 at h
  refine j_aload_n 323 dX12_readsAll_322 rfl rfl 0 rfl ?_
  refine j_iload_n 324 dX12_readsAll_323 rfl rfl 1 rfl ?_
  refine j_iload 326 dX12_readsAll_324 rfl 2 rfl ?_
  refine j_iadd 327 dX12_readsAll_326 rfl ?_
  refine j_putI 330 dX12_readsAll_327 rfl (sh_66 hL) cl12 (k := 35) (by decide) flX12_392 rfl rfl rfl ?_
  refine j_iconst (v := (1 : Int32)) 331 dX12_readsAll_330 rfl (by decide) ?_
  cases h
  exact j_zret dX12_readsAll_331 rfl j_b01_1
def fX12_readsAll_302 (k48 : Int32 → Int32 → Int32 → Int32 → JI → JL → Option (Int32 × JI × JL)) (l1 : Int32) (l2 : Int32) (l4 : Int32) (l6 : Int32) (s0 : Int32) (s1 : Int32) (I : JI) (L : JL) : Option (Int32 × JI × JL) :=
  if l6 = 0 then (k48 l1 l2 (s1 + s0) (l4 + (0 : Int32)) I L) else (k48 l1 l2 (s1 + s0) (l4 + (1 : Int32)) I L)
set_option maxHeartbeats 4000000 in
set_option maxRecDepth 100000 in
theorem kX12_readsAll_302 {E : JE} {k48 : Int32 → Int32 → Int32 → Int32 → JI → JL → Option (Int32 × JI × JL)} {r : Int32 × JI × JL} {G : JG} {D : JG} {S : JS} (hL : Lay G S) (H48 : ∀ (l1 : Int32) (l2 : Int32) (l3 : Int32) (l4 : Int32) (I : JI) (L : JL), k48 l1 l2 l3 l4 I L = some r → AtJ E xX12_readsAll (Zr E (some (.int r.1)) r.2.1 r.2.2 G D S) ((S).length, jm_sl S) 7 48 [(0, .ref (E.1 + 66)), (1, .int l1), (2, .int l2), (3, .int l3), (4, .int l4)] [] I L G D S) : ∀ (l1 : Int32) (l2 : Int32) (l4 : Int32) (l6 : Int32) (s0 : Int32) (s1 : Int32) (I : JI) (L : JL), fX12_readsAll_302 k48 l1 l2 l4 l6 s0 s1 I L = some r → AtJ E xX12_readsAll (Zr E (some (.int r.1)) r.2.1 r.2.2 G D S) ((S).length, jm_sl S) 7 302 [(0, .ref (E.1 + 66)), (1, .int l1), (2, .int l2), (4, .int l4), (6, .int l6)] [.int s0, .int s1] I L G D S := by
  intro l1 l2 l4 l6 s0 s1 I L  h
  unfold fX12_readsAll_302 at h
  refine j_iadd 303 dX12_readsAll_302 rfl ?_
  refine j_istore_n (lv' := [(3, .int (s1 + s0)), (0, .ref (E.1 + 66)), (1, .int l1), (2, .int l2), (4, .int l4), (6, .int l6)]) 304 dX12_readsAll_303 rfl rfl (by decide) rfl ?_
  refine j_iload 306 dX12_readsAll_304 rfl 4 rfl ?_
  refine j_iload 308 dX12_readsAll_306 rfl 5 rfl ?_
  refine j_if_eq 315 311 dX12_readsAll_308 (by decide) rfl (fun hc => ?_) (fun hc => ?_)
  · replace h := j_pos hc h
    refine j_iconst (v := (0 : Int32)) 316 dX12_readsAll_315 rfl (by decide) ?_
    refine j_iadd 317 dX12_readsAll_316 rfl ?_
    refine j_istore (lv' := [(4, .int (l4 + (0 : Int32))), (3, .int (s1 + s0)), (0, .ref (E.1 + 66)), (1, .int l1), (2, .int l2), (6, .int l6)]) 319 dX12_readsAll_317 rfl (by decide) rfl ?_
    refine j_goto 48 dX12_readsAll_319 (by decide) ?_
    refine j_sub [2, 3, 4, 1, 0] rfl ?_
    exact H48 _ _ _ _ _ _  h
  · replace h := j_neg hc h
    refine j_iconst (v := (1 : Int32)) 312 dX12_readsAll_311 rfl (by decide) ?_
    refine j_goto 316 dX12_readsAll_312 (by decide) ?_
    refine j_iadd 317 dX12_readsAll_316 rfl ?_
    refine j_istore (lv' := [(4, .int (l4 + (1 : Int32))), (3, .int (s1 + s0)), (0, .ref (E.1 + 66)), (1, .int l1), (2, .int l2), (6, .int l6)]) 319 dX12_readsAll_317 rfl (by decide) rfl ?_
    refine j_goto 48 dX12_readsAll_319 (by decide) ?_
    refine j_sub [2, 3, 4, 1, 0] rfl ?_
    exact H48 _ _ _ _ _ _  h
def fX12_readsAll_249 (k48 : Int32 → Int32 → Int32 → Int32 → JI → JL → Option (Int32 × JI × JL)) (l1 : Int32) (l2 : Int32) (l3 : Int32) (l4 : Int32) (l6 : Int32) (l7 : Int32) (l8 : Int32) (s0 : Int32) (s1 : Int32) (I : JI) (L : JL) : Option (Int32 × JI × JL) :=
  j_g (j_in s1 36) (j_g (j_in l8 36) (j_g (decide (jm_b01 l6 = l6)) ((fX12_nextToken (j_up (j_up I 75 s1.toNatClampNeg s0) 76 l8.toNatClampNeg l6) L).bind (fun q17 => if l7 = 0 then ((fX12_readsWhen l8 q17.1 q17.2).bind (fun q18 => if q18.1 = 0 then (some ((0 : Int32), q18.2.1, q18.2.2)) else (if l6 = 0 then (fX12_readsAll_302 k48 l1 l2 l4 l6 (1 : Int32) l3 q18.2.1 q18.2.2) else (fX12_readsAll_302 k48 l1 l2 l4 l6 (0 : Int32) l3 q18.2.1 q18.2.2)))) else ((fX12_readsFirst l8 q17.1 q17.2).bind (fun q19 => if q19.1 = 0 then (some ((0 : Int32), q19.2.1, q19.2.2)) else (if l6 = 0 then (fX12_readsAll_302 k48 l1 l2 l4 l6 (1 : Int32) l3 q19.2.1 q19.2.2) else (fX12_readsAll_302 k48 l1 l2 l4 l6 (0 : Int32) l3 q19.2.1 q19.2.2))))))))
set_option maxHeartbeats 4000000 in
set_option maxRecDepth 100000 in
theorem kX12_readsAll_249 {E : JE} {k48 : Int32 → Int32 → Int32 → Int32 → JI → JL → Option (Int32 × JI × JL)} {r : Int32 × JI × JL} {G : JG} {D : JG} {S : JS} (hL : Lay G S) (H48 : ∀ (l1 : Int32) (l2 : Int32) (l3 : Int32) (l4 : Int32) (I : JI) (L : JL), k48 l1 l2 l3 l4 I L = some r → AtJ E xX12_readsAll (Zr E (some (.int r.1)) r.2.1 r.2.2 G D S) ((S).length, jm_sl S) 7 48 [(0, .ref (E.1 + 66)), (1, .int l1), (2, .int l2), (3, .int l3), (4, .int l4)] [] I L G D S) : ∀ (l1 : Int32) (l2 : Int32) (l3 : Int32) (l4 : Int32) (l6 : Int32) (l7 : Int32) (l8 : Int32) (s0 : Int32) (s1 : Int32) (I : JI) (L : JL), fX12_readsAll_249 k48 l1 l2 l3 l4 l6 l7 l8 s0 s1 I L = some r → AtJ E xX12_readsAll (Zr E (some (.int r.1)) r.2.1 r.2.2 G D S) ((S).length, jm_sl S) 7 249 [(0, .ref (E.1 + 66)), (1, .int l1), (2, .int l2), (3, .int l3), (4, .int l4), (6, .int l6), (7, .int l7), (8, .int l8)] [.int s0, .int s1, .ref (E.1 + 75)] I L G D S := by
  intro l1 l2 l3 l4 l6 l7 l8 s0 s1 I L  h
  unfold fX12_readsAll_249 at h
  obtain ⟨hg, h⟩ := j_gs h
  refine j_iast 250 dX12_readsAll_249 rfl (sh_75 hL) (j_inv hg) ?_
  refine j_aload_n 251 dX12_readsAll_250 rfl rfl 0 rfl ?_
  refine j_getG 254 dX12_readsAll_251 rfl (sh_66 hL) cl12 (k := 20) (by decide) flX12_38 rfl (gs_66_20 hL) ?_
  refine j_iload 256 dX12_readsAll_254 rfl 7 rfl ?_
  refine j_iload 258 dX12_readsAll_256 rfl 5 rfl ?_
  obtain ⟨hg, h⟩ := j_gs h
  obtain ⟨hz, h⟩ := j_gs h
  refine j_zast 259 dX12_readsAll_258 rfl (sh_76 hL) (j_inv hg) (of_decide_eq_true hz) ?_
  refine j_aload_n 260 dX12_readsAll_259 rfl rfl 0 rfl ?_
  obtain ⟨q17, hq17, h⟩ := j_bs h
  refine j_callV (rest := []) (As := []) 263 dX12_readsAll_260 rfl jyX12_nextToken (tcX12_nextToken hL  hq17) (sh_66 hL) cl12 flX12_336 wm1769 wm45 (by decide) rfl rfl (Nat.le_of_ble_eq_true rfl) ?_
  refine j_iload 265 dX12_readsAll_263 rfl 6 rfl ?_
  refine j_if_eq 280 268 dX12_readsAll_265 (by decide) rfl (fun hc => ?_) (fun hc => ?_)
  · replace h := j_pos hc h
    refine j_aload_n 281 dX12_readsAll_280 rfl rfl 0 rfl ?_
    refine j_iload 283 dX12_readsAll_281 rfl 7 rfl ?_
    obtain ⟨q18, hq18, h⟩ := j_bs h
    refine j_callV (rest := []) (As := [.int l8]) 286 dX12_readsAll_283 rfl jyX12_readsWhen (tcX12_readsWhen hL  hq18) (sh_66 hL) cl12 flX12_361 wm1821 wm53 (by decide) rfl rfl (Nat.le_of_ble_eq_true rfl) ?_
    refine j_if_ne 291 289 dX12_readsAll_286 (by decide) rfl (fun hc => ?_) (fun hc => ?_)
    · replace h := j_neg hc h
      refine j_iload_n 292 dX12_readsAll_291 rfl rfl 3 rfl ?_
      refine j_iload 294 dX12_readsAll_292 rfl 5 rfl ?_
      refine j_if_eq 301 297 dX12_readsAll_294 (by decide) rfl (fun hc => ?_) (fun hc => ?_)
      · replace h := j_pos hc h
        refine j_iconst (v := (1 : Int32)) 302 dX12_readsAll_301 rfl (by decide) ?_
        refine j_sub [0, 1, 2, 4, 5] rfl ?_
        exact kX12_readsAll_302 hL   H48 _ _ _ _ _ _ _ _  h
      · replace h := j_neg hc h
        refine j_iconst (v := (0 : Int32)) 298 dX12_readsAll_297 rfl (by decide) ?_
        refine j_goto 302 dX12_readsAll_298 (by decide) ?_
        refine j_sub [0, 1, 2, 4, 5] rfl ?_
        exact kX12_readsAll_302 hL   H48 _ _ _ _ _ _ _ _  h
    · replace h := j_pos hc h
      refine j_iconst (v := (0 : Int32)) 290 dX12_readsAll_289 rfl (by decide) ?_
      cases h
      exact j_zret dX12_readsAll_290 rfl j_b01_0
  · replace h := j_neg hc h
    refine j_aload_n 269 dX12_readsAll_268 rfl rfl 0 rfl ?_
    refine j_iload 271 dX12_readsAll_269 rfl 7 rfl ?_
    obtain ⟨q19, hq19, h⟩ := j_bs h
    refine j_callV (rest := []) (As := [.int l8]) 274 dX12_readsAll_271 rfl jyX12_readsFirst (tcX12_readsFirst hL  hq19) (sh_66 hL) cl12 flX12_389 wm1804 wm51 (by decide) rfl rfl (Nat.le_of_ble_eq_true rfl) ?_
    refine j_if_ne 291 277 dX12_readsAll_274 (by decide) rfl (fun hc => ?_) (fun hc => ?_)
    · replace h := j_neg hc h
      refine j_iload_n 292 dX12_readsAll_291 rfl rfl 3 rfl ?_
      refine j_iload 294 dX12_readsAll_292 rfl 5 rfl ?_
      refine j_if_eq 301 297 dX12_readsAll_294 (by decide) rfl (fun hc => ?_) (fun hc => ?_)
      · replace h := j_pos hc h
        refine j_iconst (v := (1 : Int32)) 302 dX12_readsAll_301 rfl (by decide) ?_
        refine j_sub [0, 1, 2, 4, 5] rfl ?_
        exact kX12_readsAll_302 hL   H48 _ _ _ _ _ _ _ _  h
      · replace h := j_neg hc h
        refine j_iconst (v := (0 : Int32)) 298 dX12_readsAll_297 rfl (by decide) ?_
        refine j_goto 302 dX12_readsAll_298 (by decide) ?_
        refine j_sub [0, 1, 2, 4, 5] rfl ?_
        exact kX12_readsAll_302 hL   H48 _ _ _ _ _ _ _ _  h
    · replace h := j_pos hc h
      refine j_goto 289 dX12_readsAll_277 (by decide) ?_
      refine j_iconst (v := (0 : Int32)) 290 dX12_readsAll_289 rfl (by decide) ?_
      cases h
      exact j_zret dX12_readsAll_290 rfl j_b01_0
def fX12_readsAll_224 (k48 : Int32 → Int32 → Int32 → Int32 → JI → JL → Option (Int32 × JI × JL)) (l1 : Int32) (l2 : Int32) (l3 : Int32) (l4 : Int32) (l6 : Int32) (l7 : Int32) (I : JI) (L : JL) : Option (Int32 × JI × JL) :=
  if l7 = 0 then (fX12_readsAll_249 k48 l1 l2 l3 l4 l6 l7 (((18 : Int32) + l3) + l4) (1 : Int32) (((18 : Int32) + l3) + l4) I L) else (fX12_readsAll_249 k48 l1 l2 l3 l4 l6 l7 (((18 : Int32) + l3) + l4) (0 : Int32) (((18 : Int32) + l3) + l4) I L)
set_option maxHeartbeats 4000000 in
set_option maxRecDepth 100000 in
theorem kX12_readsAll_224 {E : JE} {k48 : Int32 → Int32 → Int32 → Int32 → JI → JL → Option (Int32 × JI × JL)} {r : Int32 × JI × JL} {G : JG} {D : JG} {S : JS} (hL : Lay G S) (H48 : ∀ (l1 : Int32) (l2 : Int32) (l3 : Int32) (l4 : Int32) (I : JI) (L : JL), k48 l1 l2 l3 l4 I L = some r → AtJ E xX12_readsAll (Zr E (some (.int r.1)) r.2.1 r.2.2 G D S) ((S).length, jm_sl S) 7 48 [(0, .ref (E.1 + 66)), (1, .int l1), (2, .int l2), (3, .int l3), (4, .int l4)] [] I L G D S) : ∀ (l1 : Int32) (l2 : Int32) (l3 : Int32) (l4 : Int32) (l6 : Int32) (l7 : Int32) (I : JI) (L : JL), fX12_readsAll_224 k48 l1 l2 l3 l4 l6 l7 I L = some r → AtJ E xX12_readsAll (Zr E (some (.int r.1)) r.2.1 r.2.2 G D S) ((S).length, jm_sl S) 7 224 [(0, .ref (E.1 + 66)), (1, .int l1), (2, .int l2), (3, .int l3), (4, .int l4), (6, .int l6), (7, .int l7)] [] I L G D S := by
  intro l1 l2 l3 l4 l6 l7 I L  h
  unfold fX12_readsAll_224 at h
  refine j_bipush (v := (18 : Int32)) 226 dX12_readsAll_224 rfl (by decide) ?_
  refine j_iload_n 227 dX12_readsAll_226 rfl rfl 3 rfl ?_
  refine j_iadd 228 dX12_readsAll_227 rfl ?_
  refine j_iload 230 dX12_readsAll_228 rfl 4 rfl ?_
  refine j_iadd 231 dX12_readsAll_230 rfl ?_
  refine j_istore (lv' := [(8, .int (((18 : Int32) + l3) + l4)), (0, .ref (E.1 + 66)), (1, .int l1), (2, .int l2), (3, .int l3), (4, .int l4), (6, .int l6), (7, .int l7)]) 233 dX12_readsAll_231 rfl (by decide) rfl ?_
  refine j_aload_n 234 dX12_readsAll_233 rfl rfl 1 rfl ?_
  refine j_getG 237 dX12_readsAll_234 rfl (sh_66 hL) cl12 (k := 19) (by decide) flX12_35 rfl (gs_66_19 hL) ?_
  refine j_iload 239 dX12_readsAll_237 rfl 0 rfl ?_
  refine j_iload 241 dX12_readsAll_239 rfl 7 rfl ?_
  refine j_if_eq 248 244 dX12_readsAll_241 (by decide) rfl (fun hc => ?_) (fun hc => ?_)
  · replace h := j_pos hc h
    refine j_iconst (v := (1 : Int32)) 249 dX12_readsAll_248 rfl (by decide) ?_
    refine j_sub [1, 2, 3, 4, 5, 6, 7, 0] rfl ?_
    exact kX12_readsAll_249 hL   H48 _ _ _ _ _ _ _ _ _ _ _  h
  · replace h := j_neg hc h
    refine j_iconst (v := (0 : Int32)) 245 dX12_readsAll_244 rfl (by decide) ?_
    refine j_goto 249 dX12_readsAll_245 (by decide) ?_
    refine j_sub [1, 2, 3, 4, 5, 6, 7, 0] rfl ?_
    exact kX12_readsAll_249 hL   H48 _ _ _ _ _ _ _ _ _ _ _  h
def fX12_readsAll_207 (k48 : Int32 → Int32 → Int32 → Int32 → JI → JL → Option (Int32 × JI × JL)) (l1 : Int32) (l2 : Int32) (l3 : Int32) (l4 : Int32) (l6 : Int32) (l7 : Int32) (I : JI) (L : JL) : Option (Int32 × JI × JL) :=
  if l6 = 0 then (if l3 = (12 : Int32) then ((fX12_fails (5 : Int32) I).bind (fun q12 => j_g (decide (jm_b01 q12.1 = q12.1)) (some (q12.1, q12.2, L)))) else (fX12_readsAll_224 k48 l1 l2 l3 l4 l6 l7 I L)) else (fX12_readsAll_224 k48 l1 l2 l3 l4 l6 l7 I L)
set_option maxHeartbeats 4000000 in
set_option maxRecDepth 100000 in
theorem kX12_readsAll_207 {E : JE} {k48 : Int32 → Int32 → Int32 → Int32 → JI → JL → Option (Int32 × JI × JL)} {r : Int32 × JI × JL} {G : JG} {D : JG} {S : JS} (hL : Lay G S) (H48 : ∀ (l1 : Int32) (l2 : Int32) (l3 : Int32) (l4 : Int32) (I : JI) (L : JL), k48 l1 l2 l3 l4 I L = some r → AtJ E xX12_readsAll (Zr E (some (.int r.1)) r.2.1 r.2.2 G D S) ((S).length, jm_sl S) 7 48 [(0, .ref (E.1 + 66)), (1, .int l1), (2, .int l2), (3, .int l3), (4, .int l4)] [] I L G D S) : ∀ (l1 : Int32) (l2 : Int32) (l3 : Int32) (l4 : Int32) (l6 : Int32) (l7 : Int32) (I : JI) (L : JL), fX12_readsAll_207 k48 l1 l2 l3 l4 l6 l7 I L = some r → AtJ E xX12_readsAll (Zr E (some (.int r.1)) r.2.1 r.2.2 G D S) ((S).length, jm_sl S) 7 207 [(0, .ref (E.1 + 66)), (1, .int l1), (2, .int l2), (3, .int l3), (4, .int l4), (6, .int l6), (7, .int l7)] [] I L G D S := by
  intro l1 l2 l3 l4 l6 l7 I L  h
  unfold fX12_readsAll_207 at h
  refine j_iload 209 dX12_readsAll_207 rfl 5 rfl ?_
  refine j_if_ne 224 212 dX12_readsAll_209 (by decide) rfl (fun hc => ?_) (fun hc => ?_)
  · replace h := j_neg hc h
    exact kX12_readsAll_224 hL   H48 _ _ _ _ _ _ _ _  h
  · replace h := j_pos hc h
    refine j_iload_n 213 dX12_readsAll_212 rfl rfl 3 rfl ?_
    refine j_bipush (v := (12 : Int32)) 215 dX12_readsAll_213 rfl (by decide) ?_
    refine j_icmp_ne 224 218 dX12_readsAll_215 (by decide) rfl (fun hc => ?_) (fun hc => ?_)
    · replace h := j_neg hc h
      exact kX12_readsAll_224 hL   H48 _ _ _ _ _ _ _ _  h
    · replace h := j_pos hc h
      refine j_aload_n 219 dX12_readsAll_218 rfl rfl 0 rfl ?_
      refine j_iconst (v := (5 : Int32)) 220 dX12_readsAll_219 rfl (by decide) ?_
      obtain ⟨q12, hq12, h⟩ := j_bs h
      refine j_callV (rest := []) (As := [.int (5 : Int32)]) 223 dX12_readsAll_220 rfl jyX12_fails (tcX12_fails hL  hq12) (sh_66 hL) cl12 flX12_329 wm1785 wm48 (by decide) rfl rfl (Nat.le_of_ble_eq_true rfl) ?_
      obtain ⟨hz, h⟩ := j_gs h
      cases h
      exact j_zret dX12_readsAll_223 rfl (of_decide_eq_true hz)
def fX12_readsAll_177 (k48 : Int32 → Int32 → Int32 → Int32 → JI → JL → Option (Int32 × JI × JL)) (l1 : Int32) (l2 : Int32) (l3 : Int32) (l4 : Int32) (l6 : Int32) (I : JI) (L : JL) : Option (Int32 × JI × JL) :=
  (fX12_isWord (3379448 : Int64) I L).bind (fun q9 => if q9 = 0 then ((fX12_isWord (131360 : Int64) I L).bind (fun q10 => if q10 = 0 then ((fX12_fails (1 : Int32) I).bind (fun q11 => j_g (decide (jm_b01 q11.1 = q11.1)) (some (q11.1, q11.2, L)))) else (fX12_readsAll_207 k48 l1 l2 l3 l4 l6 q9 I L))) else (fX12_readsAll_207 k48 l1 l2 l3 l4 l6 q9 I L))
set_option maxHeartbeats 4000000 in
set_option maxRecDepth 100000 in
theorem kX12_readsAll_177 {E : JE} {k48 : Int32 → Int32 → Int32 → Int32 → JI → JL → Option (Int32 × JI × JL)} {r : Int32 × JI × JL} {G : JG} {D : JG} {S : JS} (hL : Lay G S) (H48 : ∀ (l1 : Int32) (l2 : Int32) (l3 : Int32) (l4 : Int32) (I : JI) (L : JL), k48 l1 l2 l3 l4 I L = some r → AtJ E xX12_readsAll (Zr E (some (.int r.1)) r.2.1 r.2.2 G D S) ((S).length, jm_sl S) 7 48 [(0, .ref (E.1 + 66)), (1, .int l1), (2, .int l2), (3, .int l3), (4, .int l4)] [] I L G D S) : ∀ (l1 : Int32) (l2 : Int32) (l3 : Int32) (l4 : Int32) (l6 : Int32) (I : JI) (L : JL), fX12_readsAll_177 k48 l1 l2 l3 l4 l6 I L = some r → AtJ E xX12_readsAll (Zr E (some (.int r.1)) r.2.1 r.2.2 G D S) ((S).length, jm_sl S) 7 177 [(0, .ref (E.1 + 66)), (1, .int l1), (2, .int l2), (3, .int l3), (4, .int l4), (6, .int l6)] [] I L G D S := by
  intro l1 l2 l3 l4 l6 I L  h
  unfold fX12_readsAll_177 at h
  refine j_aload_n 178 dX12_readsAll_177 rfl rfl 0 rfl ?_
  refine j_ldc2 (v := (3379448 : Int64)) 181 dX12_readsAll_178 rfl wm1800 ?_
  obtain ⟨q9, hq9, h⟩ := j_bs h
  refine j_callV (rest := []) (As := [.long (3379448 : Int64)]) 184 dX12_readsAll_181 rfl jyX12_isWord (tcX12_isWord hL  hq9) (sh_66 hL) cl12 flX12_313 wm1780 wm47 (by decide) rfl rfl (Nat.le_of_ble_eq_true rfl) ?_
  refine j_istore (lv' := [(7, .int q9), (0, .ref (E.1 + 66)), (1, .int l1), (2, .int l2), (3, .int l3), (4, .int l4), (6, .int l6)]) 186 dX12_readsAll_184 rfl (by decide) rfl ?_
  refine j_iload 188 dX12_readsAll_186 rfl 0 rfl ?_
  refine j_if_ne 207 191 dX12_readsAll_188 (by decide) rfl (fun hc => ?_) (fun hc => ?_)
  · replace h := j_neg hc h
    refine j_sub [1, 2, 3, 4, 5, 6, 0] rfl ?_
    exact kX12_readsAll_207 hL   H48 _ _ _ _ _ _ _ _  h
  · replace h := j_pos hc h
    refine j_aload_n 192 dX12_readsAll_191 rfl rfl 1 rfl ?_
    refine j_ldc2 (v := (131360 : Int64)) 195 dX12_readsAll_192 rfl wm1801 ?_
    obtain ⟨q10, hq10, h⟩ := j_bs h
    refine j_callV (rest := []) (As := [.long (131360 : Int64)]) 198 dX12_readsAll_195 rfl jyX12_isWord (tcX12_isWord hL  hq10) (sh_66 hL) cl12 flX12_313 wm1780 wm47 (by decide) rfl rfl (Nat.le_of_ble_eq_true rfl) ?_
    refine j_if_ne 207 201 dX12_readsAll_198 (by decide) rfl (fun hc => ?_) (fun hc => ?_)
    · replace h := j_neg hc h
      refine j_sub [1, 2, 3, 4, 5, 6, 0] rfl ?_
      exact kX12_readsAll_207 hL   H48 _ _ _ _ _ _ _ _  h
    · replace h := j_pos hc h
      refine j_aload_n 202 dX12_readsAll_201 rfl rfl 1 rfl ?_
      refine j_iconst (v := (1 : Int32)) 203 dX12_readsAll_202 rfl (by decide) ?_
      obtain ⟨q11, hq11, h⟩ := j_bs h
      refine j_callV (rest := []) (As := [.int (1 : Int32)]) 206 dX12_readsAll_203 rfl jyX12_fails (tcX12_fails hL  hq11) (sh_66 hL) cl12 flX12_329 wm1785 wm48 (by decide) rfl rfl (Nat.le_of_ble_eq_true rfl) ?_
      obtain ⟨hz, h⟩ := j_gs h
      cases h
      exact j_zret dX12_readsAll_206 rfl (of_decide_eq_true hz)
def fX12_readsAll_125 (k48 : Int32 → Int32 → Int32 → Int32 → JI → JL → Option (Int32 × JI × JL)) (l1 : Int32) (l3 : Int32) (l4 : Int32) (l5 : Int32) (I : JI) (L : JL) : Option (Int32 × JI × JL) :=
  (fX12_nextToken I L).bind (fun q15 => (fX12_readsWay l5 q15.1 q15.2).bind (fun q16 => if q16.1 = 0 then (some ((0 : Int32), q16.2.1, q16.2.2)) else (k48 l1 (1 : Int32) l3 l4 q16.2.1 q16.2.2)))
set_option maxHeartbeats 4000000 in
set_option maxRecDepth 100000 in
theorem kX12_readsAll_125 {E : JE} {k48 : Int32 → Int32 → Int32 → Int32 → JI → JL → Option (Int32 × JI × JL)} {r : Int32 × JI × JL} {G : JG} {D : JG} {S : JS} (hL : Lay G S) (H48 : ∀ (l1 : Int32) (l2 : Int32) (l3 : Int32) (l4 : Int32) (I : JI) (L : JL), k48 l1 l2 l3 l4 I L = some r → AtJ E xX12_readsAll (Zr E (some (.int r.1)) r.2.1 r.2.2 G D S) ((S).length, jm_sl S) 7 48 [(0, .ref (E.1 + 66)), (1, .int l1), (2, .int l2), (3, .int l3), (4, .int l4)] [] I L G D S) : ∀ (l1 : Int32) (l3 : Int32) (l4 : Int32) (l5 : Int32) (I : JI) (L : JL), fX12_readsAll_125 k48 l1 l3 l4 l5 I L = some r → AtJ E xX12_readsAll (Zr E (some (.int r.1)) r.2.1 r.2.2 G D S) ((S).length, jm_sl S) 7 125 [(0, .ref (E.1 + 66)), (1, .int l1), (3, .int l3), (4, .int l4), (5, .int l5)] [] I L G D S := by
  intro l1 l3 l4 l5 I L  h
  unfold fX12_readsAll_125 at h
  refine j_iconst (v := (1 : Int32)) 126 dX12_readsAll_125 rfl (by decide) ?_
  refine j_goto 130 dX12_readsAll_126 (by decide) ?_
  refine j_istore_n (lv' := [(2, .int (1 : Int32)), (0, .ref (E.1 + 66)), (1, .int l1), (3, .int l3), (4, .int l4), (5, .int l5)]) 131 dX12_readsAll_130 rfl rfl (by decide) rfl ?_
  refine j_aload_n 132 dX12_readsAll_131 rfl rfl 1 rfl ?_
  obtain ⟨q15, hq15, h⟩ := j_bs h
  refine j_callV (rest := []) (As := []) 135 dX12_readsAll_132 rfl jyX12_nextToken (tcX12_nextToken hL  hq15) (sh_66 hL) cl12 flX12_336 wm1769 wm45 (by decide) rfl rfl (Nat.le_of_ble_eq_true rfl) ?_
  refine j_aload_n 136 dX12_readsAll_135 rfl rfl 1 rfl ?_
  refine j_iload 138 dX12_readsAll_136 rfl 5 rfl ?_
  obtain ⟨q16, hq16, h⟩ := j_bs h
  refine j_callV (rest := []) (As := [.int l5]) 141 dX12_readsAll_138 rfl jyX12_readsWay (tcX12_readsWay hL  hq16) (sh_66 hL) cl12 flX12_379 wm1789 wm49 (by decide) rfl rfl (Nat.le_of_ble_eq_true rfl) ?_
  refine j_if_ne 48 144 dX12_readsAll_141 (by decide) rfl (fun hc => ?_) (fun hc => ?_)
  · replace h := j_neg hc h
    refine j_sub [1, 2, 0, 3, 4] rfl ?_
    exact H48 _ _ _ _ _ _  h
  · replace h := j_pos hc h
    refine j_iconst (v := (0 : Int32)) 145 dX12_readsAll_144 rfl (by decide) ?_
    cases h
    exact j_zret dX12_readsAll_145 rfl j_b01_0
def fX12_readsAll_115 (k48 : Int32 → Int32 → Int32 → Int32 → JI → JL → Option (Int32 × JI × JL)) (l2 : Int32) (l3 : Int32) (l4 : Int32) (l5 : Int32) (s0 : Int32) (I : JI) (L : JL) : Option (Int32 × JI × JL) :=
  if l2 = 0 then (if l5 = 0 then (fX12_readsAll_125 k48 s0 l3 l4 l5 I L) else ((fX12_nextToken I L).bind (fun q13 => (fX12_readsWay l5 q13.1 q13.2).bind (fun q14 => if q14.1 = 0 then (some ((0 : Int32), q14.2.1, q14.2.2)) else (k48 s0 (0 : Int32) l3 l4 q14.2.1 q14.2.2))))) else (fX12_readsAll_125 k48 s0 l3 l4 l5 I L)
set_option maxHeartbeats 4000000 in
set_option maxRecDepth 100000 in
theorem kX12_readsAll_115 {E : JE} {k48 : Int32 → Int32 → Int32 → Int32 → JI → JL → Option (Int32 × JI × JL)} {r : Int32 × JI × JL} {G : JG} {D : JG} {S : JS} (hL : Lay G S) (H48 : ∀ (l1 : Int32) (l2 : Int32) (l3 : Int32) (l4 : Int32) (I : JI) (L : JL), k48 l1 l2 l3 l4 I L = some r → AtJ E xX12_readsAll (Zr E (some (.int r.1)) r.2.1 r.2.2 G D S) ((S).length, jm_sl S) 7 48 [(0, .ref (E.1 + 66)), (1, .int l1), (2, .int l2), (3, .int l3), (4, .int l4)] [] I L G D S) : ∀ (l2 : Int32) (l3 : Int32) (l4 : Int32) (l5 : Int32) (s0 : Int32) (I : JI) (L : JL), fX12_readsAll_115 k48 l2 l3 l4 l5 s0 I L = some r → AtJ E xX12_readsAll (Zr E (some (.int r.1)) r.2.1 r.2.2 G D S) ((S).length, jm_sl S) 7 115 [(0, .ref (E.1 + 66)), (2, .int l2), (3, .int l3), (4, .int l4), (5, .int l5)] [.int s0] I L G D S := by
  intro l2 l3 l4 l5 s0 I L  h
  unfold fX12_readsAll_115 at h
  refine j_istore_n (lv' := [(1, .int s0), (0, .ref (E.1 + 66)), (2, .int l2), (3, .int l3), (4, .int l4), (5, .int l5)]) 116 dX12_readsAll_115 rfl rfl (by decide) rfl ?_
  refine j_iload_n 117 dX12_readsAll_116 rfl rfl 2 rfl ?_
  refine j_if_ne 125 120 dX12_readsAll_117 (by decide) rfl (fun hc => ?_) (fun hc => ?_)
  · replace h := j_neg hc h
    refine j_sub [1, 0, 3, 4, 5] rfl ?_
    exact kX12_readsAll_125 hL   H48 _ _ _ _ _ _  h
  · replace h := j_pos hc h
    refine j_iload 122 dX12_readsAll_120 rfl 5 rfl ?_
    refine j_if_ne 129 125 dX12_readsAll_122 (by decide) rfl (fun hc => ?_) (fun hc => ?_)
    · replace h := j_neg hc h
      refine j_iconst (v := (0 : Int32)) 130 dX12_readsAll_129 rfl (by decide) ?_
      refine j_istore_n (lv' := [(2, .int (0 : Int32)), (1, .int s0), (0, .ref (E.1 + 66)), (3, .int l3), (4, .int l4), (5, .int l5)]) 131 dX12_readsAll_130 rfl rfl (by decide) rfl ?_
      refine j_aload_n 132 dX12_readsAll_131 rfl rfl 2 rfl ?_
      obtain ⟨q13, hq13, h⟩ := j_bs h
      refine j_callV (rest := []) (As := []) 135 dX12_readsAll_132 rfl jyX12_nextToken (tcX12_nextToken hL  hq13) (sh_66 hL) cl12 flX12_336 wm1769 wm45 (by decide) rfl rfl (Nat.le_of_ble_eq_true rfl) ?_
      refine j_aload_n 136 dX12_readsAll_135 rfl rfl 2 rfl ?_
      refine j_iload 138 dX12_readsAll_136 rfl 5 rfl ?_
      obtain ⟨q14, hq14, h⟩ := j_bs h
      refine j_callV (rest := []) (As := [.int l5]) 141 dX12_readsAll_138 rfl jyX12_readsWay (tcX12_readsWay hL  hq14) (sh_66 hL) cl12 flX12_379 wm1789 wm49 (by decide) rfl rfl (Nat.le_of_ble_eq_true rfl) ?_
      refine j_if_ne 48 144 dX12_readsAll_141 (by decide) rfl (fun hc => ?_) (fun hc => ?_)
      · replace h := j_neg hc h
        refine j_sub [2, 1, 0, 3, 4] rfl ?_
        exact H48 _ _ _ _ _ _  h
      · replace h := j_pos hc h
        refine j_iconst (v := (0 : Int32)) 145 dX12_readsAll_144 rfl (by decide) ?_
        cases h
        exact j_zret dX12_readsAll_145 rfl j_b01_0
    · replace h := j_pos hc h
      refine j_sub [1, 0, 3, 4, 5] rfl ?_
      exact kX12_readsAll_125 hL   H48 _ _ _ _ _ _  h
def fX12_readsAll_101 (k48 : Int32 → Int32 → Int32 → Int32 → JI → JL → Option (Int32 × JI × JL)) (l1 : Int32) (l2 : Int32) (l3 : Int32) (l4 : Int32) (l5 : Int32) (I : JI) (L : JL) : Option (Int32 × JI × JL) :=
  if l1 = 0 then (if l5 = 0 then (fX12_readsAll_115 k48 l2 l3 l4 l5 (0 : Int32) I L) else (fX12_readsAll_115 k48 l2 l3 l4 l5 (1 : Int32) I L)) else (fX12_readsAll_115 k48 l2 l3 l4 l5 (1 : Int32) I L)
set_option maxHeartbeats 4000000 in
set_option maxRecDepth 100000 in
theorem kX12_readsAll_101 {E : JE} {k48 : Int32 → Int32 → Int32 → Int32 → JI → JL → Option (Int32 × JI × JL)} {r : Int32 × JI × JL} {G : JG} {D : JG} {S : JS} (hL : Lay G S) (H48 : ∀ (l1 : Int32) (l2 : Int32) (l3 : Int32) (l4 : Int32) (I : JI) (L : JL), k48 l1 l2 l3 l4 I L = some r → AtJ E xX12_readsAll (Zr E (some (.int r.1)) r.2.1 r.2.2 G D S) ((S).length, jm_sl S) 7 48 [(0, .ref (E.1 + 66)), (1, .int l1), (2, .int l2), (3, .int l3), (4, .int l4)] [] I L G D S) : ∀ (l1 : Int32) (l2 : Int32) (l3 : Int32) (l4 : Int32) (l5 : Int32) (I : JI) (L : JL), fX12_readsAll_101 k48 l1 l2 l3 l4 l5 I L = some r → AtJ E xX12_readsAll (Zr E (some (.int r.1)) r.2.1 r.2.2 G D S) ((S).length, jm_sl S) 7 101 [(0, .ref (E.1 + 66)), (1, .int l1), (2, .int l2), (3, .int l3), (4, .int l4), (5, .int l5)] [] I L G D S := by
  intro l1 l2 l3 l4 l5 I L  h
  unfold fX12_readsAll_101 at h
  refine j_iload_n 102 dX12_readsAll_101 rfl rfl 1 rfl ?_
  refine j_if_ne 110 105 dX12_readsAll_102 (by decide) rfl (fun hc => ?_) (fun hc => ?_)
  · replace h := j_neg hc h
    refine j_iconst (v := (1 : Int32)) 111 dX12_readsAll_110 rfl (by decide) ?_
    refine j_goto 115 dX12_readsAll_111 (by decide) ?_
    refine j_sub [0, 2, 3, 4, 5] rfl ?_
    exact kX12_readsAll_115 hL   H48 _ _ _ _ _ _ _  h
  · replace h := j_pos hc h
    refine j_iload 107 dX12_readsAll_105 rfl 5 rfl ?_
    refine j_if_eq 114 110 dX12_readsAll_107 (by decide) rfl (fun hc => ?_) (fun hc => ?_)
    · replace h := j_pos hc h
      refine j_iconst (v := (0 : Int32)) 115 dX12_readsAll_114 rfl (by decide) ?_
      refine j_sub [0, 2, 3, 4, 5] rfl ?_
      exact kX12_readsAll_115 hL   H48 _ _ _ _ _ _ _  h
    · replace h := j_neg hc h
      refine j_iconst (v := (1 : Int32)) 111 dX12_readsAll_110 rfl (by decide) ?_
      refine j_goto 115 dX12_readsAll_111 (by decide) ?_
      refine j_sub [0, 2, 3, 4, 5] rfl ?_
      exact kX12_readsAll_115 hL   H48 _ _ _ _ _ _ _  h
def fX12_readsAll_79 (k48 : Int32 → Int32 → Int32 → Int32 → JI → JL → Option (Int32 × JI × JL)) (l1 : Int32) (l2 : Int32) (l3 : Int32) (l4 : Int32) (l5 : Int32) (I : JI) (L : JL) : Option (Int32 × JI × JL) :=
  if l5 = 0 then (if l2 = 0 then (fX12_readsAll_101 k48 l1 l2 l3 l4 l5 I L) else ((fX12_fails (3 : Int32) I).bind (fun q7 => j_g (decide (jm_b01 q7.1 = q7.1)) (some (q7.1, q7.2, L))))) else (if l1 = 0 then (fX12_readsAll_101 k48 l1 l2 l3 l4 l5 I L) else ((fX12_fails (3 : Int32) I).bind (fun q8 => j_g (decide (jm_b01 q8.1 = q8.1)) (some (q8.1, q8.2, L)))))
set_option maxHeartbeats 4000000 in
set_option maxRecDepth 100000 in
theorem kX12_readsAll_79 {E : JE} {k48 : Int32 → Int32 → Int32 → Int32 → JI → JL → Option (Int32 × JI × JL)} {r : Int32 × JI × JL} {G : JG} {D : JG} {S : JS} (hL : Lay G S) (H48 : ∀ (l1 : Int32) (l2 : Int32) (l3 : Int32) (l4 : Int32) (I : JI) (L : JL), k48 l1 l2 l3 l4 I L = some r → AtJ E xX12_readsAll (Zr E (some (.int r.1)) r.2.1 r.2.2 G D S) ((S).length, jm_sl S) 7 48 [(0, .ref (E.1 + 66)), (1, .int l1), (2, .int l2), (3, .int l3), (4, .int l4)] [] I L G D S) : ∀ (l1 : Int32) (l2 : Int32) (l3 : Int32) (l4 : Int32) (l5 : Int32) (I : JI) (L : JL), fX12_readsAll_79 k48 l1 l2 l3 l4 l5 I L = some r → AtJ E xX12_readsAll (Zr E (some (.int r.1)) r.2.1 r.2.2 G D S) ((S).length, jm_sl S) 7 79 [(0, .ref (E.1 + 66)), (1, .int l1), (2, .int l2), (3, .int l3), (4, .int l4), (5, .int l5)] [] I L G D S := by
  intro l1 l2 l3 l4 l5 I L  h
  unfold fX12_readsAll_79 at h
  refine j_iload 81 dX12_readsAll_79 rfl 5 rfl ?_
  refine j_if_eq 91 84 dX12_readsAll_81 (by decide) rfl (fun hc => ?_) (fun hc => ?_)
  · replace h := j_pos hc h
    refine j_iload_n 92 dX12_readsAll_91 rfl rfl 2 rfl ?_
    refine j_if_eq 101 95 dX12_readsAll_92 (by decide) rfl (fun hc => ?_) (fun hc => ?_)
    · replace h := j_pos hc h
      exact kX12_readsAll_101 hL   H48 _ _ _ _ _ _ _  h
    · replace h := j_neg hc h
      refine j_aload_n 96 dX12_readsAll_95 rfl rfl 0 rfl ?_
      refine j_iconst (v := (3 : Int32)) 97 dX12_readsAll_96 rfl (by decide) ?_
      obtain ⟨q7, hq7, h⟩ := j_bs h
      refine j_callV (rest := []) (As := [.int (3 : Int32)]) 100 dX12_readsAll_97 rfl jyX12_fails (tcX12_fails hL  hq7) (sh_66 hL) cl12 flX12_329 wm1785 wm48 (by decide) rfl rfl (Nat.le_of_ble_eq_true rfl) ?_
      obtain ⟨hz, h⟩ := j_gs h
      cases h
      exact j_zret dX12_readsAll_100 rfl (of_decide_eq_true hz)
  · replace h := j_neg hc h
    refine j_iload_n 85 dX12_readsAll_84 rfl rfl 1 rfl ?_
    refine j_if_eq 101 88 dX12_readsAll_85 (by decide) rfl (fun hc => ?_) (fun hc => ?_)
    · replace h := j_pos hc h
      exact kX12_readsAll_101 hL   H48 _ _ _ _ _ _ _  h
    · replace h := j_neg hc h
      refine j_goto 95 dX12_readsAll_88 (by decide) ?_
      refine j_aload_n 96 dX12_readsAll_95 rfl rfl 0 rfl ?_
      refine j_iconst (v := (3 : Int32)) 97 dX12_readsAll_96 rfl (by decide) ?_
      obtain ⟨q8, hq8, h⟩ := j_bs h
      refine j_callV (rest := []) (As := [.int (3 : Int32)]) 100 dX12_readsAll_97 rfl jyX12_fails (tcX12_fails hL  hq8) (sh_66 hL) cl12 flX12_329 wm1785 wm48 (by decide) rfl rfl (Nat.le_of_ble_eq_true rfl) ?_
      obtain ⟨hz, h⟩ := j_gs h
      cases h
      exact j_zret dX12_readsAll_100 rfl (of_decide_eq_true hz)
def fX12_readsAll_48 : Nat → Int32 → Int32 → Int32 → Int32 → JI → JL → Option (Int32 × JI × JL)
  | 0, _, _, _, _, _, _ => none
  | n + 1, l1, l2, l3, l4, I, L =>
    if (I 66 14) = 0 then (fX12_readsAll_322 l3 l4 I L) else ((fX12_isWord (8863997 : Int64) I L).bind (fun q2 => if q2 = 0 then ((fX12_isWord (8536420 : Int64) I L).bind (fun q3 => if q3 = 0 then ((fX12_isWord (6946700 : Int64) I L).bind (fun q4 => if q4 = 0 then (fX12_readsAll_177 (fX12_readsAll_48 n) l1 l2 l3 l4 q4 I L) else (if l4 = (6 : Int32) then ((fX12_fails (5 : Int32) I).bind (fun q6 => j_g (decide (jm_b01 q6.1 = q6.1)) (some (q6.1, q6.2, L)))) else ((fX12_nextToken I L).bind (fun q5 => fX12_readsAll_177 (fX12_readsAll_48 n) l1 l2 l3 l4 q4 q5.1 q5.2))))) else (fX12_readsAll_79 (fX12_readsAll_48 n) l1 l2 l3 l4 q2 I L))) else (fX12_readsAll_79 (fX12_readsAll_48 n) l1 l2 l3 l4 q2 I L)))
set_option maxHeartbeats 4000000 in
set_option maxRecDepth 100000 in
theorem kX12_readsAll_48 {E : JE} {r : Int32 × JI × JL} {G : JG} {D : JG} {S : JS} (hL : Lay G S) : ∀ (n : Nat) (l1 : Int32) (l2 : Int32) (l3 : Int32) (l4 : Int32) (I : JI) (L : JL), fX12_readsAll_48 n l1 l2 l3 l4 I L = some r → AtJ E xX12_readsAll (Zr E (some (.int r.1)) r.2.1 r.2.2 G D S) ((S).length, jm_sl S) 7 48 [(0, .ref (E.1 + 66)), (1, .int l1), (2, .int l2), (3, .int l3), (4, .int l4)] [] I L G D S := by
  intro n
  induction n with
  | zero => intro l1 l2 l3 l4 I L  h; simp [fX12_readsAll_48] at h
  | succ n ih =>
    intro l1 l2 l3 l4 I L  h
    rw [fX12_readsAll_48] at h
    refine j_aload_n 49 dX12_readsAll_48 rfl rfl 0 rfl ?_
    refine j_getI 52 dX12_readsAll_49 rfl (sh_66 hL) cl12 (k := 14) (by decide) flX12_268 rfl ?_
    refine j_if_eq 322 55 dX12_readsAll_52 (by decide) rfl (fun hc => ?_) (fun hc => ?_)
    · replace h := j_pos hc h
      refine j_sub [0, 3, 4] rfl ?_
      exact kX12_readsAll_322 hL    _ _ _ _  h
    · replace h := j_neg hc h
      refine j_aload_n 56 dX12_readsAll_55 rfl rfl 0 rfl ?_
      refine j_ldc2 (v := (8863997 : Int64)) 59 dX12_readsAll_56 rfl wm1777 ?_
      obtain ⟨q2, hq2, h⟩ := j_bs h
      refine j_callV (rest := []) (As := [.long (8863997 : Int64)]) 62 dX12_readsAll_59 rfl jyX12_isWord (tcX12_isWord hL  hq2) (sh_66 hL) cl12 flX12_313 wm1780 wm47 (by decide) rfl rfl (Nat.le_of_ble_eq_true rfl) ?_
      refine j_istore (lv' := [(5, .int q2), (0, .ref (E.1 + 66)), (1, .int l1), (2, .int l2), (3, .int l3), (4, .int l4)]) 64 dX12_readsAll_62 rfl (by decide) rfl ?_
      refine j_iload 66 dX12_readsAll_64 rfl 0 rfl ?_
      refine j_if_ne 79 69 dX12_readsAll_66 (by decide) rfl (fun hc => ?_) (fun hc => ?_)
      · replace h := j_neg hc h
        refine j_sub [1, 2, 3, 4, 5, 0] rfl ?_
        exact kX12_readsAll_79 hL   ih _ _ _ _ _ _ _  h
      · replace h := j_pos hc h
        refine j_aload_n 70 dX12_readsAll_69 rfl rfl 1 rfl ?_
        refine j_ldc2 (v := (8536420 : Int64)) 73 dX12_readsAll_70 rfl wm1782 ?_
        obtain ⟨q3, hq3, h⟩ := j_bs h
        refine j_callV (rest := []) (As := [.long (8536420 : Int64)]) 76 dX12_readsAll_73 rfl jyX12_isWord (tcX12_isWord hL  hq3) (sh_66 hL) cl12 flX12_313 wm1780 wm47 (by decide) rfl rfl (Nat.le_of_ble_eq_true rfl) ?_
        refine j_if_eq 146 79 dX12_readsAll_76 (by decide) rfl (fun hc => ?_) (fun hc => ?_)
        · replace h := j_pos hc h
          refine j_aload_n 147 dX12_readsAll_146 rfl rfl 1 rfl ?_
          refine j_ldc2 (v := (6946700 : Int64)) 150 dX12_readsAll_147 rfl wm1799 ?_
          obtain ⟨q4, hq4, h⟩ := j_bs h
          refine j_callV (rest := []) (As := [.long (6946700 : Int64)]) 153 dX12_readsAll_150 rfl jyX12_isWord (tcX12_isWord hL  hq4) (sh_66 hL) cl12 flX12_313 wm1780 wm47 (by decide) rfl rfl (Nat.le_of_ble_eq_true rfl) ?_
          refine j_istore (lv' := [(6, .int q4), (5, .int q2), (0, .ref (E.1 + 66)), (1, .int l1), (2, .int l2), (3, .int l3), (4, .int l4)]) 155 dX12_readsAll_153 rfl (by decide) rfl ?_
          refine j_iload 157 dX12_readsAll_155 rfl 0 rfl ?_
          refine j_if_eq 177 160 dX12_readsAll_157 (by decide) rfl (fun hc => ?_) (fun hc => ?_)
          · replace h := j_pos hc h
            refine j_sub [2, 3, 4, 5, 6, 0] rfl ?_
            exact kX12_readsAll_177 hL   ih _ _ _ _ _ _ _  h
          · replace h := j_neg hc h
            refine j_iload 162 dX12_readsAll_160 rfl 6 rfl ?_
            refine j_bipush (v := (6 : Int32)) 164 dX12_readsAll_162 rfl (by decide) ?_
            refine j_icmp_ne 173 167 dX12_readsAll_164 (by decide) rfl (fun hc => ?_) (fun hc => ?_)
            · replace h := j_neg hc h
              refine j_aload_n 174 dX12_readsAll_173 rfl rfl 2 rfl ?_
              obtain ⟨q5, hq5, h⟩ := j_bs h
              refine j_callV (rest := []) (As := []) 177 dX12_readsAll_174 rfl jyX12_nextToken (tcX12_nextToken hL  hq5) (sh_66 hL) cl12 flX12_336 wm1769 wm45 (by decide) rfl rfl (Nat.le_of_ble_eq_true rfl) ?_
              refine j_sub [2, 3, 4, 5, 6, 0] rfl ?_
              exact kX12_readsAll_177 hL   ih _ _ _ _ _ _ _  h
            · replace h := j_pos hc h
              refine j_aload_n 168 dX12_readsAll_167 rfl rfl 2 rfl ?_
              refine j_iconst (v := (5 : Int32)) 169 dX12_readsAll_168 rfl (by decide) ?_
              obtain ⟨q6, hq6, h⟩ := j_bs h
              refine j_callV (rest := []) (As := [.int (5 : Int32)]) 172 dX12_readsAll_169 rfl jyX12_fails (tcX12_fails hL  hq6) (sh_66 hL) cl12 flX12_329 wm1785 wm48 (by decide) rfl rfl (Nat.le_of_ble_eq_true rfl) ?_
              obtain ⟨hz, h⟩ := j_gs h
              cases h
              exact j_zret dX12_readsAll_172 rfl (of_decide_eq_true hz)
        · replace h := j_neg hc h
          refine j_sub [1, 2, 3, 4, 5, 0] rfl ?_
          exact kX12_readsAll_79 hL   ih _ _ _ _ _ _ _  h
def fX12_readsAll (I : JI) (L : JL) : Option (Int32 × JI × JL) :=
  (fX12_nextToken (j_up (j_up (j_up (j_up (j_up (j_up I 66 33 (0 : Int32)) 66 34 (0 : Int32)) 66 28 (1000 : Int32)) 66 11 ((j_up (j_up (j_up I 66 33 (0 : Int32)) 66 34 (0 : Int32)) 66 28 (1000 : Int32)) 66 9)) 66 9 (0 : Int32)) 66 12 (0 : Int32)) L).bind (fun q1 => fX12_readsAll_48 100000 (0 : Int32) (0 : Int32) (0 : Int32) (0 : Int32) q1.1 q1.2)
set_option maxHeartbeats 4000000 in
set_option maxRecDepth 100000 in
theorem tcX12_readsAll {E : JE} {r : Int32 × JI × JL} {I : JI} {L : JL} {G D : JG} {S : JS} (hL : Lay G S) (h : fX12_readsAll I L = some r) : CallJ E xX12_readsAll 7 [.ref (E.1 + 66)] I L G D S (some (.int r.1)) r.2.1 r.2.2 G D S := by
  unfold fX12_readsAll at h
  refine j_entry (by decide) (Nat.le_of_ble_eq_true rfl) ?_
  show AtJ E xX12_readsAll (Zr E (some (.int r.1)) r.2.1 r.2.2 G D S) ((S).length, jm_sl S) 7 0 [(0, .ref (E.1 + 66))] [] I L G D S
  refine j_iconst (v := (0 : Int32)) 1 dX12_readsAll_0 rfl (by decide) ?_
  refine j_istore_n (lv' := [(1, .int (0 : Int32)), (0, .ref (E.1 + 66))]) 2 dX12_readsAll_1 rfl rfl (by decide) rfl ?_
  refine j_iconst (v := (0 : Int32)) 3 dX12_readsAll_2 rfl (by decide) ?_
  refine j_istore_n (lv' := [(2, .int (0 : Int32)), (1, .int (0 : Int32)), (0, .ref (E.1 + 66))]) 4 dX12_readsAll_3 rfl rfl (by decide) rfl ?_
  refine j_iconst (v := (0 : Int32)) 5 dX12_readsAll_4 rfl (by decide) ?_
  refine j_istore_n (lv' := [(3, .int (0 : Int32)), (2, .int (0 : Int32)), (1, .int (0 : Int32)), (0, .ref (E.1 + 66))]) 6 dX12_readsAll_5 rfl rfl (by decide) rfl ?_
  refine j_iconst (v := (0 : Int32)) 7 dX12_readsAll_6 rfl (by decide) ?_
  refine j_istore (lv' := [(4, .int (0 : Int32)), (3, .int (0 : Int32)), (2, .int (0 : Int32)), (1, .int (0 : Int32)), (0, .ref (E.1 + 66))]) 9 dX12_readsAll_7 rfl (by decide) rfl ?_
  refine j_aload_n 10 dX12_readsAll_9 rfl rfl 4 rfl ?_
  refine j_iconst (v := (0 : Int32)) 11 dX12_readsAll_10 rfl (by decide) ?_
  refine j_putZ 14 dX12_readsAll_11 rfl (sh_66 hL) cl12 (k := 33) (by decide) flX12_370 rfl rfl rfl j_b01_0 ?_
  refine j_aload_n 15 dX12_readsAll_14 rfl rfl 4 rfl ?_
  refine j_iconst (v := (0 : Int32)) 16 dX12_readsAll_15 rfl (by decide) ?_
  refine j_putZ 19 dX12_readsAll_16 rfl (sh_66 hL) cl12 (k := 34) (by decide) flX12_374 rfl rfl rfl j_b01_0 ?_
  refine j_aload_n 20 dX12_readsAll_19 rfl rfl 4 rfl ?_
  refine j_sipush (v := (1000 : Int32)) 23 dX12_readsAll_20 rfl (by decide) ?_
  refine j_putI 26 dX12_readsAll_23 rfl (sh_66 hL) cl12 (k := 28) (by decide) flX12_282 rfl rfl rfl ?_
  refine j_aload_n 27 dX12_readsAll_26 rfl rfl 4 rfl ?_
  refine j_aload_n 28 dX12_readsAll_27 rfl rfl 4 rfl ?_
  refine j_getI 31 dX12_readsAll_28 rfl (sh_66 hL) cl12 (k := 9) (by decide) flX12_249 rfl ?_
  refine j_putI 34 dX12_readsAll_31 rfl (sh_66 hL) cl12 (k := 11) (by decide) flX12_252 rfl rfl rfl ?_
  refine j_aload_n 35 dX12_readsAll_34 rfl rfl 4 rfl ?_
  refine j_iconst (v := (0 : Int32)) 36 dX12_readsAll_35 rfl (by decide) ?_
  refine j_putI 39 dX12_readsAll_36 rfl (sh_66 hL) cl12 (k := 9) (by decide) flX12_249 rfl rfl rfl ?_
  refine j_aload_n 40 dX12_readsAll_39 rfl rfl 4 rfl ?_
  refine j_iconst (v := (0 : Int32)) 41 dX12_readsAll_40 rfl (by decide) ?_
  refine j_putI 44 dX12_readsAll_41 rfl (sh_66 hL) cl12 (k := 12) (by decide) flX12_255 rfl rfl rfl ?_
  refine j_aload_n 45 dX12_readsAll_44 rfl rfl 4 rfl ?_
  obtain ⟨q1, hq1, h⟩ := j_bs h
  refine j_callV (rest := []) (As := []) 48 dX12_readsAll_45 rfl jyX12_nextToken (tcX12_nextToken hL  hq1) (sh_66 hL) cl12 flX12_336 wm1769 wm45 (by decide) rfl rfl (Nat.le_of_ble_eq_true rfl) ?_
  refine j_sub [4, 3, 2, 1, 0] rfl ?_
  exact kX12_readsAll_48 hL    100000 _ _ _ _ _ _  h
def fX12_law_187 : Nat → Int32 → JI → JL → Option (Int32 × JI × JL)
  | 0, _, _, _ => none
  | n + 1, l1, I, L =>
    if (1000 : Int32) ≤ l1 then (some ((0 : Int32), I, L)) else (j_g (j_in ((1000 : Int32) + l1) 2000) (j_g (j_in l1 2000) ((fX12_law_187 n) (l1 + (1 : Int32)) (j_up I 83 l1.toNatClampNeg (I 83 ((1000 : Int32) + l1).toNatClampNeg)) L)))
set_option maxHeartbeats 4000000 in
set_option maxRecDepth 100000 in
theorem kX12_law_187 {E : JE} {r : Int32 × JI × JL} {G : JG} {D : JG} {S : JS} (hL : Lay G S) : ∀ (n : Nat) (l1 : Int32) (I : JI) (L : JL), fX12_law_187 n l1 I L = some r → AtJ E xX12_law (Zr E (some (.int r.1)) r.2.1 r.2.2 G D S) ((S).length, jm_sl S) 8 187 [(0, .ref (E.1 + 66)), (1, .int l1)] [] I L G D S := by
  intro n
  induction n with
  | zero => intro l1 I L  h; simp [fX12_law_187] at h
  | succ n ih =>
    intro l1 I L  h
    rw [fX12_law_187] at h
    refine j_iload_n 188 dX12_law_187 rfl rfl 1 rfl ?_
    refine j_sipush (v := (1000 : Int32)) 191 dX12_law_188 rfl (by decide) ?_
    refine j_icmp_ge 216 194 dX12_law_191 (by decide) rfl (fun hc => ?_) (fun hc => ?_)
    · replace h := j_pos hc h
      refine j_iconst (v := (0 : Int32)) 217 dX12_law_216 rfl (by decide) ?_
      cases h
      exact j_iret dX12_law_217 rfl
    · replace h := j_neg hc h
      refine j_aload_n 195 dX12_law_194 rfl rfl 0 rfl ?_
      refine j_getG 198 dX12_law_195 rfl (sh_66 hL) cl12 (k := 27) (by decide) flX12_59 rfl (gs_66_27 hL) ?_
      refine j_iload_n 199 dX12_law_198 rfl rfl 1 rfl ?_
      refine j_aload_n 200 dX12_law_199 rfl rfl 0 rfl ?_
      refine j_getG 203 dX12_law_200 rfl (sh_66 hL) cl12 (k := 27) (by decide) flX12_59 rfl (gs_66_27 hL) ?_
      refine j_sipush (v := (1000 : Int32)) 206 dX12_law_203 rfl (by decide) ?_
      refine j_iload_n 207 dX12_law_206 rfl rfl 1 rfl ?_
      refine j_iadd 208 dX12_law_207 rfl ?_
      obtain ⟨hg, h⟩ := j_gs h
      refine j_iald 209 dX12_law_208 rfl (sh_83 hL) (j_inv hg) ?_
      obtain ⟨hg, h⟩ := j_gs h
      refine j_iast 210 dX12_law_209 rfl (sh_83 hL) (j_inv hg) ?_
      refine j_iinc (v := (l1 + (1 : Int32))) (lv' := [(1, .int (l1 + (1 : Int32))), (0, .ref (E.1 + 66))]) (q := 1) 213 dX12_law_210 rfl rfl rfl (by decide) rfl ?_
      refine j_goto 187 dX12_law_213 (by decide) ?_
      refine j_sub [1, 0] rfl ?_
      exact ih _ _ _  h
def fX12_law_185 (I : JI) (L : JL) : Option (Int32 × JI × JL) :=
  fX12_law_187 100000 (0 : Int32) I L
set_option maxHeartbeats 4000000 in
set_option maxRecDepth 100000 in
theorem kX12_law_185 {E : JE} {r : Int32 × JI × JL} {G : JG} {D : JG} {S : JS} (hL : Lay G S) : ∀ (I : JI) (L : JL), fX12_law_185 I L = some r → AtJ E xX12_law (Zr E (some (.int r.1)) r.2.1 r.2.2 G D S) ((S).length, jm_sl S) 8 185 [(0, .ref (E.1 + 66))] [] I L G D S := by
  intro I L  h
  unfold fX12_law_185 at h
  refine j_iconst (v := (0 : Int32)) 186 dX12_law_185 rfl (by decide) ?_
  refine j_istore_n (lv' := [(1, .int (0 : Int32)), (0, .ref (E.1 + 66))]) 187 dX12_law_186 rfl rfl (by decide) rfl ?_
  refine j_sub [1, 0] rfl ?_
  exact kX12_law_187 hL    100000 _ _ _  h
def fX12_law_43 : Nat → Int32 → JI → JL → Option (Int32 × JI × JL)
  | 0, _, _, _ => none
  | n + 1, l1, I, L =>
    if (I 66 18) ≤ l1 then (fX12_law_185 I L) else (j_g (j_in ((18 : Int32) + l1) 36) (j_g (j_in l1 36) (j_g (j_in ((18 : Int32) + l1) 36) (j_g (j_in l1 36) (j_g (j_in ((18 : Int32) + l1) 36) (j_g (j_in l1 36) (j_g (j_in ((18 : Int32) + l1) 36) (j_g (j_in l1 36) (j_g (j_in ((18 : Int32) + l1) 36) (j_g (j_in l1 36) (j_g (j_in ((18 : Int32) + l1) 36) (j_g (j_in l1 36) (j_g (j_in ((18 : Int32) + l1) 36) (j_g (j_in l1 36) (j_g (j_in ((18 : Int32) + l1) 36) (j_g (j_in l1 36) ((fX12_law_43 n) (l1 + (1 : Int32)) (j_up (j_up (j_up (j_up (j_up (j_up (j_up (j_up I 75 l1.toNatClampNeg (I 75 ((18 : Int32) + l1).toNatClampNeg)) 76 l1.toNatClampNeg (jm_b01 ((j_up I 75 l1.toNatClampNeg (I 75 ((18 : Int32) + l1).toNatClampNeg)) 76 ((18 : Int32) + l1).toNatClampNeg))) 77 l1.toNatClampNeg ((j_up (j_up I 75 l1.toNatClampNeg (I 75 ((18 : Int32) + l1).toNatClampNeg)) 76 l1.toNatClampNeg (jm_b01 ((j_up I 75 l1.toNatClampNeg (I 75 ((18 : Int32) + l1).toNatClampNeg)) 76 ((18 : Int32) + l1).toNatClampNeg))) 77 ((18 : Int32) + l1).toNatClampNeg)) 78 l1.toNatClampNeg ((j_up (j_up (j_up I 75 l1.toNatClampNeg (I 75 ((18 : Int32) + l1).toNatClampNeg)) 76 l1.toNatClampNeg (jm_b01 ((j_up I 75 l1.toNatClampNeg (I 75 ((18 : Int32) + l1).toNatClampNeg)) 76 ((18 : Int32) + l1).toNatClampNeg))) 77 l1.toNatClampNeg ((j_up (j_up I 75 l1.toNatClampNeg (I 75 ((18 : Int32) + l1).toNatClampNeg)) 76 l1.toNatClampNeg (jm_b01 ((j_up I 75 l1.toNatClampNeg (I 75 ((18 : Int32) + l1).toNatClampNeg)) 76 ((18 : Int32) + l1).toNatClampNeg))) 77 ((18 : Int32) + l1).toNatClampNeg)) 78 ((18 : Int32) + l1).toNatClampNeg)) 79 l1.toNatClampNeg ((j_up (j_up (j_up (j_up I 75 l1.toNatClampNeg (I 75 ((18 : Int32) + l1).toNatClampNeg)) 76 l1.toNatClampNeg (jm_b01 ((j_up I 75 l1.toNatClampNeg (I 75 ((18 : Int32) + l1).toNatClampNeg)) 76 ((18 : Int32) + l1).toNatClampNeg))) 77 l1.toNatClampNeg ((j_up (j_up I 75 l1.toNatClampNeg (I 75 ((18 : Int32) + l1).toNatClampNeg)) 76 l1.toNatClampNeg (jm_b01 ((j_up I 75 l1.toNatClampNeg (I 75 ((18 : Int32) + l1).toNatClampNeg)) 76 ((18 : Int32) + l1).toNatClampNeg))) 77 ((18 : Int32) + l1).toNatClampNeg)) 78 l1.toNatClampNeg ((j_up (j_up (j_up I 75 l1.toNatClampNeg (I 75 ((18 : Int32) + l1).toNatClampNeg)) 76 l1.toNatClampNeg (jm_b01 ((j_up I 75 l1.toNatClampNeg (I 75 ((18 : Int32) + l1).toNatClampNeg)) 76 ((18 : Int32) + l1).toNatClampNeg))) 77 l1.toNatClampNeg ((j_up (j_up I 75 l1.toNatClampNeg (I 75 ((18 : Int32) + l1).toNatClampNeg)) 76 l1.toNatClampNeg (jm_b01 ((j_up I 75 l1.toNatClampNeg (I 75 ((18 : Int32) + l1).toNatClampNeg)) 76 ((18 : Int32) + l1).toNatClampNeg))) 77 ((18 : Int32) + l1).toNatClampNeg)) 78 ((18 : Int32) + l1).toNatClampNeg)) 79 ((18 : Int32) + l1).toNatClampNeg)) 80 l1.toNatClampNeg (jm_b01 ((j_up (j_up (j_up (j_up (j_up I 75 l1.toNatClampNeg (I 75 ((18 : Int32) + l1).toNatClampNeg)) 76 l1.toNatClampNeg (jm_b01 ((j_up I 75 l1.toNatClampNeg (I 75 ((18 : Int32) + l1).toNatClampNeg)) 76 ((18 : Int32) + l1).toNatClampNeg))) 77 l1.toNatClampNeg ((j_up (j_up I 75 l1.toNatClampNeg (I 75 ((18 : Int32) + l1).toNatClampNeg)) 76 l1.toNatClampNeg (jm_b01 ((j_up I 75 l1.toNatClampNeg (I 75 ((18 : Int32) + l1).toNatClampNeg)) 76 ((18 : Int32) + l1).toNatClampNeg))) 77 ((18 : Int32) + l1).toNatClampNeg)) 78 l1.toNatClampNeg ((j_up (j_up (j_up I 75 l1.toNatClampNeg (I 75 ((18 : Int32) + l1).toNatClampNeg)) 76 l1.toNatClampNeg (jm_b01 ((j_up I 75 l1.toNatClampNeg (I 75 ((18 : Int32) + l1).toNatClampNeg)) 76 ((18 : Int32) + l1).toNatClampNeg))) 77 l1.toNatClampNeg ((j_up (j_up I 75 l1.toNatClampNeg (I 75 ((18 : Int32) + l1).toNatClampNeg)) 76 l1.toNatClampNeg (jm_b01 ((j_up I 75 l1.toNatClampNeg (I 75 ((18 : Int32) + l1).toNatClampNeg)) 76 ((18 : Int32) + l1).toNatClampNeg))) 77 ((18 : Int32) + l1).toNatClampNeg)) 78 ((18 : Int32) + l1).toNatClampNeg)) 79 l1.toNatClampNeg ((j_up (j_up (j_up (j_up I 75 l1.toNatClampNeg (I 75 ((18 : Int32) + l1).toNatClampNeg)) 76 l1.toNatClampNeg (jm_b01 ((j_up I 75 l1.toNatClampNeg (I 75 ((18 : Int32) + l1).toNatClampNeg)) 76 ((18 : Int32) + l1).toNatClampNeg))) 77 l1.toNatClampNeg ((j_up (j_up I 75 l1.toNatClampNeg (I 75 ((18 : Int32) + l1).toNatClampNeg)) 76 l1.toNatClampNeg (jm_b01 ((j_up I 75 l1.toNatClampNeg (I 75 ((18 : Int32) + l1).toNatClampNeg)) 76 ((18 : Int32) + l1).toNatClampNeg))) 77 ((18 : Int32) + l1).toNatClampNeg)) 78 l1.toNatClampNeg ((j_up (j_up (j_up I 75 l1.toNatClampNeg (I 75 ((18 : Int32) + l1).toNatClampNeg)) 76 l1.toNatClampNeg (jm_b01 ((j_up I 75 l1.toNatClampNeg (I 75 ((18 : Int32) + l1).toNatClampNeg)) 76 ((18 : Int32) + l1).toNatClampNeg))) 77 l1.toNatClampNeg ((j_up (j_up I 75 l1.toNatClampNeg (I 75 ((18 : Int32) + l1).toNatClampNeg)) 76 l1.toNatClampNeg (jm_b01 ((j_up I 75 l1.toNatClampNeg (I 75 ((18 : Int32) + l1).toNatClampNeg)) 76 ((18 : Int32) + l1).toNatClampNeg))) 77 ((18 : Int32) + l1).toNatClampNeg)) 78 ((18 : Int32) + l1).toNatClampNeg)) 79 ((18 : Int32) + l1).toNatClampNeg)) 80 ((18 : Int32) + l1).toNatClampNeg))) 81 l1.toNatClampNeg (((j_up (j_up (j_up (j_up (j_up (j_up I 75 l1.toNatClampNeg (I 75 ((18 : Int32) + l1).toNatClampNeg)) 76 l1.toNatClampNeg (jm_b01 ((j_up I 75 l1.toNatClampNeg (I 75 ((18 : Int32) + l1).toNatClampNeg)) 76 ((18 : Int32) + l1).toNatClampNeg))) 77 l1.toNatClampNeg ((j_up (j_up I 75 l1.toNatClampNeg (I 75 ((18 : Int32) + l1).toNatClampNeg)) 76 l1.toNatClampNeg (jm_b01 ((j_up I 75 l1.toNatClampNeg (I 75 ((18 : Int32) + l1).toNatClampNeg)) 76 ((18 : Int32) + l1).toNatClampNeg))) 77 ((18 : Int32) + l1).toNatClampNeg)) 78 l1.toNatClampNeg ((j_up (j_up (j_up I 75 l1.toNatClampNeg (I 75 ((18 : Int32) + l1).toNatClampNeg)) 76 l1.toNatClampNeg (jm_b01 ((j_up I 75 l1.toNatClampNeg (I 75 ((18 : Int32) + l1).toNatClampNeg)) 76 ((18 : Int32) + l1).toNatClampNeg))) 77 l1.toNatClampNeg ((j_up (j_up I 75 l1.toNatClampNeg (I 75 ((18 : Int32) + l1).toNatClampNeg)) 76 l1.toNatClampNeg (jm_b01 ((j_up I 75 l1.toNatClampNeg (I 75 ((18 : Int32) + l1).toNatClampNeg)) 76 ((18 : Int32) + l1).toNatClampNeg))) 77 ((18 : Int32) + l1).toNatClampNeg)) 78 ((18 : Int32) + l1).toNatClampNeg)) 79 l1.toNatClampNeg ((j_up (j_up (j_up (j_up I 75 l1.toNatClampNeg (I 75 ((18 : Int32) + l1).toNatClampNeg)) 76 l1.toNatClampNeg (jm_b01 ((j_up I 75 l1.toNatClampNeg (I 75 ((18 : Int32) + l1).toNatClampNeg)) 76 ((18 : Int32) + l1).toNatClampNeg))) 77 l1.toNatClampNeg ((j_up (j_up I 75 l1.toNatClampNeg (I 75 ((18 : Int32) + l1).toNatClampNeg)) 76 l1.toNatClampNeg (jm_b01 ((j_up I 75 l1.toNatClampNeg (I 75 ((18 : Int32) + l1).toNatClampNeg)) 76 ((18 : Int32) + l1).toNatClampNeg))) 77 ((18 : Int32) + l1).toNatClampNeg)) 78 l1.toNatClampNeg ((j_up (j_up (j_up I 75 l1.toNatClampNeg (I 75 ((18 : Int32) + l1).toNatClampNeg)) 76 l1.toNatClampNeg (jm_b01 ((j_up I 75 l1.toNatClampNeg (I 75 ((18 : Int32) + l1).toNatClampNeg)) 76 ((18 : Int32) + l1).toNatClampNeg))) 77 l1.toNatClampNeg ((j_up (j_up I 75 l1.toNatClampNeg (I 75 ((18 : Int32) + l1).toNatClampNeg)) 76 l1.toNatClampNeg (jm_b01 ((j_up I 75 l1.toNatClampNeg (I 75 ((18 : Int32) + l1).toNatClampNeg)) 76 ((18 : Int32) + l1).toNatClampNeg))) 77 ((18 : Int32) + l1).toNatClampNeg)) 78 ((18 : Int32) + l1).toNatClampNeg)) 79 ((18 : Int32) + l1).toNatClampNeg)) 80 l1.toNatClampNeg (jm_b01 ((j_up (j_up (j_up (j_up (j_up I 75 l1.toNatClampNeg (I 75 ((18 : Int32) + l1).toNatClampNeg)) 76 l1.toNatClampNeg (jm_b01 ((j_up I 75 l1.toNatClampNeg (I 75 ((18 : Int32) + l1).toNatClampNeg)) 76 ((18 : Int32) + l1).toNatClampNeg))) 77 l1.toNatClampNeg ((j_up (j_up I 75 l1.toNatClampNeg (I 75 ((18 : Int32) + l1).toNatClampNeg)) 76 l1.toNatClampNeg (jm_b01 ((j_up I 75 l1.toNatClampNeg (I 75 ((18 : Int32) + l1).toNatClampNeg)) 76 ((18 : Int32) + l1).toNatClampNeg))) 77 ((18 : Int32) + l1).toNatClampNeg)) 78 l1.toNatClampNeg ((j_up (j_up (j_up I 75 l1.toNatClampNeg (I 75 ((18 : Int32) + l1).toNatClampNeg)) 76 l1.toNatClampNeg (jm_b01 ((j_up I 75 l1.toNatClampNeg (I 75 ((18 : Int32) + l1).toNatClampNeg)) 76 ((18 : Int32) + l1).toNatClampNeg))) 77 l1.toNatClampNeg ((j_up (j_up I 75 l1.toNatClampNeg (I 75 ((18 : Int32) + l1).toNatClampNeg)) 76 l1.toNatClampNeg (jm_b01 ((j_up I 75 l1.toNatClampNeg (I 75 ((18 : Int32) + l1).toNatClampNeg)) 76 ((18 : Int32) + l1).toNatClampNeg))) 77 ((18 : Int32) + l1).toNatClampNeg)) 78 ((18 : Int32) + l1).toNatClampNeg)) 79 l1.toNatClampNeg ((j_up (j_up (j_up (j_up I 75 l1.toNatClampNeg (I 75 ((18 : Int32) + l1).toNatClampNeg)) 76 l1.toNatClampNeg (jm_b01 ((j_up I 75 l1.toNatClampNeg (I 75 ((18 : Int32) + l1).toNatClampNeg)) 76 ((18 : Int32) + l1).toNatClampNeg))) 77 l1.toNatClampNeg ((j_up (j_up I 75 l1.toNatClampNeg (I 75 ((18 : Int32) + l1).toNatClampNeg)) 76 l1.toNatClampNeg (jm_b01 ((j_up I 75 l1.toNatClampNeg (I 75 ((18 : Int32) + l1).toNatClampNeg)) 76 ((18 : Int32) + l1).toNatClampNeg))) 77 ((18 : Int32) + l1).toNatClampNeg)) 78 l1.toNatClampNeg ((j_up (j_up (j_up I 75 l1.toNatClampNeg (I 75 ((18 : Int32) + l1).toNatClampNeg)) 76 l1.toNatClampNeg (jm_b01 ((j_up I 75 l1.toNatClampNeg (I 75 ((18 : Int32) + l1).toNatClampNeg)) 76 ((18 : Int32) + l1).toNatClampNeg))) 77 l1.toNatClampNeg ((j_up (j_up I 75 l1.toNatClampNeg (I 75 ((18 : Int32) + l1).toNatClampNeg)) 76 l1.toNatClampNeg (jm_b01 ((j_up I 75 l1.toNatClampNeg (I 75 ((18 : Int32) + l1).toNatClampNeg)) 76 ((18 : Int32) + l1).toNatClampNeg))) 77 ((18 : Int32) + l1).toNatClampNeg)) 78 ((18 : Int32) + l1).toNatClampNeg)) 79 ((18 : Int32) + l1).toNatClampNeg)) 80 ((18 : Int32) + l1).toNatClampNeg))) 81 ((18 : Int32) + l1).toNatClampNeg) - (1000 : Int32))) 82 l1.toNatClampNeg (((j_up (j_up (j_up (j_up (j_up (j_up (j_up I 75 l1.toNatClampNeg (I 75 ((18 : Int32) + l1).toNatClampNeg)) 76 l1.toNatClampNeg (jm_b01 ((j_up I 75 l1.toNatClampNeg (I 75 ((18 : Int32) + l1).toNatClampNeg)) 76 ((18 : Int32) + l1).toNatClampNeg))) 77 l1.toNatClampNeg ((j_up (j_up I 75 l1.toNatClampNeg (I 75 ((18 : Int32) + l1).toNatClampNeg)) 76 l1.toNatClampNeg (jm_b01 ((j_up I 75 l1.toNatClampNeg (I 75 ((18 : Int32) + l1).toNatClampNeg)) 76 ((18 : Int32) + l1).toNatClampNeg))) 77 ((18 : Int32) + l1).toNatClampNeg)) 78 l1.toNatClampNeg ((j_up (j_up (j_up I 75 l1.toNatClampNeg (I 75 ((18 : Int32) + l1).toNatClampNeg)) 76 l1.toNatClampNeg (jm_b01 ((j_up I 75 l1.toNatClampNeg (I 75 ((18 : Int32) + l1).toNatClampNeg)) 76 ((18 : Int32) + l1).toNatClampNeg))) 77 l1.toNatClampNeg ((j_up (j_up I 75 l1.toNatClampNeg (I 75 ((18 : Int32) + l1).toNatClampNeg)) 76 l1.toNatClampNeg (jm_b01 ((j_up I 75 l1.toNatClampNeg (I 75 ((18 : Int32) + l1).toNatClampNeg)) 76 ((18 : Int32) + l1).toNatClampNeg))) 77 ((18 : Int32) + l1).toNatClampNeg)) 78 ((18 : Int32) + l1).toNatClampNeg)) 79 l1.toNatClampNeg ((j_up (j_up (j_up (j_up I 75 l1.toNatClampNeg (I 75 ((18 : Int32) + l1).toNatClampNeg)) 76 l1.toNatClampNeg (jm_b01 ((j_up I 75 l1.toNatClampNeg (I 75 ((18 : Int32) + l1).toNatClampNeg)) 76 ((18 : Int32) + l1).toNatClampNeg))) 77 l1.toNatClampNeg ((j_up (j_up I 75 l1.toNatClampNeg (I 75 ((18 : Int32) + l1).toNatClampNeg)) 76 l1.toNatClampNeg (jm_b01 ((j_up I 75 l1.toNatClampNeg (I 75 ((18 : Int32) + l1).toNatClampNeg)) 76 ((18 : Int32) + l1).toNatClampNeg))) 77 ((18 : Int32) + l1).toNatClampNeg)) 78 l1.toNatClampNeg ((j_up (j_up (j_up I 75 l1.toNatClampNeg (I 75 ((18 : Int32) + l1).toNatClampNeg)) 76 l1.toNatClampNeg (jm_b01 ((j_up I 75 l1.toNatClampNeg (I 75 ((18 : Int32) + l1).toNatClampNeg)) 76 ((18 : Int32) + l1).toNatClampNeg))) 77 l1.toNatClampNeg ((j_up (j_up I 75 l1.toNatClampNeg (I 75 ((18 : Int32) + l1).toNatClampNeg)) 76 l1.toNatClampNeg (jm_b01 ((j_up I 75 l1.toNatClampNeg (I 75 ((18 : Int32) + l1).toNatClampNeg)) 76 ((18 : Int32) + l1).toNatClampNeg))) 77 ((18 : Int32) + l1).toNatClampNeg)) 78 ((18 : Int32) + l1).toNatClampNeg)) 79 ((18 : Int32) + l1).toNatClampNeg)) 80 l1.toNatClampNeg (jm_b01 ((j_up (j_up (j_up (j_up (j_up I 75 l1.toNatClampNeg (I 75 ((18 : Int32) + l1).toNatClampNeg)) 76 l1.toNatClampNeg (jm_b01 ((j_up I 75 l1.toNatClampNeg (I 75 ((18 : Int32) + l1).toNatClampNeg)) 76 ((18 : Int32) + l1).toNatClampNeg))) 77 l1.toNatClampNeg ((j_up (j_up I 75 l1.toNatClampNeg (I 75 ((18 : Int32) + l1).toNatClampNeg)) 76 l1.toNatClampNeg (jm_b01 ((j_up I 75 l1.toNatClampNeg (I 75 ((18 : Int32) + l1).toNatClampNeg)) 76 ((18 : Int32) + l1).toNatClampNeg))) 77 ((18 : Int32) + l1).toNatClampNeg)) 78 l1.toNatClampNeg ((j_up (j_up (j_up I 75 l1.toNatClampNeg (I 75 ((18 : Int32) + l1).toNatClampNeg)) 76 l1.toNatClampNeg (jm_b01 ((j_up I 75 l1.toNatClampNeg (I 75 ((18 : Int32) + l1).toNatClampNeg)) 76 ((18 : Int32) + l1).toNatClampNeg))) 77 l1.toNatClampNeg ((j_up (j_up I 75 l1.toNatClampNeg (I 75 ((18 : Int32) + l1).toNatClampNeg)) 76 l1.toNatClampNeg (jm_b01 ((j_up I 75 l1.toNatClampNeg (I 75 ((18 : Int32) + l1).toNatClampNeg)) 76 ((18 : Int32) + l1).toNatClampNeg))) 77 ((18 : Int32) + l1).toNatClampNeg)) 78 ((18 : Int32) + l1).toNatClampNeg)) 79 l1.toNatClampNeg ((j_up (j_up (j_up (j_up I 75 l1.toNatClampNeg (I 75 ((18 : Int32) + l1).toNatClampNeg)) 76 l1.toNatClampNeg (jm_b01 ((j_up I 75 l1.toNatClampNeg (I 75 ((18 : Int32) + l1).toNatClampNeg)) 76 ((18 : Int32) + l1).toNatClampNeg))) 77 l1.toNatClampNeg ((j_up (j_up I 75 l1.toNatClampNeg (I 75 ((18 : Int32) + l1).toNatClampNeg)) 76 l1.toNatClampNeg (jm_b01 ((j_up I 75 l1.toNatClampNeg (I 75 ((18 : Int32) + l1).toNatClampNeg)) 76 ((18 : Int32) + l1).toNatClampNeg))) 77 ((18 : Int32) + l1).toNatClampNeg)) 78 l1.toNatClampNeg ((j_up (j_up (j_up I 75 l1.toNatClampNeg (I 75 ((18 : Int32) + l1).toNatClampNeg)) 76 l1.toNatClampNeg (jm_b01 ((j_up I 75 l1.toNatClampNeg (I 75 ((18 : Int32) + l1).toNatClampNeg)) 76 ((18 : Int32) + l1).toNatClampNeg))) 77 l1.toNatClampNeg ((j_up (j_up I 75 l1.toNatClampNeg (I 75 ((18 : Int32) + l1).toNatClampNeg)) 76 l1.toNatClampNeg (jm_b01 ((j_up I 75 l1.toNatClampNeg (I 75 ((18 : Int32) + l1).toNatClampNeg)) 76 ((18 : Int32) + l1).toNatClampNeg))) 77 ((18 : Int32) + l1).toNatClampNeg)) 78 ((18 : Int32) + l1).toNatClampNeg)) 79 ((18 : Int32) + l1).toNatClampNeg)) 80 ((18 : Int32) + l1).toNatClampNeg))) 81 l1.toNatClampNeg (((j_up (j_up (j_up (j_up (j_up (j_up I 75 l1.toNatClampNeg (I 75 ((18 : Int32) + l1).toNatClampNeg)) 76 l1.toNatClampNeg (jm_b01 ((j_up I 75 l1.toNatClampNeg (I 75 ((18 : Int32) + l1).toNatClampNeg)) 76 ((18 : Int32) + l1).toNatClampNeg))) 77 l1.toNatClampNeg ((j_up (j_up I 75 l1.toNatClampNeg (I 75 ((18 : Int32) + l1).toNatClampNeg)) 76 l1.toNatClampNeg (jm_b01 ((j_up I 75 l1.toNatClampNeg (I 75 ((18 : Int32) + l1).toNatClampNeg)) 76 ((18 : Int32) + l1).toNatClampNeg))) 77 ((18 : Int32) + l1).toNatClampNeg)) 78 l1.toNatClampNeg ((j_up (j_up (j_up I 75 l1.toNatClampNeg (I 75 ((18 : Int32) + l1).toNatClampNeg)) 76 l1.toNatClampNeg (jm_b01 ((j_up I 75 l1.toNatClampNeg (I 75 ((18 : Int32) + l1).toNatClampNeg)) 76 ((18 : Int32) + l1).toNatClampNeg))) 77 l1.toNatClampNeg ((j_up (j_up I 75 l1.toNatClampNeg (I 75 ((18 : Int32) + l1).toNatClampNeg)) 76 l1.toNatClampNeg (jm_b01 ((j_up I 75 l1.toNatClampNeg (I 75 ((18 : Int32) + l1).toNatClampNeg)) 76 ((18 : Int32) + l1).toNatClampNeg))) 77 ((18 : Int32) + l1).toNatClampNeg)) 78 ((18 : Int32) + l1).toNatClampNeg)) 79 l1.toNatClampNeg ((j_up (j_up (j_up (j_up I 75 l1.toNatClampNeg (I 75 ((18 : Int32) + l1).toNatClampNeg)) 76 l1.toNatClampNeg (jm_b01 ((j_up I 75 l1.toNatClampNeg (I 75 ((18 : Int32) + l1).toNatClampNeg)) 76 ((18 : Int32) + l1).toNatClampNeg))) 77 l1.toNatClampNeg ((j_up (j_up I 75 l1.toNatClampNeg (I 75 ((18 : Int32) + l1).toNatClampNeg)) 76 l1.toNatClampNeg (jm_b01 ((j_up I 75 l1.toNatClampNeg (I 75 ((18 : Int32) + l1).toNatClampNeg)) 76 ((18 : Int32) + l1).toNatClampNeg))) 77 ((18 : Int32) + l1).toNatClampNeg)) 78 l1.toNatClampNeg ((j_up (j_up (j_up I 75 l1.toNatClampNeg (I 75 ((18 : Int32) + l1).toNatClampNeg)) 76 l1.toNatClampNeg (jm_b01 ((j_up I 75 l1.toNatClampNeg (I 75 ((18 : Int32) + l1).toNatClampNeg)) 76 ((18 : Int32) + l1).toNatClampNeg))) 77 l1.toNatClampNeg ((j_up (j_up I 75 l1.toNatClampNeg (I 75 ((18 : Int32) + l1).toNatClampNeg)) 76 l1.toNatClampNeg (jm_b01 ((j_up I 75 l1.toNatClampNeg (I 75 ((18 : Int32) + l1).toNatClampNeg)) 76 ((18 : Int32) + l1).toNatClampNeg))) 77 ((18 : Int32) + l1).toNatClampNeg)) 78 ((18 : Int32) + l1).toNatClampNeg)) 79 ((18 : Int32) + l1).toNatClampNeg)) 80 l1.toNatClampNeg (jm_b01 ((j_up (j_up (j_up (j_up (j_up I 75 l1.toNatClampNeg (I 75 ((18 : Int32) + l1).toNatClampNeg)) 76 l1.toNatClampNeg (jm_b01 ((j_up I 75 l1.toNatClampNeg (I 75 ((18 : Int32) + l1).toNatClampNeg)) 76 ((18 : Int32) + l1).toNatClampNeg))) 77 l1.toNatClampNeg ((j_up (j_up I 75 l1.toNatClampNeg (I 75 ((18 : Int32) + l1).toNatClampNeg)) 76 l1.toNatClampNeg (jm_b01 ((j_up I 75 l1.toNatClampNeg (I 75 ((18 : Int32) + l1).toNatClampNeg)) 76 ((18 : Int32) + l1).toNatClampNeg))) 77 ((18 : Int32) + l1).toNatClampNeg)) 78 l1.toNatClampNeg ((j_up (j_up (j_up I 75 l1.toNatClampNeg (I 75 ((18 : Int32) + l1).toNatClampNeg)) 76 l1.toNatClampNeg (jm_b01 ((j_up I 75 l1.toNatClampNeg (I 75 ((18 : Int32) + l1).toNatClampNeg)) 76 ((18 : Int32) + l1).toNatClampNeg))) 77 l1.toNatClampNeg ((j_up (j_up I 75 l1.toNatClampNeg (I 75 ((18 : Int32) + l1).toNatClampNeg)) 76 l1.toNatClampNeg (jm_b01 ((j_up I 75 l1.toNatClampNeg (I 75 ((18 : Int32) + l1).toNatClampNeg)) 76 ((18 : Int32) + l1).toNatClampNeg))) 77 ((18 : Int32) + l1).toNatClampNeg)) 78 ((18 : Int32) + l1).toNatClampNeg)) 79 l1.toNatClampNeg ((j_up (j_up (j_up (j_up I 75 l1.toNatClampNeg (I 75 ((18 : Int32) + l1).toNatClampNeg)) 76 l1.toNatClampNeg (jm_b01 ((j_up I 75 l1.toNatClampNeg (I 75 ((18 : Int32) + l1).toNatClampNeg)) 76 ((18 : Int32) + l1).toNatClampNeg))) 77 l1.toNatClampNeg ((j_up (j_up I 75 l1.toNatClampNeg (I 75 ((18 : Int32) + l1).toNatClampNeg)) 76 l1.toNatClampNeg (jm_b01 ((j_up I 75 l1.toNatClampNeg (I 75 ((18 : Int32) + l1).toNatClampNeg)) 76 ((18 : Int32) + l1).toNatClampNeg))) 77 ((18 : Int32) + l1).toNatClampNeg)) 78 l1.toNatClampNeg ((j_up (j_up (j_up I 75 l1.toNatClampNeg (I 75 ((18 : Int32) + l1).toNatClampNeg)) 76 l1.toNatClampNeg (jm_b01 ((j_up I 75 l1.toNatClampNeg (I 75 ((18 : Int32) + l1).toNatClampNeg)) 76 ((18 : Int32) + l1).toNatClampNeg))) 77 l1.toNatClampNeg ((j_up (j_up I 75 l1.toNatClampNeg (I 75 ((18 : Int32) + l1).toNatClampNeg)) 76 l1.toNatClampNeg (jm_b01 ((j_up I 75 l1.toNatClampNeg (I 75 ((18 : Int32) + l1).toNatClampNeg)) 76 ((18 : Int32) + l1).toNatClampNeg))) 77 ((18 : Int32) + l1).toNatClampNeg)) 78 ((18 : Int32) + l1).toNatClampNeg)) 79 ((18 : Int32) + l1).toNatClampNeg)) 80 ((18 : Int32) + l1).toNatClampNeg))) 81 ((18 : Int32) + l1).toNatClampNeg) - (1000 : Int32))) 82 ((18 : Int32) + l1).toNatClampNeg) - (1000 : Int32))) L)))))))))))))))))
set_option maxHeartbeats 4000000 in
set_option maxRecDepth 100000 in
theorem kX12_law_43 {E : JE} {r : Int32 × JI × JL} {G : JG} {D : JG} {S : JS} (hL : Lay G S) : ∀ (n : Nat) (l1 : Int32) (I : JI) (L : JL), fX12_law_43 n l1 I L = some r → AtJ E xX12_law (Zr E (some (.int r.1)) r.2.1 r.2.2 G D S) ((S).length, jm_sl S) 8 43 [(0, .ref (E.1 + 66)), (1, .int l1)] [] I L G D S := by
  intro n
  induction n with
  | zero => intro l1 I L  h; simp [fX12_law_43] at h
  | succ n ih =>
    intro l1 I L  h
    rw [fX12_law_43] at h
    refine j_iload_n 44 dX12_law_43 rfl rfl 1 rfl ?_
    refine j_aload_n 45 dX12_law_44 rfl rfl 0 rfl ?_
    refine j_getI 48 dX12_law_45 rfl (sh_66 hL) cl12 (k := 18) (by decide) flX12_398 rfl ?_
    refine j_icmp_ge 185 51 dX12_law_48 (by decide) rfl (fun hc => ?_) (fun hc => ?_)
    · replace h := j_pos hc h
      refine j_sub [0] rfl ?_
      exact kX12_law_185 hL    _ _  h
    · replace h := j_neg hc h
      refine j_aload_n 52 dX12_law_51 rfl rfl 0 rfl ?_
      refine j_getG 55 dX12_law_52 rfl (sh_66 hL) cl12 (k := 19) (by decide) flX12_35 rfl (gs_66_19 hL) ?_
      refine j_iload_n 56 dX12_law_55 rfl rfl 1 rfl ?_
      refine j_aload_n 57 dX12_law_56 rfl rfl 0 rfl ?_
      refine j_getG 60 dX12_law_57 rfl (sh_66 hL) cl12 (k := 19) (by decide) flX12_35 rfl (gs_66_19 hL) ?_
      refine j_bipush (v := (18 : Int32)) 62 dX12_law_60 rfl (by decide) ?_
      refine j_iload_n 63 dX12_law_62 rfl rfl 1 rfl ?_
      refine j_iadd 64 dX12_law_63 rfl ?_
      obtain ⟨hg, h⟩ := j_gs h
      refine j_iald 65 dX12_law_64 rfl (sh_75 hL) (j_inv hg) ?_
      obtain ⟨hg, h⟩ := j_gs h
      refine j_iast 66 dX12_law_65 rfl (sh_75 hL) (j_inv hg) ?_
      refine j_aload_n 67 dX12_law_66 rfl rfl 0 rfl ?_
      refine j_getG 70 dX12_law_67 rfl (sh_66 hL) cl12 (k := 20) (by decide) flX12_38 rfl (gs_66_20 hL) ?_
      refine j_iload_n 71 dX12_law_70 rfl rfl 1 rfl ?_
      refine j_aload_n 72 dX12_law_71 rfl rfl 0 rfl ?_
      refine j_getG 75 dX12_law_72 rfl (sh_66 hL) cl12 (k := 20) (by decide) flX12_38 rfl (gs_66_20 hL) ?_
      refine j_bipush (v := (18 : Int32)) 77 dX12_law_75 rfl (by decide) ?_
      refine j_iload_n 78 dX12_law_77 rfl rfl 1 rfl ?_
      refine j_iadd 79 dX12_law_78 rfl ?_
      obtain ⟨hg, h⟩ := j_gs h
      refine j_zald 80 dX12_law_79 rfl (sh_76 hL) (j_inv hg) ?_
      obtain ⟨hg, h⟩ := j_gs h
      refine j_zast 81 dX12_law_80 rfl (sh_76 hL) (j_inv hg) (jm_b01_idem _) ?_
      refine j_aload_n 82 dX12_law_81 rfl rfl 0 rfl ?_
      refine j_getG 85 dX12_law_82 rfl (sh_66 hL) cl12 (k := 21) (by decide) flX12_41 rfl (gs_66_21 hL) ?_
      refine j_iload_n 86 dX12_law_85 rfl rfl 1 rfl ?_
      refine j_aload_n 87 dX12_law_86 rfl rfl 0 rfl ?_
      refine j_getG 90 dX12_law_87 rfl (sh_66 hL) cl12 (k := 21) (by decide) flX12_41 rfl (gs_66_21 hL) ?_
      refine j_bipush (v := (18 : Int32)) 92 dX12_law_90 rfl (by decide) ?_
      refine j_iload_n 93 dX12_law_92 rfl rfl 1 rfl ?_
      refine j_iadd 94 dX12_law_93 rfl ?_
      obtain ⟨hg, h⟩ := j_gs h
      refine j_iald 95 dX12_law_94 rfl (sh_77 hL) (j_inv hg) ?_
      obtain ⟨hg, h⟩ := j_gs h
      refine j_iast 96 dX12_law_95 rfl (sh_77 hL) (j_inv hg) ?_
      refine j_aload_n 97 dX12_law_96 rfl rfl 0 rfl ?_
      refine j_getG 100 dX12_law_97 rfl (sh_66 hL) cl12 (k := 22) (by decide) flX12_44 rfl (gs_66_22 hL) ?_
      refine j_iload_n 101 dX12_law_100 rfl rfl 1 rfl ?_
      refine j_aload_n 102 dX12_law_101 rfl rfl 0 rfl ?_
      refine j_getG 105 dX12_law_102 rfl (sh_66 hL) cl12 (k := 22) (by decide) flX12_44 rfl (gs_66_22 hL) ?_
      refine j_bipush (v := (18 : Int32)) 107 dX12_law_105 rfl (by decide) ?_
      refine j_iload_n 108 dX12_law_107 rfl rfl 1 rfl ?_
      refine j_iadd 109 dX12_law_108 rfl ?_
      obtain ⟨hg, h⟩ := j_gs h
      refine j_iald 110 dX12_law_109 rfl (sh_78 hL) (j_inv hg) ?_
      obtain ⟨hg, h⟩ := j_gs h
      refine j_iast 111 dX12_law_110 rfl (sh_78 hL) (j_inv hg) ?_
      refine j_aload_n 112 dX12_law_111 rfl rfl 0 rfl ?_
      refine j_getG 115 dX12_law_112 rfl (sh_66 hL) cl12 (k := 23) (by decide) flX12_47 rfl (gs_66_23 hL) ?_
      refine j_iload_n 116 dX12_law_115 rfl rfl 1 rfl ?_
      refine j_aload_n 117 dX12_law_116 rfl rfl 0 rfl ?_
      refine j_getG 120 dX12_law_117 rfl (sh_66 hL) cl12 (k := 23) (by decide) flX12_47 rfl (gs_66_23 hL) ?_
      refine j_bipush (v := (18 : Int32)) 122 dX12_law_120 rfl (by decide) ?_
      refine j_iload_n 123 dX12_law_122 rfl rfl 1 rfl ?_
      refine j_iadd 124 dX12_law_123 rfl ?_
      obtain ⟨hg, h⟩ := j_gs h
      refine j_iald 125 dX12_law_124 rfl (sh_79 hL) (j_inv hg) ?_
      obtain ⟨hg, h⟩ := j_gs h
      refine j_iast 126 dX12_law_125 rfl (sh_79 hL) (j_inv hg) ?_
      refine j_aload_n 127 dX12_law_126 rfl rfl 0 rfl ?_
      refine j_getG 130 dX12_law_127 rfl (sh_66 hL) cl12 (k := 24) (by decide) flX12_50 rfl (gs_66_24 hL) ?_
      refine j_iload_n 131 dX12_law_130 rfl rfl 1 rfl ?_
      refine j_aload_n 132 dX12_law_131 rfl rfl 0 rfl ?_
      refine j_getG 135 dX12_law_132 rfl (sh_66 hL) cl12 (k := 24) (by decide) flX12_50 rfl (gs_66_24 hL) ?_
      refine j_bipush (v := (18 : Int32)) 137 dX12_law_135 rfl (by decide) ?_
      refine j_iload_n 138 dX12_law_137 rfl rfl 1 rfl ?_
      refine j_iadd 139 dX12_law_138 rfl ?_
      obtain ⟨hg, h⟩ := j_gs h
      refine j_zald 140 dX12_law_139 rfl (sh_80 hL) (j_inv hg) ?_
      obtain ⟨hg, h⟩ := j_gs h
      refine j_zast 141 dX12_law_140 rfl (sh_80 hL) (j_inv hg) (jm_b01_idem _) ?_
      refine j_aload_n 142 dX12_law_141 rfl rfl 0 rfl ?_
      refine j_getG 145 dX12_law_142 rfl (sh_66 hL) cl12 (k := 25) (by decide) flX12_53 rfl (gs_66_25 hL) ?_
      refine j_iload_n 146 dX12_law_145 rfl rfl 1 rfl ?_
      refine j_aload_n 147 dX12_law_146 rfl rfl 0 rfl ?_
      refine j_getG 150 dX12_law_147 rfl (sh_66 hL) cl12 (k := 25) (by decide) flX12_53 rfl (gs_66_25 hL) ?_
      refine j_bipush (v := (18 : Int32)) 152 dX12_law_150 rfl (by decide) ?_
      refine j_iload_n 153 dX12_law_152 rfl rfl 1 rfl ?_
      refine j_iadd 154 dX12_law_153 rfl ?_
      obtain ⟨hg, h⟩ := j_gs h
      refine j_iald 155 dX12_law_154 rfl (sh_81 hL) (j_inv hg) ?_
      refine j_sipush (v := (1000 : Int32)) 158 dX12_law_155 rfl (by decide) ?_
      refine j_isub 159 dX12_law_158 rfl ?_
      obtain ⟨hg, h⟩ := j_gs h
      refine j_iast 160 dX12_law_159 rfl (sh_81 hL) (j_inv hg) ?_
      refine j_aload_n 161 dX12_law_160 rfl rfl 0 rfl ?_
      refine j_getG 164 dX12_law_161 rfl (sh_66 hL) cl12 (k := 26) (by decide) flX12_56 rfl (gs_66_26 hL) ?_
      refine j_iload_n 165 dX12_law_164 rfl rfl 1 rfl ?_
      refine j_aload_n 166 dX12_law_165 rfl rfl 0 rfl ?_
      refine j_getG 169 dX12_law_166 rfl (sh_66 hL) cl12 (k := 26) (by decide) flX12_56 rfl (gs_66_26 hL) ?_
      refine j_bipush (v := (18 : Int32)) 171 dX12_law_169 rfl (by decide) ?_
      refine j_iload_n 172 dX12_law_171 rfl rfl 1 rfl ?_
      refine j_iadd 173 dX12_law_172 rfl ?_
      obtain ⟨hg, h⟩ := j_gs h
      refine j_iald 174 dX12_law_173 rfl (sh_82 hL) (j_inv hg) ?_
      refine j_sipush (v := (1000 : Int32)) 177 dX12_law_174 rfl (by decide) ?_
      refine j_isub 178 dX12_law_177 rfl ?_
      obtain ⟨hg, h⟩ := j_gs h
      refine j_iast 179 dX12_law_178 rfl (sh_82 hL) (j_inv hg) ?_
      refine j_iinc (v := (l1 + (1 : Int32))) (lv' := [(1, .int (l1 + (1 : Int32))), (0, .ref (E.1 + 66))]) (q := 1) 182 dX12_law_179 rfl rfl rfl (by decide) rfl ?_
      refine j_goto 43 dX12_law_182 (by decide) ?_
      refine j_sub [1, 0] rfl ?_
      exact ih _ _ _  h
def fX12_law (I : JI) (L : JL) : Option (Int32 × JI × JL) :=
  (fX12_readsAll (j_up I 66 0 (0 : Int32)) L).bind (fun q1 => if q1.1 = 0 then (some ((q1.2.1 66 17), q1.2.1, q1.2.2)) else (fX12_law_43 100000 (0 : Int32) (j_up (j_up (j_up q1.2.1 66 18 (q1.2.1 66 35)) 66 29 (jm_b01 ((j_up q1.2.1 66 18 (q1.2.1 66 35)) 66 33))) 66 30 (jm_b01 ((j_up (j_up q1.2.1 66 18 (q1.2.1 66 35)) 66 29 (jm_b01 ((j_up q1.2.1 66 18 (q1.2.1 66 35)) 66 33))) 66 34))) q1.2.2))
set_option maxHeartbeats 4000000 in
set_option maxRecDepth 100000 in
theorem tcX12_law {E : JE} {r : Int32 × JI × JL} {I : JI} {L : JL} {G D : JG} {S : JS} (hL : Lay G S) (h : fX12_law I L = some r) : CallJ E xX12_law 8 [.ref (E.1 + 66)] I L G D S (some (.int r.1)) r.2.1 r.2.2 G D S := by
  unfold fX12_law at h
  refine j_entry (by decide) (Nat.le_of_ble_eq_true rfl) ?_
  show AtJ E xX12_law (Zr E (some (.int r.1)) r.2.1 r.2.2 G D S) ((S).length, jm_sl S) 8 0 [(0, .ref (E.1 + 66))] [] I L G D S
  refine j_aload_n 1 dX12_law_0 rfl rfl 0 rfl ?_
  refine j_iconst (v := (0 : Int32)) 2 dX12_law_1 rfl (by decide) ?_
  refine j_putI 5 dX12_law_2 rfl (sh_66 hL) cl12 (k := 0) (by decide) flX12_218 rfl rfl rfl ?_
  refine j_aload_n 6 dX12_law_5 rfl rfl 0 rfl ?_
  obtain ⟨q1, hq1, h⟩ := j_bs h
  refine j_callV (rest := []) (As := []) 9 dX12_law_6 rfl jyX12_readsAll (tcX12_readsAll hL  hq1) (sh_66 hL) cl12 flX12_395 wm1765 wm44 (by decide) rfl rfl (Nat.le_of_ble_eq_true rfl) ?_
  refine j_if_ne 17 12 dX12_law_9 (by decide) rfl (fun hc => ?_) (fun hc => ?_)
  · replace h := j_neg hc h
    refine j_aload_n 18 dX12_law_17 rfl rfl 0 rfl ?_
    refine j_aload_n 19 dX12_law_18 rfl rfl 0 rfl ?_
    refine j_getI 22 dX12_law_19 rfl (sh_66 hL) cl12 (k := 35) (by decide) flX12_392 rfl ?_
    refine j_putI 25 dX12_law_22 rfl (sh_66 hL) cl12 (k := 18) (by decide) flX12_398 rfl rfl rfl ?_
    refine j_aload_n 26 dX12_law_25 rfl rfl 0 rfl ?_
    refine j_aload_n 27 dX12_law_26 rfl rfl 0 rfl ?_
    refine j_getZ 30 dX12_law_27 rfl (sh_66 hL) cl12 (k := 33) (by decide) flX12_370 rfl ?_
    refine j_putZ 33 dX12_law_30 rfl (sh_66 hL) cl12 (k := 29) (by decide) flX12_401 rfl rfl rfl (jm_b01_idem _) ?_
    refine j_aload_n 34 dX12_law_33 rfl rfl 0 rfl ?_
    refine j_aload_n 35 dX12_law_34 rfl rfl 0 rfl ?_
    refine j_getZ 38 dX12_law_35 rfl (sh_66 hL) cl12 (k := 34) (by decide) flX12_374 rfl ?_
    refine j_putZ 41 dX12_law_38 rfl (sh_66 hL) cl12 (k := 30) (by decide) flX12_404 rfl rfl rfl (jm_b01_idem _) ?_
    refine j_iconst (v := (0 : Int32)) 42 dX12_law_41 rfl (by decide) ?_
    refine j_istore_n (lv' := [(1, .int (0 : Int32)), (0, .ref (E.1 + 66))]) 43 dX12_law_42 rfl rfl (by decide) rfl ?_
    refine j_sub [1, 0] rfl ?_
    exact kX12_law_43 hL    100000 _ _ _  h
  · replace h := j_pos hc h
    refine j_aload_n 13 dX12_law_12 rfl rfl 0 rfl ?_
    refine j_getI 16 dX12_law_13 rfl (sh_66 hL) cl12 (k := 17) (by decide) flX12_279 rfl ?_
    cases h
    exact j_iret dX12_law_16 rfl
def fX12_opens (l1 : Int32) (I : JI) : Option (JI) :=
  j_g (j_in l1 7) (j_g (j_in l1 7) (j_g (j_in l1 7) (j_g (j_in l1 7) (j_g (j_in l1 7) (some ((j_up (j_up (j_up (j_up (j_up I 87 l1.toNatClampNeg (0 : Int32)) 89 l1.toNatClampNeg (0 : Int32)) 90 l1.toNatClampNeg (0 : Int32)) 91 l1.toNatClampNeg (20 : Int32)) 93 l1.toNatClampNeg (0 : Int32))))))))
set_option maxHeartbeats 4000000 in
set_option maxRecDepth 100000 in
theorem tcX12_opens {E : JE} {l1 : Int32} {r : JI} {I : JI} {L : JL} {G D : JG} {S : JS} (hL : Lay G S) (h : fX12_opens l1 I = some r) : CallJ E xX12_opens 1 [.ref (E.1 + 66), .int l1] I L G D S none r L G D S := by
  unfold fX12_opens at h
  refine j_entry (by decide) (Nat.le_of_ble_eq_true rfl) ?_
  show AtJ E xX12_opens (Zr E none r L G D S) ((S).length, jm_sl S) 1 0 [(0, .ref (E.1 + 66)), (1, .int l1)] [] I L G D S
  refine j_aload_n 1 dX12_opens_0 rfl rfl 0 rfl ?_
  refine j_getG 4 dX12_opens_1 rfl (sh_66 hL) cl12 (k := 37) (by decide) flX12_71 rfl (gs_66_37 hL) ?_
  refine j_iload_n 5 dX12_opens_4 rfl rfl 1 rfl ?_
  refine j_iconst (v := (0 : Int32)) 6 dX12_opens_5 rfl (by decide) ?_
  obtain ⟨hg, h⟩ := j_gs h
  refine j_iast 7 dX12_opens_6 rfl (sh_87 hL) (j_inv hg) ?_
  refine j_aload_n 8 dX12_opens_7 rfl rfl 0 rfl ?_
  refine j_getG 11 dX12_opens_8 rfl (sh_66 hL) cl12 (k := 39) (by decide) flX12_77 rfl (gs_66_39 hL) ?_
  refine j_iload_n 12 dX12_opens_11 rfl rfl 1 rfl ?_
  refine j_iconst (v := (0 : Int32)) 13 dX12_opens_12 rfl (by decide) ?_
  obtain ⟨hg, h⟩ := j_gs h
  refine j_iast 14 dX12_opens_13 rfl (sh_89 hL) (j_inv hg) ?_
  refine j_aload_n 15 dX12_opens_14 rfl rfl 0 rfl ?_
  refine j_getG 18 dX12_opens_15 rfl (sh_66 hL) cl12 (k := 40) (by decide) flX12_80 rfl (gs_66_40 hL) ?_
  refine j_iload_n 19 dX12_opens_18 rfl rfl 1 rfl ?_
  refine j_iconst (v := (0 : Int32)) 20 dX12_opens_19 rfl (by decide) ?_
  obtain ⟨hg, h⟩ := j_gs h
  refine j_iast 21 dX12_opens_20 rfl (sh_90 hL) (j_inv hg) ?_
  refine j_aload_n 22 dX12_opens_21 rfl rfl 0 rfl ?_
  refine j_getG 25 dX12_opens_22 rfl (sh_66 hL) cl12 (k := 41) (by decide) flX12_83 rfl (gs_66_41 hL) ?_
  refine j_iload_n 26 dX12_opens_25 rfl rfl 1 rfl ?_
  refine j_bipush (v := (20 : Int32)) 28 dX12_opens_26 rfl (by decide) ?_
  obtain ⟨hg, h⟩ := j_gs h
  refine j_iast 29 dX12_opens_28 rfl (sh_91 hL) (j_inv hg) ?_
  refine j_aload_n 30 dX12_opens_29 rfl rfl 0 rfl ?_
  refine j_getG 33 dX12_opens_30 rfl (sh_66 hL) cl12 (k := 43) (by decide) flX12_89 rfl (gs_66_43 hL) ?_
  refine j_iload_n 34 dX12_opens_33 rfl rfl 1 rfl ?_
  refine j_iconst (v := (0 : Int32)) 35 dX12_opens_34 rfl (by decide) ?_
  obtain ⟨hg, h⟩ := j_gs h
  refine j_iast 36 dX12_opens_35 rfl (sh_93 hL) (j_inv hg) ?_
  cases h
  exact j_vret dX12_opens_36 rfl
def fX12_sums (l1 : Int32) (I : JI) : Option (JI) :=
  j_g (j_in l1 7) (if (I 91 l1.toNatClampNeg) = (21 : Int32) then (j_g (j_in l1 7) (j_g (j_in l1 7) (j_g (j_in l1 7) (j_g (j_in l1 7) (some ((j_up (j_up I 90 l1.toNatClampNeg ((I 90 l1.toNatClampNeg) - (I 92 l1.toNatClampNeg))) 93 l1.toNatClampNeg (0 : Int32)))))))) else (j_g (j_in l1 7) (j_g (j_in l1 7) (j_g (j_in l1 7) (j_g (j_in l1 7) (some ((j_up (j_up I 90 l1.toNatClampNeg ((I 90 l1.toNatClampNeg) + (I 92 l1.toNatClampNeg))) 93 l1.toNatClampNeg (0 : Int32)))))))))
set_option maxHeartbeats 4000000 in
set_option maxRecDepth 100000 in
theorem tcX12_sums {E : JE} {l1 : Int32} {r : JI} {I : JI} {L : JL} {G D : JG} {S : JS} (hL : Lay G S) (h : fX12_sums l1 I = some r) : CallJ E xX12_sums 1 [.ref (E.1 + 66), .int l1] I L G D S none r L G D S := by
  unfold fX12_sums at h
  refine j_entry (by decide) (Nat.le_of_ble_eq_true rfl) ?_
  show AtJ E xX12_sums (Zr E none r L G D S) ((S).length, jm_sl S) 1 0 [(0, .ref (E.1 + 66)), (1, .int l1)] [] I L G D S
  refine j_aload_n 1 dX12_sums_0 rfl rfl 0 rfl ?_
  refine j_getG 4 dX12_sums_1 rfl (sh_66 hL) cl12 (k := 40) (by decide) flX12_80 rfl (gs_66_40 hL) ?_
  refine j_iload_n 5 dX12_sums_4 rfl rfl 1 rfl ?_
  refine j_aload_n 6 dX12_sums_5 rfl rfl 0 rfl ?_
  refine j_getG 9 dX12_sums_6 rfl (sh_66 hL) cl12 (k := 41) (by decide) flX12_83 rfl (gs_66_41 hL) ?_
  refine j_iload_n 10 dX12_sums_9 rfl rfl 1 rfl ?_
  obtain ⟨hg, h⟩ := j_gs h
  refine j_iald 11 dX12_sums_10 rfl (sh_91 hL) (j_inv hg) ?_
  refine j_bipush (v := (21 : Int32)) 13 dX12_sums_11 rfl (by decide) ?_
  refine j_icmp_ne 32 16 dX12_sums_13 (by decide) rfl (fun hc => ?_) (fun hc => ?_)
  · replace h := j_neg hc h
    refine j_aload_n 33 dX12_sums_32 rfl rfl 0 rfl ?_
    refine j_getG 36 dX12_sums_33 rfl (sh_66 hL) cl12 (k := 40) (by decide) flX12_80 rfl (gs_66_40 hL) ?_
    refine j_iload_n 37 dX12_sums_36 rfl rfl 1 rfl ?_
    obtain ⟨hg, h⟩ := j_gs h
    refine j_iald 38 dX12_sums_37 rfl (sh_90 hL) (j_inv hg) ?_
    refine j_aload_n 39 dX12_sums_38 rfl rfl 0 rfl ?_
    refine j_getG 42 dX12_sums_39 rfl (sh_66 hL) cl12 (k := 42) (by decide) flX12_86 rfl (gs_66_42 hL) ?_
    refine j_iload_n 43 dX12_sums_42 rfl rfl 1 rfl ?_
    obtain ⟨hg, h⟩ := j_gs h
    refine j_iald 44 dX12_sums_43 rfl (sh_92 hL) (j_inv hg) ?_
    refine j_iadd 45 dX12_sums_44 rfl ?_
    obtain ⟨hg, h⟩ := j_gs h
    refine j_iast 46 dX12_sums_45 rfl (sh_90 hL) (j_inv hg) ?_
    refine j_aload_n 47 dX12_sums_46 rfl rfl 0 rfl ?_
    refine j_getG 50 dX12_sums_47 rfl (sh_66 hL) cl12 (k := 43) (by decide) flX12_89 rfl (gs_66_43 hL) ?_
    refine j_iload_n 51 dX12_sums_50 rfl rfl 1 rfl ?_
    refine j_iconst (v := (0 : Int32)) 52 dX12_sums_51 rfl (by decide) ?_
    obtain ⟨hg, h⟩ := j_gs h
    refine j_iast 53 dX12_sums_52 rfl (sh_93 hL) (j_inv hg) ?_
    cases h
    exact j_vret dX12_sums_53 rfl
  · replace h := j_pos hc h
    refine j_aload_n 17 dX12_sums_16 rfl rfl 0 rfl ?_
    refine j_getG 20 dX12_sums_17 rfl (sh_66 hL) cl12 (k := 40) (by decide) flX12_80 rfl (gs_66_40 hL) ?_
    refine j_iload_n 21 dX12_sums_20 rfl rfl 1 rfl ?_
    obtain ⟨hg, h⟩ := j_gs h
    refine j_iald 22 dX12_sums_21 rfl (sh_90 hL) (j_inv hg) ?_
    refine j_aload_n 23 dX12_sums_22 rfl rfl 0 rfl ?_
    refine j_getG 26 dX12_sums_23 rfl (sh_66 hL) cl12 (k := 42) (by decide) flX12_86 rfl (gs_66_42 hL) ?_
    refine j_iload_n 27 dX12_sums_26 rfl rfl 1 rfl ?_
    obtain ⟨hg, h⟩ := j_gs h
    refine j_iald 28 dX12_sums_27 rfl (sh_92 hL) (j_inv hg) ?_
    refine j_isub 29 dX12_sums_28 rfl ?_
    refine j_goto 45 dX12_sums_29 (by decide) ?_
    obtain ⟨hg, h⟩ := j_gs h
    refine j_iast 46 dX12_sums_45 rfl (sh_90 hL) (j_inv hg) ?_
    refine j_aload_n 47 dX12_sums_46 rfl rfl 0 rfl ?_
    refine j_getG 50 dX12_sums_47 rfl (sh_66 hL) cl12 (k := 43) (by decide) flX12_89 rfl (gs_66_43 hL) ?_
    refine j_iload_n 51 dX12_sums_50 rfl rfl 1 rfl ?_
    refine j_iconst (v := (0 : Int32)) 52 dX12_sums_51 rfl (by decide) ?_
    obtain ⟨hg, h⟩ := j_gs h
    refine j_iast 53 dX12_sums_52 rfl (sh_93 hL) (j_inv hg) ?_
    cases h
    exact j_vret dX12_sums_53 rfl
def fX12_tests_136 (l1 : Int32) (l2 : Int32) (I : JI) : Option (JI) :=
  j_g (j_in l1 7) (j_g (j_in l1 7) (j_g (j_in l1 7) (j_g (j_in l1 7) (some ((j_up (j_up (j_up (j_up I 86 l1.toNatClampNeg l2) 89 l1.toNatClampNeg (0 : Int32)) 90 l1.toNatClampNeg (0 : Int32)) 91 l1.toNatClampNeg (20 : Int32)))))))
set_option maxHeartbeats 4000000 in
set_option maxRecDepth 100000 in
theorem kX12_tests_136 {E : JE} {r : JI} {L : JL} {G : JG} {D : JG} {S : JS} (hL : Lay G S) : ∀ (l1 : Int32) (l2 : Int32) (I : JI), fX12_tests_136 l1 l2 I = some r → AtJ E xX12_tests (Zr E none r L G D S) ((S).length, jm_sl S) 2 136 [(0, .ref (E.1 + 66)), (1, .int l1), (2, .int l2)] [] I L G D S := by
  intro l1 l2 I  h
  unfold fX12_tests_136 at h
  refine j_aload_n 137 dX12_tests_136 rfl rfl 0 rfl ?_
  refine j_getG 140 dX12_tests_137 rfl (sh_66 hL) cl12 (k := 36) (by decide) flX12_68 rfl (gs_66_36 hL) ?_
  refine j_iload_n 141 dX12_tests_140 rfl rfl 1 rfl ?_
  refine j_iload_n 142 dX12_tests_141 rfl rfl 2 rfl ?_
  obtain ⟨hg, h⟩ := j_gs h
  refine j_iast 143 dX12_tests_142 rfl (sh_86 hL) (j_inv hg) ?_
  refine j_aload_n 144 dX12_tests_143 rfl rfl 0 rfl ?_
  refine j_getG 147 dX12_tests_144 rfl (sh_66 hL) cl12 (k := 39) (by decide) flX12_77 rfl (gs_66_39 hL) ?_
  refine j_iload_n 148 dX12_tests_147 rfl rfl 1 rfl ?_
  refine j_iconst (v := (0 : Int32)) 149 dX12_tests_148 rfl (by decide) ?_
  obtain ⟨hg, h⟩ := j_gs h
  refine j_iast 150 dX12_tests_149 rfl (sh_89 hL) (j_inv hg) ?_
  refine j_aload_n 151 dX12_tests_150 rfl rfl 0 rfl ?_
  refine j_getG 154 dX12_tests_151 rfl (sh_66 hL) cl12 (k := 40) (by decide) flX12_80 rfl (gs_66_40 hL) ?_
  refine j_iload_n 155 dX12_tests_154 rfl rfl 1 rfl ?_
  refine j_iconst (v := (0 : Int32)) 156 dX12_tests_155 rfl (by decide) ?_
  obtain ⟨hg, h⟩ := j_gs h
  refine j_iast 157 dX12_tests_156 rfl (sh_90 hL) (j_inv hg) ?_
  refine j_aload_n 158 dX12_tests_157 rfl rfl 0 rfl ?_
  refine j_getG 161 dX12_tests_158 rfl (sh_66 hL) cl12 (k := 41) (by decide) flX12_83 rfl (gs_66_41 hL) ?_
  refine j_iload_n 162 dX12_tests_161 rfl rfl 1 rfl ?_
  refine j_bipush (v := (20 : Int32)) 164 dX12_tests_162 rfl (by decide) ?_
  obtain ⟨hg, h⟩ := j_gs h
  refine j_iast 165 dX12_tests_164 rfl (sh_91 hL) (j_inv hg) ?_
  cases h
  exact j_vret dX12_tests_165 rfl
def fX12_tests_106 (l1 : Int32) (l2 : Int32) (I : JI) : Option (JI) :=
  j_g (j_in l1 7) (if (I 87 l1.toNatClampNeg) = (27 : Int32) then (j_g (j_in l1 7) (if (I 86 l1.toNatClampNeg) = 0 then (if l2 = 0 then (fX12_tests_136 l1 (0 : Int32) I) else (fX12_tests_136 l1 (1 : Int32) I)) else (fX12_tests_136 l1 (1 : Int32) I))) else (fX12_tests_136 l1 l2 I))
set_option maxHeartbeats 4000000 in
set_option maxRecDepth 100000 in
theorem kX12_tests_106 {E : JE} {r : JI} {L : JL} {G : JG} {D : JG} {S : JS} (hL : Lay G S) : ∀ (l1 : Int32) (l2 : Int32) (I : JI), fX12_tests_106 l1 l2 I = some r → AtJ E xX12_tests (Zr E none r L G D S) ((S).length, jm_sl S) 2 106 [(0, .ref (E.1 + 66)), (1, .int l1), (2, .int l2)] [] I L G D S := by
  intro l1 l2 I  h
  unfold fX12_tests_106 at h
  refine j_aload_n 107 dX12_tests_106 rfl rfl 0 rfl ?_
  refine j_getG 110 dX12_tests_107 rfl (sh_66 hL) cl12 (k := 37) (by decide) flX12_71 rfl (gs_66_37 hL) ?_
  refine j_iload_n 111 dX12_tests_110 rfl rfl 1 rfl ?_
  obtain ⟨hg, h⟩ := j_gs h
  refine j_iald 112 dX12_tests_111 rfl (sh_87 hL) (j_inv hg) ?_
  refine j_bipush (v := (27 : Int32)) 114 dX12_tests_112 rfl (by decide) ?_
  refine j_icmp_ne 136 117 dX12_tests_114 (by decide) rfl (fun hc => ?_) (fun hc => ?_)
  · replace h := j_neg hc h
    exact kX12_tests_136 hL    _ _ _  h
  · replace h := j_pos hc h
    refine j_aload_n 118 dX12_tests_117 rfl rfl 0 rfl ?_
    refine j_getG 121 dX12_tests_118 rfl (sh_66 hL) cl12 (k := 36) (by decide) flX12_68 rfl (gs_66_36 hL) ?_
    refine j_iload_n 122 dX12_tests_121 rfl rfl 1 rfl ?_
    obtain ⟨hg, h⟩ := j_gs h
    refine j_iald 123 dX12_tests_122 rfl (sh_86 hL) (j_inv hg) ?_
    refine j_if_ne 130 126 dX12_tests_123 (by decide) rfl (fun hc => ?_) (fun hc => ?_)
    · replace h := j_neg hc h
      refine j_iconst (v := (1 : Int32)) 131 dX12_tests_130 rfl (by decide) ?_
      refine j_goto 135 dX12_tests_131 (by decide) ?_
      refine j_istore_n (lv' := [(2, .int (1 : Int32)), (0, .ref (E.1 + 66)), (1, .int l1)]) 136 dX12_tests_135 rfl rfl (by decide) rfl ?_
      refine j_sub [1, 2, 0] rfl ?_
      exact kX12_tests_136 hL    _ _ _  h
    · replace h := j_pos hc h
      refine j_iload_n 127 dX12_tests_126 rfl rfl 2 rfl ?_
      refine j_if_eq 134 130 dX12_tests_127 (by decide) rfl (fun hc => ?_) (fun hc => ?_)
      · replace h := j_pos hc h
        refine j_iconst (v := (0 : Int32)) 135 dX12_tests_134 rfl (by decide) ?_
        refine j_istore_n (lv' := [(2, .int (0 : Int32)), (0, .ref (E.1 + 66)), (1, .int l1)]) 136 dX12_tests_135 rfl rfl (by decide) rfl ?_
        refine j_sub [1, 2, 0] rfl ?_
        exact kX12_tests_136 hL    _ _ _  h
      · replace h := j_neg hc h
        refine j_iconst (v := (1 : Int32)) 131 dX12_tests_130 rfl (by decide) ?_
        refine j_goto 135 dX12_tests_131 (by decide) ?_
        refine j_istore_n (lv' := [(2, .int (1 : Int32)), (0, .ref (E.1 + 66)), (1, .int l1)]) 136 dX12_tests_135 rfl rfl (by decide) rfl ?_
        refine j_sub [1, 2, 0] rfl ?_
        exact kX12_tests_136 hL    _ _ _  h
def fX12_tests_76 (l1 : Int32) (l2 : Int32) (I : JI) : Option (JI) :=
  j_g (j_in l1 7) (if (I 87 l1.toNatClampNeg) = (26 : Int32) then (j_g (j_in l1 7) (if (I 86 l1.toNatClampNeg) = 0 then (fX12_tests_106 l1 (0 : Int32) I) else (if l2 = 0 then (fX12_tests_106 l1 (0 : Int32) I) else (fX12_tests_106 l1 (1 : Int32) I)))) else (fX12_tests_106 l1 l2 I))
set_option maxHeartbeats 4000000 in
set_option maxRecDepth 100000 in
theorem kX12_tests_76 {E : JE} {r : JI} {L : JL} {G : JG} {D : JG} {S : JS} (hL : Lay G S) : ∀ (l1 : Int32) (l2 : Int32) (I : JI), fX12_tests_76 l1 l2 I = some r → AtJ E xX12_tests (Zr E none r L G D S) ((S).length, jm_sl S) 2 76 [(0, .ref (E.1 + 66)), (1, .int l1), (2, .int l2)] [] I L G D S := by
  intro l1 l2 I  h
  unfold fX12_tests_76 at h
  refine j_aload_n 77 dX12_tests_76 rfl rfl 0 rfl ?_
  refine j_getG 80 dX12_tests_77 rfl (sh_66 hL) cl12 (k := 37) (by decide) flX12_71 rfl (gs_66_37 hL) ?_
  refine j_iload_n 81 dX12_tests_80 rfl rfl 1 rfl ?_
  obtain ⟨hg, h⟩ := j_gs h
  refine j_iald 82 dX12_tests_81 rfl (sh_87 hL) (j_inv hg) ?_
  refine j_bipush (v := (26 : Int32)) 84 dX12_tests_82 rfl (by decide) ?_
  refine j_icmp_ne 106 87 dX12_tests_84 (by decide) rfl (fun hc => ?_) (fun hc => ?_)
  · replace h := j_neg hc h
    exact kX12_tests_106 hL    _ _ _  h
  · replace h := j_pos hc h
    refine j_aload_n 88 dX12_tests_87 rfl rfl 0 rfl ?_
    refine j_getG 91 dX12_tests_88 rfl (sh_66 hL) cl12 (k := 36) (by decide) flX12_68 rfl (gs_66_36 hL) ?_
    refine j_iload_n 92 dX12_tests_91 rfl rfl 1 rfl ?_
    obtain ⟨hg, h⟩ := j_gs h
    refine j_iald 93 dX12_tests_92 rfl (sh_86 hL) (j_inv hg) ?_
    refine j_if_eq 104 96 dX12_tests_93 (by decide) rfl (fun hc => ?_) (fun hc => ?_)
    · replace h := j_pos hc h
      refine j_iconst (v := (0 : Int32)) 105 dX12_tests_104 rfl (by decide) ?_
      refine j_istore_n (lv' := [(2, .int (0 : Int32)), (0, .ref (E.1 + 66)), (1, .int l1)]) 106 dX12_tests_105 rfl rfl (by decide) rfl ?_
      refine j_sub [1, 2, 0] rfl ?_
      exact kX12_tests_106 hL    _ _ _  h
    · replace h := j_neg hc h
      refine j_iload_n 97 dX12_tests_96 rfl rfl 2 rfl ?_
      refine j_if_eq 104 100 dX12_tests_97 (by decide) rfl (fun hc => ?_) (fun hc => ?_)
      · replace h := j_pos hc h
        refine j_iconst (v := (0 : Int32)) 105 dX12_tests_104 rfl (by decide) ?_
        refine j_istore_n (lv' := [(2, .int (0 : Int32)), (0, .ref (E.1 + 66)), (1, .int l1)]) 106 dX12_tests_105 rfl rfl (by decide) rfl ?_
        refine j_sub [1, 2, 0] rfl ?_
        exact kX12_tests_106 hL    _ _ _  h
      · replace h := j_neg hc h
        refine j_iconst (v := (1 : Int32)) 101 dX12_tests_100 rfl (by decide) ?_
        refine j_goto 105 dX12_tests_101 (by decide) ?_
        refine j_istore_n (lv' := [(2, .int (1 : Int32)), (0, .ref (E.1 + 66)), (1, .int l1)]) 106 dX12_tests_105 rfl rfl (by decide) rfl ?_
        refine j_sub [1, 2, 0] rfl ?_
        exact kX12_tests_106 hL    _ _ _  h
def fX12_tests_44 (l1 : Int32) (l2 : Int32) (I : JI) : Option (JI) :=
  j_g (j_in l1 7) (if (I 89 l1.toNatClampNeg) = (25 : Int32) then (j_g (j_in l1 7) (j_g (j_in l1 7) (if (I 88 l1.toNatClampNeg) = (I 90 l1.toNatClampNeg) then (fX12_tests_76 l1 (1 : Int32) I) else (fX12_tests_76 l1 (0 : Int32) I)))) else (fX12_tests_76 l1 l2 I))
set_option maxHeartbeats 4000000 in
set_option maxRecDepth 100000 in
theorem kX12_tests_44 {E : JE} {r : JI} {L : JL} {G : JG} {D : JG} {S : JS} (hL : Lay G S) : ∀ (l1 : Int32) (l2 : Int32) (I : JI), fX12_tests_44 l1 l2 I = some r → AtJ E xX12_tests (Zr E none r L G D S) ((S).length, jm_sl S) 2 44 [(0, .ref (E.1 + 66)), (1, .int l1), (2, .int l2)] [] I L G D S := by
  intro l1 l2 I  h
  unfold fX12_tests_44 at h
  refine j_aload_n 45 dX12_tests_44 rfl rfl 0 rfl ?_
  refine j_getG 48 dX12_tests_45 rfl (sh_66 hL) cl12 (k := 39) (by decide) flX12_77 rfl (gs_66_39 hL) ?_
  refine j_iload_n 49 dX12_tests_48 rfl rfl 1 rfl ?_
  obtain ⟨hg, h⟩ := j_gs h
  refine j_iald 50 dX12_tests_49 rfl (sh_89 hL) (j_inv hg) ?_
  refine j_bipush (v := (25 : Int32)) 52 dX12_tests_50 rfl (by decide) ?_
  refine j_icmp_ne 76 55 dX12_tests_52 (by decide) rfl (fun hc => ?_) (fun hc => ?_)
  · replace h := j_neg hc h
    exact kX12_tests_76 hL    _ _ _  h
  · replace h := j_pos hc h
    refine j_aload_n 56 dX12_tests_55 rfl rfl 0 rfl ?_
    refine j_getG 59 dX12_tests_56 rfl (sh_66 hL) cl12 (k := 38) (by decide) flX12_74 rfl (gs_66_38 hL) ?_
    refine j_iload_n 60 dX12_tests_59 rfl rfl 1 rfl ?_
    obtain ⟨hg, h⟩ := j_gs h
    refine j_iald 61 dX12_tests_60 rfl (sh_88 hL) (j_inv hg) ?_
    refine j_aload_n 62 dX12_tests_61 rfl rfl 0 rfl ?_
    refine j_getG 65 dX12_tests_62 rfl (sh_66 hL) cl12 (k := 40) (by decide) flX12_80 rfl (gs_66_40 hL) ?_
    refine j_iload_n 66 dX12_tests_65 rfl rfl 1 rfl ?_
    obtain ⟨hg, h⟩ := j_gs h
    refine j_iald 67 dX12_tests_66 rfl (sh_90 hL) (j_inv hg) ?_
    refine j_icmp_ne 74 70 dX12_tests_67 (by decide) rfl (fun hc => ?_) (fun hc => ?_)
    · replace h := j_neg hc h
      refine j_iconst (v := (0 : Int32)) 75 dX12_tests_74 rfl (by decide) ?_
      refine j_istore_n (lv' := [(2, .int (0 : Int32)), (0, .ref (E.1 + 66)), (1, .int l1)]) 76 dX12_tests_75 rfl rfl (by decide) rfl ?_
      refine j_sub [1, 2, 0] rfl ?_
      exact kX12_tests_76 hL    _ _ _  h
    · replace h := j_pos hc h
      refine j_iconst (v := (1 : Int32)) 71 dX12_tests_70 rfl (by decide) ?_
      refine j_goto 75 dX12_tests_71 (by decide) ?_
      refine j_istore_n (lv' := [(2, .int (1 : Int32)), (0, .ref (E.1 + 66)), (1, .int l1)]) 76 dX12_tests_75 rfl rfl (by decide) rfl ?_
      refine j_sub [1, 2, 0] rfl ?_
      exact kX12_tests_76 hL    _ _ _  h
def fX12_tests (l1 : Int32) (I : JI) : Option (JI) :=
  (fX12_sums l1 I).bind (fun q1 => j_g (j_in l1 7) (j_g (j_in l1 7) (if (q1 89 l1.toNatClampNeg) = (24 : Int32) then (j_g (j_in l1 7) (j_g (j_in l1 7) (if (q1 90 l1.toNatClampNeg) ≤ (q1 88 l1.toNatClampNeg) then (fX12_tests_44 l1 (0 : Int32) q1) else (fX12_tests_44 l1 (1 : Int32) q1)))) else (fX12_tests_44 l1 (q1 90 l1.toNatClampNeg) q1))))
set_option maxHeartbeats 4000000 in
set_option maxRecDepth 100000 in
theorem tcX12_tests {E : JE} {l1 : Int32} {r : JI} {I : JI} {L : JL} {G D : JG} {S : JS} (hL : Lay G S) (h : fX12_tests l1 I = some r) : CallJ E xX12_tests 2 [.ref (E.1 + 66), .int l1] I L G D S none r L G D S := by
  unfold fX12_tests at h
  refine j_entry (by decide) (Nat.le_of_ble_eq_true rfl) ?_
  show AtJ E xX12_tests (Zr E none r L G D S) ((S).length, jm_sl S) 2 0 [(0, .ref (E.1 + 66)), (1, .int l1)] [] I L G D S
  refine j_aload_n 1 dX12_tests_0 rfl rfl 0 rfl ?_
  refine j_iload_n 2 dX12_tests_1 rfl rfl 1 rfl ?_
  obtain ⟨q1, hq1, h⟩ := j_bs h
  refine j_callV (rest := []) (As := [.int l1]) 5 dX12_tests_2 rfl jyX12_sums (tcX12_sums hL  hq1) (sh_66 hL) cl12 flX12_407 wm1886 wm65 (by decide) rfl rfl (Nat.le_of_ble_eq_true rfl) ?_
  refine j_aload_n 6 dX12_tests_5 rfl rfl 0 rfl ?_
  refine j_getG 9 dX12_tests_6 rfl (sh_66 hL) cl12 (k := 40) (by decide) flX12_80 rfl (gs_66_40 hL) ?_
  refine j_iload_n 10 dX12_tests_9 rfl rfl 1 rfl ?_
  obtain ⟨hg, h⟩ := j_gs h
  refine j_iald 11 dX12_tests_10 rfl (sh_90 hL) (j_inv hg) ?_
  refine j_istore_n (lv' := [(2, .int (q1 90 l1.toNatClampNeg)), (0, .ref (E.1 + 66)), (1, .int l1)]) 12 dX12_tests_11 rfl rfl (by decide) rfl ?_
  refine j_aload_n 13 dX12_tests_12 rfl rfl 1 rfl ?_
  refine j_getG 16 dX12_tests_13 rfl (sh_66 hL) cl12 (k := 39) (by decide) flX12_77 rfl (gs_66_39 hL) ?_
  refine j_iload_n 17 dX12_tests_16 rfl rfl 2 rfl ?_
  obtain ⟨hg, h⟩ := j_gs h
  refine j_iald 18 dX12_tests_17 rfl (sh_89 hL) (j_inv hg) ?_
  refine j_bipush (v := (24 : Int32)) 20 dX12_tests_18 rfl (by decide) ?_
  refine j_icmp_ne 44 23 dX12_tests_20 (by decide) rfl (fun hc => ?_) (fun hc => ?_)
  · replace h := j_neg hc h
    refine j_sub [1, 2, 0] rfl ?_
    exact kX12_tests_44 hL    _ _ _  h
  · replace h := j_pos hc h
    refine j_aload_n 24 dX12_tests_23 rfl rfl 1 rfl ?_
    refine j_getG 27 dX12_tests_24 rfl (sh_66 hL) cl12 (k := 38) (by decide) flX12_74 rfl (gs_66_38 hL) ?_
    refine j_iload_n 28 dX12_tests_27 rfl rfl 2 rfl ?_
    obtain ⟨hg, h⟩ := j_gs h
    refine j_iald 29 dX12_tests_28 rfl (sh_88 hL) (j_inv hg) ?_
    refine j_aload_n 30 dX12_tests_29 rfl rfl 1 rfl ?_
    refine j_getG 33 dX12_tests_30 rfl (sh_66 hL) cl12 (k := 40) (by decide) flX12_80 rfl (gs_66_40 hL) ?_
    refine j_iload_n 34 dX12_tests_33 rfl rfl 2 rfl ?_
    obtain ⟨hg, h⟩ := j_gs h
    refine j_iald 35 dX12_tests_34 rfl (sh_90 hL) (j_inv hg) ?_
    refine j_icmp_ge 42 38 dX12_tests_35 (by decide) rfl (fun hc => ?_) (fun hc => ?_)
    · replace h := j_pos hc h
      refine j_iconst (v := (0 : Int32)) 43 dX12_tests_42 rfl (by decide) ?_
      refine j_istore_n (lv' := [(2, .int (0 : Int32)), (0, .ref (E.1 + 66)), (1, .int l1)]) 44 dX12_tests_43 rfl rfl (by decide) rfl ?_
      refine j_sub [1, 2, 0] rfl ?_
      exact kX12_tests_44 hL    _ _ _  h
    · replace h := j_neg hc h
      refine j_iconst (v := (1 : Int32)) 39 dX12_tests_38 rfl (by decide) ?_
      refine j_goto 43 dX12_tests_39 (by decide) ?_
      refine j_istore_n (lv' := [(2, .int (1 : Int32)), (0, .ref (E.1 + 66)), (1, .int l1)]) 44 dX12_tests_43 rfl rfl (by decide) rfl ?_
      refine j_sub [1, 2, 0] rfl ?_
      exact kX12_tests_44 hL    _ _ _  h
