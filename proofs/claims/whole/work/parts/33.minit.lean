def fX12_init_577 (t : Nat) : Nat → Int32 → JI → JG → JS → Option (JI × JG × JS)
  | 0, _, _, _, _ => none
  | n + 1, l1, I, G, S =>
    if (16 : Int32) ≤ l1 then (some (I, G, S)) else (j_opt (G t 7) none (fun b1 => j_g (decide (S[b1]? = some (21, 16))) (j_g (j_in l1 16) ((fX12_init_577 t n) (l1 + (1 : Int32)) (j_up I b1 l1.toNatClampNeg (1 : Int32)) G S))))
set_option maxHeartbeats 4000000 in
set_option maxRecDepth 100000 in
theorem kX12_init_577 {E : JE} {t : Nat} {r : JI × JG × JS} {L : JL} {D : JG} {G : JG} {S : JS}  (ht : S[t]? = some (12, 98)) : ∀ (n : Nat) (l1 : Int32) (I : JI), fX12_init_577 t n l1 I G S = some r → AtJ E xX12_init (Zr E none r.1 L r.2.1 D r.2.2) ((r.2.2).length, jm_sl r.2.2) 1 577 [(0, .ref (E.1 + t)), (1, .int l1)] [] I L G D S := by
  intro n
  induction n with
  | zero => intro l1 I  h; simp [fX12_init_577] at h
  | succ n ih =>
    intro l1 I  h
    rw [fX12_init_577] at h
    refine j_iload_n 578 dX12_init_577 rfl rfl 1 rfl ?_
    refine j_bipush (v := (16 : Int32)) 580 dX12_init_578 rfl (by decide) ?_
    refine j_icmp_ge 596 583 dX12_init_580 (by decide) rfl (fun hc => ?_) (fun hc => ?_)
    · replace h := j_pos hc h
      cases h
      exact j_vret dX12_init_596 rfl
    · replace h := j_neg hc h
      refine j_aload_n 584 dX12_init_583 rfl rfl 0 rfl ?_
      rcases j_os h with ⟨hb, h⟩ | ⟨b1, hb, h⟩
      · cases h
      obtain ⟨hsb1, h⟩ := j_gs h
      replace hsb1 := of_decide_eq_true hsb1
      refine j_getG 587 dX12_init_584 rfl ht cl12 (k := 7) (by decide) flX12_29 rfl hb ?_
      refine j_iload_n 588 dX12_init_587 rfl rfl 1 rfl ?_
      refine j_iconst (v := (1 : Int32)) 589 dX12_init_588 rfl (by decide) ?_
      obtain ⟨hg, h⟩ := j_gs h
      refine j_zast 590 dX12_init_589 rfl hsb1 (j_inv hg) j_b01_1 ?_
      refine j_iinc (v := (l1 + (1 : Int32))) (lv' := [(1, .int (l1 + (1 : Int32))), (0, .ref (E.1 + t))]) (q := 1) 593 dX12_init_590 rfl rfl rfl (by decide) rfl ?_
      refine j_goto 577 dX12_init_593 (by decide) ?_
      refine j_sub [1, 0] rfl ?_
      exact ih _ _  h
def fX12_init_566 (t : Nat) (I : JI) (G : JG) (S : JS) : Option (JI × JG × JS) :=
  fX12_init_577 t 100000 (0 : Int32) (j_clr I (S).length 0) (j_up G t 97 (some (S).length)) (S ++ [(20, 160)])
set_option maxHeartbeats 4000000 in
set_option maxRecDepth 100000 in
theorem kX12_init_566 {E : JE} {t : Nat} {r : JI × JG × JS} {L : JL} {D : JG} {G : JG} {S : JS}  (ht : S[t]? = some (12, 98)) : ∀ (I : JI), fX12_init_566 t I G S = some r → AtJ E xX12_init (Zr E none r.1 L r.2.1 D r.2.2) ((r.2.2).length, jm_sl r.2.2) 1 566 [(0, .ref (E.1 + t))] [] I L G D S := by
  intro I  h
  unfold fX12_init_566 at h
  refine j_aload_n 567 dX12_init_566 rfl rfl 0 rfl ?_
  refine j_sipush (v := (160 : Int32)) 570 dX12_init_567 rfl (by decide) ?_
  refine j_nwI (N := 160) 572 dX12_init_570 rfl wm170 (by decide) (by decide) (by decide) ?_
  refine j_putF 575 dX12_init_572 rfl (jm_pre ht) cl12 (k := 97) (by decide) flX12_215 rfl rfl rfl rfl (fun _ => rfl) (fun _ => rfl) ?_
  refine j_iconst (v := (0 : Int32)) 576 dX12_init_575 rfl (by decide) ?_
  refine j_istore_n (lv' := [(1, .int (0 : Int32)), (0, .ref (E.1 + t))]) 577 dX12_init_576 rfl rfl (by decide) rfl ?_
  refine j_sub [1, 0] rfl ?_
  exact kX12_init_577   (jm_pre ht)  100000 _ _  h
def fX12_init_532 (t : Nat) (I : JI) (G : JG) (S : JS) : Option (JI × JG × JS) :=
  fX12_init_566 t (j_clr (j_clr (j_clr (j_clr I (S).length 0) ((S ++ [(20, 4)])).length 0) (((S ++ [(20, 4)]) ++ [(20, 2560)])).length 0) ((((S ++ [(20, 4)]) ++ [(20, 2560)]) ++ [(21, 2560)])).length 0) (j_up (j_up (j_up (j_up G t 93 (some (S).length)) t 94 (some ((S ++ [(20, 4)])).length)) t 95 (some (((S ++ [(20, 4)]) ++ [(20, 2560)])).length)) t 96 (some ((((S ++ [(20, 4)]) ++ [(20, 2560)]) ++ [(21, 2560)])).length)) ((((S ++ [(20, 4)]) ++ [(20, 2560)]) ++ [(21, 2560)]) ++ [(20, 160)])
set_option maxHeartbeats 4000000 in
set_option maxRecDepth 100000 in
theorem kX12_init_532 {E : JE} {t : Nat} {r : JI × JG × JS} {L : JL} {D : JG} {G : JG} {S : JS}  (ht : S[t]? = some (12, 98)) : ∀ (I : JI), fX12_init_532 t I G S = some r → AtJ E xX12_init (Zr E none r.1 L r.2.1 D r.2.2) ((r.2.2).length, jm_sl r.2.2) 1 532 [(0, .ref (E.1 + t))] [] I L G D S := by
  intro I  h
  unfold fX12_init_532 at h
  refine j_aload_n 533 dX12_init_532 rfl rfl 0 rfl ?_
  refine j_iconst (v := (4 : Int32)) 534 dX12_init_533 rfl (by decide) ?_
  refine j_nwI (N := 4) 536 dX12_init_534 rfl wm170 (by decide) (by decide) (by decide) ?_
  refine j_putF 539 dX12_init_536 rfl (jm_pre ht) cl12 (k := 93) (by decide) flX12_203 rfl rfl rfl rfl (fun _ => rfl) (fun _ => rfl) ?_
  refine j_aload_n 540 dX12_init_539 rfl rfl 0 rfl ?_
  refine j_sipush (v := (2560 : Int32)) 543 dX12_init_540 rfl (by decide) ?_
  refine j_nwI (N := 2560) 545 dX12_init_543 rfl wm170 (by decide) (by decide) (by decide) ?_
  refine j_putF 548 dX12_init_545 rfl (jm_pre (jm_pre ht)) cl12 (k := 94) (by decide) flX12_206 rfl rfl rfl rfl (fun _ => rfl) (fun _ => rfl) ?_
  refine j_aload_n 549 dX12_init_548 rfl rfl 0 rfl ?_
  refine j_sipush (v := (2560 : Int32)) 552 dX12_init_549 rfl (by decide) ?_
  refine j_nwZ (N := 2560) 554 dX12_init_552 rfl wm593 (by decide) (by decide) (by decide) ?_
  refine j_putF 557 dX12_init_554 rfl (jm_pre (jm_pre (jm_pre ht))) cl12 (k := 95) (by decide) flX12_209 rfl rfl rfl rfl (fun _ => rfl) (fun _ => rfl) ?_
  refine j_aload_n 558 dX12_init_557 rfl rfl 0 rfl ?_
  refine j_sipush (v := (160 : Int32)) 561 dX12_init_558 rfl (by decide) ?_
  refine j_nwI (N := 160) 563 dX12_init_561 rfl wm170 (by decide) (by decide) (by decide) ?_
  refine j_putF 566 dX12_init_563 rfl (jm_pre (jm_pre (jm_pre (jm_pre ht)))) cl12 (k := 96) (by decide) flX12_212 rfl rfl rfl rfl (fun _ => rfl) (fun _ => rfl) ?_
  exact kX12_init_566   (jm_pre (jm_pre (jm_pre (jm_pre ht))))  _  h
def fX12_init_501 (t : Nat) (I : JI) (G : JG) (S : JS) : Option (JI × JG × JS) :=
  fX12_init_532 t (j_clr (j_clr (j_clr (j_clr I (S).length 0) ((S ++ [(20, 4)])).length 0) (((S ++ [(20, 4)]) ++ [(21, 48)])).length 0) ((((S ++ [(20, 4)]) ++ [(21, 48)]) ++ [(20, 768)])).length 0) (j_up (j_up (j_up (j_up G t 89 (some (S).length)) t 90 (some ((S ++ [(20, 4)])).length)) t 91 (some (((S ++ [(20, 4)]) ++ [(21, 48)])).length)) t 92 (some ((((S ++ [(20, 4)]) ++ [(21, 48)]) ++ [(20, 768)])).length)) ((((S ++ [(20, 4)]) ++ [(21, 48)]) ++ [(20, 768)]) ++ [(20, 4)])
set_option maxHeartbeats 4000000 in
set_option maxRecDepth 100000 in
theorem kX12_init_501 {E : JE} {t : Nat} {r : JI × JG × JS} {L : JL} {D : JG} {G : JG} {S : JS}  (ht : S[t]? = some (12, 98)) : ∀ (I : JI), fX12_init_501 t I G S = some r → AtJ E xX12_init (Zr E none r.1 L r.2.1 D r.2.2) ((r.2.2).length, jm_sl r.2.2) 1 501 [(0, .ref (E.1 + t))] [] I L G D S := by
  intro I  h
  unfold fX12_init_501 at h
  refine j_aload_n 502 dX12_init_501 rfl rfl 0 rfl ?_
  refine j_iconst (v := (4 : Int32)) 503 dX12_init_502 rfl (by decide) ?_
  refine j_nwI (N := 4) 505 dX12_init_503 rfl wm170 (by decide) (by decide) (by decide) ?_
  refine j_putF 508 dX12_init_505 rfl (jm_pre ht) cl12 (k := 89) (by decide) flX12_191 rfl rfl rfl rfl (fun _ => rfl) (fun _ => rfl) ?_
  refine j_aload_n 509 dX12_init_508 rfl rfl 0 rfl ?_
  refine j_bipush (v := (48 : Int32)) 511 dX12_init_509 rfl (by decide) ?_
  refine j_nwZ (N := 48) 513 dX12_init_511 rfl wm593 (by decide) (by decide) (by decide) ?_
  refine j_putF 516 dX12_init_513 rfl (jm_pre (jm_pre ht)) cl12 (k := 90) (by decide) flX12_194 rfl rfl rfl rfl (fun _ => rfl) (fun _ => rfl) ?_
  refine j_aload_n 517 dX12_init_516 rfl rfl 0 rfl ?_
  refine j_sipush (v := (768 : Int32)) 520 dX12_init_517 rfl (by decide) ?_
  refine j_nwI (N := 768) 522 dX12_init_520 rfl wm170 (by decide) (by decide) (by decide) ?_
  refine j_putF 525 dX12_init_522 rfl (jm_pre (jm_pre (jm_pre ht))) cl12 (k := 91) (by decide) flX12_197 rfl rfl rfl rfl (fun _ => rfl) (fun _ => rfl) ?_
  refine j_aload_n 526 dX12_init_525 rfl rfl 0 rfl ?_
  refine j_iconst (v := (4 : Int32)) 527 dX12_init_526 rfl (by decide) ?_
  refine j_nwI (N := 4) 529 dX12_init_527 rfl wm170 (by decide) (by decide) (by decide) ?_
  refine j_putF 532 dX12_init_529 rfl (jm_pre (jm_pre (jm_pre (jm_pre ht)))) cl12 (k := 92) (by decide) flX12_200 rfl rfl rfl rfl (fun _ => rfl) (fun _ => rfl) ?_
  exact kX12_init_532   (jm_pre (jm_pre (jm_pre (jm_pre ht))))  _  h
def fX12_init_469 (t : Nat) (I : JI) (G : JG) (S : JS) : Option (JI × JG × JS) :=
  fX12_init_501 t (j_clr (j_clr (j_clr (j_clr I (S).length 0) ((S ++ [(20, 6)])).length 0) (((S ++ [(20, 6)]) ++ [(20, 6)])).length 0) ((((S ++ [(20, 6)]) ++ [(20, 6)]) ++ [(20, 6)])).length 0) (j_up (j_up (j_up (j_up G t 84 (some (S).length)) t 85 (some ((S ++ [(20, 6)])).length)) t 86 (some (((S ++ [(20, 6)]) ++ [(20, 6)])).length)) t 87 (some ((((S ++ [(20, 6)]) ++ [(20, 6)]) ++ [(20, 6)])).length)) ((((S ++ [(20, 6)]) ++ [(20, 6)]) ++ [(20, 6)]) ++ [(20, 6)])
set_option maxHeartbeats 4000000 in
set_option maxRecDepth 100000 in
theorem kX12_init_469 {E : JE} {t : Nat} {r : JI × JG × JS} {L : JL} {D : JG} {G : JG} {S : JS}  (ht : S[t]? = some (12, 98)) : ∀ (I : JI), fX12_init_469 t I G S = some r → AtJ E xX12_init (Zr E none r.1 L r.2.1 D r.2.2) ((r.2.2).length, jm_sl r.2.2) 1 469 [(0, .ref (E.1 + t))] [] I L G D S := by
  intro I  h
  unfold fX12_init_469 at h
  refine j_aload_n 470 dX12_init_469 rfl rfl 0 rfl ?_
  refine j_bipush (v := (6 : Int32)) 472 dX12_init_470 rfl (by decide) ?_
  refine j_nwI (N := 6) 474 dX12_init_472 rfl wm170 (by decide) (by decide) (by decide) ?_
  refine j_putF 477 dX12_init_474 rfl (jm_pre ht) cl12 (k := 84) (by decide) flX12_179 rfl rfl rfl rfl (fun _ => rfl) (fun _ => rfl) ?_
  refine j_aload_n 478 dX12_init_477 rfl rfl 0 rfl ?_
  refine j_bipush (v := (6 : Int32)) 480 dX12_init_478 rfl (by decide) ?_
  refine j_nwI (N := 6) 482 dX12_init_480 rfl wm170 (by decide) (by decide) (by decide) ?_
  refine j_putF 485 dX12_init_482 rfl (jm_pre (jm_pre ht)) cl12 (k := 85) (by decide) flX12_182 rfl rfl rfl rfl (fun _ => rfl) (fun _ => rfl) ?_
  refine j_aload_n 486 dX12_init_485 rfl rfl 0 rfl ?_
  refine j_bipush (v := (6 : Int32)) 488 dX12_init_486 rfl (by decide) ?_
  refine j_nwI (N := 6) 490 dX12_init_488 rfl wm170 (by decide) (by decide) (by decide) ?_
  refine j_putF 493 dX12_init_490 rfl (jm_pre (jm_pre (jm_pre ht))) cl12 (k := 86) (by decide) flX12_185 rfl rfl rfl rfl (fun _ => rfl) (fun _ => rfl) ?_
  refine j_aload_n 494 dX12_init_493 rfl rfl 0 rfl ?_
  refine j_bipush (v := (6 : Int32)) 496 dX12_init_494 rfl (by decide) ?_
  refine j_nwI (N := 6) 498 dX12_init_496 rfl wm170 (by decide) (by decide) (by decide) ?_
  refine j_putF 501 dX12_init_498 rfl (jm_pre (jm_pre (jm_pre (jm_pre ht)))) cl12 (k := 87) (by decide) flX12_188 rfl rfl rfl rfl (fun _ => rfl) (fun _ => rfl) ?_
  exact kX12_init_501   (jm_pre (jm_pre (jm_pre (jm_pre ht))))  _  h
def fX12_init_436 (t : Nat) (I : JI) (G : JG) (S : JS) : Option (JI × JG × JS) :=
  fX12_init_469 t (j_clr (j_clr (j_clr (j_clr I (S).length 0) ((S ++ [(21, 4096)])).length 0) (((S ++ [(21, 4096)]) ++ [(20, 12)])).length 0) ((((S ++ [(21, 4096)]) ++ [(20, 12)]) ++ [(20, 6)])).length 0) (j_up (j_up (j_up (j_up G t 79 (some (S).length)) t 80 (some ((S ++ [(21, 4096)])).length)) t 82 (some (((S ++ [(21, 4096)]) ++ [(20, 12)])).length)) t 83 (some ((((S ++ [(21, 4096)]) ++ [(20, 12)]) ++ [(20, 6)])).length)) ((((S ++ [(21, 4096)]) ++ [(20, 12)]) ++ [(20, 6)]) ++ [(20, 6)])
set_option maxHeartbeats 4000000 in
set_option maxRecDepth 100000 in
theorem kX12_init_436 {E : JE} {t : Nat} {r : JI × JG × JS} {L : JL} {D : JG} {G : JG} {S : JS}  (ht : S[t]? = some (12, 98)) : ∀ (I : JI), fX12_init_436 t I G S = some r → AtJ E xX12_init (Zr E none r.1 L r.2.1 D r.2.2) ((r.2.2).length, jm_sl r.2.2) 1 436 [(0, .ref (E.1 + t))] [] I L G D S := by
  intro I  h
  unfold fX12_init_436 at h
  refine j_aload_n 437 dX12_init_436 rfl rfl 0 rfl ?_
  refine j_sipush (v := (4096 : Int32)) 440 dX12_init_437 rfl (by decide) ?_
  refine j_nwZ (N := 4096) 442 dX12_init_440 rfl wm593 (by decide) (by decide) (by decide) ?_
  refine j_putF 445 dX12_init_442 rfl (jm_pre ht) cl12 (k := 79) (by decide) flX12_167 rfl rfl rfl rfl (fun _ => rfl) (fun _ => rfl) ?_
  refine j_aload_n 446 dX12_init_445 rfl rfl 0 rfl ?_
  refine j_bipush (v := (12 : Int32)) 448 dX12_init_446 rfl (by decide) ?_
  refine j_nwI (N := 12) 450 dX12_init_448 rfl wm170 (by decide) (by decide) (by decide) ?_
  refine j_putF 453 dX12_init_450 rfl (jm_pre (jm_pre ht)) cl12 (k := 80) (by decide) flX12_170 rfl rfl rfl rfl (fun _ => rfl) (fun _ => rfl) ?_
  refine j_aload_n 454 dX12_init_453 rfl rfl 0 rfl ?_
  refine j_bipush (v := (6 : Int32)) 456 dX12_init_454 rfl (by decide) ?_
  refine j_nwI (N := 6) 458 dX12_init_456 rfl wm170 (by decide) (by decide) (by decide) ?_
  refine j_putF 461 dX12_init_458 rfl (jm_pre (jm_pre (jm_pre ht))) cl12 (k := 82) (by decide) flX12_173 rfl rfl rfl rfl (fun _ => rfl) (fun _ => rfl) ?_
  refine j_aload_n 462 dX12_init_461 rfl rfl 0 rfl ?_
  refine j_bipush (v := (6 : Int32)) 464 dX12_init_462 rfl (by decide) ?_
  refine j_nwI (N := 6) 466 dX12_init_464 rfl wm170 (by decide) (by decide) (by decide) ?_
  refine j_putF 469 dX12_init_466 rfl (jm_pre (jm_pre (jm_pre (jm_pre ht)))) cl12 (k := 83) (by decide) flX12_176 rfl rfl rfl rfl (fun _ => rfl) (fun _ => rfl) ?_
  exact kX12_init_469   (jm_pre (jm_pre (jm_pre (jm_pre ht))))  _  h
def fX12_init_400 (t : Nat) (I : JI) (G : JG) (S : JS) : Option (JI × JG × JS) :=
  fX12_init_436 t (j_clr (j_clr (j_clr (j_clr I (S).length 0) ((S ++ [(20, 169)])).length 0) (((S ++ [(20, 169)]) ++ [(20, 169)])).length 0) ((((S ++ [(20, 169)]) ++ [(20, 169)]) ++ [(20, 169)])).length 0) (j_up (j_up (j_up (j_up G t 72 (some (S).length)) t 73 (some ((S ++ [(20, 169)])).length)) t 74 (some (((S ++ [(20, 169)]) ++ [(20, 169)])).length)) t 75 (some ((((S ++ [(20, 169)]) ++ [(20, 169)]) ++ [(20, 169)])).length)) ((((S ++ [(20, 169)]) ++ [(20, 169)]) ++ [(20, 169)]) ++ [(21, 169)])
set_option maxHeartbeats 4000000 in
set_option maxRecDepth 100000 in
theorem kX12_init_400 {E : JE} {t : Nat} {r : JI × JG × JS} {L : JL} {D : JG} {G : JG} {S : JS}  (ht : S[t]? = some (12, 98)) : ∀ (I : JI), fX12_init_400 t I G S = some r → AtJ E xX12_init (Zr E none r.1 L r.2.1 D r.2.2) ((r.2.2).length, jm_sl r.2.2) 1 400 [(0, .ref (E.1 + t))] [] I L G D S := by
  intro I  h
  unfold fX12_init_400 at h
  refine j_aload_n 401 dX12_init_400 rfl rfl 0 rfl ?_
  refine j_sipush (v := (169 : Int32)) 404 dX12_init_401 rfl (by decide) ?_
  refine j_nwI (N := 169) 406 dX12_init_404 rfl wm170 (by decide) (by decide) (by decide) ?_
  refine j_putF 409 dX12_init_406 rfl (jm_pre ht) cl12 (k := 72) (by decide) flX12_155 rfl rfl rfl rfl (fun _ => rfl) (fun _ => rfl) ?_
  refine j_aload_n 410 dX12_init_409 rfl rfl 0 rfl ?_
  refine j_sipush (v := (169 : Int32)) 413 dX12_init_410 rfl (by decide) ?_
  refine j_nwI (N := 169) 415 dX12_init_413 rfl wm170 (by decide) (by decide) (by decide) ?_
  refine j_putF 418 dX12_init_415 rfl (jm_pre (jm_pre ht)) cl12 (k := 73) (by decide) flX12_158 rfl rfl rfl rfl (fun _ => rfl) (fun _ => rfl) ?_
  refine j_aload_n 419 dX12_init_418 rfl rfl 0 rfl ?_
  refine j_sipush (v := (169 : Int32)) 422 dX12_init_419 rfl (by decide) ?_
  refine j_nwI (N := 169) 424 dX12_init_422 rfl wm170 (by decide) (by decide) (by decide) ?_
  refine j_putF 427 dX12_init_424 rfl (jm_pre (jm_pre (jm_pre ht))) cl12 (k := 74) (by decide) flX12_161 rfl rfl rfl rfl (fun _ => rfl) (fun _ => rfl) ?_
  refine j_aload_n 428 dX12_init_427 rfl rfl 0 rfl ?_
  refine j_sipush (v := (169 : Int32)) 431 dX12_init_428 rfl (by decide) ?_
  refine j_nwZ (N := 169) 433 dX12_init_431 rfl wm593 (by decide) (by decide) (by decide) ?_
  refine j_putF 436 dX12_init_433 rfl (jm_pre (jm_pre (jm_pre (jm_pre ht)))) cl12 (k := 75) (by decide) flX12_164 rfl rfl rfl rfl (fun _ => rfl) (fun _ => rfl) ?_
  exact kX12_init_436   (jm_pre (jm_pre (jm_pre (jm_pre ht))))  _  h
def fX12_init_364 (t : Nat) (I : JI) (G : JG) (S : JS) : Option (JI × JG × JS) :=
  fX12_init_400 t (j_clr (j_clr (j_clr (j_clr I (S).length 0) ((S ++ [(20, 640)])).length 0) (((S ++ [(20, 640)]) ++ [(20, 640)])).length 0) ((((S ++ [(20, 640)]) ++ [(20, 640)]) ++ [(21, 640)])).length 0) (j_up (j_up (j_up (j_up G t 68 (some (S).length)) t 69 (some ((S ++ [(20, 640)])).length)) t 70 (some (((S ++ [(20, 640)]) ++ [(20, 640)])).length)) t 71 (some ((((S ++ [(20, 640)]) ++ [(20, 640)]) ++ [(21, 640)])).length)) ((((S ++ [(20, 640)]) ++ [(20, 640)]) ++ [(21, 640)]) ++ [(20, 169)])
set_option maxHeartbeats 4000000 in
set_option maxRecDepth 100000 in
theorem kX12_init_364 {E : JE} {t : Nat} {r : JI × JG × JS} {L : JL} {D : JG} {G : JG} {S : JS}  (ht : S[t]? = some (12, 98)) : ∀ (I : JI), fX12_init_364 t I G S = some r → AtJ E xX12_init (Zr E none r.1 L r.2.1 D r.2.2) ((r.2.2).length, jm_sl r.2.2) 1 364 [(0, .ref (E.1 + t))] [] I L G D S := by
  intro I  h
  unfold fX12_init_364 at h
  refine j_aload_n 365 dX12_init_364 rfl rfl 0 rfl ?_
  refine j_sipush (v := (640 : Int32)) 368 dX12_init_365 rfl (by decide) ?_
  refine j_nwI (N := 640) 370 dX12_init_368 rfl wm170 (by decide) (by decide) (by decide) ?_
  refine j_putF 373 dX12_init_370 rfl (jm_pre ht) cl12 (k := 68) (by decide) flX12_143 rfl rfl rfl rfl (fun _ => rfl) (fun _ => rfl) ?_
  refine j_aload_n 374 dX12_init_373 rfl rfl 0 rfl ?_
  refine j_sipush (v := (640 : Int32)) 377 dX12_init_374 rfl (by decide) ?_
  refine j_nwI (N := 640) 379 dX12_init_377 rfl wm170 (by decide) (by decide) (by decide) ?_
  refine j_putF 382 dX12_init_379 rfl (jm_pre (jm_pre ht)) cl12 (k := 69) (by decide) flX12_146 rfl rfl rfl rfl (fun _ => rfl) (fun _ => rfl) ?_
  refine j_aload_n 383 dX12_init_382 rfl rfl 0 rfl ?_
  refine j_sipush (v := (640 : Int32)) 386 dX12_init_383 rfl (by decide) ?_
  refine j_nwZ (N := 640) 388 dX12_init_386 rfl wm593 (by decide) (by decide) (by decide) ?_
  refine j_putF 391 dX12_init_388 rfl (jm_pre (jm_pre (jm_pre ht))) cl12 (k := 70) (by decide) flX12_149 rfl rfl rfl rfl (fun _ => rfl) (fun _ => rfl) ?_
  refine j_aload_n 392 dX12_init_391 rfl rfl 0 rfl ?_
  refine j_sipush (v := (169 : Int32)) 395 dX12_init_392 rfl (by decide) ?_
  refine j_nwI (N := 169) 397 dX12_init_395 rfl wm170 (by decide) (by decide) (by decide) ?_
  refine j_putF 400 dX12_init_397 rfl (jm_pre (jm_pre (jm_pre (jm_pre ht)))) cl12 (k := 71) (by decide) flX12_152 rfl rfl rfl rfl (fun _ => rfl) (fun _ => rfl) ?_
  exact kX12_init_400   (jm_pre (jm_pre (jm_pre (jm_pre ht))))  _  h
def fX12_init_330 (t : Nat) (I : JI) (G : JG) (S : JS) : Option (JI × JG × JS) :=
  fX12_init_364 t (j_clr (j_clr (j_clr (j_clr I (S).length 0) ((S ++ [(21, 40)])).length 0) (((S ++ [(21, 40)]) ++ [(21, 40)])).length 0) ((((S ++ [(21, 40)]) ++ [(21, 40)]) ++ [(20, 640)])).length 0) (j_up (j_up (j_up (j_up G t 64 (some (S).length)) t 65 (some ((S ++ [(21, 40)])).length)) t 66 (some (((S ++ [(21, 40)]) ++ [(21, 40)])).length)) t 67 (some ((((S ++ [(21, 40)]) ++ [(21, 40)]) ++ [(20, 640)])).length)) ((((S ++ [(21, 40)]) ++ [(21, 40)]) ++ [(20, 640)]) ++ [(20, 640)])
set_option maxHeartbeats 4000000 in
set_option maxRecDepth 100000 in
theorem kX12_init_330 {E : JE} {t : Nat} {r : JI × JG × JS} {L : JL} {D : JG} {G : JG} {S : JS}  (ht : S[t]? = some (12, 98)) : ∀ (I : JI), fX12_init_330 t I G S = some r → AtJ E xX12_init (Zr E none r.1 L r.2.1 D r.2.2) ((r.2.2).length, jm_sl r.2.2) 1 330 [(0, .ref (E.1 + t))] [] I L G D S := by
  intro I  h
  unfold fX12_init_330 at h
  refine j_aload_n 331 dX12_init_330 rfl rfl 0 rfl ?_
  refine j_bipush (v := (40 : Int32)) 333 dX12_init_331 rfl (by decide) ?_
  refine j_nwZ (N := 40) 335 dX12_init_333 rfl wm593 (by decide) (by decide) (by decide) ?_
  refine j_putF 338 dX12_init_335 rfl (jm_pre ht) cl12 (k := 64) (by decide) flX12_131 rfl rfl rfl rfl (fun _ => rfl) (fun _ => rfl) ?_
  refine j_aload_n 339 dX12_init_338 rfl rfl 0 rfl ?_
  refine j_bipush (v := (40 : Int32)) 341 dX12_init_339 rfl (by decide) ?_
  refine j_nwZ (N := 40) 343 dX12_init_341 rfl wm593 (by decide) (by decide) (by decide) ?_
  refine j_putF 346 dX12_init_343 rfl (jm_pre (jm_pre ht)) cl12 (k := 65) (by decide) flX12_134 rfl rfl rfl rfl (fun _ => rfl) (fun _ => rfl) ?_
  refine j_aload_n 347 dX12_init_346 rfl rfl 0 rfl ?_
  refine j_sipush (v := (640 : Int32)) 350 dX12_init_347 rfl (by decide) ?_
  refine j_nwI (N := 640) 352 dX12_init_350 rfl wm170 (by decide) (by decide) (by decide) ?_
  refine j_putF 355 dX12_init_352 rfl (jm_pre (jm_pre (jm_pre ht))) cl12 (k := 66) (by decide) flX12_137 rfl rfl rfl rfl (fun _ => rfl) (fun _ => rfl) ?_
  refine j_aload_n 356 dX12_init_355 rfl rfl 0 rfl ?_
  refine j_sipush (v := (640 : Int32)) 359 dX12_init_356 rfl (by decide) ?_
  refine j_nwI (N := 640) 361 dX12_init_359 rfl wm170 (by decide) (by decide) (by decide) ?_
  refine j_putF 364 dX12_init_361 rfl (jm_pre (jm_pre (jm_pre (jm_pre ht)))) cl12 (k := 67) (by decide) flX12_140 rfl rfl rfl rfl (fun _ => rfl) (fun _ => rfl) ?_
  exact kX12_init_364   (jm_pre (jm_pre (jm_pre (jm_pre ht))))  _  h
def fX12_init_298 (t : Nat) (I : JI) (G : JG) (S : JS) : Option (JI × JG × JS) :=
  fX12_init_330 t (j_clr (j_clr (j_clr (j_clr I (S).length 0) ((S ++ [(20, 40)])).length 0) (((S ++ [(20, 40)]) ++ [(21, 40)])).length 0) ((((S ++ [(20, 40)]) ++ [(21, 40)]) ++ [(20, 40)])).length 0) (j_up (j_up (j_up (j_up G t 60 (some (S).length)) t 61 (some ((S ++ [(20, 40)])).length)) t 62 (some (((S ++ [(20, 40)]) ++ [(21, 40)])).length)) t 63 (some ((((S ++ [(20, 40)]) ++ [(21, 40)]) ++ [(20, 40)])).length)) ((((S ++ [(20, 40)]) ++ [(21, 40)]) ++ [(20, 40)]) ++ [(20, 40)])
set_option maxHeartbeats 4000000 in
set_option maxRecDepth 100000 in
theorem kX12_init_298 {E : JE} {t : Nat} {r : JI × JG × JS} {L : JL} {D : JG} {G : JG} {S : JS}  (ht : S[t]? = some (12, 98)) : ∀ (I : JI), fX12_init_298 t I G S = some r → AtJ E xX12_init (Zr E none r.1 L r.2.1 D r.2.2) ((r.2.2).length, jm_sl r.2.2) 1 298 [(0, .ref (E.1 + t))] [] I L G D S := by
  intro I  h
  unfold fX12_init_298 at h
  refine j_aload_n 299 dX12_init_298 rfl rfl 0 rfl ?_
  refine j_bipush (v := (40 : Int32)) 301 dX12_init_299 rfl (by decide) ?_
  refine j_nwI (N := 40) 303 dX12_init_301 rfl wm170 (by decide) (by decide) (by decide) ?_
  refine j_putF 306 dX12_init_303 rfl (jm_pre ht) cl12 (k := 60) (by decide) flX12_119 rfl rfl rfl rfl (fun _ => rfl) (fun _ => rfl) ?_
  refine j_aload_n 307 dX12_init_306 rfl rfl 0 rfl ?_
  refine j_bipush (v := (40 : Int32)) 309 dX12_init_307 rfl (by decide) ?_
  refine j_nwZ (N := 40) 311 dX12_init_309 rfl wm593 (by decide) (by decide) (by decide) ?_
  refine j_putF 314 dX12_init_311 rfl (jm_pre (jm_pre ht)) cl12 (k := 61) (by decide) flX12_122 rfl rfl rfl rfl (fun _ => rfl) (fun _ => rfl) ?_
  refine j_aload_n 315 dX12_init_314 rfl rfl 0 rfl ?_
  refine j_bipush (v := (40 : Int32)) 317 dX12_init_315 rfl (by decide) ?_
  refine j_nwI (N := 40) 319 dX12_init_317 rfl wm170 (by decide) (by decide) (by decide) ?_
  refine j_putF 322 dX12_init_319 rfl (jm_pre (jm_pre (jm_pre ht))) cl12 (k := 62) (by decide) flX12_125 rfl rfl rfl rfl (fun _ => rfl) (fun _ => rfl) ?_
  refine j_aload_n 323 dX12_init_322 rfl rfl 0 rfl ?_
  refine j_bipush (v := (40 : Int32)) 325 dX12_init_323 rfl (by decide) ?_
  refine j_nwI (N := 40) 327 dX12_init_325 rfl wm170 (by decide) (by decide) (by decide) ?_
  refine j_putF 330 dX12_init_327 rfl (jm_pre (jm_pre (jm_pre (jm_pre ht)))) cl12 (k := 63) (by decide) flX12_128 rfl rfl rfl rfl (fun _ => rfl) (fun _ => rfl) ?_
  exact kX12_init_330   (jm_pre (jm_pre (jm_pre (jm_pre ht))))  _  h
def fX12_init_266 (t : Nat) (I : JI) (G : JG) (S : JS) : Option (JI × JG × JS) :=
  fX12_init_298 t (j_clr (j_clr (j_clr (j_clr I (S).length 0) ((S ++ [(20, 40)])).length 0) (((S ++ [(20, 40)]) ++ [(20, 40)])).length 0) ((((S ++ [(20, 40)]) ++ [(20, 40)]) ++ [(20, 40)])).length 0) (j_up (j_up (j_up (j_up G t 56 (some (S).length)) t 57 (some ((S ++ [(20, 40)])).length)) t 58 (some (((S ++ [(20, 40)]) ++ [(20, 40)])).length)) t 59 (some ((((S ++ [(20, 40)]) ++ [(20, 40)]) ++ [(20, 40)])).length)) ((((S ++ [(20, 40)]) ++ [(20, 40)]) ++ [(20, 40)]) ++ [(20, 40)])
set_option maxHeartbeats 4000000 in
set_option maxRecDepth 100000 in
theorem kX12_init_266 {E : JE} {t : Nat} {r : JI × JG × JS} {L : JL} {D : JG} {G : JG} {S : JS}  (ht : S[t]? = some (12, 98)) : ∀ (I : JI), fX12_init_266 t I G S = some r → AtJ E xX12_init (Zr E none r.1 L r.2.1 D r.2.2) ((r.2.2).length, jm_sl r.2.2) 1 266 [(0, .ref (E.1 + t))] [] I L G D S := by
  intro I  h
  unfold fX12_init_266 at h
  refine j_aload_n 267 dX12_init_266 rfl rfl 0 rfl ?_
  refine j_bipush (v := (40 : Int32)) 269 dX12_init_267 rfl (by decide) ?_
  refine j_nwI (N := 40) 271 dX12_init_269 rfl wm170 (by decide) (by decide) (by decide) ?_
  refine j_putF 274 dX12_init_271 rfl (jm_pre ht) cl12 (k := 56) (by decide) flX12_107 rfl rfl rfl rfl (fun _ => rfl) (fun _ => rfl) ?_
  refine j_aload_n 275 dX12_init_274 rfl rfl 0 rfl ?_
  refine j_bipush (v := (40 : Int32)) 277 dX12_init_275 rfl (by decide) ?_
  refine j_nwI (N := 40) 279 dX12_init_277 rfl wm170 (by decide) (by decide) (by decide) ?_
  refine j_putF 282 dX12_init_279 rfl (jm_pre (jm_pre ht)) cl12 (k := 57) (by decide) flX12_110 rfl rfl rfl rfl (fun _ => rfl) (fun _ => rfl) ?_
  refine j_aload_n 283 dX12_init_282 rfl rfl 0 rfl ?_
  refine j_bipush (v := (40 : Int32)) 285 dX12_init_283 rfl (by decide) ?_
  refine j_nwI (N := 40) 287 dX12_init_285 rfl wm170 (by decide) (by decide) (by decide) ?_
  refine j_putF 290 dX12_init_287 rfl (jm_pre (jm_pre (jm_pre ht))) cl12 (k := 58) (by decide) flX12_113 rfl rfl rfl rfl (fun _ => rfl) (fun _ => rfl) ?_
  refine j_aload_n 291 dX12_init_290 rfl rfl 0 rfl ?_
  refine j_bipush (v := (40 : Int32)) 293 dX12_init_291 rfl (by decide) ?_
  refine j_nwI (N := 40) 295 dX12_init_293 rfl wm170 (by decide) (by decide) (by decide) ?_
  refine j_putF 298 dX12_init_295 rfl (jm_pre (jm_pre (jm_pre (jm_pre ht)))) cl12 (k := 59) (by decide) flX12_116 rfl rfl rfl rfl (fun _ => rfl) (fun _ => rfl) ?_
  exact kX12_init_298   (jm_pre (jm_pre (jm_pre (jm_pre ht))))  _  h
def fX12_init_234 (t : Nat) (I : JI) (G : JG) (S : JS) : Option (JI × JG × JS) :=
  fX12_init_266 t (j_clr (j_clr (j_clr (j_clr I (S).length 0) ((S ++ [(20, 20)])).length 0) (((S ++ [(20, 20)]) ++ [(20, 40)])).length 0) ((((S ++ [(20, 20)]) ++ [(20, 40)]) ++ [(20, 40)])).length 0) (j_up (j_up (j_up (j_up G t 45 (some (S).length)) t 53 (some ((S ++ [(20, 20)])).length)) t 54 (some (((S ++ [(20, 20)]) ++ [(20, 40)])).length)) t 55 (some ((((S ++ [(20, 20)]) ++ [(20, 40)]) ++ [(20, 40)])).length)) ((((S ++ [(20, 20)]) ++ [(20, 40)]) ++ [(20, 40)]) ++ [(20, 40)])
set_option maxHeartbeats 4000000 in
set_option maxRecDepth 100000 in
theorem kX12_init_234 {E : JE} {t : Nat} {r : JI × JG × JS} {L : JL} {D : JG} {G : JG} {S : JS}  (ht : S[t]? = some (12, 98)) : ∀ (I : JI), fX12_init_234 t I G S = some r → AtJ E xX12_init (Zr E none r.1 L r.2.1 D r.2.2) ((r.2.2).length, jm_sl r.2.2) 1 234 [(0, .ref (E.1 + t))] [] I L G D S := by
  intro I  h
  unfold fX12_init_234 at h
  refine j_aload_n 235 dX12_init_234 rfl rfl 0 rfl ?_
  refine j_bipush (v := (20 : Int32)) 237 dX12_init_235 rfl (by decide) ?_
  refine j_nwI (N := 20) 239 dX12_init_237 rfl wm170 (by decide) (by decide) (by decide) ?_
  refine j_putF 242 dX12_init_239 rfl (jm_pre ht) cl12 (k := 45) (by decide) flX12_95 rfl rfl rfl rfl (fun _ => rfl) (fun _ => rfl) ?_
  refine j_aload_n 243 dX12_init_242 rfl rfl 0 rfl ?_
  refine j_bipush (v := (40 : Int32)) 245 dX12_init_243 rfl (by decide) ?_
  refine j_nwI (N := 40) 247 dX12_init_245 rfl wm170 (by decide) (by decide) (by decide) ?_
  refine j_putF 250 dX12_init_247 rfl (jm_pre (jm_pre ht)) cl12 (k := 53) (by decide) flX12_98 rfl rfl rfl rfl (fun _ => rfl) (fun _ => rfl) ?_
  refine j_aload_n 251 dX12_init_250 rfl rfl 0 rfl ?_
  refine j_bipush (v := (40 : Int32)) 253 dX12_init_251 rfl (by decide) ?_
  refine j_nwI (N := 40) 255 dX12_init_253 rfl wm170 (by decide) (by decide) (by decide) ?_
  refine j_putF 258 dX12_init_255 rfl (jm_pre (jm_pre (jm_pre ht))) cl12 (k := 54) (by decide) flX12_101 rfl rfl rfl rfl (fun _ => rfl) (fun _ => rfl) ?_
  refine j_aload_n 259 dX12_init_258 rfl rfl 0 rfl ?_
  refine j_bipush (v := (40 : Int32)) 261 dX12_init_259 rfl (by decide) ?_
  refine j_nwI (N := 40) 263 dX12_init_261 rfl wm170 (by decide) (by decide) (by decide) ?_
  refine j_putF 266 dX12_init_263 rfl (jm_pre (jm_pre (jm_pre (jm_pre ht)))) cl12 (k := 55) (by decide) flX12_104 rfl rfl rfl rfl (fun _ => rfl) (fun _ => rfl) ?_
  exact kX12_init_266   (jm_pre (jm_pre (jm_pre (jm_pre ht))))  _  h
def fX12_init_202 (t : Nat) (I : JI) (G : JG) (S : JS) : Option (JI × JG × JS) :=
  fX12_init_234 t (j_clr (j_clr (j_clr (j_clr I (S).length 0) ((S ++ [(20, 7)])).length 0) (((S ++ [(20, 7)]) ++ [(20, 7)])).length 0) ((((S ++ [(20, 7)]) ++ [(20, 7)]) ++ [(20, 7)])).length 0) (j_up (j_up (j_up (j_up G t 41 (some (S).length)) t 42 (some ((S ++ [(20, 7)])).length)) t 43 (some (((S ++ [(20, 7)]) ++ [(20, 7)])).length)) t 44 (some ((((S ++ [(20, 7)]) ++ [(20, 7)]) ++ [(20, 7)])).length)) ((((S ++ [(20, 7)]) ++ [(20, 7)]) ++ [(20, 7)]) ++ [(20, 7)])
set_option maxHeartbeats 4000000 in
set_option maxRecDepth 100000 in
theorem kX12_init_202 {E : JE} {t : Nat} {r : JI × JG × JS} {L : JL} {D : JG} {G : JG} {S : JS}  (ht : S[t]? = some (12, 98)) : ∀ (I : JI), fX12_init_202 t I G S = some r → AtJ E xX12_init (Zr E none r.1 L r.2.1 D r.2.2) ((r.2.2).length, jm_sl r.2.2) 1 202 [(0, .ref (E.1 + t))] [] I L G D S := by
  intro I  h
  unfold fX12_init_202 at h
  refine j_aload_n 203 dX12_init_202 rfl rfl 0 rfl ?_
  refine j_bipush (v := (7 : Int32)) 205 dX12_init_203 rfl (by decide) ?_
  refine j_nwI (N := 7) 207 dX12_init_205 rfl wm170 (by decide) (by decide) (by decide) ?_
  refine j_putF 210 dX12_init_207 rfl (jm_pre ht) cl12 (k := 41) (by decide) flX12_83 rfl rfl rfl rfl (fun _ => rfl) (fun _ => rfl) ?_
  refine j_aload_n 211 dX12_init_210 rfl rfl 0 rfl ?_
  refine j_bipush (v := (7 : Int32)) 213 dX12_init_211 rfl (by decide) ?_
  refine j_nwI (N := 7) 215 dX12_init_213 rfl wm170 (by decide) (by decide) (by decide) ?_
  refine j_putF 218 dX12_init_215 rfl (jm_pre (jm_pre ht)) cl12 (k := 42) (by decide) flX12_86 rfl rfl rfl rfl (fun _ => rfl) (fun _ => rfl) ?_
  refine j_aload_n 219 dX12_init_218 rfl rfl 0 rfl ?_
  refine j_bipush (v := (7 : Int32)) 221 dX12_init_219 rfl (by decide) ?_
  refine j_nwI (N := 7) 223 dX12_init_221 rfl wm170 (by decide) (by decide) (by decide) ?_
  refine j_putF 226 dX12_init_223 rfl (jm_pre (jm_pre (jm_pre ht))) cl12 (k := 43) (by decide) flX12_89 rfl rfl rfl rfl (fun _ => rfl) (fun _ => rfl) ?_
  refine j_aload_n 227 dX12_init_226 rfl rfl 0 rfl ?_
  refine j_bipush (v := (7 : Int32)) 229 dX12_init_227 rfl (by decide) ?_
  refine j_nwI (N := 7) 231 dX12_init_229 rfl wm170 (by decide) (by decide) (by decide) ?_
  refine j_putF 234 dX12_init_231 rfl (jm_pre (jm_pre (jm_pre (jm_pre ht)))) cl12 (k := 44) (by decide) flX12_92 rfl rfl rfl rfl (fun _ => rfl) (fun _ => rfl) ?_
  exact kX12_init_234   (jm_pre (jm_pre (jm_pre (jm_pre ht))))  _  h
def fX12_init_170 (t : Nat) (I : JI) (G : JG) (S : JS) : Option (JI × JG × JS) :=
  fX12_init_202 t (j_clr (j_clr (j_clr (j_clr I (S).length 0) ((S ++ [(20, 7)])).length 0) (((S ++ [(20, 7)]) ++ [(20, 7)])).length 0) ((((S ++ [(20, 7)]) ++ [(20, 7)]) ++ [(20, 7)])).length 0) (j_up (j_up (j_up (j_up G t 37 (some (S).length)) t 38 (some ((S ++ [(20, 7)])).length)) t 39 (some (((S ++ [(20, 7)]) ++ [(20, 7)])).length)) t 40 (some ((((S ++ [(20, 7)]) ++ [(20, 7)]) ++ [(20, 7)])).length)) ((((S ++ [(20, 7)]) ++ [(20, 7)]) ++ [(20, 7)]) ++ [(20, 7)])
set_option maxHeartbeats 4000000 in
set_option maxRecDepth 100000 in
theorem kX12_init_170 {E : JE} {t : Nat} {r : JI × JG × JS} {L : JL} {D : JG} {G : JG} {S : JS}  (ht : S[t]? = some (12, 98)) : ∀ (I : JI), fX12_init_170 t I G S = some r → AtJ E xX12_init (Zr E none r.1 L r.2.1 D r.2.2) ((r.2.2).length, jm_sl r.2.2) 1 170 [(0, .ref (E.1 + t))] [] I L G D S := by
  intro I  h
  unfold fX12_init_170 at h
  refine j_aload_n 171 dX12_init_170 rfl rfl 0 rfl ?_
  refine j_bipush (v := (7 : Int32)) 173 dX12_init_171 rfl (by decide) ?_
  refine j_nwI (N := 7) 175 dX12_init_173 rfl wm170 (by decide) (by decide) (by decide) ?_
  refine j_putF 178 dX12_init_175 rfl (jm_pre ht) cl12 (k := 37) (by decide) flX12_71 rfl rfl rfl rfl (fun _ => rfl) (fun _ => rfl) ?_
  refine j_aload_n 179 dX12_init_178 rfl rfl 0 rfl ?_
  refine j_bipush (v := (7 : Int32)) 181 dX12_init_179 rfl (by decide) ?_
  refine j_nwI (N := 7) 183 dX12_init_181 rfl wm170 (by decide) (by decide) (by decide) ?_
  refine j_putF 186 dX12_init_183 rfl (jm_pre (jm_pre ht)) cl12 (k := 38) (by decide) flX12_74 rfl rfl rfl rfl (fun _ => rfl) (fun _ => rfl) ?_
  refine j_aload_n 187 dX12_init_186 rfl rfl 0 rfl ?_
  refine j_bipush (v := (7 : Int32)) 189 dX12_init_187 rfl (by decide) ?_
  refine j_nwI (N := 7) 191 dX12_init_189 rfl wm170 (by decide) (by decide) (by decide) ?_
  refine j_putF 194 dX12_init_191 rfl (jm_pre (jm_pre (jm_pre ht))) cl12 (k := 39) (by decide) flX12_77 rfl rfl rfl rfl (fun _ => rfl) (fun _ => rfl) ?_
  refine j_aload_n 195 dX12_init_194 rfl rfl 0 rfl ?_
  refine j_bipush (v := (7 : Int32)) 197 dX12_init_195 rfl (by decide) ?_
  refine j_nwI (N := 7) 199 dX12_init_197 rfl wm170 (by decide) (by decide) (by decide) ?_
  refine j_putF 202 dX12_init_199 rfl (jm_pre (jm_pre (jm_pre (jm_pre ht)))) cl12 (k := 40) (by decide) flX12_80 rfl rfl rfl rfl (fun _ => rfl) (fun _ => rfl) ?_
  exact kX12_init_202   (jm_pre (jm_pre (jm_pre (jm_pre ht))))  _  h
def fX12_init_137 (t : Nat) (I : JI) (G : JG) (S : JS) : Option (JI × JG × JS) :=
  fX12_init_170 t (j_clr (j_clr (j_clr (j_clr I (S).length 0) ((S ++ [(20, 2000)])).length 0) (((S ++ [(20, 2000)]) ++ [(20, 7)])).length 0) ((((S ++ [(20, 2000)]) ++ [(20, 7)]) ++ [(21, 7)])).length 0) (j_up (j_up (j_up (j_up G t 27 (some (S).length)) t 31 (some ((S ++ [(20, 2000)])).length)) t 32 (some (((S ++ [(20, 2000)]) ++ [(20, 7)])).length)) t 36 (some ((((S ++ [(20, 2000)]) ++ [(20, 7)]) ++ [(21, 7)])).length)) ((((S ++ [(20, 2000)]) ++ [(20, 7)]) ++ [(21, 7)]) ++ [(20, 7)])
set_option maxHeartbeats 4000000 in
set_option maxRecDepth 100000 in
theorem kX12_init_137 {E : JE} {t : Nat} {r : JI × JG × JS} {L : JL} {D : JG} {G : JG} {S : JS}  (ht : S[t]? = some (12, 98)) : ∀ (I : JI), fX12_init_137 t I G S = some r → AtJ E xX12_init (Zr E none r.1 L r.2.1 D r.2.2) ((r.2.2).length, jm_sl r.2.2) 1 137 [(0, .ref (E.1 + t))] [] I L G D S := by
  intro I  h
  unfold fX12_init_137 at h
  refine j_aload_n 138 dX12_init_137 rfl rfl 0 rfl ?_
  refine j_sipush (v := (2000 : Int32)) 141 dX12_init_138 rfl (by decide) ?_
  refine j_nwI (N := 2000) 143 dX12_init_141 rfl wm170 (by decide) (by decide) (by decide) ?_
  refine j_putF 146 dX12_init_143 rfl (jm_pre ht) cl12 (k := 27) (by decide) flX12_59 rfl rfl rfl rfl (fun _ => rfl) (fun _ => rfl) ?_
  refine j_aload_n 147 dX12_init_146 rfl rfl 0 rfl ?_
  refine j_bipush (v := (7 : Int32)) 149 dX12_init_147 rfl (by decide) ?_
  refine j_nwI (N := 7) 151 dX12_init_149 rfl wm170 (by decide) (by decide) (by decide) ?_
  refine j_putF 154 dX12_init_151 rfl (jm_pre (jm_pre ht)) cl12 (k := 31) (by decide) flX12_62 rfl rfl rfl rfl (fun _ => rfl) (fun _ => rfl) ?_
  refine j_aload_n 155 dX12_init_154 rfl rfl 0 rfl ?_
  refine j_bipush (v := (7 : Int32)) 157 dX12_init_155 rfl (by decide) ?_
  refine j_nwZ (N := 7) 159 dX12_init_157 rfl wm593 (by decide) (by decide) (by decide) ?_
  refine j_putF 162 dX12_init_159 rfl (jm_pre (jm_pre (jm_pre ht))) cl12 (k := 32) (by decide) flX12_65 rfl rfl rfl rfl (fun _ => rfl) (fun _ => rfl) ?_
  refine j_aload_n 163 dX12_init_162 rfl rfl 0 rfl ?_
  refine j_bipush (v := (7 : Int32)) 165 dX12_init_163 rfl (by decide) ?_
  refine j_nwI (N := 7) 167 dX12_init_165 rfl wm170 (by decide) (by decide) (by decide) ?_
  refine j_putF 170 dX12_init_167 rfl (jm_pre (jm_pre (jm_pre (jm_pre ht)))) cl12 (k := 36) (by decide) flX12_68 rfl rfl rfl rfl (fun _ => rfl) (fun _ => rfl) ?_
  exact kX12_init_170   (jm_pre (jm_pre (jm_pre (jm_pre ht))))  _  h
def fX12_init_105 (t : Nat) (I : JI) (G : JG) (S : JS) : Option (JI × JG × JS) :=
  fX12_init_137 t (j_clr (j_clr (j_clr (j_clr I (S).length 0) ((S ++ [(20, 36)])).length 0) (((S ++ [(20, 36)]) ++ [(21, 36)])).length 0) ((((S ++ [(20, 36)]) ++ [(21, 36)]) ++ [(20, 36)])).length 0) (j_up (j_up (j_up (j_up G t 23 (some (S).length)) t 24 (some ((S ++ [(20, 36)])).length)) t 25 (some (((S ++ [(20, 36)]) ++ [(21, 36)])).length)) t 26 (some ((((S ++ [(20, 36)]) ++ [(21, 36)]) ++ [(20, 36)])).length)) ((((S ++ [(20, 36)]) ++ [(21, 36)]) ++ [(20, 36)]) ++ [(20, 36)])
set_option maxHeartbeats 4000000 in
set_option maxRecDepth 100000 in
theorem kX12_init_105 {E : JE} {t : Nat} {r : JI × JG × JS} {L : JL} {D : JG} {G : JG} {S : JS}  (ht : S[t]? = some (12, 98)) : ∀ (I : JI), fX12_init_105 t I G S = some r → AtJ E xX12_init (Zr E none r.1 L r.2.1 D r.2.2) ((r.2.2).length, jm_sl r.2.2) 1 105 [(0, .ref (E.1 + t))] [] I L G D S := by
  intro I  h
  unfold fX12_init_105 at h
  refine j_aload_n 106 dX12_init_105 rfl rfl 0 rfl ?_
  refine j_bipush (v := (36 : Int32)) 108 dX12_init_106 rfl (by decide) ?_
  refine j_nwI (N := 36) 110 dX12_init_108 rfl wm170 (by decide) (by decide) (by decide) ?_
  refine j_putF 113 dX12_init_110 rfl (jm_pre ht) cl12 (k := 23) (by decide) flX12_47 rfl rfl rfl rfl (fun _ => rfl) (fun _ => rfl) ?_
  refine j_aload_n 114 dX12_init_113 rfl rfl 0 rfl ?_
  refine j_bipush (v := (36 : Int32)) 116 dX12_init_114 rfl (by decide) ?_
  refine j_nwZ (N := 36) 118 dX12_init_116 rfl wm593 (by decide) (by decide) (by decide) ?_
  refine j_putF 121 dX12_init_118 rfl (jm_pre (jm_pre ht)) cl12 (k := 24) (by decide) flX12_50 rfl rfl rfl rfl (fun _ => rfl) (fun _ => rfl) ?_
  refine j_aload_n 122 dX12_init_121 rfl rfl 0 rfl ?_
  refine j_bipush (v := (36 : Int32)) 124 dX12_init_122 rfl (by decide) ?_
  refine j_nwI (N := 36) 126 dX12_init_124 rfl wm170 (by decide) (by decide) (by decide) ?_
  refine j_putF 129 dX12_init_126 rfl (jm_pre (jm_pre (jm_pre ht))) cl12 (k := 25) (by decide) flX12_53 rfl rfl rfl rfl (fun _ => rfl) (fun _ => rfl) ?_
  refine j_aload_n 130 dX12_init_129 rfl rfl 0 rfl ?_
  refine j_bipush (v := (36 : Int32)) 132 dX12_init_130 rfl (by decide) ?_
  refine j_nwI (N := 36) 134 dX12_init_132 rfl wm170 (by decide) (by decide) (by decide) ?_
  refine j_putF 137 dX12_init_134 rfl (jm_pre (jm_pre (jm_pre (jm_pre ht)))) cl12 (k := 26) (by decide) flX12_56 rfl rfl rfl rfl (fun _ => rfl) (fun _ => rfl) ?_
  exact kX12_init_137   (jm_pre (jm_pre (jm_pre (jm_pre ht))))  _  h
def fX12_init_73 (t : Nat) (I : JI) (G : JG) (S : JS) : Option (JI × JG × JS) :=
  fX12_init_105 t (j_clr (j_clr (j_clr (j_clr I (S).length 0) ((S ++ [(20, 36)])).length 0) (((S ++ [(20, 36)]) ++ [(21, 36)])).length 0) ((((S ++ [(20, 36)]) ++ [(21, 36)]) ++ [(20, 36)])).length 0) (j_up (j_up (j_up (j_up G t 19 (some (S).length)) t 20 (some ((S ++ [(20, 36)])).length)) t 21 (some (((S ++ [(20, 36)]) ++ [(21, 36)])).length)) t 22 (some ((((S ++ [(20, 36)]) ++ [(21, 36)]) ++ [(20, 36)])).length)) ((((S ++ [(20, 36)]) ++ [(21, 36)]) ++ [(20, 36)]) ++ [(20, 36)])
set_option maxHeartbeats 4000000 in
set_option maxRecDepth 100000 in
theorem kX12_init_73 {E : JE} {t : Nat} {r : JI × JG × JS} {L : JL} {D : JG} {G : JG} {S : JS}  (ht : S[t]? = some (12, 98)) : ∀ (I : JI), fX12_init_73 t I G S = some r → AtJ E xX12_init (Zr E none r.1 L r.2.1 D r.2.2) ((r.2.2).length, jm_sl r.2.2) 1 73 [(0, .ref (E.1 + t))] [] I L G D S := by
  intro I  h
  unfold fX12_init_73 at h
  refine j_aload_n 74 dX12_init_73 rfl rfl 0 rfl ?_
  refine j_bipush (v := (36 : Int32)) 76 dX12_init_74 rfl (by decide) ?_
  refine j_nwI (N := 36) 78 dX12_init_76 rfl wm170 (by decide) (by decide) (by decide) ?_
  refine j_putF 81 dX12_init_78 rfl (jm_pre ht) cl12 (k := 19) (by decide) flX12_35 rfl rfl rfl rfl (fun _ => rfl) (fun _ => rfl) ?_
  refine j_aload_n 82 dX12_init_81 rfl rfl 0 rfl ?_
  refine j_bipush (v := (36 : Int32)) 84 dX12_init_82 rfl (by decide) ?_
  refine j_nwZ (N := 36) 86 dX12_init_84 rfl wm593 (by decide) (by decide) (by decide) ?_
  refine j_putF 89 dX12_init_86 rfl (jm_pre (jm_pre ht)) cl12 (k := 20) (by decide) flX12_38 rfl rfl rfl rfl (fun _ => rfl) (fun _ => rfl) ?_
  refine j_aload_n 90 dX12_init_89 rfl rfl 0 rfl ?_
  refine j_bipush (v := (36 : Int32)) 92 dX12_init_90 rfl (by decide) ?_
  refine j_nwI (N := 36) 94 dX12_init_92 rfl wm170 (by decide) (by decide) (by decide) ?_
  refine j_putF 97 dX12_init_94 rfl (jm_pre (jm_pre (jm_pre ht))) cl12 (k := 21) (by decide) flX12_41 rfl rfl rfl rfl (fun _ => rfl) (fun _ => rfl) ?_
  refine j_aload_n 98 dX12_init_97 rfl rfl 0 rfl ?_
  refine j_bipush (v := (36 : Int32)) 100 dX12_init_98 rfl (by decide) ?_
  refine j_nwI (N := 36) 102 dX12_init_100 rfl wm170 (by decide) (by decide) (by decide) ?_
  refine j_putF 105 dX12_init_102 rfl (jm_pre (jm_pre (jm_pre (jm_pre ht)))) cl12 (k := 22) (by decide) flX12_44 rfl rfl rfl rfl (fun _ => rfl) (fun _ => rfl) ?_
  exact kX12_init_105   (jm_pre (jm_pre (jm_pre (jm_pre ht))))  _  h
def fX12_init_39 (t : Nat) (I : JI) (G : JG) (S : JS) : Option (JI × JG × JS) :=
  fX12_init_73 t (j_clr (j_clr (j_clr (j_clr I (S).length 0) ((S ++ [(20, 256)])).length 0) (((S ++ [(20, 256)]) ++ [(21, 16)])).length 0) ((((S ++ [(20, 256)]) ++ [(21, 16)]) ++ [(21, 16)])).length 0) (j_up (j_up (j_up (j_up G t 5 (some (S).length)) t 6 (some ((S ++ [(20, 256)])).length)) t 7 (some (((S ++ [(20, 256)]) ++ [(21, 16)])).length)) t 10 (some ((((S ++ [(20, 256)]) ++ [(21, 16)]) ++ [(21, 16)])).length)) ((((S ++ [(20, 256)]) ++ [(21, 16)]) ++ [(21, 16)]) ++ [(20, 1000)])
set_option maxHeartbeats 4000000 in
set_option maxRecDepth 100000 in
theorem kX12_init_39 {E : JE} {t : Nat} {r : JI × JG × JS} {L : JL} {D : JG} {G : JG} {S : JS}  (ht : S[t]? = some (12, 98)) : ∀ (I : JI), fX12_init_39 t I G S = some r → AtJ E xX12_init (Zr E none r.1 L r.2.1 D r.2.2) ((r.2.2).length, jm_sl r.2.2) 1 39 [(0, .ref (E.1 + t))] [] I L G D S := by
  intro I  h
  unfold fX12_init_39 at h
  refine j_aload_n 40 dX12_init_39 rfl rfl 0 rfl ?_
  refine j_sipush (v := (256 : Int32)) 43 dX12_init_40 rfl (by decide) ?_
  refine j_nwI (N := 256) 45 dX12_init_43 rfl wm170 (by decide) (by decide) (by decide) ?_
  refine j_putF 48 dX12_init_45 rfl (jm_pre ht) cl12 (k := 5) (by decide) flX12_23 rfl rfl rfl rfl (fun _ => rfl) (fun _ => rfl) ?_
  refine j_aload_n 49 dX12_init_48 rfl rfl 0 rfl ?_
  refine j_bipush (v := (16 : Int32)) 51 dX12_init_49 rfl (by decide) ?_
  refine j_nwZ (N := 16) 53 dX12_init_51 rfl wm593 (by decide) (by decide) (by decide) ?_
  refine j_putF 56 dX12_init_53 rfl (jm_pre (jm_pre ht)) cl12 (k := 6) (by decide) flX12_26 rfl rfl rfl rfl (fun _ => rfl) (fun _ => rfl) ?_
  refine j_aload_n 57 dX12_init_56 rfl rfl 0 rfl ?_
  refine j_bipush (v := (16 : Int32)) 59 dX12_init_57 rfl (by decide) ?_
  refine j_nwZ (N := 16) 61 dX12_init_59 rfl wm593 (by decide) (by decide) (by decide) ?_
  refine j_putF 64 dX12_init_61 rfl (jm_pre (jm_pre (jm_pre ht))) cl12 (k := 7) (by decide) flX12_29 rfl rfl rfl rfl (fun _ => rfl) (fun _ => rfl) ?_
  refine j_aload_n 65 dX12_init_64 rfl rfl 0 rfl ?_
  refine j_sipush (v := (1000 : Int32)) 68 dX12_init_65 rfl (by decide) ?_
  refine j_nwI (N := 1000) 70 dX12_init_68 rfl wm170 (by decide) (by decide) (by decide) ?_
  refine j_putF 73 dX12_init_70 rfl (jm_pre (jm_pre (jm_pre (jm_pre ht)))) cl12 (k := 10) (by decide) flX12_32 rfl rfl rfl rfl (fun _ => rfl) (fun _ => rfl) ?_
  exact kX12_init_73   (jm_pre (jm_pre (jm_pre (jm_pre ht))))  _  h
def fX12_init (t : Nat) (I : JI) (G : JG) (S : JS) : Option (JI × JG × JS) :=
  fX12_init_39 t (j_clr (j_clr (j_clr (j_clr I (S).length 0) ((S ++ [(21, 12)])).length 0) (((S ++ [(21, 12)]) ++ [(20, 192)])).length 0) ((((S ++ [(21, 12)]) ++ [(20, 192)]) ++ [(20, 144)])).length 0) (j_up (j_up (j_up (j_up G t 1 (some (S).length)) t 2 (some ((S ++ [(21, 12)])).length)) t 3 (some (((S ++ [(21, 12)]) ++ [(20, 192)])).length)) t 4 (some ((((S ++ [(21, 12)]) ++ [(20, 192)]) ++ [(20, 144)])).length)) ((((S ++ [(21, 12)]) ++ [(20, 192)]) ++ [(20, 144)]) ++ [(21, 144)])
set_option maxHeartbeats 4000000 in
set_option maxRecDepth 100000 in
theorem tcX12_init {E : JE} {t : Nat} {r : JI × JG × JS} {I : JI} {L : JL} {G D : JG} {S : JS} (ht : S[t]? = some (12, 98)) (h : fX12_init t I G S = some r) : CallJ E xX12_init 1 [.ref (E.1 + t)] I L G D S none r.1 L r.2.1 D r.2.2 := by
  unfold fX12_init at h
  refine j_entry (by decide) (Nat.le_of_ble_eq_true rfl) ?_
  show AtJ E xX12_init (Zr E none r.1 L r.2.1 D r.2.2) ((r.2.2).length, jm_sl r.2.2) 1 0 [(0, .ref (E.1 + t))] [] I L G D S
  refine j_aload_n 1 dX12_init_0 rfl rfl 0 rfl ?_
  refine j_obj 4 dX12_init_1 rfl flX12_1 wm117 wm118 (by decide) (Nat.le_of_ble_eq_true rfl) ?_
  refine j_aload_n 5 dX12_init_4 rfl rfl 0 rfl ?_
  refine j_bipush (v := (12 : Int32)) 7 dX12_init_5 rfl (by decide) ?_
  refine j_nwZ (N := 12) 9 dX12_init_7 rfl wm593 (by decide) (by decide) (by decide) ?_
  refine j_putF 12 dX12_init_9 rfl (jm_pre ht) cl12 (k := 1) (by decide) flX12_7 rfl rfl rfl rfl (fun _ => rfl) (fun _ => rfl) ?_
  refine j_aload_n 13 dX12_init_12 rfl rfl 0 rfl ?_
  refine j_sipush (v := (192 : Int32)) 16 dX12_init_13 rfl (by decide) ?_
  refine j_nwI (N := 192) 18 dX12_init_16 rfl wm170 (by decide) (by decide) (by decide) ?_
  refine j_putF 21 dX12_init_18 rfl (jm_pre (jm_pre ht)) cl12 (k := 2) (by decide) flX12_13 rfl rfl rfl rfl (fun _ => rfl) (fun _ => rfl) ?_
  refine j_aload_n 22 dX12_init_21 rfl rfl 0 rfl ?_
  refine j_sipush (v := (144 : Int32)) 25 dX12_init_22 rfl (by decide) ?_
  refine j_nwI (N := 144) 27 dX12_init_25 rfl wm170 (by decide) (by decide) (by decide) ?_
  refine j_putF 30 dX12_init_27 rfl (jm_pre (jm_pre (jm_pre ht))) cl12 (k := 3) (by decide) flX12_17 rfl rfl rfl rfl (fun _ => rfl) (fun _ => rfl) ?_
  refine j_aload_n 31 dX12_init_30 rfl rfl 0 rfl ?_
  refine j_sipush (v := (144 : Int32)) 34 dX12_init_31 rfl (by decide) ?_
  refine j_nwZ (N := 144) 36 dX12_init_34 rfl wm593 (by decide) (by decide) (by decide) ?_
  refine j_putF 39 dX12_init_36 rfl (jm_pre (jm_pre (jm_pre (jm_pre ht)))) cl12 (k := 4) (by decide) flX12_20 rfl rfl rfl rfl (fun _ => rfl) (fun _ => rfl) ?_
  exact kX12_init_39   (jm_pre (jm_pre (jm_pre (jm_pre ht))))  _  h
