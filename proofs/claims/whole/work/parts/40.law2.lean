/-! ===== the law's cases: one argument, none ===== -/
theorem lw_same {G : hv_G} {J J2 hX hM : hv} {oa : Nat} {v : Int64} (leX : hv_le (hv_j hX (hv_out G oa v)) J) (dX : hv_dis hX (hv_out G oa v)) (leM : hv_le hM J) (dM : hv_dis (hv_j hX (hv_out G oa v)) hM) (hf : hv_fr J hX hX J2) : hv_le (hv_j hX (hv_out G oa v)) J2 ∧ hv_dis hX (hv_out G oa v) ∧ hv_le hM J2 ∧ hv_dis (hv_j hX (hv_out G oa v)) hM := by
  have h1 := hf.2 hM leM (fun a ha => dM a (by
    cases h : hX a with
    | none => exact absurd h ha
    | some e => exact hv_nn (hv_j_l h)))
  have h2 := hf.2 (hv_out G oa v) (fun a e ha => leX a e (hv_j_b dX ha)) dX
  refine ⟨fun a e ha => ?_, dX, h1.1, dM⟩
  cases h : hX a with
  | some e2 => rw [hv_j_l h] at ha; exact hf.1 a e (by rw [h]; exact ha)
  | none => rw [hv_j_r h] at ha; exact h2.1 a e ha
set_option maxHeartbeats 4000000 in
set_option maxRecDepth 100000 in
theorem lc_giveForm {p : Program} {l : Launch} {e : Env} {s : State} {m : MethodId} {below : List Frame} {meth : Method} {c : Code} {H : Heap} {locs : List Loc} {cells slots : Nat} {Q : State → Prop} {b L : Nat} {xs : Nat → Int32} {ls : Array Slot} {G : hv_G} {x o oa : Nat} {md : Nat → Nat} {i : Int32} {p1 : Int32} (hlt : l.stackTraces = false) (S : lw_S p s m meth c b L xs G) (h1 : vp_in (i + 1) L) (e1 : xs (i + 1).toNatClampNeg = p1) (V : lw_I G s x o oa md H locs) (hl : lv_has ls 7 [(0, .ref b), (1, .ref x), (2, .ref o), (3, .ref oa), (4, .int i)]) (hc : cells + 600 ≤ 601024) (hs : slots + 3000 ≤ 7293034) (K : lw_K p l e s m below meth c b G x o oa md i (cells + 600) (slots + 3000) Q) : W p l e room_1 s m #[Value.ref b] below meth c H locs cells slots Q (F0 m 428 ls []) := by
  have C := S.1
  obtain ⟨J, hX, hM, v, th, I, leX, leM, dM, dX, ad, n, d, dy, rf, ar, fm, po, ex, hD, hM2, R⟩ := V
  subst ex
  refine lv_aload_n C.1 C.2.1 dL_law_428 rfl (lv_at hl 1 rfl) ?_
  refine lw_arg S I hl 0 4 rfl rfl (w := 1) (by decide) h1 e1 dL_law_429 dL_law_430 dL_law_432 dL_law_433 dL_law_434 ?_
  refine lv_aload_n C.1 C.2.1 dL_law_435 rfl (lv_at hl 3 rfl) ?_
  refine hv_sxi I leX (vx_runSX (As := [.ref (ad 0 0), .int p1, .ref oa]) (rest := []) C.fix (c_L_giveForm l hlt G hX _ hD p1 R.1.1 oa v dX) (vx_cwSW 3 C.2.2.2.2.1 gL_law_L_giveForm rfl rfl rfl (by decide +kernel) ⟨Nat.le_of_ble_eq_true rfl, Nat.le_of_ble_eq_true rfl⟩) (hv_preS C (I.sub leX)) rfl rfl hl.1 rfl (lv_room (Nat.le_of_ble_eq_true rfl)) dL_law_436 ⟨by show _ ≤ 601024; omega, by show _ ≤ 7293034; omega⟩) (fun r u J2 H locs hp hf I => ?_)
  obtain ⟨uX, v2, eu, dX2, Wd⟩ := hp
  subst eu
  obtain ⟨leX2, fr⟩ := hf
  obtain ⟨leM2, dM2⟩ := fr hM leM dM
  refine lv_istore (lv' := [(5, .int r), (0, .ref b), (1, .ref (ad 0 0)), (2, .ref o), (3, .ref oa), (4, .int i)]) C.1 C.2.1 dL_law_439 hl (by decide) rfl (fun ls hl => ?_)
  refine lv_aload_n C.1 C.2.1 dL_law_441 rfl (lv_at hl 3 rfl) ?_
  refine lw_arg S I hl 1 5 rfl rfl (w := 1) (by decide) h1 e1 dL_law_442 dL_law_443 dL_law_445 dL_law_446 dL_law_447 ?_
  refine hv_ski I leM2 (va_runV (As := [.int p1]) (rest := []) C.fix (c_X5_giveForm l G hM _ hM2 p1 R.1.1) (cwV 1 C.2.2.2.2.1 gL_law_X5_giveForm rfl rfl rfl (by decide +kernel) ⟨Nat.le_of_ble_eq_true rfl, Nat.le_of_ble_eq_true rfl⟩) (hv_preV C (I.sub leM2) hM2.1 (r := (RX5, TX5, 21)) rfl) rfl rfl hl.1 rfl (lv_room (Nat.le_of_ble_eq_true rfl)) dL_law_448 ⟨by show _ ≤ 601024; omega, by show _ ≤ 7293034; omega⟩) (fun bb uM J3 H locs hp2 hf2 I => ?_)
  obtain ⟨leM3, fr2⟩ := hf2
  obtain ⟨leX3, dM3⟩ := fr2 _ leX2 (hv_dis_symm dM2)
  refine lv_istore (lv' := [(6, .int bb), (5, .int r), (0, .ref b), (1, .ref (ad 0 0)), (2, .ref o), (3, .ref oa), (4, .int i)]) C.1 C.2.1 dL_law_451 hl (by decide) rfl (fun ls hl => ?_)
  obtain ⟨LS, ev⟩ := case_giveForm hD R Wd hp2
  exact lw_tail S I leX3 leM3 (hv_dis_symm dM3) dX2 LS ev hl (by omega) (by omega) hc hs (by decide) dL_law_453 dL_law_454 dL_law_457 dL_law_459 dL_law_464 dL_law_466 dL_law_469 dL_law_470 dL_law_471 dL_law_472 dL_law_474 dL_law_475 dL_law_476 dL_law_481 K
set_option maxHeartbeats 4000000 in
set_option maxRecDepth 100000 in
theorem lc_pass {p : Program} {l : Launch} {e : Env} {s : State} {m : MethodId} {below : List Frame} {meth : Method} {c : Code} {H : Heap} {locs : List Loc} {cells slots : Nat} {Q : State → Prop} {b L : Nat} {xs : Nat → Int32} {ls : Array Slot} {G : hv_G} {x o oa : Nat} {md : Nat → Nat} {i : Int32} {p1 : Int32} (hlt : l.stackTraces = false) (S : lw_S p s m meth c b L xs G) (h1 : vp_in (i + 1) L) (e1 : xs (i + 1).toNatClampNeg = p1) (V : lw_I G s x o oa md H locs) (hl : lv_has ls 7 [(0, .ref b), (1, .ref x), (2, .ref o), (3, .ref oa), (4, .int i)]) (hc : cells + 600 ≤ 601024) (hs : slots + 3000 ≤ 7293034) (K : lw_K p l e s m below meth c b G x o oa md i (cells + 600) (slots + 3000) Q) : W p l e room_1 s m #[Value.ref b] below meth c H locs cells slots Q (F0 m 484 ls []) := by
  have C := S.1
  obtain ⟨J, hX, hM, v, th, I, leX, leM, dM, dX, ad, n, d, dy, rf, ar, fm, po, ex, hD, hM2, R⟩ := V
  subst ex
  refine lv_aload_n C.1 C.2.1 dL_law_484 rfl (lv_at hl 1 rfl) ?_
  refine lw_arg S I hl 0 4 rfl rfl (w := 1) (by decide) h1 e1 dL_law_485 dL_law_486 dL_law_488 dL_law_489 dL_law_490 ?_
  refine lv_aload_n C.1 C.2.1 dL_law_491 rfl (lv_at hl 3 rfl) ?_
  refine hv_sxi I leX (vx_runSX (As := [.ref (ad 0 0), .int p1, .ref oa]) (rest := []) C.fix (c_L_pass l hlt G hX _ hD p1 R.1.1 oa v dX) (vx_cwSW 3 C.2.2.2.2.1 gL_law_L_pass rfl rfl rfl (by decide +kernel) ⟨Nat.le_of_ble_eq_true rfl, Nat.le_of_ble_eq_true rfl⟩) (hv_preS C (I.sub leX)) rfl rfl hl.1 rfl (lv_room (Nat.le_of_ble_eq_true rfl)) dL_law_492 ⟨by show _ ≤ 601024; omega, by show _ ≤ 7293034; omega⟩) (fun r u J2 H locs hp hf I => ?_)
  obtain ⟨uX, v2, eu, dX2, Wd⟩ := hp
  subst eu
  obtain ⟨leX2, fr⟩ := hf
  obtain ⟨leM2, dM2⟩ := fr hM leM dM
  refine lv_istore (lv' := [(5, .int r), (0, .ref b), (1, .ref (ad 0 0)), (2, .ref o), (3, .ref oa), (4, .int i)]) C.1 C.2.1 dL_law_495 hl (by decide) rfl (fun ls hl => ?_)
  refine lv_aload_n C.1 C.2.1 dL_law_497 rfl (lv_at hl 3 rfl) ?_
  refine lw_arg S I hl 1 5 rfl rfl (w := 1) (by decide) h1 e1 dL_law_498 dL_law_499 dL_law_501 dL_law_502 dL_law_503 ?_
  refine hv_ski I leM2 (va_runV (As := [.int p1]) (rest := []) C.fix (c_X5_pass l G hM _ hM2 p1 R.1.1) (cwV 1 C.2.2.2.2.1 gL_law_X5_pass rfl rfl rfl (by decide +kernel) ⟨Nat.le_of_ble_eq_true rfl, Nat.le_of_ble_eq_true rfl⟩) (hv_preV C (I.sub leM2) hM2.1 (r := (RX5, TX5, 21)) rfl) rfl rfl hl.1 rfl (lv_room (Nat.le_of_ble_eq_true rfl)) dL_law_504 ⟨by show _ ≤ 601024; omega, by show _ ≤ 7293034; omega⟩) (fun bb uM J3 H locs hp2 hf2 I => ?_)
  obtain ⟨leM3, fr2⟩ := hf2
  obtain ⟨leX3, dM3⟩ := fr2 _ leX2 (hv_dis_symm dM2)
  refine lv_istore (lv' := [(6, .int bb), (5, .int r), (0, .ref b), (1, .ref (ad 0 0)), (2, .ref o), (3, .ref oa), (4, .int i)]) C.1 C.2.1 dL_law_507 hl (by decide) rfl (fun ls hl => ?_)
  obtain ⟨LS, ev⟩ := case_pass hD R Wd hp2
  exact lw_tail S I leX3 leM3 (hv_dis_symm dM3) dX2 LS ev hl (by omega) (by omega) hc hs (by decide) dL_law_509 dL_law_510 dL_law_513 dL_law_515 dL_law_520 dL_law_522 dL_law_525 dL_law_526 dL_law_527 dL_law_528 dL_law_530 dL_law_531 dL_law_532 dL_law_537 K
set_option maxHeartbeats 4000000 in
set_option maxRecDepth 100000 in
theorem lc_shares {p : Program} {l : Launch} {e : Env} {s : State} {m : MethodId} {below : List Frame} {meth : Method} {c : Code} {H : Heap} {locs : List Loc} {cells slots : Nat} {Q : State → Prop} {b L : Nat} {xs : Nat → Int32} {ls : Array Slot} {G : hv_G} {x o oa : Nat} {md : Nat → Nat} {i : Int32} {p1 : Int32} (hlt : l.stackTraces = false) (S : lw_S p s m meth c b L xs G) (h1 : vp_in (i + 1) L) (e1 : xs (i + 1).toNatClampNeg = p1) (V : lw_I G s x o oa md H locs) (hl : lv_has ls 7 [(0, .ref b), (1, .ref x), (2, .ref o), (3, .ref oa), (4, .int i)]) (hc : cells + 600 ≤ 601024) (hs : slots + 3000 ≤ 7293034) (K : lw_K p l e s m below meth c b G x o oa md i (cells + 600) (slots + 3000) Q) : W p l e room_1 s m #[Value.ref b] below meth c H locs cells slots Q (F0 m 553 ls []) := by
  have C := S.1
  obtain ⟨J, hX, hM, v, th, I, leX, leM, dM, dX, ad, n, d, dy, rf, ar, fm, po, ex, hD, hM2, R⟩ := V
  subst ex
  refine lv_aload_n C.1 C.2.1 dL_law_553 rfl (lv_at hl 1 rfl) ?_
  refine lw_arg S I hl 0 4 rfl rfl (w := 1) (by decide) h1 e1 dL_law_554 dL_law_555 dL_law_557 dL_law_558 dL_law_559 ?_
  refine lv_aload_n C.1 C.2.1 dL_law_560 rfl (lv_at hl 3 rfl) ?_
  refine hv_sxi I leX (vx_runSX (As := [.ref (ad 0 0), .int p1, .ref oa]) (rest := []) C.fix (c_L_shares l hlt G hX _ hD p1 R.1.1 oa v dX) (vx_cwSW 3 C.2.2.2.2.1 gL_law_L_shares rfl rfl rfl (by decide +kernel) ⟨Nat.le_of_ble_eq_true rfl, Nat.le_of_ble_eq_true rfl⟩) (hv_preS C (I.sub leX)) rfl rfl hl.1 rfl (lv_room (Nat.le_of_ble_eq_true rfl)) dL_law_561 ⟨by show _ ≤ 601024; omega, by show _ ≤ 7293034; omega⟩) (fun r u J2 H locs hp hf I => ?_)
  obtain ⟨uX, v2, eu, dX2, Wd⟩ := hp
  subst eu
  obtain ⟨leX2, fr⟩ := hf
  obtain ⟨leM2, dM2⟩ := fr hM leM dM
  refine lv_istore (lv' := [(5, .int r), (0, .ref b), (1, .ref (ad 0 0)), (2, .ref o), (3, .ref oa), (4, .int i)]) C.1 C.2.1 dL_law_564 hl (by decide) rfl (fun ls hl => ?_)
  refine lv_aload_n C.1 C.2.1 dL_law_566 rfl (lv_at hl 3 rfl) ?_
  refine lw_arg S I hl 1 5 rfl rfl (w := 1) (by decide) h1 e1 dL_law_567 dL_law_568 dL_law_570 dL_law_571 dL_law_572 ?_
  refine hv_ski I leM2 (va_runV (As := [.int p1]) (rest := []) C.fix (c_X5_shares l G hM _ hM2 p1 R.1.1) (cwV 1 C.2.2.2.2.1 gL_law_X5_shares rfl rfl rfl (by decide +kernel) ⟨Nat.le_of_ble_eq_true rfl, Nat.le_of_ble_eq_true rfl⟩) (hv_preV C (I.sub leM2) hM2.1 (r := (RX5, TX5, 21)) rfl) rfl rfl hl.1 rfl (lv_room (Nat.le_of_ble_eq_true rfl)) dL_law_573 ⟨by show _ ≤ 601024; omega, by show _ ≤ 7293034; omega⟩) (fun bb uM J3 H locs hp2 hf2 I => ?_)
  obtain ⟨leM3, fr2⟩ := hf2
  obtain ⟨leX3, dM3⟩ := fr2 _ leX2 (hv_dis_symm dM2)
  refine lv_istore (lv' := [(6, .int bb), (5, .int r), (0, .ref b), (1, .ref (ad 0 0)), (2, .ref o), (3, .ref oa), (4, .int i)]) C.1 C.2.1 dL_law_576 hl (by decide) rfl (fun ls hl => ?_)
  obtain ⟨LS, ev⟩ := case_shares hD R Wd hp2
  exact lw_tail S I leX3 leM3 (hv_dis_symm dM3) dX2 LS ev hl (by omega) (by omega) hc hs (by decide) dL_law_578 dL_law_579 dL_law_582 dL_law_584 dL_law_589 dL_law_591 dL_law_594 dL_law_595 dL_law_596 dL_law_597 dL_law_599 dL_law_600 dL_law_601 dL_law_606 K
set_option maxHeartbeats 4000000 in
set_option maxRecDepth 100000 in
theorem lc_isValid {p : Program} {l : Launch} {e : Env} {s : State} {m : MethodId} {below : List Frame} {meth : Method} {c : Code} {H : Heap} {locs : List Loc} {cells slots : Nat} {Q : State → Prop} {b L : Nat} {xs : Nat → Int32} {ls : Array Slot} {G : hv_G} {x o oa : Nat} {md : Nat → Nat} {i : Int32} {p1 : Int32} (hlt : l.stackTraces = false) (S : lw_S p s m meth c b L xs G) (h1 : vp_in (i + 1) L) (e1 : xs (i + 1).toNatClampNeg = p1) (V : lw_I G s x o oa md H locs) (hl : lv_has ls 7 [(0, .ref b), (1, .ref x), (2, .ref o), (3, .ref oa), (4, .int i)]) (hc : cells + 600 ≤ 601024) (hs : slots + 3000 ≤ 7293034) (K : lw_K p l e s m below meth c b G x o oa md i (cells + 600) (slots + 3000) Q) : W p l e room_1 s m #[Value.ref b] below meth c H locs cells slots Q (F0 m 609 ls []) := by
  have C := S.1
  obtain ⟨J, hX, hM, v, th, I, leX, leM, dM, dX, ad, n, d, dy, rf, ar, fm, po, ex, hD, hM2, R⟩ := V
  subst ex
  refine lv_aload_n C.1 C.2.1 dL_law_609 rfl (lv_at hl 1 rfl) ?_
  refine lw_arg S I hl 0 4 rfl rfl (w := 1) (by decide) h1 e1 dL_law_610 dL_law_611 dL_law_613 dL_law_614 dL_law_615 ?_
  refine lv_aload_n C.1 C.2.1 dL_law_616 rfl (lv_at hl 3 rfl) ?_
  refine hv_sxi I leX (vx_runSX (As := [.ref (ad 0 0), .int p1, .ref oa]) (rest := []) C.fix (c_L_isValid l hlt G hX _ hD p1 R.1.1 oa v dX) (vx_cwSW 3 C.2.2.2.2.1 gL_law_L_isValid rfl rfl rfl (by decide +kernel) ⟨Nat.le_of_ble_eq_true rfl, Nat.le_of_ble_eq_true rfl⟩) (hv_preS C (I.sub leX)) rfl rfl hl.1 rfl (lv_room (Nat.le_of_ble_eq_true rfl)) dL_law_617 ⟨by show _ ≤ 601024; omega, by show _ ≤ 7293034; omega⟩) (fun r u J2 H locs hp hf I => ?_)
  obtain ⟨uX, v2, eu, dX2, Wd⟩ := hp
  subst eu
  obtain ⟨leX2, fr⟩ := hf
  obtain ⟨leM2, dM2⟩ := fr hM leM dM
  refine lv_istore (lv' := [(5, .int r), (0, .ref b), (1, .ref (ad 0 0)), (2, .ref o), (3, .ref oa), (4, .int i)]) C.1 C.2.1 dL_law_620 hl (by decide) rfl (fun ls hl => ?_)
  refine lv_aload_n C.1 C.2.1 dL_law_622 rfl (lv_at hl 3 rfl) ?_
  refine lw_arg S I hl 1 5 rfl rfl (w := 1) (by decide) h1 e1 dL_law_623 dL_law_624 dL_law_626 dL_law_627 dL_law_628 ?_
  refine hv_ski I leM2 (va_runV (As := [.int p1]) (rest := []) C.fix (c_X5_isValid l G hM _ hM2 p1 R.1.1) (cwV 1 C.2.2.2.2.1 gL_law_X5_isValid rfl rfl rfl (by decide +kernel) ⟨Nat.le_of_ble_eq_true rfl, Nat.le_of_ble_eq_true rfl⟩) (hv_preV C (I.sub leM2) hM2.1 (r := (RX5, TX5, 21)) rfl) rfl rfl hl.1 rfl (lv_room (Nat.le_of_ble_eq_true rfl)) dL_law_629 ⟨by show _ ≤ 601024; omega, by show _ ≤ 7293034; omega⟩) (fun bb uM J3 H locs hp2 hf2 I => ?_)
  obtain ⟨leM3, fr2⟩ := hf2
  obtain ⟨leX3, dM3⟩ := fr2 _ leX2 (hv_dis_symm dM2)
  refine lv_istore (lv' := [(6, .int bb), (5, .int r), (0, .ref b), (1, .ref (ad 0 0)), (2, .ref o), (3, .ref oa), (4, .int i)]) C.1 C.2.1 dL_law_632 hl (by decide) rfl (fun ls hl => ?_)
  obtain ⟨LS, ev⟩ := case_isValid hD R Wd hp2
  exact lw_tailB S I leX3 leM3 (hv_dis_symm dM3) dX2 LS ev hl (by omega) (by omega) hc hs (by decide) dL_law_634 dL_law_635 dL_law_638 dL_law_640 dL_law_645 dL_law_647 dL_law_650 dL_law_651 dL_law_652 dL_law_653 dL_law_655 dL_law_658 dL_law_659 dL_law_662 dL_law_663 dL_law_664 dL_law_669 K
set_option maxHeartbeats 4000000 in
set_option maxRecDepth 100000 in
theorem lc_isLarge {p : Program} {l : Launch} {e : Env} {s : State} {m : MethodId} {below : List Frame} {meth : Method} {c : Code} {H : Heap} {locs : List Loc} {cells slots : Nat} {Q : State → Prop} {b L : Nat} {xs : Nat → Int32} {ls : Array Slot} {G : hv_G} {x o oa : Nat} {md : Nat → Nat} {i : Int32} {p1 : Int32} (hlt : l.stackTraces = false) (S : lw_S p s m meth c b L xs G) (h1 : vp_in (i + 1) L) (e1 : xs (i + 1).toNatClampNeg = p1) (V : lw_I G s x o oa md H locs) (hl : lv_has ls 7 [(0, .ref b), (1, .ref x), (2, .ref o), (3, .ref oa), (4, .int i)]) (hc : cells + 600 ≤ 601024) (hs : slots + 3000 ≤ 7293034) (K : lw_K p l e s m below meth c b G x o oa md i (cells + 600) (slots + 3000) Q) : W p l e room_1 s m #[Value.ref b] below meth c H locs cells slots Q (F0 m 672 ls []) := by
  have C := S.1
  obtain ⟨J, hX, hM, v, th, I, leX, leM, dM, dX, ad, n, d, dy, rf, ar, fm, po, ex, hD, hM2, R⟩ := V
  subst ex
  refine lv_aload_n C.1 C.2.1 dL_law_672 rfl (lv_at hl 1 rfl) ?_
  refine lw_arg S I hl 0 4 rfl rfl (w := 1) (by decide) h1 e1 dL_law_673 dL_law_674 dL_law_676 dL_law_677 dL_law_678 ?_
  refine lv_aload_n C.1 C.2.1 dL_law_679 rfl (lv_at hl 3 rfl) ?_
  refine hv_sxi I leX (vx_runSX (As := [.ref (ad 0 0), .int p1, .ref oa]) (rest := []) C.fix (c_L_isLarge l hlt G hX _ hD p1 R.1.1 oa v dX) (vx_cwSW 3 C.2.2.2.2.1 gL_law_L_isLarge rfl rfl rfl (by decide +kernel) ⟨Nat.le_of_ble_eq_true rfl, Nat.le_of_ble_eq_true rfl⟩) (hv_preS C (I.sub leX)) rfl rfl hl.1 rfl (lv_room (Nat.le_of_ble_eq_true rfl)) dL_law_680 ⟨by show _ ≤ 601024; omega, by show _ ≤ 7293034; omega⟩) (fun r u J2 H locs hp hf I => ?_)
  obtain ⟨uX, v2, eu, dX2, Wd⟩ := hp
  subst eu
  obtain ⟨leX2, fr⟩ := hf
  obtain ⟨leM2, dM2⟩ := fr hM leM dM
  refine lv_istore (lv' := [(5, .int r), (0, .ref b), (1, .ref (ad 0 0)), (2, .ref o), (3, .ref oa), (4, .int i)]) C.1 C.2.1 dL_law_683 hl (by decide) rfl (fun ls hl => ?_)
  refine lv_aload_n C.1 C.2.1 dL_law_685 rfl (lv_at hl 3 rfl) ?_
  refine lw_arg S I hl 1 5 rfl rfl (w := 1) (by decide) h1 e1 dL_law_686 dL_law_687 dL_law_689 dL_law_690 dL_law_691 ?_
  refine hv_ski I leM2 (va_runV (As := [.int p1]) (rest := []) C.fix (c_X5_isLarge l G hM _ hM2 p1 R.1.1) (cwV 1 C.2.2.2.2.1 gL_law_X5_isLarge rfl rfl rfl (by decide +kernel) ⟨Nat.le_of_ble_eq_true rfl, Nat.le_of_ble_eq_true rfl⟩) (hv_preV C (I.sub leM2) hM2.1 (r := (RX5, TX5, 21)) rfl) rfl rfl hl.1 rfl (lv_room (Nat.le_of_ble_eq_true rfl)) dL_law_692 ⟨by show _ ≤ 601024; omega, by show _ ≤ 7293034; omega⟩) (fun bb uM J3 H locs hp2 hf2 I => ?_)
  obtain ⟨leM3, fr2⟩ := hf2
  obtain ⟨leX3, dM3⟩ := fr2 _ leX2 (hv_dis_symm dM2)
  refine lv_istore (lv' := [(6, .int bb), (5, .int r), (0, .ref b), (1, .ref (ad 0 0)), (2, .ref o), (3, .ref oa), (4, .int i)]) C.1 C.2.1 dL_law_695 hl (by decide) rfl (fun ls hl => ?_)
  obtain ⟨LS, ev⟩ := case_isLarge hD R Wd hp2
  exact lw_tailB S I leX3 leM3 (hv_dis_symm dM3) dX2 LS ev hl (by omega) (by omega) hc hs (by decide) dL_law_697 dL_law_698 dL_law_701 dL_law_703 dL_law_708 dL_law_710 dL_law_713 dL_law_714 dL_law_715 dL_law_716 dL_law_718 dL_law_721 dL_law_722 dL_law_725 dL_law_726 dL_law_727 dL_law_732 K
set_option maxHeartbeats 4000000 in
set_option maxRecDepth 100000 in
theorem lc_treatyRate {p : Program} {l : Launch} {e : Env} {s : State} {m : MethodId} {below : List Frame} {meth : Method} {c : Code} {H : Heap} {locs : List Loc} {cells slots : Nat} {Q : State → Prop} {b L : Nat} {xs : Nat → Int32} {ls : Array Slot} {G : hv_G} {x o oa : Nat} {md : Nat → Nat} {i : Int32} {p1 : Int32} (hlt : l.stackTraces = false) (S : lw_S p s m meth c b L xs G) (h1 : vp_in (i + 1) L) (e1 : xs (i + 1).toNatClampNeg = p1) (V : lw_I G s x o oa md H locs) (hl : lv_has ls 7 [(0, .ref b), (1, .ref x), (2, .ref o), (3, .ref oa), (4, .int i)]) (hc : cells + 600 ≤ 601024) (hs : slots + 3000 ≤ 7293034) (K : lw_K p l e s m below meth c b G x o oa md i (cells + 600) (slots + 3000) Q) : W p l e room_1 s m #[Value.ref b] below meth c H locs cells slots Q (F0 m 735 ls []) := by
  have C := S.1
  obtain ⟨J, hX, hM, v, th, I, leX, leM, dM, dX, ad, n, d, dy, rf, ar, fm, po, ex, hD, hM2, R⟩ := V
  subst ex
  refine lv_aload_n C.1 C.2.1 dL_law_735 rfl (lv_at hl 1 rfl) ?_
  refine lw_arg S I hl 0 4 rfl rfl (w := 1) (by decide) h1 e1 dL_law_736 dL_law_737 dL_law_739 dL_law_740 dL_law_741 ?_
  refine lv_aload_n C.1 C.2.1 dL_law_742 rfl (lv_at hl 3 rfl) ?_
  refine hv_sxi I leX (vx_runSX (As := [.ref (ad 0 0), .int p1, .ref oa]) (rest := []) C.fix (c_L_treatyRate l hlt G hX _ hD p1 R.1.1 oa v dX) (vx_cwSW 3 C.2.2.2.2.1 gL_law_L_treatyRate rfl rfl rfl (by decide +kernel) ⟨Nat.le_of_ble_eq_true rfl, Nat.le_of_ble_eq_true rfl⟩) (hv_preS C (I.sub leX)) rfl rfl hl.1 rfl (lv_room (Nat.le_of_ble_eq_true rfl)) dL_law_743 ⟨by show _ ≤ 601024; omega, by show _ ≤ 7293034; omega⟩) (fun r u J2 H locs hp hf I => ?_)
  obtain ⟨uX, v2, eu, dX2, Wd⟩ := hp
  subst eu
  obtain ⟨leX2, fr⟩ := hf
  obtain ⟨leM2, dM2⟩ := fr hM leM dM
  refine lv_istore (lv' := [(5, .int r), (0, .ref b), (1, .ref (ad 0 0)), (2, .ref o), (3, .ref oa), (4, .int i)]) C.1 C.2.1 dL_law_746 hl (by decide) rfl (fun ls hl => ?_)
  refine lv_aload_n C.1 C.2.1 dL_law_748 rfl (lv_at hl 3 rfl) ?_
  refine lw_arg S I hl 1 5 rfl rfl (w := 1) (by decide) h1 e1 dL_law_749 dL_law_750 dL_law_752 dL_law_753 dL_law_754 ?_
  refine hv_ski I leM2 (va_runV (As := [.int p1]) (rest := []) C.fix (c_X5_treatyRate l G hM _ hM2 p1 R.1.1 (Rel_hld R)) (cwV 1 C.2.2.2.2.1 gL_law_X5_treatyRate rfl rfl rfl (by decide +kernel) ⟨Nat.le_of_ble_eq_true rfl, Nat.le_of_ble_eq_true rfl⟩) (hv_preV C (I.sub leM2) hM2.1 (r := (RX5, TX5, 21)) rfl) rfl rfl hl.1 rfl (lv_room (Nat.le_of_ble_eq_true rfl)) dL_law_755 ⟨by show _ ≤ 601024; omega, by show _ ≤ 7293034; omega⟩) (fun bb uM J3 H locs hp2 hf2 I => ?_)
  obtain ⟨leM3, fr2⟩ := hf2
  obtain ⟨leX3, dM3⟩ := fr2 _ leX2 (hv_dis_symm dM2)
  refine lv_istore (lv' := [(6, .int bb), (5, .int r), (0, .ref b), (1, .ref (ad 0 0)), (2, .ref o), (3, .ref oa), (4, .int i)]) C.1 C.2.1 dL_law_758 hl (by decide) rfl (fun ls hl => ?_)
  obtain ⟨LS, ev⟩ := case_treatyRate hD R Wd hp2
  exact lw_tail S I leX3 leM3 (hv_dis_symm dM3) dX2 LS ev hl (by omega) (by omega) hc hs (by decide) dL_law_760 dL_law_761 dL_law_764 dL_law_766 dL_law_771 dL_law_773 dL_law_776 dL_law_777 dL_law_778 dL_law_779 dL_law_781 dL_law_782 dL_law_783 dL_law_788 K
set_option maxHeartbeats 4000000 in
set_option maxRecDepth 100000 in
theorem lc_pay {p : Program} {l : Launch} {e : Env} {s : State} {m : MethodId} {below : List Frame} {meth : Method} {c : Code} {H : Heap} {locs : List Loc} {cells slots : Nat} {Q : State → Prop} {b L : Nat} {xs : Nat → Int32} {ls : Array Slot} {G : hv_G} {x o oa : Nat} {md : Nat → Nat} {i : Int32} {p1 : Int32} (hlt : l.stackTraces = false) (S : lw_S p s m meth c b L xs G) (h1 : vp_in (i + 1) L) (e1 : xs (i + 1).toNatClampNeg = p1) (V : lw_I G s x o oa md H locs) (hl : lv_has ls 7 [(0, .ref b), (1, .ref x), (2, .ref o), (3, .ref oa), (4, .int i)]) (hc : cells + 600 ≤ 601024) (hs : slots + 3000 ≤ 7293034) (K : lw_K p l e s m below meth c b G x o oa md i (cells + 600) (slots + 3000) Q) : W p l e room_1 s m #[Value.ref b] below meth c H locs cells slots Q (F0 m 791 ls []) := by
  have C := S.1
  obtain ⟨J, hX, hM, v, th, I, leX, leM, dM, dX, ad, n, d, dy, rf, ar, fm, po, ex, hD, hM2, R⟩ := V
  subst ex
  refine lv_aload_n C.1 C.2.1 dL_law_791 rfl (lv_at hl 1 rfl) ?_
  refine lw_arg S I hl 0 4 rfl rfl (w := 1) (by decide) h1 e1 dL_law_792 dL_law_793 dL_law_795 dL_law_796 dL_law_797 ?_
  refine lv_aload_n C.1 C.2.1 dL_law_798 rfl (lv_at hl 3 rfl) ?_
  refine hv_sxi I leX (vx_runSX (As := [.ref (ad 0 0), .int p1, .ref oa]) (rest := []) C.fix (c_L_pay l hlt G hX _ hD p1 R.1.1 R.1.2.1 (fun hd => Rel_gz R hd) R.2.2.2.2.1 (hgp_of R) oa v dX) (vx_cwSW 3 C.2.2.2.2.1 gL_law_L_pay rfl rfl rfl (by decide +kernel) ⟨Nat.le_of_ble_eq_true rfl, Nat.le_of_ble_eq_true rfl⟩) (hv_preS C (I.sub leX)) rfl rfl hl.1 rfl (lv_room (Nat.le_of_ble_eq_true rfl)) dL_law_799 ⟨by show _ ≤ 601024; omega, by show _ ≤ 7293034; omega⟩) (fun r u J2 H locs hp hf I => ?_)
  obtain ⟨uX, v2, eu, dX2, Wd⟩ := hp
  subst eu
  obtain ⟨leX2, fr⟩ := hf
  obtain ⟨leM2, dM2⟩ := fr hM leM dM
  refine lv_istore (lv' := [(5, .int r), (0, .ref b), (1, .ref (ad 0 0)), (2, .ref o), (3, .ref oa), (4, .int i)]) C.1 C.2.1 dL_law_802 hl (by decide) rfl (fun ls hl => ?_)
  refine lv_aload_n C.1 C.2.1 dL_law_804 rfl (lv_at hl 3 rfl) ?_
  refine lw_arg S I hl 1 5 rfl rfl (w := 1) (by decide) h1 e1 dL_law_805 dL_law_806 dL_law_808 dL_law_809 dL_law_810 ?_
  refine hv_ski I leM2 (va_runV (As := [.int p1]) (rest := []) C.fix (c_X5_pay l G hM _ hM2 p1 R.1.1 R.1.2.1 (Rel_hld R)) (cwV 1 C.2.2.2.2.1 gL_law_X5_pay rfl rfl rfl (by decide +kernel) ⟨Nat.le_of_ble_eq_true rfl, Nat.le_of_ble_eq_true rfl⟩) (hv_preV C (I.sub leM2) hM2.1 (r := (RX5, TX5, 21)) rfl) rfl rfl hl.1 rfl (lv_room (Nat.le_of_ble_eq_true rfl)) dL_law_811 ⟨by show _ ≤ 601024; omega, by show _ ≤ 7293034; omega⟩) (fun bb uM J3 H locs hp2 hf2 I => ?_)
  obtain ⟨leM3, fr2⟩ := hf2
  obtain ⟨leX3, dM3⟩ := fr2 _ leX2 (hv_dis_symm dM2)
  refine lv_istore (lv' := [(6, .int bb), (5, .int r), (0, .ref b), (1, .ref (ad 0 0)), (2, .ref o), (3, .ref oa), (4, .int i)]) C.1 C.2.1 dL_law_814 hl (by decide) rfl (fun ls hl => ?_)
  obtain ⟨LS, ev⟩ := case_pay hD R Wd hp2
  exact lw_tail S I leX3 leM3 (hv_dis_symm dM3) dX2 LS ev hl (by omega) (by omega) hc hs (by decide) dL_law_816 dL_law_817 dL_law_820 dL_law_822 dL_law_827 dL_law_829 dL_law_832 dL_law_833 dL_law_834 dL_law_835 dL_law_837 dL_law_838 dL_law_839 dL_law_844 K
set_option maxHeartbeats 4000000 in
set_option maxRecDepth 100000 in
theorem lc_day {p : Program} {l : Launch} {e : Env} {s : State} {m : MethodId} {below : List Frame} {meth : Method} {c : Code} {H : Heap} {locs : List Loc} {cells slots : Nat} {Q : State → Prop} {b L : Nat} {xs : Nat → Int32} {ls : Array Slot} {G : hv_G} {x o oa : Nat} {md : Nat → Nat} {i : Int32} (hlt : l.stackTraces = false) (S : lw_S p s m meth c b L xs G) (V : lw_I G s x o oa md H locs) (hl : lv_has ls 7 [(0, .ref b), (1, .ref x), (2, .ref o), (3, .ref oa), (4, .int i)]) (hc : cells + 600 ≤ 601024) (hs : slots + 3000 ≤ 7293034) (K : lw_K p l e s m below meth c b G x o oa md i (cells + 600) (slots + 3000) Q) : W p l e room_1 s m #[Value.ref b] below meth c H locs cells slots Q (F0 m 540 ls []) := by
  have C := S.1
  obtain ⟨J, hX, hM, v, th, I, leX, leM, dM, dX, ad, n, d, dy, rf, ar, fm, po, ex, hD, hM2, R⟩ := V
  subst ex
  refine lv_aload_n C.1 C.2.1 dL_law_540 rfl (lv_at hl 1 rfl) ?_
  refine hv_ski I (hv_le_l leX) (va_runV (As := []) (rest := []) C.fix (c_X4_day l G hX _ hD) (cwV 0 C.2.2.2.2.1 gL_law_X4_day rfl rfl rfl (by decide +kernel) ⟨Nat.le_of_ble_eq_true rfl, Nat.le_of_ble_eq_true rfl⟩) (hv_preV C (I.sub (hv_le_l leX)) (isD_0 hD) (r := (RX4, TX4, 6)) rfl) rfl rfl hl.1 rfl (lv_room (Nat.le_of_ble_eq_true rfl)) dL_law_541 ⟨by show _ ≤ 601024; omega, by show _ ≤ 7293034; omega⟩) (fun r u J2 H locs hp hf I => ?_)
  obtain ⟨e1, e2⟩ := hp
  have e1 := e1.symm
  have e2 := e2.symm
  subst e1
  subst e2
  obtain ⟨leX2, dX2, leM2, dM2⟩ := lw_same leX dX leM dM hf
  refine lv_aload_n C.1 C.2.1 dL_law_544 rfl (lv_at hl 2 rfl) ?_
  refine hv_ski I leM2 (va_runV (As := []) (rest := [.int dy]) C.fix (c_X5_day l G hM _ hM2) (cwV 0 C.2.2.2.2.1 gL_law_X5_day rfl rfl rfl (by decide +kernel) ⟨Nat.le_of_ble_eq_true rfl, Nat.le_of_ble_eq_true rfl⟩) (hv_preV C (I.sub leM2) hM2.1 (r := (RX5, TX5, 21)) rfl) rfl rfl hl.1 rfl (lv_room (Nat.le_of_ble_eq_true rfl)) dL_law_545 ⟨by show _ ≤ 601024; omega, by show _ ≤ 7293034; omega⟩) (fun bb uM J3 H locs hp2 hf2 I => ?_)
  obtain ⟨e3, hM3⟩ := hp2
  have e3 := e3.symm
  subst e3
  obtain ⟨leM3, fr2⟩ := hf2
  obtain ⟨leX3, dM3⟩ := fr2 _ leX2 (hv_dis_symm dM2)
  have fin : ∀ ls : Array Slot, lv_has ls 7 [(0, .ref b), (1, .ref (ad 0 0)), (2, .ref o), (3, .ref oa), (4, .int i)] → W p l e room_1 s m #[Value.ref b] below meth c H locs (cells + 0 + 0) (slots + 0 + 0) Q (F0 m 1228 ls []) := fun ls hl => W.widen (by omega) (by omega) (K H locs ls ⟨J3, hX, uM, v, 0, I, leX3, leM3, hv_dis_symm dM3, dX2, ad, n, d, dy, rf, ar, fm, po, rfl, hD, hM3, R⟩ hl)
  exact lv_icmp_eq (tgt := 1228) C.1 C.2.1 dL_law_548 (by decide) (fun _ => fin ls hl) (fun z => absurd rfl z)
set_option maxHeartbeats 4000000 in
set_option maxRecDepth 100000 in
theorem lc_dividends {p : Program} {l : Launch} {e : Env} {s : State} {m : MethodId} {below : List Frame} {meth : Method} {c : Code} {H : Heap} {locs : List Loc} {cells slots : Nat} {Q : State → Prop} {b L : Nat} {xs : Nat → Int32} {ls : Array Slot} {G : hv_G} {x o oa : Nat} {md : Nat → Nat} {i : Int32} (hlt : l.stackTraces = false) (S : lw_S p s m meth c b L xs G) (V : lw_I G s x o oa md H locs) (hl : lv_has ls 7 [(0, .ref b), (1, .ref x), (2, .ref o), (3, .ref oa), (4, .int i)]) (hc : cells + 600 ≤ 601024) (hs : slots + 3000 ≤ 7293034) (K : lw_K p l e s m below meth c b G x o oa md i (cells + 600) (slots + 3000) Q) : W p l e room_1 s m #[Value.ref b] below meth c H locs cells slots Q (F0 m 847 ls []) := by
  have C := S.1
  obtain ⟨J, hX, hM, v, th, I, leX, leM, dM, dX, ad, n, d, dy, rf, ar, fm, po, ex, hD, hM2, R⟩ := V
  subst ex
  refine lv_aload_n C.1 C.2.1 dL_law_847 rfl (lv_at hl 1 rfl) ?_
  refine hv_ski I (hv_le_l leX) (va_runV (As := []) (rest := []) C.fix (c_X4_dividends l G hX _ hD) (cwV 0 C.2.2.2.2.1 gL_law_X4_dividends rfl rfl rfl (by decide +kernel) ⟨Nat.le_of_ble_eq_true rfl, Nat.le_of_ble_eq_true rfl⟩) (hv_preV C (I.sub (hv_le_l leX)) (isD_0 hD) (r := (RX4, TX4, 6)) rfl) rfl rfl hl.1 rfl (lv_room (Nat.le_of_ble_eq_true rfl)) dL_law_848 ⟨by show _ ≤ 601024; omega, by show _ ≤ 7293034; omega⟩) (fun r u J2 H locs hp hf I => ?_)
  obtain ⟨e1, e2⟩ := hp
  have e1 := e1.symm
  have e2 := e2.symm
  subst e1
  subst e2
  obtain ⟨leX2, dX2, leM2, dM2⟩ := lw_same leX dX leM dM hf
  refine lv_aload_n C.1 C.2.1 dL_law_851 rfl (lv_at hl 2 rfl) ?_
  refine hv_ski I leM2 (va_runV (As := []) (rest := [.int (nI d)]) C.fix (c_X5_dividends l G hM _ hM2) (cwV 0 C.2.2.2.2.1 gL_law_X5_dividends rfl rfl rfl (by decide +kernel) ⟨Nat.le_of_ble_eq_true rfl, Nat.le_of_ble_eq_true rfl⟩) (hv_preV C (I.sub leM2) hM2.1 (r := (RX5, TX5, 21)) rfl) rfl rfl hl.1 rfl (lv_room (Nat.le_of_ble_eq_true rfl)) dL_law_852 ⟨by show _ ≤ 601024; omega, by show _ ≤ 7293034; omega⟩) (fun bb uM J3 H locs hp2 hf2 I => ?_)
  obtain ⟨e3, hM3⟩ := hp2
  have e3 := e3.symm
  subst e3
  obtain ⟨leM3, fr2⟩ := hf2
  obtain ⟨leX3, dM3⟩ := fr2 _ leX2 (hv_dis_symm dM2)
  have fin : ∀ ls : Array Slot, lv_has ls 7 [(0, .ref b), (1, .ref (ad 0 0)), (2, .ref o), (3, .ref oa), (4, .int i)] → W p l e room_1 s m #[Value.ref b] below meth c H locs (cells + 0 + 0) (slots + 0 + 0) Q (F0 m 1228 ls []) := fun ls hl => W.widen (by omega) (by omega) (K H locs ls ⟨J3, hX, uM, v, 0, I, leX3, leM3, hv_dis_symm dM3, dX2, ad, n, d, dy, rf, ar, fm, po, rfl, hD, hM3, R⟩ hl)
  exact lv_icmp_eq (tgt := 1228) C.1 C.2.1 dL_law_855 (by decide) (fun _ => fin ls hl) (fun z => absurd rfl z)
set_option maxHeartbeats 4000000 in
set_option maxRecDepth 100000 in
theorem lc_heldInAll {p : Program} {l : Launch} {e : Env} {s : State} {m : MethodId} {below : List Frame} {meth : Method} {c : Code} {H : Heap} {locs : List Loc} {cells slots : Nat} {Q : State → Prop} {b L : Nat} {xs : Nat → Int32} {ls : Array Slot} {G : hv_G} {x o oa : Nat} {md : Nat → Nat} {i : Int32} (hlt : l.stackTraces = false) (S : lw_S p s m meth c b L xs G) (V : lw_I G s x o oa md H locs) (hl : lv_has ls 7 [(0, .ref b), (1, .ref x), (2, .ref o), (3, .ref oa), (4, .int i)]) (hc : cells + 600 ≤ 601024) (hs : slots + 3000 ≤ 7293034) (K : lw_K p l e s m below meth c b G x o oa md i (cells + 600) (slots + 3000) Q) : W p l e room_1 s m #[Value.ref b] below meth c H locs cells slots Q (F0 m 1064 ls []) := by
  have C := S.1
  obtain ⟨J, hX, hM, v, th, I, leX, leM, dM, dX, ad, n, d, dy, rf, ar, fm, po, ex, hD, hM2, R⟩ := V
  subst ex
  refine lv_aload_n C.1 C.2.1 dL_law_1064 rfl (lv_at hl 1 rfl) ?_
  refine hv_skl I (hv_le_l leX) (va_runV (As := []) (rest := []) C.fix (c_X4_heldInAll l G hX _ hD (Nat.le_refl d) R.1.2.1) (cwV 0 C.2.2.2.2.1 gL_law_X4_heldInAll rfl rfl rfl (by decide +kernel) ⟨Nat.le_of_ble_eq_true rfl, Nat.le_of_ble_eq_true rfl⟩) (hv_preV C (I.sub (hv_le_l leX)) (isD_0 hD) (r := (RX4, TX4, 6)) rfl) rfl rfl hl.1 rfl (lv_room (Nat.le_of_ble_eq_true rfl)) dL_law_1065 ⟨by show _ ≤ 601024; omega, by show _ ≤ 7293034; omega⟩) (fun r u J2 H locs hp hf I => ?_)
  obtain ⟨e1, e2⟩ := hp
  have e1 := e1.symm
  have e2 := e2.symm
  subst e1
  subst e2
  obtain ⟨leX2, dX2, leM2, dM2⟩ := lw_same leX dX leM dM hf
  refine lv_aload_n C.1 C.2.1 dL_law_1068 rfl (lv_at hl 2 rfl) ?_
  refine hv_skl I leM2 (va_runV (As := []) (rest := [.long (hrA (ar 12) (ar 13) d)]) C.fix (c_X5_heldInAll l G hM _ hM2) (cwV 0 C.2.2.2.2.1 gL_law_X5_heldInAll rfl rfl rfl (by decide +kernel) ⟨Nat.le_of_ble_eq_true rfl, Nat.le_of_ble_eq_true rfl⟩) (hv_preV C (I.sub leM2) hM2.1 (r := (RX5, TX5, 21)) rfl) rfl rfl hl.1 rfl (lv_room (Nat.le_of_ble_eq_true rfl)) dL_law_1069 ⟨by show _ ≤ 601024; omega, by show _ ≤ 7293034; omega⟩) (fun bb uM J3 H locs hp2 hf2 I => ?_)
  obtain ⟨e3, hM3⟩ := hp2
  have e3 := e3.symm
  subst e3
  obtain ⟨leM3, fr2⟩ := hf2
  obtain ⟨leX3, dM3⟩ := fr2 _ leX2 (hv_dis_symm dM2)
  have fin : ∀ ls : Array Slot, lv_has ls 7 [(0, .ref b), (1, .ref (ad 0 0)), (2, .ref o), (3, .ref oa), (4, .int i)] → W p l e room_1 s m #[Value.ref b] below meth c H locs (cells + 0 + 0) (slots + 0 + 0) Q (F0 m 1228 ls []) := fun ls hl => W.widen (by omega) (by omega) (K H locs ls ⟨J3, hX, uM, v, 0, I, leX3, leM3, hv_dis_symm dM3, dX2, ad, n, d, dy, rf, ar, fm, po, rfl, hD, hM3, R⟩ hl)
  refine W.lcmp C.1 C.2.1 dL_law_1072 ?_
  exact lv_if_eq (tgt := 1228) C.1 C.2.1 dL_law_1073 (by decide) (fun _ => fin ls hl) (fun z => absurd (by rw [held_all R]; exact lg_cmp_self _) z)
set_option maxHeartbeats 4000000 in
set_option maxRecDepth 100000 in
theorem lc_refunded {p : Program} {l : Launch} {e : Env} {s : State} {m : MethodId} {below : List Frame} {meth : Method} {c : Code} {H : Heap} {locs : List Loc} {cells slots : Nat} {Q : State → Prop} {b L : Nat} {xs : Nat → Int32} {ls : Array Slot} {G : hv_G} {x o oa : Nat} {md : Nat → Nat} {i : Int32} (hlt : l.stackTraces = false) (S : lw_S p s m meth c b L xs G) (V : lw_I G s x o oa md H locs) (hl : lv_has ls 7 [(0, .ref b), (1, .ref x), (2, .ref o), (3, .ref oa), (4, .int i)]) (hc : cells + 600 ≤ 601024) (hs : slots + 3000 ≤ 7293034) (K : lw_K p l e s m below meth c b G x o oa md i (cells + 600) (slots + 3000) Q) : W p l e room_1 s m #[Value.ref b] below meth c H locs cells slots Q (F0 m 1078 ls []) := by
  have C := S.1
  obtain ⟨J, hX, hM, v, th, I, leX, leM, dM, dX, ad, n, d, dy, rf, ar, fm, po, ex, hD, hM2, R⟩ := V
  subst ex
  refine lv_aload_n C.1 C.2.1 dL_law_1078 rfl (lv_at hl 1 rfl) ?_
  refine hv_skl I (hv_le_l leX) (va_runV (As := []) (rest := []) C.fix (c_X4_refunded l G hX _ hD) (cwV 0 C.2.2.2.2.1 gL_law_X4_refunded rfl rfl rfl (by decide +kernel) ⟨Nat.le_of_ble_eq_true rfl, Nat.le_of_ble_eq_true rfl⟩) (hv_preV C (I.sub (hv_le_l leX)) (isD_0 hD) (r := (RX4, TX4, 6)) rfl) rfl rfl hl.1 rfl (lv_room (Nat.le_of_ble_eq_true rfl)) dL_law_1079 ⟨by show _ ≤ 601024; omega, by show _ ≤ 7293034; omega⟩) (fun r u J2 H locs hp hf I => ?_)
  obtain ⟨e1, e2⟩ := hp
  have e1 := e1.symm
  have e2 := e2.symm
  subst e1
  subst e2
  obtain ⟨leX2, dX2, leM2, dM2⟩ := lw_same leX dX leM dM hf
  refine lv_aload_n C.1 C.2.1 dL_law_1082 rfl (lv_at hl 2 rfl) ?_
  refine hv_skl I leM2 (va_runV (As := []) (rest := [.long rf]) C.fix (c_X5_refunded l G hM _ hM2) (cwV 0 C.2.2.2.2.1 gL_law_X5_refunded rfl rfl rfl (by decide +kernel) ⟨Nat.le_of_ble_eq_true rfl, Nat.le_of_ble_eq_true rfl⟩) (hv_preV C (I.sub leM2) hM2.1 (r := (RX5, TX5, 21)) rfl) rfl rfl hl.1 rfl (lv_room (Nat.le_of_ble_eq_true rfl)) dL_law_1083 ⟨by show _ ≤ 601024; omega, by show _ ≤ 7293034; omega⟩) (fun bb uM J3 H locs hp2 hf2 I => ?_)
  obtain ⟨e3, hM3⟩ := hp2
  have e3 := e3.symm
  subst e3
  obtain ⟨leM3, fr2⟩ := hf2
  obtain ⟨leX3, dM3⟩ := fr2 _ leX2 (hv_dis_symm dM2)
  have fin : ∀ ls : Array Slot, lv_has ls 7 [(0, .ref b), (1, .ref (ad 0 0)), (2, .ref o), (3, .ref oa), (4, .int i)] → W p l e room_1 s m #[Value.ref b] below meth c H locs (cells + 0 + 0) (slots + 0 + 0) Q (F0 m 1228 ls []) := fun ls hl => W.widen (by omega) (by omega) (K H locs ls ⟨J3, hX, uM, v, 0, I, leX3, leM3, hv_dis_symm dM3, dX2, ad, n, d, dy, rf, ar, fm, po, rfl, hD, hM3, R⟩ hl)
  refine W.lcmp C.1 C.2.1 dL_law_1086 ?_
  exact lv_if_eq (tgt := 1228) C.1 C.2.1 dL_law_1087 (by decide) (fun _ => fin ls hl) (fun z => absurd (by rw [show rf = rf from rfl]; exact lg_cmp_self _) z)
