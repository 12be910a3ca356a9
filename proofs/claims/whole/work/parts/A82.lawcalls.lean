/-! The law: its calls -/
section
variable {p : Program} {l : Launch} {e : Env} {s : State} {m : MethodId} {below : List Frame} {meth : Method} {c : Code} {Q : State → Prop} {A : Nat → Prop} {D : va_G} {TY : dl_TY} {cI cP cII : ClassId} {b L : Nat} {xs : Nat → Int32} {am : Nat → Nat} {x1 k n : Nat}
set_option maxHeartbeats 4000000 in
set_option maxRecDepth 100000 in
theorem law_way (X : lw_X p s m c A D TY cI cP cII b L xs) (hn : n + 3 < L) (hk : k < 590) (K : lw_K p l e s m below meth c Q A D cI cP cII b am x1 965 (k + 1) n) : lw_K p l e s m below meth c Q A D cI cP cII b am x1 406 k n := by
  intro ac pr gc gm R cells slots hac hI
  obtain ⟨E, h, hok, hce, hsl⟩ := hI
  have hal := h.aw
  obtain ⟨C, hX, hbl, hbA, hTY, hT1, hT2, hL⟩ := X
  subst hac
  obtain ⟨r, gc1, gm1, e1, e2, F, kF, h1⟩ := ask_way (N := 140000) (by omega) h (xs (n + 1)) (xs (n + 2)) (xs (n + 3))
  have hal1 := h1.aw
  have hme := h1.ax
  refine dl_aload_n (pc := 406) C 1 dL_law_406 rfl rfl ?_
  refine lw_arg (pc := 407) C hX hbl hbA (by omega) 1 (by omega) rfl dL_law_407 dL_law_408 dL_law_409 dL_law_410 dL_law_411 ?_
  refine lw_arg (pc := 412) C hX hbl hbA (by omega) 2 (by omega) rfl dL_law_412 dL_law_413 dL_law_414 dL_law_415 dL_law_416 ?_
  refine lw_arg (pc := 417) C hX hbl hbA (by omega) 3 (by omega) rfl dL_law_417 dL_law_418 dL_law_419 dL_law_420 dL_law_421 ?_
  refine dl_vI0 (pc := 422) C (ccl11_way l D cI cP cII TY hTY 140000 ac pr (mm_w cI am gm ++ R) gc _ _ _ e1) (cwV 3 C.2.2.2.2.1 gL_law_X11_way rfl rfl rfl (by decide +kernel) ⟨Nat.le_of_ble_eq_true rfl, Nat.le_of_ble_eq_true rfl⟩) 0 11 cc_a0 rfl rfl rfl (Nat.le_of_ble_eq_true rfl) dL_law_422 (lw_rm hal hce hsl (by omega)) (fun r' u hp => ?_)
  obtain ⟨hr, rfl⟩ := hp
  rw [hr]
  refine dl_aload_n (pc := 425) C 2 dL_law_425 rfl rfl ?_
  refine lw_arg (pc := 426) C hX hbl hbA (by omega) 1 (by omega) rfl dL_law_426 dL_law_427 dL_law_428 dL_law_429 dL_law_430 ?_
  refine lw_arg (pc := 431) C hX hbl hbA (by omega) 2 (by omega) rfl dL_law_431 dL_law_432 dL_law_433 dL_law_434 dL_law_435 ?_
  refine lw_arg (pc := 436) C hX hbl hbA (by omega) 3 (by omega) rfl dL_law_436 dL_law_437 dL_law_438 dL_law_439 dL_law_440 ?_
  refine dl_perm (List.perm_append_comm_assoc _ _ _) ?_
  refine dl_vI0 (pc := 441) C (cmo_way l D cI TY hTY cc_nw 140000 am (cc_w cI cP cII ac pr gc1 ++ R) gm _ _ _ e2) (cwV 3 C.2.2.2.2.1 gL_law_X12_way rfl rfl rfl (by decide +kernel) ⟨Nat.le_of_ble_eq_true rfl, Nat.le_of_ble_eq_true rfl⟩) 0 12 rfl rfl rfl rfl (Nat.le_of_ble_eq_true rfl) dL_law_441 (lw_rm hal hce hsl (by omega)) (fun r2 u hp => ?_)
  obtain ⟨hr2, rfl⟩ := hp
  rw [hr2]
  refine dl_perm (List.perm_append_comm_assoc _ _ _) ?_
  refine dl_eqj (pc := 444) C 965 dL_law_444 (by decide) ?_
  exact K ac pr gc1 gm1 R cells slots rfl ⟨F, (h1.re (Nat.le_refl _)).up (by omega), (cc_ok_to hok h h1 kF), by omega, by omega⟩
set_option maxHeartbeats 4000000 in
set_option maxRecDepth 100000 in
theorem law_span (X : lw_X p s m c A D TY cI cP cII b L xs) (hn : n + 3 < L) (hk : k < 590) (K : lw_K p l e s m below meth c Q A D cI cP cII b am x1 965 (k + 1) n) : lw_K p l e s m below meth c Q A D cI cP cII b am x1 449 k n := by
  intro ac pr gc gm R cells slots hac hI
  obtain ⟨E, h, hok, hce, hsl⟩ := hI
  have hal := h.aw
  obtain ⟨C, hX, hbl, hbA, hTY, hT1, hT2, hL⟩ := X
  subst hac
  obtain ⟨r, gc1, gm1, e1, e2, F, kF, h1⟩ := ask_span (N := 140000) (by omega) h
  have hal1 := h1.aw
  have hme := h1.ax
  refine dl_aload_n (pc := 449) C 1 dL_law_449 rfl rfl ?_
  refine dl_vI0 (pc := 450) C (ccl11_span l D cI cP cII TY hTY 140000 ac pr (mm_w cI am gm ++ R) gc e1) (cwV 0 C.2.2.2.2.1 gL_law_X11_span rfl rfl rfl (by decide +kernel) ⟨Nat.le_of_ble_eq_true rfl, Nat.le_of_ble_eq_true rfl⟩) 0 11 cc_a0 rfl rfl rfl (Nat.le_of_ble_eq_true rfl) dL_law_450 (lw_rm hal hce hsl (by omega)) (fun r' u hp => ?_)
  obtain ⟨hr, rfl⟩ := hp
  rw [hr]
  refine dl_aload_n (pc := 453) C 2 dL_law_453 rfl rfl ?_
  refine dl_perm (List.perm_append_comm_assoc _ _ _) ?_
  refine dl_vI0 (pc := 454) C (cmo_span l D cI TY hTY cc_nw 140000 am (cc_w cI cP cII ac pr gc1 ++ R) gm e2) (cwV 0 C.2.2.2.2.1 gL_law_X12_span rfl rfl rfl (by decide +kernel) ⟨Nat.le_of_ble_eq_true rfl, Nat.le_of_ble_eq_true rfl⟩) 0 12 rfl rfl rfl rfl (Nat.le_of_ble_eq_true rfl) dL_law_454 (lw_rm hal hce hsl (by omega)) (fun r2 u hp => ?_)
  obtain ⟨hr2, rfl⟩ := hp
  rw [hr2]
  refine dl_perm (List.perm_append_comm_assoc _ _ _) ?_
  refine dl_eqj (pc := 457) C 965 dL_law_457 (by decide) ?_
  exact K ac pr gc1 gm1 R cells slots rfl ⟨F, (h1.re (Nat.le_refl _)).up (by omega), (cc_ok_to hok h h1 kF), by omega, by omega⟩
set_option maxHeartbeats 4000000 in
set_option maxRecDepth 100000 in
theorem law_least (X : lw_X p s m c A D TY cI cP cII b L xs) (hn : n + 3 < L) (hk : k < 590) (K : lw_K p l e s m below meth c Q A D cI cP cII b am x1 965 (k + 1) n) : lw_K p l e s m below meth c Q A D cI cP cII b am x1 462 k n := by
  intro ac pr gc gm R cells slots hac hI
  obtain ⟨E, h, hok, hce, hsl⟩ := hI
  have hal := h.aw
  obtain ⟨C, hX, hbl, hbA, hTY, hT1, hT2, hL⟩ := X
  subst hac
  obtain ⟨r, gc1, gm1, e1, e2, F, kF, h1⟩ := ask_least (N := 140000) (by omega) h
  have hal1 := h1.aw
  have hme := cl11_least_me 140000 gc e1
  refine dl_aload_n (pc := 462) C 1 dL_law_462 rfl rfl ?_
  have hM := ccl11_least l D cI cP cII TY hTY 140000 ac pr (mm_w cI am gm ++ R) (ac 33) gc e1
  rw [va_up_id] at hM
  refine dl_vI (pc := 463) C hM (cwV 0 C.2.2.2.2.1 gL_law_X11_least rfl rfl rfl (by decide +kernel) ⟨Nat.le_of_ble_eq_true rfl, Nat.le_of_ble_eq_true rfl⟩) 0 11 cc_a0 rfl rfl rfl (Nat.le_of_ble_eq_true rfl) dL_law_463 ⟨by have := hal1.2.2; have := lw_roC; omega, by have := hal1.2.2; have := lw_roS; omega⟩ (fun r' u hp => ?_)
  obtain ⟨hr, b1, rfl⟩ := hp
  rw [hr]
  refine dl_aload_n (pc := 466) C 2 dL_law_466 rfl rfl ?_
  refine dl_perm (List.perm_append_comm_assoc _ _ _) ?_
  refine dl_vI0 (pc := 467) C (cmo_least l D cI TY hTY cc_nw 140000 am (cc_w cI cP cII (va_up ac 33 b1) pr gc1 ++ R) gm e2) (cwV 0 C.2.2.2.2.1 gL_law_X12_least rfl rfl rfl (by decide +kernel) ⟨Nat.le_of_ble_eq_true rfl, Nat.le_of_ble_eq_true rfl⟩) 0 12 rfl rfl rfl rfl (Nat.le_of_ble_eq_true rfl) dL_law_467 (lw_rm hal1 (k := k) (by omega) (by omega) (by omega)) (fun r2 u hp => ?_)
  obtain ⟨hr2, rfl⟩ := hp
  rw [hr2]
  refine dl_perm (List.perm_append_comm_assoc _ _ _) ?_
  refine dl_eqj (pc := 470) C 965 dL_law_470 (by decide) ?_
  exact K (va_up ac 33 b1) pr gc1 gm1 R _ _ rfl ⟨F, (h1.re (Nat.le_refl _)).up (by omega), (cc_ok_up (cc_ok_to hok h (h1.re hme) kF) b1), by omega, by omega⟩
set_option maxHeartbeats 4000000 in
set_option maxRecDepth 100000 in
theorem law_many (X : lw_X p s m c A D TY cI cP cII b L xs) (hn : n + 3 < L) (hk : k < 590) (K : lw_K p l e s m below meth c Q A D cI cP cII b am x1 965 (k + 1) n) : lw_K p l e s m below meth c Q A D cI cP cII b am x1 475 k n := by
  intro ac pr gc gm R cells slots hac hI
  obtain ⟨E, h, hok, hce, hsl⟩ := hI
  have hal := h.aw
  obtain ⟨C, hX, hbl, hbA, hTY, hT1, hT2, hL⟩ := X
  subst hac
  obtain ⟨r, gc1, gm1, e1, e2, F, kF, h1⟩ := ask_many (N := 140000) (by omega) h
  have hal1 := h1.aw
  have hme := cl11_many_me 140000 gc e1
  refine dl_aload_n (pc := 475) C 1 dL_law_475 rfl rfl ?_
  have hM := ccl11_many l D cI cP cII TY hTY 140000 ac pr (mm_w cI am gm ++ R) (ac 33) gc e1
  rw [va_up_id] at hM
  refine dl_vI (pc := 476) C hM (cwV 0 C.2.2.2.2.1 gL_law_X11_many rfl rfl rfl (by decide +kernel) ⟨Nat.le_of_ble_eq_true rfl, Nat.le_of_ble_eq_true rfl⟩) 0 11 cc_a0 rfl rfl rfl (Nat.le_of_ble_eq_true rfl) dL_law_476 ⟨by have := hal1.2.2; have := lw_roC; omega, by have := hal1.2.2; have := lw_roS; omega⟩ (fun r' u hp => ?_)
  obtain ⟨hr, b1, rfl⟩ := hp
  rw [hr]
  refine dl_aload_n (pc := 479) C 2 dL_law_479 rfl rfl ?_
  refine dl_perm (List.perm_append_comm_assoc _ _ _) ?_
  refine dl_vI0 (pc := 480) C (cmo_many l D cI TY hTY cc_nw 140000 am (cc_w cI cP cII (va_up ac 33 b1) pr gc1 ++ R) gm e2) (cwV 0 C.2.2.2.2.1 gL_law_X12_many rfl rfl rfl (by decide +kernel) ⟨Nat.le_of_ble_eq_true rfl, Nat.le_of_ble_eq_true rfl⟩) 0 12 rfl rfl rfl rfl (Nat.le_of_ble_eq_true rfl) dL_law_480 (lw_rm hal1 (k := k) (by omega) (by omega) (by omega)) (fun r2 u hp => ?_)
  obtain ⟨hr2, rfl⟩ := hp
  rw [hr2]
  refine dl_perm (List.perm_append_comm_assoc _ _ _) ?_
  refine dl_eqj (pc := 483) C 965 dL_law_483 (by decide) ?_
  exact K (va_up ac 33 b1) pr gc1 gm1 R _ _ rfl ⟨F, (h1.re (Nat.le_refl _)).up (by omega), (cc_ok_up (cc_ok_to hok h (h1.re hme) kF) b1), by omega, by omega⟩
set_option maxHeartbeats 4000000 in
set_option maxRecDepth 100000 in
theorem law_best (X : lw_X p s m c A D TY cI cP cII b L xs) (hn : n + 3 < L) (hk : k < 590) (K : lw_K p l e s m below meth c Q A D cI cP cII b am x1 965 (k + 1) n) : lw_K p l e s m below meth c Q A D cI cP cII b am x1 488 k n := by
  intro ac pr gc gm R cells slots hac hI
  obtain ⟨E, h, hok, hce, hsl⟩ := hI
  have hal := h.aw
  obtain ⟨C, hX, hbl, hbA, hTY, hT1, hT2, hL⟩ := X
  subst hac
  obtain ⟨r, gc1, gm1, e1, e2, F, kF, h1⟩ := ask_best (N := 140000) (by omega) h (xs (n + 1)) (xs (n + 2))
  have hal1 := h1.aw
  have hme := cl11_best_me 140000 gc _ _ e1
  refine dl_aload_n (pc := 488) C 1 dL_law_488 rfl rfl ?_
  refine lw_arg (pc := 489) C hX hbl hbA (by omega) 1 (by omega) rfl dL_law_489 dL_law_490 dL_law_491 dL_law_492 dL_law_493 ?_
  refine lw_arg (pc := 494) C hX hbl hbA (by omega) 2 (by omega) rfl dL_law_494 dL_law_495 dL_law_496 dL_law_497 dL_law_498 ?_
  have hM := ccl11_best l D cI cP cII TY hTY 140000 ac pr (mm_w cI am gm ++ R) (ac 33) gc _ _ e1
  rw [va_up_id] at hM
  refine dl_vI (pc := 499) C hM (cwV 2 C.2.2.2.2.1 gL_law_X11_best rfl rfl rfl (by decide +kernel) ⟨Nat.le_of_ble_eq_true rfl, Nat.le_of_ble_eq_true rfl⟩) 0 11 cc_a0 rfl rfl rfl (Nat.le_of_ble_eq_true rfl) dL_law_499 ⟨by have := hal1.2.2; have := lw_roC; omega, by have := hal1.2.2; have := lw_roS; omega⟩ (fun r' u hp => ?_)
  obtain ⟨hr, b1, rfl⟩ := hp
  rw [hr]
  refine dl_aload_n (pc := 502) C 2 dL_law_502 rfl rfl ?_
  refine lw_arg (pc := 503) C hX hbl hbA (by omega) 1 (by omega) rfl dL_law_503 dL_law_504 dL_law_505 dL_law_506 dL_law_507 ?_
  refine lw_arg (pc := 508) C hX hbl hbA (by omega) 2 (by omega) rfl dL_law_508 dL_law_509 dL_law_510 dL_law_511 dL_law_512 ?_
  refine dl_perm (List.perm_append_comm_assoc _ _ _) ?_
  refine dl_vI0 (pc := 513) C (cmo_best l D cI TY hTY cc_nw 140000 am (cc_w cI cP cII (va_up ac 33 b1) pr gc1 ++ R) gm _ _ e2) (cwV 2 C.2.2.2.2.1 gL_law_X12_best rfl rfl rfl (by decide +kernel) ⟨Nat.le_of_ble_eq_true rfl, Nat.le_of_ble_eq_true rfl⟩) 0 12 rfl rfl rfl rfl (Nat.le_of_ble_eq_true rfl) dL_law_513 (lw_rm hal1 (k := k) (by omega) (by omega) (by omega)) (fun r2 u hp => ?_)
  obtain ⟨hr2, rfl⟩ := hp
  rw [hr2]
  refine dl_perm (List.perm_append_comm_assoc _ _ _) ?_
  refine dl_eqj (pc := 516) C 965 dL_law_516 (by decide) ?_
  exact K (va_up ac 33 b1) pr gc1 gm1 R _ _ rfl ⟨F, (h1.re (Nat.le_refl _)).up (by omega), (cc_ok_up (cc_ok_to hok h (h1.re hme) kF) b1), by omega, by omega⟩
set_option maxHeartbeats 4000000 in
set_option maxRecDepth 100000 in
theorem law_must (X : lw_X p s m c A D TY cI cP cII b L xs) (hn : n + 3 < L) (hk : k < 590) (K : lw_K p l e s m below meth c Q A D cI cP cII b am x1 965 (k + 1) n) : lw_K p l e s m below meth c Q A D cI cP cII b am x1 521 k n := by
  intro ac pr gc gm R cells slots hac hI
  obtain ⟨E, h, hok, hce, hsl⟩ := hI
  have hal := h.aw
  obtain ⟨C, hX, hbl, hbA, hTY, hT1, hT2, hL⟩ := X
  subst hac
  obtain ⟨r, gc1, gm1, e1, e2, F, kF, h1⟩ := ask_must (N := 140000) (by omega) h (xs (n + 1))
  have hal1 := h1.aw
  have hme := cl11_must_me 140000 gc _ e1
  refine dl_aload_n (pc := 521) C 1 dL_law_521 rfl rfl ?_
  refine lw_arg (pc := 522) C hX hbl hbA (by omega) 1 (by omega) rfl dL_law_522 dL_law_523 dL_law_524 dL_law_525 dL_law_526 ?_
  have hM := ccl11_must l D cI cP cII TY hTY 140000 ac pr (mm_w cI am gm ++ R) (ac 33) gc _ e1
  rw [va_up_id] at hM
  refine dl_vI (pc := 527) C hM (cwV 1 C.2.2.2.2.1 gL_law_X11_must rfl rfl rfl (by decide +kernel) ⟨Nat.le_of_ble_eq_true rfl, Nat.le_of_ble_eq_true rfl⟩) 0 11 cc_a0 rfl rfl rfl (Nat.le_of_ble_eq_true rfl) dL_law_527 ⟨by have := hal1.2.2; have := lw_roC; omega, by have := hal1.2.2; have := lw_roS; omega⟩ (fun r' u hp => ?_)
  obtain ⟨hr, b1, rfl⟩ := hp
  rw [hr]
  refine dl_aload_n (pc := 530) C 2 dL_law_530 rfl rfl ?_
  refine lw_arg (pc := 531) C hX hbl hbA (by omega) 1 (by omega) rfl dL_law_531 dL_law_532 dL_law_533 dL_law_534 dL_law_535 ?_
  refine dl_perm (List.perm_append_comm_assoc _ _ _) ?_
  refine dl_vI0 (pc := 536) C (cmo_must l D cI TY hTY cc_nw 140000 am (cc_w cI cP cII (va_up ac 33 b1) pr gc1 ++ R) gm _ e2) (cwV 1 C.2.2.2.2.1 gL_law_X12_must rfl rfl rfl (by decide +kernel) ⟨Nat.le_of_ble_eq_true rfl, Nat.le_of_ble_eq_true rfl⟩) 0 12 rfl rfl rfl rfl (Nat.le_of_ble_eq_true rfl) dL_law_536 (lw_rm hal1 (k := k) (by omega) (by omega) (by omega)) (fun r2 u hp => ?_)
  obtain ⟨hr2, rfl⟩ := hp
  rw [hr2]
  refine dl_perm (List.perm_append_comm_assoc _ _ _) ?_
  refine dl_eqj (pc := 539) C 965 dL_law_539 (by decide) ?_
  exact K (va_up ac 33 b1) pr gc1 gm1 R _ _ rfl ⟨F, (h1.re (Nat.le_refl _)).up (by omega), (cc_ok_up (cc_ok_to hok h (h1.re hme) kF) b1), by omega, by omega⟩
set_option maxHeartbeats 4000000 in
set_option maxRecDepth 100000 in
theorem law_most (X : lw_X p s m c A D TY cI cP cII b L xs) (hn : n + 3 < L) (hk : k < 590) (K : lw_K p l e s m below meth c Q A D cI cP cII b am x1 965 (k + 1) n) : lw_K p l e s m below meth c Q A D cI cP cII b am x1 544 k n := by
  intro ac pr gc gm R cells slots hac hI
  obtain ⟨E, h, hok, hce, hsl⟩ := hI
  have hal := h.aw
  obtain ⟨C, hX, hbl, hbA, hTY, hT1, hT2, hL⟩ := X
  subst hac
  obtain ⟨r, gc1, gm1, e1, e2, F, kF, h1⟩ := ask_most (N := 140000) (by omega) h (xs (n + 1))
  have hal1 := h1.aw
  have hme := cl11_most_me 140000 gc _ e1
  refine dl_aload_n (pc := 544) C 1 dL_law_544 rfl rfl ?_
  refine lw_arg (pc := 545) C hX hbl hbA (by omega) 1 (by omega) rfl dL_law_545 dL_law_546 dL_law_547 dL_law_548 dL_law_549 ?_
  have hM := ccl11_most l D cI cP cII TY hTY 140000 ac pr (mm_w cI am gm ++ R) (ac 33) gc _ e1
  rw [va_up_id] at hM
  refine dl_vI (pc := 550) C hM (cwV 1 C.2.2.2.2.1 gL_law_X11_most rfl rfl rfl (by decide +kernel) ⟨Nat.le_of_ble_eq_true rfl, Nat.le_of_ble_eq_true rfl⟩) 0 11 cc_a0 rfl rfl rfl (Nat.le_of_ble_eq_true rfl) dL_law_550 ⟨by have := hal1.2.2; have := lw_roC; omega, by have := hal1.2.2; have := lw_roS; omega⟩ (fun r' u hp => ?_)
  obtain ⟨hr, b1, rfl⟩ := hp
  rw [hr]
  refine dl_aload_n (pc := 553) C 2 dL_law_553 rfl rfl ?_
  refine lw_arg (pc := 554) C hX hbl hbA (by omega) 1 (by omega) rfl dL_law_554 dL_law_555 dL_law_556 dL_law_557 dL_law_558 ?_
  refine dl_perm (List.perm_append_comm_assoc _ _ _) ?_
  refine dl_vI0 (pc := 559) C (cmo_most l D cI TY hTY cc_nw 140000 am (cc_w cI cP cII (va_up ac 33 b1) pr gc1 ++ R) gm _ e2) (cwV 1 C.2.2.2.2.1 gL_law_X12_most rfl rfl rfl (by decide +kernel) ⟨Nat.le_of_ble_eq_true rfl, Nat.le_of_ble_eq_true rfl⟩) 0 12 rfl rfl rfl rfl (Nat.le_of_ble_eq_true rfl) dL_law_559 (lw_rm hal1 (k := k) (by omega) (by omega) (by omega)) (fun r2 u hp => ?_)
  obtain ⟨hr2, rfl⟩ := hp
  rw [hr2]
  refine dl_perm (List.perm_append_comm_assoc _ _ _) ?_
  refine dl_eqj (pc := 562) C 965 dL_law_562 (by decide) ?_
  exact K (va_up ac 33 b1) pr gc1 gm1 R _ _ rfl ⟨F, (h1.re (Nat.le_refl _)).up (by omega), (cc_ok_up (cc_ok_to hok h (h1.re hme) kF) b1), by omega, by omega⟩
set_option maxHeartbeats 4000000 in
set_option maxRecDepth 100000 in
theorem law_lay (X : lw_X p s m c A D TY cI cP cII b L xs) (hn : n + 3 < L) (hk : k < 590) (K : lw_K p l e s m below meth c Q A D cI cP cII b am x1 965 (k + 1) n) : lw_K p l e s m below meth c Q A D cI cP cII b am x1 567 k n := by
  intro ac pr gc gm R cells slots hac hI
  obtain ⟨E, h, hok, hce, hsl⟩ := hI
  have hal := h.aw
  obtain ⟨C, hX, hbl, hbA, hTY, hT1, hT2, hL⟩ := X
  subst hac
  obtain ⟨r, gc1, gm1, e1, e2, F, kF, h1⟩ := do_lay h (xs (n + 1))
  have hal1 := h1.aw
  have hme := h1.ax
  refine dl_aload_n (pc := 567) C 1 dL_law_567 rfl rfl ?_
  refine lw_arg (pc := 568) C hX hbl hbA (by omega) 1 (by omega) rfl dL_law_568 dL_law_569 dL_law_570 dL_law_571 dL_law_572 ?_
  refine dl_vI0 (pc := 573) C (ccl11_lay l D cI cP cII TY hTY ac pr (mm_w cI am gm ++ R) gc _ e1) (cwV 1 C.2.2.2.2.1 gL_law_X11_lay rfl rfl rfl (by decide +kernel) ⟨Nat.le_of_ble_eq_true rfl, Nat.le_of_ble_eq_true rfl⟩) 0 11 cc_a0 rfl rfl rfl (Nat.le_of_ble_eq_true rfl) dL_law_573 (lw_rm hal hce hsl (by omega)) (fun r' u hp => ?_)
  obtain ⟨hr, rfl⟩ := hp
  rw [hr]
  refine dl_aload_n (pc := 576) C 2 dL_law_576 rfl rfl ?_
  refine lw_arg (pc := 577) C hX hbl hbA (by omega) 1 (by omega) rfl dL_law_577 dL_law_578 dL_law_579 dL_law_580 dL_law_581 ?_
  refine dl_perm (List.perm_append_comm_assoc _ _ _) ?_
  refine dl_vI0 (pc := 582) C (cmo_lay l D cI TY hTY cc_nw am (cc_w cI cP cII ac pr gc1 ++ R) gm _ e2) (cwV 1 C.2.2.2.2.1 gL_law_X12_lay rfl rfl rfl (by decide +kernel) ⟨Nat.le_of_ble_eq_true rfl, Nat.le_of_ble_eq_true rfl⟩) 0 12 rfl rfl rfl rfl (Nat.le_of_ble_eq_true rfl) dL_law_582 (lw_rm hal hce hsl (by omega)) (fun r2 u hp => ?_)
  obtain ⟨hr2, rfl⟩ := hp
  rw [hr2]
  refine dl_perm (List.perm_append_comm_assoc _ _ _) ?_
  refine dl_eqj (pc := 585) C 965 dL_law_585 (by decide) ?_
  exact K ac pr gc1 gm1 R cells slots rfl ⟨F, (h1.re (Nat.le_refl _)).up (by omega), (cc_ok_to hok h h1 kF), by omega, by omega⟩
end
