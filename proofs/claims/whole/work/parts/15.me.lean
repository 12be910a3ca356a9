theorem hin_X12_bound_X12 : ∀ w ∈ u_ws RX12 TX12 32, w ∈ wsX12_bound := fun _ h => List.mem_cons_of_mem _ (List.mem_append_right _ h)
theorem lk_X12_bound_59 : Cond.fieldLink (yX12_bound).cls 59 "DripLinesModel" (TX12 29).2.1 (TX12 29).2.2.1 ∈ wsX12_bound := by decide +kernel
theorem lk_X12_bound_189 : Cond.fieldLink (yX12_bound).cls 189 "DripLinesModel" (TX12 27).2.1 (TX12 27).2.2.1 ∈ wsX12_bound := by decide +kernel
set_option maxHeartbeats 4000000 in
set_option maxRecDepth 100000 in
theorem mo_bound_t14 {p : Program} {e : Env} {s : State} {m : MethodId} {args : Array Value} {below : List Frame} {meth : Method} {c : Code} {Q : State → Prop} {A : Nat → Prop} (l : Launch) (D : va_G) (cI : ClassId) (TY : dl_TY) (hTY : TY[0]? = some (cI, .int)) (nw : List Cond) (N : Nat) (ad : Nat → Nat) (R : va_W) {r0 : Int32} {g0 : dl_Sg} (C : dl_Cx p s m args c A D TY nw cX12_bound 3 yX12_bound.cls wsX12_bound) (hQ : dl_RtI p l e (headSpec wsX12_bound { frames := 6, cells := 0, slots := 0, locals := 131 }).room s m args below meth c Q A D cX12_bound 3 0 0 .int (fun r u => r = r0 ∧ u = mm_w cI ad g0 ++ R)) : ∀ (n : Nat) (x1 : Int32) (x2 : Int32) (g : dl_Sg), mo_bound_b14 N n x1 x2 g = some (r0, g0) → dl_At p l e (headSpec wsX12_bound { frames := 6, cells := 0, slots := 0, locals := 131 }).room s m args below meth c Q A D 3 0 0 14 [(0, .ref (ad 0)), (1, .int x1), (2, .int x2)] [] (mm_w cI ad g ++ R) := by
  intro n
  induction n with
  | zero => exact fun _ _ _ h => absurd (show (none : Option (Int32 × dl_Sg)) = some _ from h) (by intro q; cases q)
  | succ n ih =>
    intro x1 x2 g h
    rw [mo_bound_b14] at h
    refine dl_iload_n (pc := 14) C 2 dX12_bound_14 rfl rfl ?_
    refine dl_aload_n (pc := 15) C 0 dX12_bound_15 rfl rfl ?_
    refine dl_get (pc := 16) C hin_X12_bound_X12 0 mm_a0 rfl 27 (by decide) lk_X12_bound_189 rfl rfl dX12_bound_16 ?_
    refine dl_icmp_ge (pc := 19) C 37 dX12_bound_19 (by decide) h (fun q3 h => ?_) (fun q3 h => ?_)
    · refine dl_iload_n (pc := 37) C 1 dX12_bound_37 rfl rfl ?_
      exact hQ 38 _ _ _ ⟨(dl_r2 h).1, by rw [(dl_r2 h).2]⟩ (vp_nar_int _) dX12_bound_38
    · refine dl_iload_n (pc := 22) C 1 dX12_bound_22 rfl rfl ?_
      refine dl_aload_n (pc := 23) C 0 dX12_bound_23 rfl rfl ?_
      refine dl_get (pc := 24) C hin_X12_bound_X12 0 mm_a0 rfl 29 (by decide) lk_X12_bound_59 rfl rfl dX12_bound_24 ?_
      refine dl_iload_n (pc := 27) C 2 dX12_bound_27 rfl rfl ?_
      obtain ⟨h0, h⟩ := dl_gd_some h
      refine dl_iald (pc := 28) C 17 0 mm_a29 hTY h0 dX12_bound_28 ?_
      refine dl_iadd (pc := 29) C dX12_bound_29 ?_
      refine dl_istore_n (pc := 30) C (fun v1 => [(1, .int v1), (0, .ref (ad 0)), (2, .int x2)]) dX12_bound_30 rfl (by decide) (fun _ => rfl) h (fun v1 h => ?_)
      refine dl_iinc (pc := 31) C 2 (fun v2 => [(2, .int v2), (1, .int v1), (0, .ref (ad 0))]) dX12_bound_31 rfl rfl (by decide) (fun _ => rfl) h (fun v2 h => ?_)
      refine dl_goto (pc := 34) C 14 dX12_bound_34 (by decide) ?_
      refine dl_sub [2, 1, 0] rfl ?_
      exact ih _ _ _ h
set_option maxHeartbeats 4000000 in
set_option maxRecDepth 100000 in
theorem cmo_bound (l : Launch) (D : va_G) (cI : ClassId) (TY : dl_TY) (hTY : TY[0]? = some (cI, .int)) (nw : List Cond) (N : Nat) (ad : Nat → Nat) (R : va_W) (g : dl_Sg) {r0 : Int32} {g0 : dl_Sg} (h : mo_bound N g  = some (r0, g0)) : dl_CtI l D TY nw yX12_bound wsX12_bound { frames := 6, cells := 0, slots := 0, locals := 131 } 0 0 [.ref (ad 0)] (mm_w cI ad g ++ R) (fun r u => r = r0 ∧ u = mm_w cI ad g0 ++ R) := by
  refine dl_metI (ty := .int) [(0, .ref (ad 0))] (by decide) rfl (Nat.le_of_ble_eq_true rfl) rfl ?_
  intro p e s m args below meth c Q A C hQ
  unfold mo_bound at h
  refine dl_aload_n (pc := 0) C 0 dX12_bound_0 rfl rfl ?_
  obtain ⟨r1, g2, h1, h⟩ := dl_b2_some h
  refine dl_vI0 (pc := 1) C (cmo_raiseAll l D cI TY hTY nw N ad R _ h1) (cwV 0 C.2.2.2.2.1 gX12_bound_X12_raiseAll rfl rfl rfl (by decide +kernel) ⟨Nat.le_of_ble_eq_true rfl, Nat.le_of_ble_eq_true rfl⟩) 0 12 mm_a0 rfl rfl rfl (Nat.le_of_ble_eq_true rfl) dX12_bound_1 ⟨Nat.zero_le _, Nat.zero_le _⟩ (fun r u hp => ?_)
  obtain ⟨rfl, rfl⟩ := hp
  refine dl_if_eq (pc := 4) C 10 dX12_bound_4 (by decide) h (fun q5 h => ?_) (fun q5 h => ?_)
  · refine dl_iconst (pc := 10) C 0 dX12_bound_10 (by decide) ?_
    refine dl_istore_n (pc := 11) C (fun v3 => [(1, .int v3), (0, .ref (ad 0))]) dX12_bound_11 rfl (by decide) (fun _ => rfl) h (fun v3 h => ?_)
    refine dl_iconst (pc := 12) C 0 dX12_bound_12 (by decide) ?_
    refine dl_istore_n (pc := 13) C (fun v4 => [(2, .int v4), (1, .int v3), (0, .ref (ad 0))]) dX12_bound_13 rfl (by decide) (fun _ => rfl) h (fun v4 h => ?_)
    refine dl_sub [2, 1, 0] rfl ?_
    exact mo_bound_t14 l D cI TY hTY nw N ad R C hQ N _ _ _ h
  · refine dl_ldc (pc := 7) C (-1000000) (by decide +kernel) dX12_bound_7 ?_
    exact hQ 9 _ _ _ ⟨(dl_r2 h).1, by rw [(dl_r2 h).2]⟩ (vp_nar_int _) dX12_bound_9
theorem hin_X12_lay_X12 : ∀ w ∈ u_ws RX12 TX12 32, w ∈ wsX12_lay := fun _ h => List.mem_cons_of_mem _ (List.mem_append_right _ h)
theorem lk_X12_lay_101 : Cond.fieldLink (yX12_lay).cls 101 "DripLinesModel" (TX12 7).2.1 (TX12 7).2.2.1 ∈ wsX12_lay := by decide +kernel
theorem lk_X12_lay_121 : Cond.fieldLink (yX12_lay).cls 121 "DripLinesModel" (TX12 8).2.1 (TX12 8).2.2.1 ∈ wsX12_lay := by decide +kernel
set_option maxHeartbeats 4000000 in
set_option maxRecDepth 100000 in
theorem mo_lay_t19 {p : Program} {e : Env} {s : State} {m : MethodId} {args : Array Value} {below : List Frame} {meth : Method} {c : Code} {Q : State → Prop} {A : Nat → Prop} (l : Launch) (D : va_G) (cI : ClassId) (TY : dl_TY) (hTY : TY[0]? = some (cI, .int)) (nw : List Cond) (ad : Nat → Nat) (R : va_W) {r0 : Int32} {g0 : dl_Sg} (C : dl_Cx p s m args c A D TY nw cX12_lay 2 yX12_lay.cls wsX12_lay) (hQ : dl_RtI p l e (headSpec wsX12_lay { frames := 2, cells := 0, slots := 0, locals := 43 }).room s m args below meth c Q A D cX12_lay 2 0 0 .int (fun r u => r = r0 ∧ u = mm_w cI ad g0 ++ R)) (g : dl_Sg) (h : mo_lay_b19  g = some (r0, g0)) : dl_At p l e (headSpec wsX12_lay { frames := 2, cells := 0, slots := 0, locals := 43 }).room s m args below meth c Q A D 2 0 0 19 [(0, .ref (ad 0))] [] (mm_w cI ad g ++ R) := by
  unfold mo_lay_b19 at h
  refine dl_aload_n (pc := 19) C 0 dX12_lay_19 rfl rfl ?_
  refine dl_iconst (pc := 20) C 1 dX12_lay_20 (by decide) ?_
  obtain ⟨r1, g2, h1, h⟩ := dl_b2_some h
  refine dl_vI0 (pc := 21) C (cmo_refused l D cI TY hTY nw ad R _ _ h1) (cwV 1 C.2.2.2.2.1 gX12_lay_X12_refused rfl rfl rfl (by decide +kernel) ⟨Nat.le_of_ble_eq_true rfl, Nat.le_of_ble_eq_true rfl⟩) 0 12 mm_a0 rfl rfl rfl (Nat.le_of_ble_eq_true rfl) dX12_lay_21 ⟨Nat.zero_le _, Nat.zero_le _⟩ (fun r u hp => ?_)
  obtain ⟨rfl, rfl⟩ := hp
  exact hQ 24 _ _ _ ⟨(dl_r2 h).1, by rw [(dl_r2 h).2]⟩ (vp_nar_int _) dX12_lay_24
set_option maxHeartbeats 4000000 in
set_option maxRecDepth 100000 in
theorem cmo_lay (l : Launch) (D : va_G) (cI : ClassId) (TY : dl_TY) (hTY : TY[0]? = some (cI, .int)) (nw : List Cond) (ad : Nat → Nat) (R : va_W) (g : dl_Sg) (x1 : Int32) {r0 : Int32} {g0 : dl_Sg} (h : mo_lay g x1 = some (r0, g0)) : dl_CtI l D TY nw yX12_lay wsX12_lay { frames := 2, cells := 0, slots := 0, locals := 43 } 0 0 [.ref (ad 0), .int x1] (mm_w cI ad g ++ R) (fun r u => r = r0 ∧ u = mm_w cI ad g0 ++ R) := by
  refine dl_metI (ty := .int) [(0, .ref (ad 0)), (1, .int x1)] (by decide) rfl (Nat.le_of_ble_eq_true rfl) rfl ?_
  intro p e s m args below meth c Q A C hQ
  unfold mo_lay at h
  refine dl_aload_n (pc := 0) C 0 dX12_lay_0 rfl rfl ?_
  refine dl_iload_n (pc := 1) C 1 dX12_lay_1 rfl rfl ?_
  obtain ⟨r1, h1, h⟩ := dl_bi_some h
  refine dl_vI0 (pc := 2) C (cmo_isStreet l D cI TY hTY nw ad R _ _ h1) (cwV 1 C.2.2.2.2.1 gX12_lay_X12_isStreet rfl rfl rfl (by decide +kernel) ⟨Nat.le_of_ble_eq_true rfl, Nat.le_of_ble_eq_true rfl⟩) 0 12 mm_a0 rfl rfl rfl (Nat.le_of_ble_eq_true rfl) dX12_lay_2 ⟨Nat.zero_le _, Nat.zero_le _⟩ (fun r u hp => ?_)
  obtain ⟨rfl, rfl⟩ := hp
  refine dl_if_eq (pc := 5) C 19 dX12_lay_5 (by decide) h (fun q7 h => ?_) (fun q7 h => ?_)
  · refine dl_sub [0] rfl ?_
    exact mo_lay_t19 l D cI TY hTY nw ad R C hQ  _ h
  · refine dl_aload_n (pc := 8) C 0 dX12_lay_8 rfl rfl ?_
    refine dl_get (pc := 9) C hin_X12_lay_X12 0 mm_a0 rfl 7 (by decide) lk_X12_lay_101 rfl rfl dX12_lay_9 ?_
    refine dl_iload_n (pc := 12) C 1 dX12_lay_12 rfl rfl ?_
    obtain ⟨r2, h1, h⟩ := dl_bi_some h
    refine dl_sI0 (pc := 13) C (cmo_has l D TY nw _ _ _ h1) (va_cwS 2 C.2.2.2.2.1 gX12_lay_X12_has rfl rfl rfl (by decide +kernel) ⟨Nat.le_of_ble_eq_true rfl, Nat.le_of_ble_eq_true rfl⟩) rfl rfl (Nat.le_of_ble_eq_true rfl) dX12_lay_13 ⟨Nat.zero_le _, Nat.zero_le _⟩ (fun r u hp => ?_)
    obtain ⟨rfl, hu⟩ := hp
    rw [hu]
    clear hu
    refine dl_if_ne (pc := 16) C 25 dX12_lay_16 (by decide) h (fun q6 h => ?_) (fun q6 h => ?_)
    · refine dl_sub [0] rfl ?_
      exact mo_lay_t19 l D cI TY hTY nw ad R C hQ  _ h
    · refine dl_aload_n (pc := 25) C 0 dX12_lay_25 rfl rfl ?_
      refine dl_dup (pc := 26) C dX12_lay_26 rfl ?_
      refine dl_get (pc := 27) C hin_X12_lay_X12 0 mm_a0 rfl 8 (by decide) lk_X12_lay_121 rfl rfl dX12_lay_27 ?_
      refine dl_iconst (pc := 30) C 1 dX12_lay_30 (by decide) ?_
      refine dl_iload_n (pc := 31) C 1 dX12_lay_31 rfl rfl ?_
      refine dl_ishl (pc := 32) C dX12_lay_32 ?_
      refine dl_ixor (pc := 33) C dX12_lay_33 ?_
      refine dl_put (pc := 34) C hin_X12_lay_X12 tyX12 tyX12_ok nmX12 0 mm_a0 rfl 8 (by decide) lk_X12_lay_121 rfl rfl (ty := .int) rfl (vp_nar_int _) rfl (Nat.le_of_ble_eq_true rfl) dX12_lay_34 mm_p0_8 ?_
      obtain ⟨g3, h, hg⟩ := dl_nm_some h
      rw [← hg]
      clear hg
      refine dl_aload_n (pc := 37) C 0 dX12_lay_37 rfl rfl ?_
      refine dl_aload_n (pc := 38) C 0 dX12_lay_38 rfl rfl ?_
      refine dl_get (pc := 39) C hin_X12_lay_X12 0 mm_a0 rfl 8 (by decide) lk_X12_lay_121 rfl rfl dX12_lay_39 ?_
      refine dl_iload_n (pc := 42) C 1 dX12_lay_42 rfl rfl ?_
      refine dl_ishr (pc := 43) C dX12_lay_43 ?_
      refine dl_iconst (pc := 44) C 1 dX12_lay_44 (by decide) ?_
      refine dl_iand (pc := 45) C dX12_lay_45 ?_
      obtain ⟨r4, g5, h1, h⟩ := dl_b2_some h
      refine dl_vI0 (pc := 46) C (cmo_done l D cI TY hTY nw ad R _ _ h1) (cwV 1 C.2.2.2.2.1 gX12_lay_X12_done rfl rfl rfl (by decide +kernel) ⟨Nat.le_of_ble_eq_true rfl, Nat.le_of_ble_eq_true rfl⟩) 0 12 mm_a0 rfl rfl rfl (Nat.le_of_ble_eq_true rfl) dX12_lay_46 ⟨Nat.zero_le _, Nat.zero_le _⟩ (fun r u hp => ?_)
      obtain ⟨rfl, rfl⟩ := hp
      exact hQ 49 _ _ _ ⟨(dl_r2 h).1, by rw [(dl_r2 h).2]⟩ (vp_nar_int _) dX12_lay_49
theorem hin_X12_clear_X12 : ∀ w ∈ u_ws RX12 TX12 32, w ∈ wsX12_clear := fun _ h => List.mem_cons_of_mem _ (List.mem_append_right _ h)
theorem lk_X12_clear_121 : Cond.fieldLink (yX12_clear).cls 121 "DripLinesModel" (TX12 8).2.1 (TX12 8).2.2.1 ∈ wsX12_clear := by decide +kernel
set_option maxHeartbeats 4000000 in
set_option maxRecDepth 100000 in
theorem cmo_clear (l : Launch) (D : va_G) (cI : ClassId) (TY : dl_TY) (hTY : TY[0]? = some (cI, .int)) (nw : List Cond) (N : Nat) (ad : Nat → Nat) (R : va_W) (g : dl_Sg) {r0 : Int32} {g0 : dl_Sg} (h : mo_clear N g  = some (r0, g0)) : dl_CtI l D TY nw yX12_clear wsX12_clear { frames := 1, cells := 0, slots := 0, locals := 22 } 0 0 [.ref (ad 0)] (mm_w cI ad g ++ R) (fun r u => r = r0 ∧ u = mm_w cI ad g0 ++ R) := by
  refine dl_metI (ty := .int) [(0, .ref (ad 0))] (by decide) rfl (Nat.le_of_ble_eq_true rfl) rfl ?_
  intro p e s m args below meth c Q A C hQ
  unfold mo_clear at h
  refine dl_aload_n (pc := 0) C 0 dX12_clear_0 rfl rfl ?_
  refine dl_get (pc := 1) C hin_X12_clear_X12 0 mm_a0 rfl 8 (by decide) lk_X12_clear_121 rfl rfl dX12_clear_1 ?_
  obtain ⟨r1, h1, h⟩ := dl_bi_some h
  refine dl_sI0 (pc := 4) C (cmo_bits l D TY nw N _ _ h1) (va_cwS 1 C.2.2.2.2.1 gX12_clear_X12_bits rfl rfl rfl (by decide +kernel) ⟨Nat.le_of_ble_eq_true rfl, Nat.le_of_ble_eq_true rfl⟩) rfl rfl (Nat.le_of_ble_eq_true rfl) dX12_clear_4 ⟨Nat.zero_le _, Nat.zero_le _⟩ (fun r u hp => ?_)
  obtain ⟨rfl, hu⟩ := hp
  rw [hu]
  clear hu
  refine dl_istore_n (pc := 7) C (fun v2 => [(1, .int v2), (0, .ref (ad 0))]) dX12_clear_7 rfl (by decide) (fun _ => rfl) h (fun v2 h => ?_)
  refine dl_aload_n (pc := 8) C 1 dX12_clear_8 rfl rfl ?_
  refine dl_iconst (pc := 9) C 0 dX12_clear_9 (by decide) ?_
  refine dl_put (pc := 10) C hin_X12_clear_X12 tyX12 tyX12_ok nmX12 0 mm_a0 rfl 8 (by decide) lk_X12_clear_121 rfl rfl (ty := .int) rfl (vp_nar_int _) rfl (Nat.le_of_ble_eq_true rfl) dX12_clear_10 mm_p0_8 ?_
  obtain ⟨g3, h, hg⟩ := dl_nm_some h
  rw [← hg]
  clear hg
  refine dl_aload_n (pc := 13) C 1 dX12_clear_13 rfl rfl ?_
  refine dl_iload_n (pc := 14) C 0 dX12_clear_14 rfl rfl ?_
  obtain ⟨r4, g5, h1, h⟩ := dl_b2_some h
  refine dl_vI0 (pc := 15) C (cmo_done l D cI TY hTY nw ad R _ _ h1) (cwV 1 C.2.2.2.2.1 gX12_clear_X12_done rfl rfl rfl (by decide +kernel) ⟨Nat.le_of_ble_eq_true rfl, Nat.le_of_ble_eq_true rfl⟩) 0 12 mm_a0 rfl rfl rfl (Nat.le_of_ble_eq_true rfl) dX12_clear_15 ⟨Nat.zero_le _, Nat.zero_le _⟩ (fun r u hp => ?_)
  obtain ⟨rfl, rfl⟩ := hp
  exact hQ 18 _ _ _ ⟨(dl_r2 h).1, by rw [(dl_r2 h).2]⟩ (vp_nar_int _) dX12_clear_18
theorem hin_X12_why_X12 : ∀ w ∈ u_ws RX12 TX12 32, w ∈ wsX12_why := fun _ h => List.mem_cons_of_mem _ (List.mem_append_right _ h)
theorem lk_X12_why_121 : Cond.fieldLink (yX12_why).cls 121 "DripLinesModel" (TX12 8).2.1 (TX12 8).2.2.1 ∈ wsX12_why := by decide +kernel
set_option maxHeartbeats 4000000 in
set_option maxRecDepth 100000 in
theorem cmo_why (l : Launch) (D : va_G) (cI : ClassId) (TY : dl_TY) (hTY : TY[0]? = some (cI, .int)) (nw : List Cond) (N : Nat) (ad : Nat → Nat) (R : va_W) (g : dl_Sg) {r0 : Int32} {g0 : dl_Sg} (h : mo_why N g  = some (r0, g0)) : dl_CtI l D TY nw yX12_why wsX12_why { frames := 3, cells := 0, slots := 0, locals := 69 } 0 0 [.ref (ad 0)] (mm_w cI ad g ++ R) (fun r u => r = r0 ∧ u = mm_w cI ad g0 ++ R) := by
  refine dl_metI (ty := .int) [(0, .ref (ad 0))] (by decide) rfl (Nat.le_of_ble_eq_true rfl) rfl ?_
  intro p e s m args below meth c Q A C hQ
  unfold mo_why at h
  refine dl_aload_n (pc := 0) C 0 dX12_why_0 rfl rfl ?_
  refine dl_aload_n (pc := 1) C 0 dX12_why_1 rfl rfl ?_
  refine dl_get (pc := 2) C hin_X12_why_X12 0 mm_a0 rfl 8 (by decide) lk_X12_why_121 rfl rfl dX12_why_2 ?_
  obtain ⟨r1, g2, h1, h⟩ := dl_b2_some h
  refine dl_vI0 (pc := 5) C (cmo_treeOf l D cI TY hTY nw N ad R _ _ h1) (cwV 1 C.2.2.2.2.1 gX12_why_X12_treeOf rfl rfl rfl (by decide +kernel) ⟨Nat.le_of_ble_eq_true rfl, Nat.le_of_ble_eq_true rfl⟩) 0 12 mm_a0 rfl rfl rfl (Nat.le_of_ble_eq_true rfl) dX12_why_5 ⟨Nat.zero_le _, Nat.zero_le _⟩ (fun r u hp => ?_)
  obtain ⟨rfl, rfl⟩ := hp
  exact hQ 8 _ _ _ ⟨(dl_r2 h).1, by rw [(dl_r2 h).2]⟩ (vp_nar_int _) dX12_why_8
set_option maxHeartbeats 4000000 in
set_option maxRecDepth 100000 in
theorem cmo_tagOf (l : Launch) (D : va_G) (cI : ClassId) (TY : dl_TY) (hTY : TY[0]? = some (cI, .int)) (nw : List Cond) (N : Nat) (ad : Nat → Nat) (R : va_W) (g : dl_Sg) (x1 : Int32) {r0 : Int32} {g0 : dl_Sg} (h : mo_tagOf N g x1 = some (r0, g0)) : dl_CtI l D TY nw yX12_tagOf wsX12_tagOf { frames := 3, cells := 0, slots := 0, locals := 69 } 0 0 [.ref (ad 0), .int x1] (mm_w cI ad g ++ R) (fun r u => r = r0 ∧ u = mm_w cI ad g0 ++ R) := by
  refine dl_metI (ty := .int) [(0, .ref (ad 0)), (1, .int x1)] (by decide) rfl (Nat.le_of_ble_eq_true rfl) rfl ?_
  intro p e s m args below meth c Q A C hQ
  unfold mo_tagOf at h
  refine dl_aload_n (pc := 0) C 0 dX12_tagOf_0 rfl rfl ?_
  refine dl_iload_n (pc := 1) C 1 dX12_tagOf_1 rfl rfl ?_
  obtain ⟨r1, g2, h1, h⟩ := dl_b2_some h
  refine dl_vI0 (pc := 2) C (cmo_treeOf l D cI TY hTY nw N ad R _ _ h1) (cwV 1 C.2.2.2.2.1 gX12_tagOf_X12_treeOf rfl rfl rfl (by decide +kernel) ⟨Nat.le_of_ble_eq_true rfl, Nat.le_of_ble_eq_true rfl⟩) 0 12 mm_a0 rfl rfl rfl (Nat.le_of_ble_eq_true rfl) dX12_tagOf_2 ⟨Nat.zero_le _, Nat.zero_le _⟩ (fun r u hp => ?_)
  obtain ⟨rfl, rfl⟩ := hp
  refine dl_if_eq (pc := 5) C 13 dX12_tagOf_5 (by decide) h (fun q5 h => ?_) (fun q5 h => ?_)
  · refine dl_aload_n (pc := 13) C 0 dX12_tagOf_13 rfl rfl ?_
    refine dl_iload_n (pc := 14) C 1 dX12_tagOf_14 rfl rfl ?_
    obtain ⟨r3, h1, h⟩ := dl_bi_some h
    refine dl_vI0 (pc := 15) C (cmo_costOf l D cI TY hTY nw N ad R _ _ h1) (cwV 1 C.2.2.2.2.1 gX12_tagOf_X12_costOf rfl rfl rfl (by decide +kernel) ⟨Nat.le_of_ble_eq_true rfl, Nat.le_of_ble_eq_true rfl⟩) 0 12 mm_a0 rfl rfl rfl (Nat.le_of_ble_eq_true rfl) dX12_tagOf_15 ⟨Nat.zero_le _, Nat.zero_le _⟩ (fun r u hp => ?_)
    obtain ⟨rfl, rfl⟩ := hp
    refine dl_aload_n (pc := 18) C 0 dX12_tagOf_18 rfl rfl ?_
    obtain ⟨r4, h1, h⟩ := dl_bi_some h
    refine dl_vI0 (pc := 19) C (cmo_worthOf l D cI TY hTY nw N ad R _ h1) (cwV 0 C.2.2.2.2.1 gX12_tagOf_X12_worthOf rfl rfl rfl (by decide +kernel) ⟨Nat.le_of_ble_eq_true rfl, Nat.le_of_ble_eq_true rfl⟩) 0 12 mm_a0 rfl rfl rfl (Nat.le_of_ble_eq_true rfl) dX12_tagOf_19 ⟨Nat.zero_le _, Nat.zero_le _⟩ (fun r u hp => ?_)
    obtain ⟨rfl, rfl⟩ := hp
    refine dl_isub (pc := 22) C dX12_tagOf_22 ?_
    exact hQ 23 _ _ _ ⟨(dl_r2 h).1, by rw [(dl_r2 h).2]⟩ (vp_nar_int _) dX12_tagOf_23
  · refine dl_ldc (pc := 8) C (-1000000) (by decide +kernel) dX12_tagOf_8 ?_
    refine dl_goto (pc := 10) C 23 dX12_tagOf_10 (by decide) ?_
    exact hQ 23 _ _ _ ⟨(dl_r2 h).1, by rw [(dl_r2 h).2]⟩ (vp_nar_int _) dX12_tagOf_23
theorem hin_X12_tag_X12 : ∀ w ∈ u_ws RX12 TX12 32, w ∈ wsX12_tag := fun _ h => List.mem_cons_of_mem _ (List.mem_append_right _ h)
theorem lk_X12_tag_121 : Cond.fieldLink (yX12_tag).cls 121 "DripLinesModel" (TX12 8).2.1 (TX12 8).2.2.1 ∈ wsX12_tag := by decide +kernel
set_option maxHeartbeats 4000000 in
set_option maxRecDepth 100000 in
theorem cmo_tag (l : Launch) (D : va_G) (cI : ClassId) (TY : dl_TY) (hTY : TY[0]? = some (cI, .int)) (nw : List Cond) (N : Nat) (ad : Nat → Nat) (R : va_W) (g : dl_Sg) {r0 : Int32} {g0 : dl_Sg} (h : mo_tag N g  = some (r0, g0)) : dl_CtI l D TY nw yX12_tag wsX12_tag { frames := 4, cells := 0, slots := 0, locals := 90 } 0 0 [.ref (ad 0)] (mm_w cI ad g ++ R) (fun r u => r = r0 ∧ u = mm_w cI ad g0 ++ R) := by
  refine dl_metI (ty := .int) [(0, .ref (ad 0))] (by decide) rfl (Nat.le_of_ble_eq_true rfl) rfl ?_
  intro p e s m args below meth c Q A C hQ
  unfold mo_tag at h
  refine dl_aload_n (pc := 0) C 0 dX12_tag_0 rfl rfl ?_
  refine dl_aload_n (pc := 1) C 0 dX12_tag_1 rfl rfl ?_
  refine dl_get (pc := 2) C hin_X12_tag_X12 0 mm_a0 rfl 8 (by decide) lk_X12_tag_121 rfl rfl dX12_tag_2 ?_
  obtain ⟨r1, g2, h1, h⟩ := dl_b2_some h
  refine dl_vI0 (pc := 5) C (cmo_tagOf l D cI TY hTY nw N ad R _ _ h1) (cwV 1 C.2.2.2.2.1 gX12_tag_X12_tagOf rfl rfl rfl (by decide +kernel) ⟨Nat.le_of_ble_eq_true rfl, Nat.le_of_ble_eq_true rfl⟩) 0 12 mm_a0 rfl rfl rfl (Nat.le_of_ble_eq_true rfl) dX12_tag_5 ⟨Nat.zero_le _, Nat.zero_le _⟩ (fun r u hp => ?_)
  obtain ⟨rfl, rfl⟩ := hp
  exact hQ 8 _ _ _ ⟨(dl_r2 h).1, by rw [(dl_r2 h).2]⟩ (vp_nar_int _) dX12_tag_8
theorem hin_X12_trimmed_X12 : ∀ w ∈ u_ws RX12 TX12 32, w ∈ wsX12_trimmed := fun _ h => List.mem_cons_of_mem _ (List.mem_append_right _ h)
theorem lk_X12_trimmed_7 : Cond.fieldLink (yX12_trimmed).cls 7 "DripLinesModel" (TX12 1).2.1 (TX12 1).2.2.1 ∈ wsX12_trimmed := by decide +kernel
theorem lk_X12_trimmed_13 : Cond.fieldLink (yX12_trimmed).cls 13 "DripLinesModel" (TX12 2).2.1 (TX12 2).2.2.1 ∈ wsX12_trimmed := by decide +kernel
theorem lk_X12_trimmed_16 : Cond.fieldLink (yX12_trimmed).cls 16 "DripLinesModel" (TX12 4).2.1 (TX12 4).2.2.1 ∈ wsX12_trimmed := by decide +kernel
theorem lk_X12_trimmed_19 : Cond.fieldLink (yX12_trimmed).cls 19 "DripLinesModel" (TX12 5).2.1 (TX12 5).2.2.1 ∈ wsX12_trimmed := by decide +kernel
theorem lk_X12_trimmed_22 : Cond.fieldLink (yX12_trimmed).cls 22 "DripLinesModel" (TX12 6).2.1 (TX12 6).2.2.1 ∈ wsX12_trimmed := by decide +kernel
theorem lk_X12_trimmed_121 : Cond.fieldLink (yX12_trimmed).cls 121 "DripLinesModel" (TX12 8).2.1 (TX12 8).2.2.1 ∈ wsX12_trimmed := by decide +kernel
set_option maxHeartbeats 4000000 in
set_option maxRecDepth 100000 in
theorem mo_trimmed_t111 {p : Program} {e : Env} {s : State} {m : MethodId} {args : Array Value} {below : List Frame} {meth : Method} {c : Code} {Q : State → Prop} {A : Nat → Prop} (l : Launch) (D : va_G) (cI : ClassId) (TY : dl_TY) (hTY : TY[0]? = some (cI, .int)) (nw : List Cond) (N : Nat) (ad : Nat → Nat) (R : va_W) (g : dl_Sg) {r0 : Int32} (C : dl_Cx p s m args c A D TY nw cX12_trimmed 4 yX12_trimmed.cls wsX12_trimmed) (hQ : dl_RtI p l e (headSpec wsX12_trimmed { frames := 2, cells := 0, slots := 0, locals := 45 }).room s m args below meth c Q A D cX12_trimmed 4 0 0 .int (fun r u => r = r0 ∧ u = mm_w cI ad g ++ R)) (x2 : Int32) (y0 : Int32) (y1 : Int32) (h : mo_trimmed_b111 N g x2 y0 y1 = some r0) : dl_At p l e (headSpec wsX12_trimmed { frames := 2, cells := 0, slots := 0, locals := 45 }).room s m args below meth c Q A D 4 0 0 111 [(0, .ref (ad 0)), (2, .int x2)] [.int y1, .int y0] (mm_w cI ad g ++ R) := by
  unfold mo_trimmed_b111 at h
  refine dl_icmp_lt (pc := 111) C 118 dX12_trimmed_111 (by decide) h (fun q1 h => ?_) (fun q1 h => ?_)
  · refine dl_iconst (pc := 118) C (-1) dX12_trimmed_118 (by decide) ?_
    exact hQ 119 _ _ _ ⟨Option.some.inj h, rfl⟩ (vp_nar_int _) dX12_trimmed_119
  · refine dl_iload_n (pc := 114) C 1 dX12_trimmed_114 rfl rfl ?_
    refine dl_goto (pc := 115) C 119 dX12_trimmed_115 (by decide) ?_
    exact hQ 119 _ _ _ ⟨Option.some.inj h, rfl⟩ (vp_nar_int _) dX12_trimmed_119
set_option maxHeartbeats 4000000 in
set_option maxRecDepth 100000 in
theorem mo_trimmed_t88 {p : Program} {e : Env} {s : State} {m : MethodId} {args : Array Value} {below : List Frame} {meth : Method} {c : Code} {Q : State → Prop} {A : Nat → Prop} (l : Launch) (D : va_G) (cI : ClassId) (TY : dl_TY) (hTY : TY[0]? = some (cI, .int)) (nw : List Cond) (N : Nat) (ad : Nat → Nat) (R : va_W) (g : dl_Sg) {r0 : Int32} (C : dl_Cx p s m args c A D TY nw cX12_trimmed 4 yX12_trimmed.cls wsX12_trimmed) (hQ : dl_RtI p l e (headSpec wsX12_trimmed { frames := 2, cells := 0, slots := 0, locals := 45 }).room s m args below meth c Q A D cX12_trimmed 4 0 0 .int (fun r u => r = r0 ∧ u = mm_w cI ad g ++ R)) (x1 : Int32) (x2 : Int32) (y0 : Int32) (y1 : Int32) (h : mo_trimmed_b88 N g x1 x2 y0 y1 = some r0) : dl_At p l e (headSpec wsX12_trimmed { frames := 2, cells := 0, slots := 0, locals := 45 }).room s m args below meth c Q A D 4 0 0 88 [(0, .ref (ad 0)), (1, .int x1), (2, .int x2)] [.int y1, .int y0] (mm_w cI ad g ++ R) := by
  unfold mo_trimmed_b88 at h
  refine dl_iadd (pc := 88) C dX12_trimmed_88 ?_
  refine dl_istore_n (pc := 89) C (fun v1 => [(3, .int v1), (0, .ref (ad 0)), (1, .int x1), (2, .int x2)]) dX12_trimmed_89 rfl (by decide) (fun _ => rfl) h (fun v1 h => ?_)
  refine dl_iload_n (pc := 90) C 0 dX12_trimmed_90 rfl rfl ?_
  refine dl_aload_n (pc := 91) C 1 dX12_trimmed_91 rfl rfl ?_
  refine dl_get (pc := 92) C hin_X12_trimmed_X12 0 mm_a0 rfl 1 (by decide) lk_X12_trimmed_7 rfl rfl dX12_trimmed_92 ?_
  refine dl_iload_n (pc := 95) C 2 dX12_trimmed_95 rfl rfl ?_
  obtain ⟨h0, h⟩ := dl_gd_some h
  refine dl_iald (pc := 96) C 1 0 mm_a1 hTY h0 dX12_trimmed_96 ?_
  refine dl_iconst (pc := 97) C 2 dX12_trimmed_97 (by decide) ?_
  refine dl_icmp_ne (pc := 98) C 110 dX12_trimmed_98 (by decide) h (fun q2 h => ?_) (fun q2 h => ?_)
  · refine dl_aload_n (pc := 101) C 1 dX12_trimmed_101 rfl rfl ?_
    refine dl_get (pc := 102) C hin_X12_trimmed_X12 0 mm_a0 rfl 2 (by decide) lk_X12_trimmed_13 rfl rfl dX12_trimmed_102 ?_
    refine dl_iload_n (pc := 105) C 2 dX12_trimmed_105 rfl rfl ?_
    obtain ⟨h0, h⟩ := dl_gd_some h
    refine dl_iald (pc := 106) C 2 0 mm_a2 hTY h0 dX12_trimmed_106 ?_
    refine dl_goto (pc := 107) C 111 dX12_trimmed_107 (by decide) ?_
    refine dl_sub [1, 3] rfl ?_
    exact mo_trimmed_t111 l D cI TY hTY nw N ad R g C hQ  _ _ _ h
  · refine dl_iconst (pc := 110) C 0 dX12_trimmed_110 (by decide) ?_
    refine dl_sub [1, 3] rfl ?_
    exact mo_trimmed_t111 l D cI TY hTY nw N ad R g C hQ  _ _ _ h
set_option maxHeartbeats 4000000 in
set_option maxRecDepth 100000 in
theorem mo_trimmed_t62 {p : Program} {e : Env} {s : State} {m : MethodId} {args : Array Value} {below : List Frame} {meth : Method} {c : Code} {Q : State → Prop} {A : Nat → Prop} (l : Launch) (D : va_G) (cI : ClassId) (TY : dl_TY) (hTY : TY[0]? = some (cI, .int)) (nw : List Cond) (N : Nat) (ad : Nat → Nat) (R : va_W) (g : dl_Sg) {r0 : Int32} (C : dl_Cx p s m args c A D TY nw cX12_trimmed 4 yX12_trimmed.cls wsX12_trimmed) (hQ : dl_RtI p l e (headSpec wsX12_trimmed { frames := 2, cells := 0, slots := 0, locals := 45 }).room s m args below meth c Q A D cX12_trimmed 4 0 0 .int (fun r u => r = r0 ∧ u = mm_w cI ad g ++ R)) (x1 : Int32) (x2 : Int32) (h : mo_trimmed_b62 N g x1 x2 = some r0) : dl_At p l e (headSpec wsX12_trimmed { frames := 2, cells := 0, slots := 0, locals := 45 }).room s m args below meth c Q A D 4 0 0 62 [(0, .ref (ad 0)), (1, .int x1), (2, .int x2)] [] (mm_w cI ad g ++ R) := by
  unfold mo_trimmed_b62 at h
  refine dl_aload_n (pc := 62) C 0 dX12_trimmed_62 rfl rfl ?_
  refine dl_get (pc := 63) C hin_X12_trimmed_X12 0 mm_a0 rfl 6 (by decide) lk_X12_trimmed_22 rfl rfl dX12_trimmed_63 ?_
  refine dl_iload_n (pc := 66) C 2 dX12_trimmed_66 rfl rfl ?_
  obtain ⟨h0, h⟩ := dl_gd_some h
  refine dl_iald (pc := 67) C 5 0 mm_a6 hTY h0 dX12_trimmed_67 ?_
  refine dl_aload_n (pc := 68) C 0 dX12_trimmed_68 rfl rfl ?_
  refine dl_get (pc := 69) C hin_X12_trimmed_X12 0 mm_a0 rfl 1 (by decide) lk_X12_trimmed_7 rfl rfl dX12_trimmed_69 ?_
  refine dl_iload_n (pc := 72) C 1 dX12_trimmed_72 rfl rfl ?_
  obtain ⟨h0, h⟩ := dl_gd_some h
  refine dl_iald (pc := 73) C 1 0 mm_a1 hTY h0 dX12_trimmed_73 ?_
  refine dl_iconst (pc := 74) C 4 dX12_trimmed_74 (by decide) ?_
  refine dl_icmp_ne (pc := 75) C 87 dX12_trimmed_75 (by decide) h (fun q1 h => ?_) (fun q1 h => ?_)
  · refine dl_aload_n (pc := 78) C 0 dX12_trimmed_78 rfl rfl ?_
    refine dl_get (pc := 79) C hin_X12_trimmed_X12 0 mm_a0 rfl 2 (by decide) lk_X12_trimmed_13 rfl rfl dX12_trimmed_79 ?_
    refine dl_iload_n (pc := 82) C 1 dX12_trimmed_82 rfl rfl ?_
    obtain ⟨h0, h⟩ := dl_gd_some h
    refine dl_iald (pc := 83) C 2 0 mm_a2 hTY h0 dX12_trimmed_83 ?_
    refine dl_goto (pc := 84) C 88 dX12_trimmed_84 (by decide) ?_
    refine dl_sub [0, 1, 2] rfl ?_
    exact mo_trimmed_t88 l D cI TY hTY nw N ad R g C hQ  _ _ _ _ h
  · refine dl_iconst (pc := 87) C 0 dX12_trimmed_87 (by decide) ?_
    refine dl_sub [0, 1, 2] rfl ?_
    exact mo_trimmed_t88 l D cI TY hTY nw N ad R g C hQ  _ _ _ _ h
set_option maxHeartbeats 4000000 in
set_option maxRecDepth 100000 in
theorem mo_trimmed_t56 {p : Program} {e : Env} {s : State} {m : MethodId} {args : Array Value} {below : List Frame} {meth : Method} {c : Code} {Q : State → Prop} {A : Nat → Prop} (l : Launch) (D : va_G) (cI : ClassId) (TY : dl_TY) (hTY : TY[0]? = some (cI, .int)) (nw : List Cond) (N : Nat) (ad : Nat → Nat) (R : va_W) (g : dl_Sg) {r0 : Int32} (C : dl_Cx p s m args c A D TY nw cX12_trimmed 4 yX12_trimmed.cls wsX12_trimmed) (hQ : dl_RtI p l e (headSpec wsX12_trimmed { frames := 2, cells := 0, slots := 0, locals := 45 }).room s m args below meth c Q A D cX12_trimmed 4 0 0 .int (fun r u => r = r0 ∧ u = mm_w cI ad g ++ R)) {k25 : Int32 → Int32 → Option Int32} (hk25 : ∀ (x1 : Int32) (x2 : Int32), k25 x1 x2 = some r0 → dl_At p l e (headSpec wsX12_trimmed { frames := 2, cells := 0, slots := 0, locals := 45 }).room s m args below meth c Q A D 4 0 0 25 [(0, .ref (ad 0)), (1, .int x1), (2, .int x2)] [] (mm_w cI ad g ++ R)) (x1 : Int32) (x2 : Int32) (h : mo_trimmed_b56 N g k25 x1 x2 = some r0) : dl_At p l e (headSpec wsX12_trimmed { frames := 2, cells := 0, slots := 0, locals := 45 }).room s m args below meth c Q A D 4 0 0 56 [(0, .ref (ad 0)), (1, .int x1), (2, .int x2)] [] (mm_w cI ad g ++ R) := by
  unfold mo_trimmed_b56 at h
  refine dl_iinc (pc := 56) C 2 (fun v1 => [(2, .int v1), (0, .ref (ad 0)), (1, .int x1)]) dX12_trimmed_56 rfl rfl (by decide) (fun _ => rfl) h (fun v1 h => ?_)
  refine dl_goto (pc := 59) C 25 dX12_trimmed_59 (by decide) ?_
  refine dl_sub [1, 2, 0] rfl ?_
  exact hk25 _ _ h
set_option maxHeartbeats 4000000 in
set_option maxRecDepth 100000 in
theorem mo_trimmed_t25 {p : Program} {e : Env} {s : State} {m : MethodId} {args : Array Value} {below : List Frame} {meth : Method} {c : Code} {Q : State → Prop} {A : Nat → Prop} (l : Launch) (D : va_G) (cI : ClassId) (TY : dl_TY) (hTY : TY[0]? = some (cI, .int)) (nw : List Cond) (N : Nat) (ad : Nat → Nat) (R : va_W) (g : dl_Sg) {r0 : Int32} (C : dl_Cx p s m args c A D TY nw cX12_trimmed 4 yX12_trimmed.cls wsX12_trimmed) (hQ : dl_RtI p l e (headSpec wsX12_trimmed { frames := 2, cells := 0, slots := 0, locals := 45 }).room s m args below meth c Q A D cX12_trimmed 4 0 0 .int (fun r u => r = r0 ∧ u = mm_w cI ad g ++ R)) : ∀ (n : Nat) (x1 : Int32) (x2 : Int32), mo_trimmed_b25 N g n x1 x2 = some r0 → dl_At p l e (headSpec wsX12_trimmed { frames := 2, cells := 0, slots := 0, locals := 45 }).room s m args below meth c Q A D 4 0 0 25 [(0, .ref (ad 0)), (1, .int x1), (2, .int x2)] [] (mm_w cI ad g ++ R) := by
  intro n
  induction n with
  | zero => exact fun _ _ h => absurd (show (none : Option Int32) = some _ from h) (by intro q; cases q)
  | succ n ih =>
    intro x1 x2 h
    rw [mo_trimmed_b25] at h
    refine dl_aload_n (pc := 25) C 0 dX12_trimmed_25 rfl rfl ?_
    refine dl_get (pc := 26) C hin_X12_trimmed_X12 0 mm_a0 rfl 8 (by decide) lk_X12_trimmed_121 rfl rfl dX12_trimmed_26 ?_
    refine dl_iload_n (pc := 29) C 2 dX12_trimmed_29 rfl rfl ?_
    obtain ⟨r1, h1, h⟩ := dl_bi_some h
    refine dl_sI0 (pc := 30) C (cmo_has l D TY nw _ _ _ h1) (va_cwS 2 C.2.2.2.2.1 gX12_trimmed_X12_has rfl rfl rfl (by decide +kernel) ⟨Nat.le_of_ble_eq_true rfl, Nat.le_of_ble_eq_true rfl⟩) rfl rfl (Nat.le_of_ble_eq_true rfl) dX12_trimmed_30 ⟨Nat.zero_le _, Nat.zero_le _⟩ (fun r u hp => ?_)
    obtain ⟨rfl, hu⟩ := hp
    rw [hu]
    clear hu
    refine dl_if_eq (pc := 33) C 56 dX12_trimmed_33 (by decide) h (fun q4 h => ?_) (fun q4 h => ?_)
    · refine dl_sub [0, 1, 2] rfl ?_
      exact mo_trimmed_t56 l D cI TY hTY nw N ad R g C hQ ih  _ _ h
    · refine dl_aload_n (pc := 36) C 0 dX12_trimmed_36 rfl rfl ?_
      refine dl_get (pc := 37) C hin_X12_trimmed_X12 0 mm_a0 rfl 4 (by decide) lk_X12_trimmed_16 rfl rfl dX12_trimmed_37 ?_
      refine dl_iload_n (pc := 40) C 2 dX12_trimmed_40 rfl rfl ?_
      obtain ⟨h0, h⟩ := dl_gd_some h
      refine dl_iald (pc := 41) C 3 0 mm_a4 hTY h0 dX12_trimmed_41 ?_
      refine dl_iload_n (pc := 42) C 1 dX12_trimmed_42 rfl rfl ?_
      refine dl_icmp_eq (pc := 43) C 62 dX12_trimmed_43 (by decide) h (fun q3 h => ?_) (fun q3 h => ?_)
      · refine dl_sub [0, 1, 2] rfl ?_
        exact mo_trimmed_t62 l D cI TY hTY nw N ad R g C hQ  _ _ h
      · refine dl_aload_n (pc := 46) C 0 dX12_trimmed_46 rfl rfl ?_
        refine dl_get (pc := 47) C hin_X12_trimmed_X12 0 mm_a0 rfl 5 (by decide) lk_X12_trimmed_19 rfl rfl dX12_trimmed_47 ?_
        refine dl_iload_n (pc := 50) C 2 dX12_trimmed_50 rfl rfl ?_
        obtain ⟨h0, h⟩ := dl_gd_some h
        refine dl_iald (pc := 51) C 4 0 mm_a5 hTY h0 dX12_trimmed_51 ?_
        refine dl_iload_n (pc := 52) C 1 dX12_trimmed_52 rfl rfl ?_
        refine dl_icmp_eq (pc := 53) C 62 dX12_trimmed_53 (by decide) h (fun q2 h => ?_) (fun q2 h => ?_)
        · refine dl_sub [0, 1, 2] rfl ?_
          exact mo_trimmed_t62 l D cI TY hTY nw N ad R g C hQ  _ _ h
        · refine dl_sub [0, 1, 2] rfl ?_
          exact mo_trimmed_t56 l D cI TY hTY nw N ad R g C hQ ih  _ _ h
set_option maxHeartbeats 4000000 in
set_option maxRecDepth 100000 in
theorem cmo_trimmed (l : Launch) (D : va_G) (cI : ClassId) (TY : dl_TY) (hTY : TY[0]? = some (cI, .int)) (nw : List Cond) (N : Nat) (ad : Nat → Nat) (R : va_W) (g : dl_Sg) (x1 : Int32) {r0 : Int32} (h : mo_trimmed N g x1 = some r0) : dl_CtI l D TY nw yX12_trimmed wsX12_trimmed { frames := 2, cells := 0, slots := 0, locals := 45 } 0 0 [.ref (ad 0), .int x1] (mm_w cI ad g ++ R) (fun r u => r = r0 ∧ u = mm_w cI ad g ++ R) := by
  refine dl_metI (ty := .int) [(0, .ref (ad 0)), (1, .int x1)] (by decide) rfl (Nat.le_of_ble_eq_true rfl) rfl ?_
  intro p e s m args below meth c Q A C hQ
  unfold mo_trimmed at h
  refine dl_aload_n (pc := 0) C 0 dX12_trimmed_0 rfl rfl ?_
  refine dl_iload_n (pc := 1) C 1 dX12_trimmed_1 rfl rfl ?_
  refine dl_aload_n (pc := 2) C 0 dX12_trimmed_2 rfl rfl ?_
  refine dl_get (pc := 3) C hin_X12_trimmed_X12 0 mm_a0 rfl 8 (by decide) lk_X12_trimmed_121 rfl rfl dX12_trimmed_3 ?_
  obtain ⟨r1, h1, h⟩ := dl_bi_some h
  refine dl_vI0 (pc := 6) C (cmo_degree l D cI TY hTY nw N ad R _ _ _ h1) (cwV 2 C.2.2.2.2.1 gX12_trimmed_X12_degree rfl rfl rfl (by decide +kernel) ⟨Nat.le_of_ble_eq_true rfl, Nat.le_of_ble_eq_true rfl⟩) 0 12 mm_a0 rfl rfl rfl (Nat.le_of_ble_eq_true rfl) dX12_trimmed_6 ⟨Nat.zero_le _, Nat.zero_le _⟩ (fun r u hp => ?_)
  obtain ⟨rfl, rfl⟩ := hp
  refine dl_iconst (pc := 9) C 1 dX12_trimmed_9 (by decide) ?_
  refine dl_icmp_ne (pc := 10) C 21 dX12_trimmed_10 (by decide) h (fun q5 h => ?_) (fun q5 h => ?_)
  · refine dl_aload_n (pc := 13) C 0 dX12_trimmed_13 rfl rfl ?_
    refine dl_iload_n (pc := 14) C 1 dX12_trimmed_14 rfl rfl ?_
    obtain ⟨r2, h1, h⟩ := dl_bi_some h
    refine dl_vI0 (pc := 15) C (cmo_isTap l D cI TY hTY nw ad R _ _ h1) (cwV 1 C.2.2.2.2.1 gX12_trimmed_X12_isTap rfl rfl rfl (by decide +kernel) ⟨Nat.le_of_ble_eq_true rfl, Nat.le_of_ble_eq_true rfl⟩) 0 12 mm_a0 rfl rfl rfl (Nat.le_of_ble_eq_true rfl) dX12_trimmed_15 ⟨Nat.zero_le _, Nat.zero_le _⟩ (fun r u hp => ?_)
    obtain ⟨rfl, rfl⟩ := hp
    refine dl_if_eq (pc := 18) C 23 dX12_trimmed_18 (by decide) h (fun q4 h => ?_) (fun q4 h => ?_)
    · refine dl_iconst (pc := 23) C 0 dX12_trimmed_23 (by decide) ?_
      refine dl_istore_n (pc := 24) C (fun v3 => [(2, .int v3), (0, .ref (ad 0)), (1, .int x1)]) dX12_trimmed_24 rfl (by decide) (fun _ => rfl) h (fun v3 h => ?_)
      refine dl_sub [1, 2, 0] rfl ?_
      exact mo_trimmed_t25 l D cI TY hTY nw N ad R g C hQ N _ _ h
    · refine dl_iconst (pc := 21) C (-1) dX12_trimmed_21 (by decide) ?_
      exact hQ 22 _ _ _ ⟨Option.some.inj h, rfl⟩ (vp_nar_int _) dX12_trimmed_22
  · refine dl_iconst (pc := 21) C (-1) dX12_trimmed_21 (by decide) ?_
    exact hQ 22 _ _ _ ⟨Option.some.inj h, rfl⟩ (vp_nar_int _) dX12_trimmed_22
theorem hin_X12_trim_X12 : ∀ w ∈ u_ws RX12 TX12 32, w ∈ wsX12_trim := fun _ h => List.mem_cons_of_mem _ (List.mem_append_right _ h)
theorem lk_X12_trim_69 : Cond.fieldLink (yX12_trim).cls 69 "DripLinesModel" (TX12 0).2.1 (TX12 0).2.2.1 ∈ wsX12_trim := by decide +kernel
theorem lk_X12_trim_121 : Cond.fieldLink (yX12_trim).cls 121 "DripLinesModel" (TX12 8).2.1 (TX12 8).2.2.1 ∈ wsX12_trim := by decide +kernel
set_option maxHeartbeats 4000000 in
set_option maxRecDepth 100000 in
theorem mo_trim_t69 {p : Program} {e : Env} {s : State} {m : MethodId} {args : Array Value} {below : List Frame} {meth : Method} {c : Code} {Q : State → Prop} {A : Nat → Prop} (l : Launch) (D : va_G) (cI : ClassId) (TY : dl_TY) (hTY : TY[0]? = some (cI, .int)) (nw : List Cond) (N : Nat) (ad : Nat → Nat) (R : va_W) {r0 : Int32} {g0 : dl_Sg} (C : dl_Cx p s m args c A D TY nw cX12_trim 4 yX12_trim.cls wsX12_trim) (hQ : dl_RtI p l e (headSpec wsX12_trim { frames := 3, cells := 0, slots := 0, locals := 69 }).room s m args below meth c Q A D cX12_trim 4 0 0 .int (fun r u => r = r0 ∧ u = mm_w cI ad g0 ++ R)) {k21 : Int32 → Int32 → dl_Sg → Option (Int32 × dl_Sg)} (hk21 : ∀ (x1 : Int32) (x2 : Int32) (g : dl_Sg), k21 x1 x2 g = some (r0, g0) → dl_At p l e (headSpec wsX12_trim { frames := 3, cells := 0, slots := 0, locals := 69 }).room s m args below meth c Q A D 4 0 0 21 [(0, .ref (ad 0)), (1, .int x1), (2, .int x2)] [] (mm_w cI ad g ++ R)) (x1 : Int32) (y0 : Int32) (g : dl_Sg) (h : mo_trim_b69 N k21 x1 y0 g = some (r0, g0)) : dl_At p l e (headSpec wsX12_trim { frames := 3, cells := 0, slots := 0, locals := 69 }).room s m args below meth c Q A D 4 0 0 69 [(0, .ref (ad 0)), (1, .int x1)] [.int y0] (mm_w cI ad g ++ R) := by
  unfold mo_trim_b69 at h
  refine dl_istore_n (pc := 69) C (fun v1 => [(2, .int v1), (0, .ref (ad 0)), (1, .int x1)]) dX12_trim_69 rfl (by decide) (fun _ => rfl) h (fun v1 h => ?_)
  refine dl_goto (pc := 70) C 21 dX12_trim_70 (by decide) ?_
  refine dl_sub [1, 2, 0] rfl ?_
  exact hk21 _ _ _ h
set_option maxHeartbeats 4000000 in
set_option maxRecDepth 100000 in
theorem mo_trim_t57 {p : Program} {e : Env} {s : State} {m : MethodId} {args : Array Value} {below : List Frame} {meth : Method} {c : Code} {Q : State → Prop} {A : Nat → Prop} (l : Launch) (D : va_G) (cI : ClassId) (TY : dl_TY) (hTY : TY[0]? = some (cI, .int)) (nw : List Cond) (N : Nat) (ad : Nat → Nat) (R : va_W) {r0 : Int32} {g0 : dl_Sg} (C : dl_Cx p s m args c A D TY nw cX12_trim 4 yX12_trim.cls wsX12_trim) (hQ : dl_RtI p l e (headSpec wsX12_trim { frames := 3, cells := 0, slots := 0, locals := 69 }).room s m args below meth c Q A D cX12_trim 4 0 0 .int (fun r u => r = r0 ∧ u = mm_w cI ad g0 ++ R)) {k21 : Int32 → Int32 → dl_Sg → Option (Int32 × dl_Sg)} (hk21 : ∀ (x1 : Int32) (x2 : Int32) (g : dl_Sg), k21 x1 x2 g = some (r0, g0) → dl_At p l e (headSpec wsX12_trim { frames := 3, cells := 0, slots := 0, locals := 69 }).room s m args below meth c Q A D 4 0 0 21 [(0, .ref (ad 0)), (1, .int x1), (2, .int x2)] [] (mm_w cI ad g ++ R)) (x1 : Int32) (x2 : Int32) (x3 : Int32) (g : dl_Sg) (h : mo_trim_b57 N k21 x1 x2 x3 g = some (r0, g0)) : dl_At p l e (headSpec wsX12_trim { frames := 3, cells := 0, slots := 0, locals := 69 }).room s m args below meth c Q A D 4 0 0 57 [(0, .ref (ad 0)), (1, .int x1), (2, .int x2), (3, .int x3)] [] (mm_w cI ad g ++ R) := by
  unfold mo_trim_b57 at h
  refine dl_iload_n (pc := 57) C 3 dX12_trim_57 rfl rfl ?_
  refine dl_iconst (pc := 58) C (-1) dX12_trim_58 (by decide) ?_
  refine dl_icmp_eq (pc := 59) C 66 dX12_trim_59 (by decide) h (fun q1 h => ?_) (fun q1 h => ?_)
  · refine dl_iload_n (pc := 66) C 2 dX12_trim_66 rfl rfl ?_
    refine dl_iconst (pc := 67) C 1 dX12_trim_67 (by decide) ?_
    refine dl_iadd (pc := 68) C dX12_trim_68 ?_
    refine dl_sub [0, 1] rfl ?_
    exact mo_trim_t69 l D cI TY hTY nw N ad R C hQ hk21  _ _ _ h
  · refine dl_iconst (pc := 62) C 0 dX12_trim_62 (by decide) ?_
    refine dl_goto (pc := 63) C 69 dX12_trim_63 (by decide) ?_
    refine dl_sub [0, 1] rfl ?_
    exact mo_trim_t69 l D cI TY hTY nw N ad R C hQ hk21  _ _ _ h
set_option maxHeartbeats 4000000 in
set_option maxRecDepth 100000 in
theorem mo_trim_t21 {p : Program} {e : Env} {s : State} {m : MethodId} {args : Array Value} {below : List Frame} {meth : Method} {c : Code} {Q : State → Prop} {A : Nat → Prop} (l : Launch) (D : va_G) (cI : ClassId) (TY : dl_TY) (hTY : TY[0]? = some (cI, .int)) (nw : List Cond) (N : Nat) (ad : Nat → Nat) (R : va_W) {r0 : Int32} {g0 : dl_Sg} (C : dl_Cx p s m args c A D TY nw cX12_trim 4 yX12_trim.cls wsX12_trim) (hQ : dl_RtI p l e (headSpec wsX12_trim { frames := 3, cells := 0, slots := 0, locals := 69 }).room s m args below meth c Q A D cX12_trim 4 0 0 .int (fun r u => r = r0 ∧ u = mm_w cI ad g0 ++ R)) : ∀ (n : Nat) (x1 : Int32) (x2 : Int32) (g : dl_Sg), mo_trim_b21 N n x1 x2 g = some (r0, g0) → dl_At p l e (headSpec wsX12_trim { frames := 3, cells := 0, slots := 0, locals := 69 }).room s m args below meth c Q A D 4 0 0 21 [(0, .ref (ad 0)), (1, .int x1), (2, .int x2)] [] (mm_w cI ad g ++ R) := by
  intro n
  induction n with
  | zero => exact fun _ _ _ h => absurd (show (none : Option (Int32 × dl_Sg)) = some _ from h) (by intro q; cases q)
  | succ n ih =>
    intro x1 x2 g h
    rw [mo_trim_b21] at h
    refine dl_iload_n (pc := 21) C 2 dX12_trim_21 rfl rfl ?_
    refine dl_aload_n (pc := 22) C 0 dX12_trim_22 rfl rfl ?_
    refine dl_get (pc := 23) C hin_X12_trim_X12 0 mm_a0 rfl 0 (by decide) lk_X12_trim_69 rfl rfl dX12_trim_23 ?_
    refine dl_icmp_ge (pc := 26) C 73 dX12_trim_26 (by decide) h (fun q8 h => ?_) (fun q8 h => ?_)
    · refine dl_aload_n (pc := 73) C 0 dX12_trim_73 rfl rfl ?_
      refine dl_iload_n (pc := 74) C 1 dX12_trim_74 rfl rfl ?_
      obtain ⟨r1, g2, h1, h⟩ := dl_b2_some h
      refine dl_vI0 (pc := 75) C (cmo_done l D cI TY hTY nw ad R _ _ h1) (cwV 1 C.2.2.2.2.1 gX12_trim_X12_done rfl rfl rfl (by decide +kernel) ⟨Nat.le_of_ble_eq_true rfl, Nat.le_of_ble_eq_true rfl⟩) 0 12 mm_a0 rfl rfl rfl (Nat.le_of_ble_eq_true rfl) dX12_trim_75 ⟨Nat.zero_le _, Nat.zero_le _⟩ (fun r u hp => ?_)
      obtain ⟨rfl, rfl⟩ := hp
      exact hQ 78 _ _ _ ⟨(dl_r2 h).1, by rw [(dl_r2 h).2]⟩ (vp_nar_int _) dX12_trim_78
    · refine dl_aload_n (pc := 29) C 0 dX12_trim_29 rfl rfl ?_
      refine dl_iload_n (pc := 30) C 2 dX12_trim_30 rfl rfl ?_
      obtain ⟨r3, h1, h⟩ := dl_bi_some h
      refine dl_vI0 (pc := 31) C (cmo_trimmed l D cI TY hTY nw N ad R _ _ h1) (cwV 1 C.2.2.2.2.1 gX12_trim_X12_trimmed rfl rfl rfl (by decide +kernel) ⟨Nat.le_of_ble_eq_true rfl, Nat.le_of_ble_eq_true rfl⟩) 0 12 mm_a0 rfl rfl rfl (Nat.le_of_ble_eq_true rfl) dX12_trim_31 ⟨Nat.zero_le _, Nat.zero_le _⟩ (fun r u hp => ?_)
      obtain ⟨rfl, rfl⟩ := hp
      refine dl_istore_n (pc := 34) C (fun v4 => [(3, .int v4), (0, .ref (ad 0)), (1, .int x1), (2, .int x2)]) dX12_trim_34 rfl (by decide) (fun _ => rfl) h (fun v4 h => ?_)
      refine dl_iload_n (pc := 35) C 0 dX12_trim_35 rfl rfl ?_
      refine dl_iconst (pc := 36) C (-1) dX12_trim_36 (by decide) ?_
      refine dl_icmp_eq (pc := 37) C 57 dX12_trim_37 (by decide) h (fun q7 h => ?_) (fun q7 h => ?_)
      · refine dl_sub [1, 2, 3, 0] rfl ?_
        exact mo_trim_t57 l D cI TY hTY nw N ad R C hQ ih  _ _ _ _ h
      · refine dl_aload_n (pc := 40) C 1 dX12_trim_40 rfl rfl ?_
        refine dl_dup (pc := 41) C dX12_trim_41 rfl ?_
        refine dl_get (pc := 42) C hin_X12_trim_X12 0 mm_a0 rfl 8 (by decide) lk_X12_trim_121 rfl rfl dX12_trim_42 ?_
        refine dl_iconst (pc := 45) C 1 dX12_trim_45 (by decide) ?_
        refine dl_iload_n (pc := 46) C 0 dX12_trim_46 rfl rfl ?_
        refine dl_ishl (pc := 47) C dX12_trim_47 ?_
        refine dl_iconst (pc := 48) C (-1) dX12_trim_48 (by decide) ?_
        refine dl_ixor (pc := 49) C dX12_trim_49 ?_
        refine dl_iand (pc := 50) C dX12_trim_50 ?_
        refine dl_put (pc := 51) C hin_X12_trim_X12 tyX12 tyX12_ok nmX12 0 mm_a0 rfl 8 (by decide) lk_X12_trim_121 rfl rfl (ty := .int) rfl (vp_nar_int _) rfl (Nat.le_of_ble_eq_true rfl) dX12_trim_51 mm_p0_8 ?_
        obtain ⟨g5, h, hg⟩ := dl_nm_some h
        rw [← hg]
        clear hg
        refine dl_iinc (pc := 54) C 2 (fun v6 => [(1, .int v6), (3, .int v4), (0, .ref (ad 0)), (2, .int x2)]) dX12_trim_54 rfl rfl (by decide) (fun _ => rfl) h (fun v6 h => ?_)
        refine dl_sub [2, 0, 3, 1] rfl ?_
        exact mo_trim_t57 l D cI TY hTY nw N ad R C hQ ih  _ _ _ _ h
set_option maxHeartbeats 4000000 in
set_option maxRecDepth 100000 in
theorem cmo_trim (l : Launch) (D : va_G) (cI : ClassId) (TY : dl_TY) (hTY : TY[0]? = some (cI, .int)) (nw : List Cond) (N : Nat) (ad : Nat → Nat) (R : va_W) (g : dl_Sg) {r0 : Int32} {g0 : dl_Sg} (h : mo_trim N g  = some (r0, g0)) : dl_CtI l D TY nw yX12_trim wsX12_trim { frames := 3, cells := 0, slots := 0, locals := 69 } 0 0 [.ref (ad 0)] (mm_w cI ad g ++ R) (fun r u => r = r0 ∧ u = mm_w cI ad g0 ++ R) := by
  refine dl_metI (ty := .int) [(0, .ref (ad 0))] (by decide) rfl (Nat.le_of_ble_eq_true rfl) rfl ?_
  intro p e s m args below meth c Q A C hQ
  unfold mo_trim at h
  refine dl_aload_n (pc := 0) C 0 dX12_trim_0 rfl rfl ?_
  refine dl_aload_n (pc := 1) C 0 dX12_trim_1 rfl rfl ?_
  refine dl_get (pc := 2) C hin_X12_trim_X12 0 mm_a0 rfl 8 (by decide) lk_X12_trim_121 rfl rfl dX12_trim_2 ?_
  obtain ⟨r1, g2, h1, h⟩ := dl_b2_some h
  refine dl_vI0 (pc := 5) C (cmo_treeOf l D cI TY hTY nw N ad R _ _ h1) (cwV 1 C.2.2.2.2.1 gX12_trim_X12_treeOf rfl rfl rfl (by decide +kernel) ⟨Nat.le_of_ble_eq_true rfl, Nat.le_of_ble_eq_true rfl⟩) 0 12 mm_a0 rfl rfl rfl (Nat.le_of_ble_eq_true rfl) dX12_trim_5 ⟨Nat.zero_le _, Nat.zero_le _⟩ (fun r u hp => ?_)
  obtain ⟨rfl, rfl⟩ := hp
  refine dl_if_eq (pc := 8) C 17 dX12_trim_8 (by decide) h (fun q7 h => ?_) (fun q7 h => ?_)
  · refine dl_iconst (pc := 17) C 0 dX12_trim_17 (by decide) ?_
    refine dl_istore_n (pc := 18) C (fun v3 => [(1, .int v3), (0, .ref (ad 0))]) dX12_trim_18 rfl (by decide) (fun _ => rfl) h (fun v3 h => ?_)
    refine dl_iconst (pc := 19) C 0 dX12_trim_19 (by decide) ?_
    refine dl_istore_n (pc := 20) C (fun v4 => [(2, .int v4), (1, .int v3), (0, .ref (ad 0))]) dX12_trim_20 rfl (by decide) (fun _ => rfl) h (fun v4 h => ?_)
    refine dl_sub [2, 1, 0] rfl ?_
    exact mo_trim_t21 l D cI TY hTY nw N ad R C hQ N _ _ _ h
  · refine dl_aload_n (pc := 11) C 0 dX12_trim_11 rfl rfl ?_
    refine dl_iconst (pc := 12) C 3 dX12_trim_12 (by decide) ?_
    obtain ⟨r5, g6, h1, h⟩ := dl_b2_some h
    refine dl_vI0 (pc := 13) C (cmo_refused l D cI TY hTY nw ad R _ _ h1) (cwV 1 C.2.2.2.2.1 gX12_trim_X12_refused rfl rfl rfl (by decide +kernel) ⟨Nat.le_of_ble_eq_true rfl, Nat.le_of_ble_eq_true rfl⟩) 0 12 mm_a0 rfl rfl rfl (Nat.le_of_ble_eq_true rfl) dX12_trim_13 ⟨Nat.zero_le _, Nat.zero_le _⟩ (fun r u hp => ?_)
    obtain ⟨rfl, rfl⟩ := hp
    exact hQ 16 _ _ _ ⟨(dl_r2 h).1, by rw [(dl_r2 h).2]⟩ (vp_nar_int _) dX12_trim_16
theorem hin_X12_better_X12 : ∀ w ∈ u_ws RX12 TX12 32, w ∈ wsX12_better := fun _ h => List.mem_cons_of_mem _ (List.mem_append_right _ h)
theorem lk_X12_better_76 : Cond.fieldLink (yX12_better).cls 76 "DripLinesModel" (TX12 3).2.1 (TX12 3).2.2.1 ∈ wsX12_better := by decide +kernel
theorem lk_X12_better_101 : Cond.fieldLink (yX12_better).cls 101 "DripLinesModel" (TX12 7).2.1 (TX12 7).2.2.1 ∈ wsX12_better := by decide +kernel
theorem lk_X12_better_121 : Cond.fieldLink (yX12_better).cls 121 "DripLinesModel" (TX12 8).2.1 (TX12 8).2.2.1 ∈ wsX12_better := by decide +kernel
set_option maxHeartbeats 4000000 in
set_option maxRecDepth 100000 in
theorem mo_better_t122 {p : Program} {e : Env} {s : State} {m : MethodId} {args : Array Value} {below : List Frame} {meth : Method} {c : Code} {Q : State → Prop} {A : Nat → Prop} (l : Launch) (D : va_G) (cI : ClassId) (TY : dl_TY) (hTY : TY[0]? = some (cI, .int)) (nw : List Cond) (N : Nat) (ad : Nat → Nat) (R : va_W) {r0 : Int32} {g0 : dl_Sg} (C : dl_Cx p s m args c A D TY nw cX12_better 6 yX12_better.cls wsX12_better) (hQ : dl_RtI p l e (headSpec wsX12_better { frames := 4, cells := 0, slots := 0, locals := 90 }).room s m args below meth c Q A D cX12_better 6 0 0 .int (fun r u => r = r0 ∧ u = mm_w cI ad g0 ++ R)) {k23 : Int32 → Int32 → dl_Sg → Option (Int32 × dl_Sg)} (hk23 : ∀ (x1 : Int32) (x2 : Int32) (g : dl_Sg), k23 x1 x2 g = some (r0, g0) → dl_At p l e (headSpec wsX12_better { frames := 4, cells := 0, slots := 0, locals := 90 }).room s m args below meth c Q A D 6 0 0 23 [(0, .ref (ad 0)), (1, .int x1), (2, .int x2)] [] (mm_w cI ad g ++ R)) {k33 : Int32 → Int32 → Int32 → dl_Sg → Option (Int32 × dl_Sg)} (hk33 : ∀ (x1 : Int32) (x2 : Int32) (x3 : Int32) (g : dl_Sg), k33 x1 x2 x3 g = some (r0, g0) → dl_At p l e (headSpec wsX12_better { frames := 4, cells := 0, slots := 0, locals := 90 }).room s m args below meth c Q A D 6 0 0 33 [(0, .ref (ad 0)), (1, .int x1), (2, .int x2), (3, .int x3)] [] (mm_w cI ad g ++ R)) (x1 : Int32) (x2 : Int32) (x3 : Int32) (g : dl_Sg) (h : mo_better_b122 N k23 k33 x1 x2 x3 g = some (r0, g0)) : dl_At p l e (headSpec wsX12_better { frames := 4, cells := 0, slots := 0, locals := 90 }).room s m args below meth c Q A D 6 0 0 122 [(0, .ref (ad 0)), (1, .int x1), (2, .int x2), (3, .int x3)] [] (mm_w cI ad g ++ R) := by
  unfold mo_better_b122 at h
  refine dl_iinc (pc := 122) C 3 (fun v1 => [(3, .int v1), (0, .ref (ad 0)), (1, .int x1), (2, .int x2)]) dX12_better_122 rfl rfl (by decide) (fun _ => rfl) h (fun v1 h => ?_)
  refine dl_goto (pc := 125) C 33 dX12_better_125 (by decide) ?_
  refine dl_sub [1, 2, 3, 0] rfl ?_
  exact hk33 _ _ _ _ h
set_option maxHeartbeats 4000000 in
set_option maxRecDepth 100000 in
theorem mo_better_t33 {p : Program} {e : Env} {s : State} {m : MethodId} {args : Array Value} {below : List Frame} {meth : Method} {c : Code} {Q : State → Prop} {A : Nat → Prop} (l : Launch) (D : va_G) (cI : ClassId) (TY : dl_TY) (hTY : TY[0]? = some (cI, .int)) (nw : List Cond) (N : Nat) (ad : Nat → Nat) (R : va_W) {r0 : Int32} {g0 : dl_Sg} (C : dl_Cx p s m args c A D TY nw cX12_better 6 yX12_better.cls wsX12_better) (hQ : dl_RtI p l e (headSpec wsX12_better { frames := 4, cells := 0, slots := 0, locals := 90 }).room s m args below meth c Q A D cX12_better 6 0 0 .int (fun r u => r = r0 ∧ u = mm_w cI ad g0 ++ R)) {k23 : Int32 → Int32 → dl_Sg → Option (Int32 × dl_Sg)} (hk23 : ∀ (x1 : Int32) (x2 : Int32) (g : dl_Sg), k23 x1 x2 g = some (r0, g0) → dl_At p l e (headSpec wsX12_better { frames := 4, cells := 0, slots := 0, locals := 90 }).room s m args below meth c Q A D 6 0 0 23 [(0, .ref (ad 0)), (1, .int x1), (2, .int x2)] [] (mm_w cI ad g ++ R)) : ∀ (n : Nat) (x1 : Int32) (x2 : Int32) (x3 : Int32) (g : dl_Sg), mo_better_b33 N k23 n x1 x2 x3 g = some (r0, g0) → dl_At p l e (headSpec wsX12_better { frames := 4, cells := 0, slots := 0, locals := 90 }).room s m args below meth c Q A D 6 0 0 33 [(0, .ref (ad 0)), (1, .int x1), (2, .int x2), (3, .int x3)] [] (mm_w cI ad g ++ R) := by
  intro n
  induction n with
  | zero => exact fun _ _ _ _ h => absurd (show (none : Option (Int32 × dl_Sg)) = some _ from h) (by intro q; cases q)
  | succ n ih =>
    intro x1 x2 x3 g h
    rw [mo_better_b33] at h
    refine dl_iload_n (pc := 33) C 3 dX12_better_33 rfl rfl ?_
    refine dl_aload_n (pc := 34) C 0 dX12_better_34 rfl rfl ?_
    refine dl_get (pc := 35) C hin_X12_better_X12 0 mm_a0 rfl 3 (by decide) lk_X12_better_76 rfl rfl dX12_better_35 ?_
    refine dl_icmp_ge (pc := 38) C 128 dX12_better_38 (by decide) h (fun q15 h => ?_) (fun q15 h => ?_)
    · refine dl_iinc (pc := 128) C 2 (fun v1 => [(2, .int v1), (0, .ref (ad 0)), (1, .int x1), (3, .int x3)]) dX12_better_128 rfl rfl (by decide) (fun _ => rfl) h (fun v1 h => ?_)
      refine dl_goto (pc := 131) C 23 dX12_better_131 (by decide) ?_
      refine dl_sub [1, 2, 0] rfl ?_
      exact hk23 _ _ _ h
    · refine dl_aload_n (pc := 41) C 0 dX12_better_41 rfl rfl ?_
      refine dl_get (pc := 42) C hin_X12_better_X12 0 mm_a0 rfl 7 (by decide) lk_X12_better_101 rfl rfl dX12_better_42 ?_
      refine dl_aload_n (pc := 45) C 0 dX12_better_45 rfl rfl ?_
      refine dl_get (pc := 46) C hin_X12_better_X12 0 mm_a0 rfl 8 (by decide) lk_X12_better_121 rfl rfl dX12_better_46 ?_
      refine dl_iconst (pc := 49) C (-1) dX12_better_49 (by decide) ?_
      refine dl_ixor (pc := 50) C dX12_better_50 ?_
      refine dl_iand (pc := 51) C dX12_better_51 ?_
      refine dl_iload_n (pc := 52) C 2 dX12_better_52 rfl rfl ?_
      obtain ⟨r2, h1, h⟩ := dl_bi_some h
      refine dl_sI0 (pc := 53) C (cmo_has l D TY nw _ _ _ h1) (va_cwS 2 C.2.2.2.2.1 gX12_better_X12_has rfl rfl rfl (by decide +kernel) ⟨Nat.le_of_ble_eq_true rfl, Nat.le_of_ble_eq_true rfl⟩) rfl rfl (Nat.le_of_ble_eq_true rfl) dX12_better_53 ⟨Nat.zero_le _, Nat.zero_le _⟩ (fun r u hp => ?_)
      obtain ⟨rfl, hu⟩ := hp
      rw [hu]
      clear hu
      refine dl_if_eq (pc := 56) C 122 dX12_better_56 (by decide) h (fun q14 h => ?_) (fun q14 h => ?_)
      · refine dl_sub [0, 1, 2, 3] rfl ?_
        exact mo_better_t122 l D cI TY hTY nw N ad R C hQ hk23 ih  _ _ _ _ h
      · refine dl_aload_n (pc := 59) C 0 dX12_better_59 rfl rfl ?_
        refine dl_get (pc := 60) C hin_X12_better_X12 0 mm_a0 rfl 8 (by decide) lk_X12_better_121 rfl rfl dX12_better_60 ?_
        refine dl_iload_n (pc := 63) C 3 dX12_better_63 rfl rfl ?_
        obtain ⟨r3, h1, h⟩ := dl_bi_some h
        refine dl_sI0 (pc := 64) C (cmo_has l D TY nw _ _ _ h1) (va_cwS 2 C.2.2.2.2.1 gX12_better_X12_has rfl rfl rfl (by decide +kernel) ⟨Nat.le_of_ble_eq_true rfl, Nat.le_of_ble_eq_true rfl⟩) rfl rfl (Nat.le_of_ble_eq_true rfl) dX12_better_64 ⟨Nat.zero_le _, Nat.zero_le _⟩ (fun r u hp => ?_)
        obtain ⟨rfl, hu⟩ := hp
        rw [hu]
        clear hu
        refine dl_if_eq (pc := 67) C 122 dX12_better_67 (by decide) h (fun q13 h => ?_) (fun q13 h => ?_)
        · refine dl_sub [0, 1, 2, 3] rfl ?_
          exact mo_better_t122 l D cI TY hTY nw N ad R C hQ hk23 ih  _ _ _ _ h
        · refine dl_aload_n (pc := 70) C 0 dX12_better_70 rfl rfl ?_
          refine dl_get (pc := 71) C hin_X12_better_X12 0 mm_a0 rfl 8 (by decide) lk_X12_better_121 rfl rfl dX12_better_71 ?_
          refine dl_iconst (pc := 74) C 1 dX12_better_74 (by decide) ?_
          refine dl_iload_n (pc := 75) C 3 dX12_better_75 rfl rfl ?_
          refine dl_ishl (pc := 76) C dX12_better_76 ?_
          refine dl_iconst (pc := 77) C (-1) dX12_better_77 (by decide) ?_
          refine dl_ixor (pc := 78) C dX12_better_78 ?_
          refine dl_iand (pc := 79) C dX12_better_79 ?_
          refine dl_iconst (pc := 80) C 1 dX12_better_80 (by decide) ?_
          refine dl_iload_n (pc := 81) C 2 dX12_better_81 rfl rfl ?_
          refine dl_ishl (pc := 82) C dX12_better_82 ?_
          refine dl_ior (pc := 83) C dX12_better_83 ?_
          refine dl_istore (pc := 84) C (fun v4 => [(4, .int v4), (0, .ref (ad 0)), (1, .int x1), (2, .int x2), (3, .int x3)]) dX12_better_84 (by decide) (fun _ => rfl) h (fun v4 h => ?_)
          refine dl_aload_n (pc := 86) C 1 dX12_better_86 rfl rfl ?_
          refine dl_iload (pc := 87) C 0 dX12_better_87 rfl ?_
          obtain ⟨r5, g6, h1, h⟩ := dl_b2_some h
          refine dl_vI0 (pc := 89) C (cmo_tagOf l D cI TY hTY nw N ad R _ _ h1) (cwV 1 C.2.2.2.2.1 gX12_better_X12_tagOf rfl rfl rfl (by decide +kernel) ⟨Nat.le_of_ble_eq_true rfl, Nat.le_of_ble_eq_true rfl⟩) 0 12 mm_a0 rfl rfl rfl (Nat.le_of_ble_eq_true rfl) dX12_better_89 ⟨Nat.zero_le _, Nat.zero_le _⟩ (fun r u hp => ?_)
          obtain ⟨rfl, rfl⟩ := hp
          refine dl_istore (pc := 92) C (fun v7 => [(5, .int v7), (4, .int v4), (0, .ref (ad 0)), (1, .int x1), (2, .int x2), (3, .int x3)]) dX12_better_92 (by decide) (fun _ => rfl) h (fun v7 h => ?_)
          refine dl_iload (pc := 94) C 0 dX12_better_94 rfl ?_
          refine dl_ldc (pc := 96) C (-1000000) (by decide +kernel) dX12_better_96 ?_
          refine dl_icmp_eq (pc := 98) C 122 dX12_better_98 (by decide) h (fun q12 h => ?_) (fun q12 h => ?_)
          · refine dl_sub [2, 3, 4, 5] rfl ?_
            exact mo_better_t122 l D cI TY hTY nw N ad R C hQ hk23 ih  _ _ _ _ h
          · refine dl_iload (pc := 101) C 0 dX12_better_101 rfl ?_
            refine dl_iload_n (pc := 103) C 3 dX12_better_103 rfl rfl ?_
            refine dl_icmp_ge (pc := 104) C 122 dX12_better_104 (by decide) h (fun q11 h => ?_) (fun q11 h => ?_)
            · refine dl_sub [2, 3, 4, 5] rfl ?_
              exact mo_better_t122 l D cI TY hTY nw N ad R C hQ hk23 ih  _ _ _ _ h
            · refine dl_aload_n (pc := 107) C 2 dX12_better_107 rfl rfl ?_
              refine dl_iload (pc := 108) C 1 dX12_better_108 rfl ?_
              refine dl_put (pc := 110) C hin_X12_better_X12 tyX12 tyX12_ok nmX12 0 mm_a0 rfl 8 (by decide) lk_X12_better_121 rfl rfl (ty := .int) rfl (vp_nar_int _) rfl (Nat.le_of_ble_eq_true rfl) dX12_better_110 mm_p0_8 ?_
              obtain ⟨g8, h, hg⟩ := dl_nm_some h
              rw [← hg]
              clear hg
              refine dl_aload_n (pc := 113) C 2 dX12_better_113 rfl rfl ?_
              refine dl_iload_n (pc := 114) C 3 dX12_better_114 rfl rfl ?_
              refine dl_iload (pc := 115) C 0 dX12_better_115 rfl ?_
              refine dl_isub (pc := 117) C dX12_better_117 ?_
              obtain ⟨r9, g10, h1, h⟩ := dl_b2_some h
              refine dl_vI0 (pc := 118) C (cmo_done l D cI TY hTY nw ad R _ _ h1) (cwV 1 C.2.2.2.2.1 gX12_better_X12_done rfl rfl rfl (by decide +kernel) ⟨Nat.le_of_ble_eq_true rfl, Nat.le_of_ble_eq_true rfl⟩) 0 12 mm_a0 rfl rfl rfl (Nat.le_of_ble_eq_true rfl) dX12_better_118 ⟨Nat.zero_le _, Nat.zero_le _⟩ (fun r u hp => ?_)
              obtain ⟨rfl, rfl⟩ := hp
              exact hQ 121 _ _ _ ⟨(dl_r2 h).1, by rw [(dl_r2 h).2]⟩ (vp_nar_int _) dX12_better_121
set_option maxHeartbeats 4000000 in
set_option maxRecDepth 100000 in
theorem mo_better_t23 {p : Program} {e : Env} {s : State} {m : MethodId} {args : Array Value} {below : List Frame} {meth : Method} {c : Code} {Q : State → Prop} {A : Nat → Prop} (l : Launch) (D : va_G) (cI : ClassId) (TY : dl_TY) (hTY : TY[0]? = some (cI, .int)) (nw : List Cond) (N : Nat) (ad : Nat → Nat) (R : va_W) {r0 : Int32} {g0 : dl_Sg} (C : dl_Cx p s m args c A D TY nw cX12_better 6 yX12_better.cls wsX12_better) (hQ : dl_RtI p l e (headSpec wsX12_better { frames := 4, cells := 0, slots := 0, locals := 90 }).room s m args below meth c Q A D cX12_better 6 0 0 .int (fun r u => r = r0 ∧ u = mm_w cI ad g0 ++ R)) : ∀ (n : Nat) (x1 : Int32) (x2 : Int32) (g : dl_Sg), mo_better_b23 N n x1 x2 g = some (r0, g0) → dl_At p l e (headSpec wsX12_better { frames := 4, cells := 0, slots := 0, locals := 90 }).room s m args below meth c Q A D 6 0 0 23 [(0, .ref (ad 0)), (1, .int x1), (2, .int x2)] [] (mm_w cI ad g ++ R) := by
  intro n
  induction n with
  | zero => exact fun _ _ _ h => absurd (show (none : Option (Int32 × dl_Sg)) = some _ from h) (by intro q; cases q)
  | succ n ih =>
    intro x1 x2 g h
    rw [mo_better_b23] at h
    refine dl_iload_n (pc := 23) C 2 dX12_better_23 rfl rfl ?_
    refine dl_aload_n (pc := 24) C 0 dX12_better_24 rfl rfl ?_
    refine dl_get (pc := 25) C hin_X12_better_X12 0 mm_a0 rfl 3 (by decide) lk_X12_better_76 rfl rfl dX12_better_25 ?_
    refine dl_icmp_ge (pc := 28) C 134 dX12_better_28 (by decide) h (fun q4 h => ?_) (fun q4 h => ?_)
    · refine dl_aload_n (pc := 134) C 0 dX12_better_134 rfl rfl ?_
      refine dl_iconst (pc := 135) C 0 dX12_better_135 (by decide) ?_
      obtain ⟨r1, g2, h1, h⟩ := dl_b2_some h
      refine dl_vI0 (pc := 136) C (cmo_done l D cI TY hTY nw ad R _ _ h1) (cwV 1 C.2.2.2.2.1 gX12_better_X12_done rfl rfl rfl (by decide +kernel) ⟨Nat.le_of_ble_eq_true rfl, Nat.le_of_ble_eq_true rfl⟩) 0 12 mm_a0 rfl rfl rfl (Nat.le_of_ble_eq_true rfl) dX12_better_136 ⟨Nat.zero_le _, Nat.zero_le _⟩ (fun r u hp => ?_)
      obtain ⟨rfl, rfl⟩ := hp
      exact hQ 139 _ _ _ ⟨(dl_r2 h).1, by rw [(dl_r2 h).2]⟩ (vp_nar_int _) dX12_better_139
    · refine dl_iconst (pc := 31) C 0 dX12_better_31 (by decide) ?_
      refine dl_istore_n (pc := 32) C (fun v3 => [(3, .int v3), (0, .ref (ad 0)), (1, .int x1), (2, .int x2)]) dX12_better_32 rfl (by decide) (fun _ => rfl) h (fun v3 h => ?_)
      refine dl_sub [1, 2, 3, 0] rfl ?_
      exact mo_better_t33 l D cI TY hTY nw N ad R C hQ ih N _ _ _ _ h
set_option maxHeartbeats 4000000 in
set_option maxRecDepth 100000 in
theorem cmo_better (l : Launch) (D : va_G) (cI : ClassId) (TY : dl_TY) (hTY : TY[0]? = some (cI, .int)) (nw : List Cond) (N : Nat) (ad : Nat → Nat) (R : va_W) (g : dl_Sg) {r0 : Int32} {g0 : dl_Sg} (h : mo_better N g  = some (r0, g0)) : dl_CtI l D TY nw yX12_better wsX12_better { frames := 4, cells := 0, slots := 0, locals := 90 } 0 0 [.ref (ad 0)] (mm_w cI ad g ++ R) (fun r u => r = r0 ∧ u = mm_w cI ad g0 ++ R) := by
  refine dl_metI (ty := .int) [(0, .ref (ad 0))] (by decide) rfl (Nat.le_of_ble_eq_true rfl) rfl ?_
  intro p e s m args below meth c Q A C hQ
  unfold mo_better at h
  refine dl_aload_n (pc := 0) C 0 dX12_better_0 rfl rfl ?_
  refine dl_aload_n (pc := 1) C 0 dX12_better_1 rfl rfl ?_
  refine dl_get (pc := 2) C hin_X12_better_X12 0 mm_a0 rfl 8 (by decide) lk_X12_better_121 rfl rfl dX12_better_2 ?_
  obtain ⟨r1, g2, h1, h⟩ := dl_b2_some h
  refine dl_vI0 (pc := 5) C (cmo_tagOf l D cI TY hTY nw N ad R _ _ h1) (cwV 1 C.2.2.2.2.1 gX12_better_X12_tagOf rfl rfl rfl (by decide +kernel) ⟨Nat.le_of_ble_eq_true rfl, Nat.le_of_ble_eq_true rfl⟩) 0 12 mm_a0 rfl rfl rfl (Nat.le_of_ble_eq_true rfl) dX12_better_5 ⟨Nat.zero_le _, Nat.zero_le _⟩ (fun r u hp => ?_)
  obtain ⟨rfl, rfl⟩ := hp
  refine dl_istore_n (pc := 8) C (fun v3 => [(1, .int v3), (0, .ref (ad 0))]) dX12_better_8 rfl (by decide) (fun _ => rfl) h (fun v3 h => ?_)
  refine dl_iload_n (pc := 9) C 0 dX12_better_9 rfl rfl ?_
  refine dl_ldc (pc := 10) C (-1000000) (by decide +kernel) dX12_better_10 ?_
  refine dl_icmp_ne (pc := 12) C 21 dX12_better_12 (by decide) h (fun q7 h => ?_) (fun q7 h => ?_)
  · refine dl_aload_n (pc := 15) C 1 dX12_better_15 rfl rfl ?_
    refine dl_iconst (pc := 16) C 3 dX12_better_16 (by decide) ?_
    obtain ⟨r4, g5, h1, h⟩ := dl_b2_some h
    refine dl_vI0 (pc := 17) C (cmo_refused l D cI TY hTY nw ad R _ _ h1) (cwV 1 C.2.2.2.2.1 gX12_better_X12_refused rfl rfl rfl (by decide +kernel) ⟨Nat.le_of_ble_eq_true rfl, Nat.le_of_ble_eq_true rfl⟩) 0 12 mm_a0 rfl rfl rfl (Nat.le_of_ble_eq_true rfl) dX12_better_17 ⟨Nat.zero_le _, Nat.zero_le _⟩ (fun r u hp => ?_)
    obtain ⟨rfl, rfl⟩ := hp
    exact hQ 20 _ _ _ ⟨(dl_r2 h).1, by rw [(dl_r2 h).2]⟩ (vp_nar_int _) dX12_better_20
  · refine dl_iconst (pc := 21) C 0 dX12_better_21 (by decide) ?_
    refine dl_istore_n (pc := 22) C (fun v6 => [(2, .int v6), (1, .int v3), (0, .ref (ad 0))]) dX12_better_22 rfl (by decide) (fun _ => rfl) h (fun v6 h => ?_)
    refine dl_sub [2, 1, 0] rfl ?_
    exact mo_better_t23 l D cI TY hTY nw N ad R C hQ N _ _ _ h
theorem hin_X12_ran_X12 : ∀ w ∈ u_ws RX12 TX12 32, w ∈ wsX12_ran := fun _ h => List.mem_cons_of_mem _ (List.mem_append_right _ h)
theorem lk_X12_ran_37 : Cond.fieldLink (yX12_ran).cls 37 "DripLinesModel" (TX12 15).2.1 (TX12 15).2.2.1 ∈ wsX12_ran := by decide +kernel
theorem lk_X12_ran_135 : Cond.fieldLink (yX12_ran).cls 135 "DripLinesModel" (TX12 16).2.1 (TX12 16).2.2.1 ∈ wsX12_ran := by decide +kernel
set_option maxHeartbeats 4000000 in
set_option maxRecDepth 100000 in
theorem mo_ran_t19 {p : Program} {e : Env} {s : State} {m : MethodId} {args : Array Value} {below : List Frame} {meth : Method} {c : Code} {Q : State → Prop} {A : Nat → Prop} (l : Launch) (D : va_G) (cI : ClassId) (TY : dl_TY) (hTY : TY[0]? = some (cI, .int)) (nw : List Cond) (ad : Nat → Nat) (R : va_W) {g0 : dl_Sg} (C : dl_Cx p s m args c A D TY nw cX12_ran 2 yX12_ran.cls wsX12_ran) (hQ : dl_RtV p l e (headSpec wsX12_ran { frames := 0, cells := 0, slots := 0, locals := 0 }).room s m args below meth c Q A D cX12_ran 2 0 0 (fun u => u = mm_w cI ad g0 ++ R)) (g : dl_Sg) (h : mo_ran_b19  g = some g0) : dl_At p l e (headSpec wsX12_ran { frames := 0, cells := 0, slots := 0, locals := 0 }).room s m args below meth c Q A D 2 0 0 19 [(0, .ref (ad 0))] [] (mm_w cI ad g ++ R) := by
  unfold mo_ran_b19 at h
  refine dl_aload_n (pc := 19) C 0 dX12_ran_19 rfl rfl ?_
  refine dl_dup (pc := 20) C dX12_ran_20 rfl ?_
  refine dl_get (pc := 21) C hin_X12_ran_X12 0 mm_a0 rfl 16 (by decide) lk_X12_ran_135 rfl rfl dX12_ran_21 ?_
  refine dl_iconst (pc := 24) C 1 dX12_ran_24 (by decide) ?_
  refine dl_iadd (pc := 25) C dX12_ran_25 ?_
  refine dl_put (pc := 26) C hin_X12_ran_X12 tyX12 tyX12_ok nmX12 0 mm_a0 rfl 16 (by decide) lk_X12_ran_135 rfl rfl (ty := .int) rfl (vp_nar_int _) rfl (Nat.le_of_ble_eq_true rfl) dX12_ran_26 mm_p0_16 ?_
  obtain ⟨g1, h, hg⟩ := dl_nm_some h
  rw [← hg]
  clear hg
  exact hQ 29 _ _ (by rw [Option.some.inj h]) dX12_ran_29
set_option maxHeartbeats 4000000 in
set_option maxRecDepth 100000 in
theorem cmo_ran (l : Launch) (D : va_G) (cI : ClassId) (TY : dl_TY) (hTY : TY[0]? = some (cI, .int)) (nw : List Cond) (ad : Nat → Nat) (R : va_W) (g : dl_Sg) (x1 : Int32) {g0 : dl_Sg} (h : mo_ran g x1 = some g0) : dl_CtV l D TY nw yX12_ran wsX12_ran { frames := 0, cells := 0, slots := 0, locals := 0 } 0 0 [.ref (ad 0), .int x1] (mm_w cI ad g ++ R) (fun u => u = mm_w cI ad g0 ++ R) := by
  refine dl_metV [(0, .ref (ad 0)), (1, .int x1)] (by decide) rfl (Nat.le_of_ble_eq_true rfl) rfl ?_
  intro p e s m args below meth c Q A C hQ
  unfold mo_ran at h
  refine dl_aload_n (pc := 0) C 0 dX12_ran_0 rfl rfl ?_
  refine dl_get (pc := 1) C hin_X12_ran_X12 0 mm_a0 rfl 16 (by decide) lk_X12_ran_135 rfl rfl dX12_ran_1 ?_
  refine dl_bipush (pc := 4) C 50 dX12_ran_4 (by decide) ?_
  refine dl_icmp_ge (pc := 6) C 19 dX12_ran_6 (by decide) h (fun q2 h => ?_) (fun q2 h => ?_)
  · refine dl_sub [0] rfl ?_
    exact mo_ran_t19 l D cI TY hTY nw ad R C hQ  _ h
  · refine dl_aload_n (pc := 9) C 0 dX12_ran_9 rfl rfl ?_
    refine dl_get (pc := 10) C hin_X12_ran_X12 0 mm_a0 rfl 15 (by decide) lk_X12_ran_37 rfl rfl dX12_ran_10 ?_
    refine dl_aload_n (pc := 13) C 0 dX12_ran_13 rfl rfl ?_
    refine dl_get (pc := 14) C hin_X12_ran_X12 0 mm_a0 rfl 16 (by decide) lk_X12_ran_135 rfl rfl dX12_ran_14 ?_
    refine dl_iload_n (pc := 17) C 1 dX12_ran_17 rfl rfl ?_
    obtain ⟨h0, h⟩ := dl_gd_some h
    refine dl_iast (pc := 18) C 10 0 mm_a15 hTY h0 dX12_ran_18 mm_s15 ?_
    obtain ⟨g1, h, hg⟩ := dl_nm_some h
    rw [← hg]
    clear hg
    refine dl_sub [0] rfl ?_
    exact mo_ran_t19 l D cI TY hTY nw ad R C hQ  _ h
theorem hin_X12_join0_X12 : ∀ w ∈ u_ws RX12 TX12 32, w ∈ wsX12_join0 := fun _ h => List.mem_cons_of_mem _ (List.mem_append_right _ h)
theorem lk_X12_join0_7 : Cond.fieldLink (yX12_join0).cls 7 "DripLinesModel" (TX12 1).2.1 (TX12 1).2.2.1 ∈ wsX12_join0 := by decide +kernel
theorem lk_X12_join0_101 : Cond.fieldLink (yX12_join0).cls 101 "DripLinesModel" (TX12 7).2.1 (TX12 7).2.2.1 ∈ wsX12_join0 := by decide +kernel
set_option maxHeartbeats 4000000 in
set_option maxRecDepth 100000 in
theorem mo_join0_t16 {p : Program} {e : Env} {s : State} {m : MethodId} {args : Array Value} {below : List Frame} {meth : Method} {c : Code} {Q : State → Prop} {A : Nat → Prop} (l : Launch) (D : va_G) (cI : ClassId) (TY : dl_TY) (hTY : TY[0]? = some (cI, .int)) (nw : List Cond) (N : Nat) (ad : Nat → Nat) (R : va_W) {r0 : Int32} {g0 : dl_Sg} (C : dl_Cx p s m args c A D TY nw cX12_join0 3 yX12_join0.cls wsX12_join0) (hQ : dl_RtI p l e (headSpec wsX12_join0 { frames := 2, cells := 0, slots := 0, locals := 45 }).room s m args below meth c Q A D cX12_join0 3 0 0 .int (fun r u => r = r0 ∧ u = mm_w cI ad g0 ++ R)) (x1 : Int32) (x2 : Int32) (g : dl_Sg) (h : mo_join0_b16 N x1 x2 g = some (r0, g0)) : dl_At p l e (headSpec wsX12_join0 { frames := 2, cells := 0, slots := 0, locals := 45 }).room s m args below meth c Q A D 3 0 0 16 [(0, .ref (ad 0)), (1, .int x1), (2, .int x2)] [] (mm_w cI ad g ++ R) := by
  unfold mo_join0_b16 at h
  refine dl_aload_n (pc := 16) C 0 dX12_join0_16 rfl rfl ?_
  refine dl_bipush (pc := 17) C 10 dX12_join0_17 (by decide) ?_
  obtain ⟨g1, h1, h⟩ := dl_bi_some h
  refine dl_vV0 (pc := 19) C (cmo_ran l D cI TY hTY nw ad R _ _ h1) (cwV 1 C.2.2.2.2.1 gX12_join0_X12_ran rfl rfl rfl (by decide +kernel) ⟨Nat.le_of_ble_eq_true rfl, Nat.le_of_ble_eq_true rfl⟩) 0 12 mm_a0 rfl rfl rfl (Nat.le_of_ble_eq_true rfl) dX12_join0_19 ⟨Nat.zero_le _, Nat.zero_le _⟩ (fun u hp => ?_)
  subst hp
  refine dl_iload_n (pc := 22) C 2 dX12_join0_22 rfl rfl ?_
  refine dl_aload_n (pc := 23) C 0 dX12_join0_23 rfl rfl ?_
  refine dl_iload_n (pc := 24) C 1 dX12_join0_24 rfl rfl ?_
  refine dl_aload_n (pc := 25) C 0 dX12_join0_25 rfl rfl ?_
  refine dl_get (pc := 26) C hin_X12_join0_X12 0 mm_a0 rfl 7 (by decide) lk_X12_join0_101 rfl rfl dX12_join0_26 ?_
  obtain ⟨r2, h1, h⟩ := dl_bi_some h
  refine dl_vI0 (pc := 29) C (cmo_degree l D cI TY hTY nw N ad R _ _ _ h1) (cwV 2 C.2.2.2.2.1 gX12_join0_X12_degree rfl rfl rfl (by decide +kernel) ⟨Nat.le_of_ble_eq_true rfl, Nat.le_of_ble_eq_true rfl⟩) 0 12 mm_a0 rfl rfl rfl (Nat.le_of_ble_eq_true rfl) dX12_join0_29 ⟨Nat.zero_le _, Nat.zero_le _⟩ (fun r u hp => ?_)
  obtain ⟨rfl, rfl⟩ := hp
  refine dl_iadd (pc := 32) C dX12_join0_32 ?_
  refine dl_aload_n (pc := 33) C 0 dX12_join0_33 rfl rfl ?_
  refine dl_get (pc := 34) C hin_X12_join0_X12 0 mm_a0 rfl 1 (by decide) lk_X12_join0_7 rfl rfl dX12_join0_34 ?_
  refine dl_iload_n (pc := 37) C 1 dX12_join0_37 rfl rfl ?_
  obtain ⟨h0, h⟩ := dl_gd_some h
  refine dl_iald (pc := 38) C 1 0 mm_a1 hTY h0 dX12_join0_38 ?_
  refine dl_iconst (pc := 39) C 3 dX12_join0_39 (by decide) ?_
  refine dl_icmp_ne (pc := 40) C 48 dX12_join0_40 (by decide) h (fun q3 h => ?_) (fun q3 h => ?_)
  · refine dl_bipush (pc := 43) C 9 dX12_join0_43 (by decide) ?_
    refine dl_goto (pc := 45) C 49 dX12_join0_45 (by decide) ?_
    refine dl_iadd (pc := 49) C dX12_join0_49 ?_
    exact hQ 50 _ _ _ ⟨(dl_r2 h).1, by rw [(dl_r2 h).2]⟩ (vp_nar_int _) dX12_join0_50
  · refine dl_iconst (pc := 48) C 0 dX12_join0_48 (by decide) ?_
    refine dl_iadd (pc := 49) C dX12_join0_49 ?_
    exact hQ 50 _ _ _ ⟨(dl_r2 h).1, by rw [(dl_r2 h).2]⟩ (vp_nar_int _) dX12_join0_50
set_option maxHeartbeats 4000000 in
set_option maxRecDepth 100000 in
theorem cmo_join0 (l : Launch) (D : va_G) (cI : ClassId) (TY : dl_TY) (hTY : TY[0]? = some (cI, .int)) (nw : List Cond) (N : Nat) (ad : Nat → Nat) (R : va_W) (g : dl_Sg) (x1 : Int32) (x2 : Int32) {r0 : Int32} {g0 : dl_Sg} (h : mo_join0 N g x1 x2 = some (r0, g0)) : dl_CtI l D TY nw yX12_join0 wsX12_join0 { frames := 2, cells := 0, slots := 0, locals := 45 } 0 0 [.ref (ad 0), .int x1, .int x2] (mm_w cI ad g ++ R) (fun r u => r = r0 ∧ u = mm_w cI ad g0 ++ R) := by
  refine dl_metI (ty := .int) [(0, .ref (ad 0)), (1, .int x1), (2, .int x2)] (by decide) rfl (Nat.le_of_ble_eq_true rfl) rfl ?_
  intro p e s m args below meth c Q A C hQ
  unfold mo_join0 at h
  refine dl_aload_n (pc := 0) C 0 dX12_join0_0 rfl rfl ?_
  refine dl_get (pc := 1) C hin_X12_join0_X12 0 mm_a0 rfl 1 (by decide) lk_X12_join0_7 rfl rfl dX12_join0_1 ?_
  refine dl_iload_n (pc := 4) C 1 dX12_join0_4 rfl rfl ?_
  obtain ⟨h0, h⟩ := dl_gd_some h
  refine dl_iald (pc := 5) C 1 0 mm_a1 hTY h0 dX12_join0_5 ?_
  refine dl_iconst (pc := 6) C 3 dX12_join0_6 (by decide) ?_
  refine dl_icmp_ne (pc := 7) C 16 dX12_join0_7 (by decide) h (fun q2 h => ?_) (fun q2 h => ?_)
  · refine dl_aload_n (pc := 10) C 0 dX12_join0_10 rfl rfl ?_
    refine dl_bipush (pc := 11) C 40 dX12_join0_11 (by decide) ?_
    obtain ⟨g1, h1, h⟩ := dl_bi_some h
    refine dl_vV0 (pc := 13) C (cmo_ran l D cI TY hTY nw ad R _ _ h1) (cwV 1 C.2.2.2.2.1 gX12_join0_X12_ran rfl rfl rfl (by decide +kernel) ⟨Nat.le_of_ble_eq_true rfl, Nat.le_of_ble_eq_true rfl⟩) 0 12 mm_a0 rfl rfl rfl (Nat.le_of_ble_eq_true rfl) dX12_join0_13 ⟨Nat.zero_le _, Nat.zero_le _⟩ (fun u hp => ?_)
    subst hp
    refine dl_sub [0, 1, 2] rfl ?_
    exact mo_join0_t16 l D cI TY hTY nw N ad R C hQ  _ _ _ h
  · refine dl_sub [0, 1, 2] rfl ?_
    exact mo_join0_t16 l D cI TY hTY nw N ad R C hQ  _ _ _ h
theorem hin_X12_cost0_X12 : ∀ w ∈ u_ws RX12 TX12 32, w ∈ wsX12_cost0 := fun _ h => List.mem_cons_of_mem _ (List.mem_append_right _ h)
theorem lk_X12_cost0_7 : Cond.fieldLink (yX12_cost0).cls 7 "DripLinesModel" (TX12 1).2.1 (TX12 1).2.2.1 ∈ wsX12_cost0 := by decide +kernel
theorem lk_X12_cost0_13 : Cond.fieldLink (yX12_cost0).cls 13 "DripLinesModel" (TX12 2).2.1 (TX12 2).2.2.1 ∈ wsX12_cost0 := by decide +kernel
set_option maxHeartbeats 4000000 in
set_option maxRecDepth 100000 in
theorem mo_cost0_t57 {p : Program} {e : Env} {s : State} {m : MethodId} {args : Array Value} {below : List Frame} {meth : Method} {c : Code} {Q : State → Prop} {A : Nat → Prop} (l : Launch) (D : va_G) (cI : ClassId) (TY : dl_TY) (hTY : TY[0]? = some (cI, .int)) (nw : List Cond) (N : Nat) (ad : Nat → Nat) (R : va_W) {r0 : Int32} {g0 : dl_Sg} (C : dl_Cx p s m args c A D TY nw cX12_cost0 3 yX12_cost0.cls wsX12_cost0) (hQ : dl_RtI p l e (headSpec wsX12_cost0 { frames := 3, cells := 0, slots := 0, locals := 67 }).room s m args below meth c Q A D cX12_cost0 3 0 0 .int (fun r u => r = r0 ∧ u = mm_w cI ad g0 ++ R)) (x1 : Int32) (y0 : Int32) (y1 : Int32) (g : dl_Sg) (h : mo_cost0_b57 N x1 y0 y1 g = some (r0, g0)) : dl_At p l e (headSpec wsX12_cost0 { frames := 3, cells := 0, slots := 0, locals := 67 }).room s m args below meth c Q A D 3 0 0 57 [(0, .ref (ad 0)), (1, .int x1)] [.int y1, .int y0] (mm_w cI ad g ++ R) := by
  unfold mo_cost0_b57 at h
  refine dl_iadd (pc := 57) C dX12_cost0_57 ?_
  refine dl_aload_n (pc := 58) C 0 dX12_cost0_58 rfl rfl ?_
  refine dl_get (pc := 59) C hin_X12_cost0_X12 0 mm_a0 rfl 1 (by decide) lk_X12_cost0_7 rfl rfl dX12_cost0_59 ?_
  refine dl_iload_n (pc := 62) C 1 dX12_cost0_62 rfl rfl ?_
  obtain ⟨h0, h⟩ := dl_gd_some h
  refine dl_iald (pc := 63) C 1 0 mm_a1 hTY h0 dX12_cost0_63 ?_
  refine dl_iconst (pc := 64) C 4 dX12_cost0_64 (by decide) ?_
  refine dl_icmp_ne (pc := 65) C 77 dX12_cost0_65 (by decide) h (fun q1 h => ?_) (fun q1 h => ?_)
  · refine dl_aload_n (pc := 68) C 0 dX12_cost0_68 rfl rfl ?_
    refine dl_get (pc := 69) C hin_X12_cost0_X12 0 mm_a0 rfl 2 (by decide) lk_X12_cost0_13 rfl rfl dX12_cost0_69 ?_
    refine dl_iload_n (pc := 72) C 1 dX12_cost0_72 rfl rfl ?_
    obtain ⟨h0, h⟩ := dl_gd_some h
    refine dl_iald (pc := 73) C 2 0 mm_a2 hTY h0 dX12_cost0_73 ?_
    refine dl_goto (pc := 74) C 78 dX12_cost0_74 (by decide) ?_
    refine dl_iadd (pc := 78) C dX12_cost0_78 ?_
    exact hQ 79 _ _ _ ⟨(dl_r2 h).1, by rw [(dl_r2 h).2]⟩ (vp_nar_int _) dX12_cost0_79
  · refine dl_iconst (pc := 77) C 0 dX12_cost0_77 (by decide) ?_
    refine dl_iadd (pc := 78) C dX12_cost0_78 ?_
    exact hQ 79 _ _ _ ⟨(dl_r2 h).1, by rw [(dl_r2 h).2]⟩ (vp_nar_int _) dX12_cost0_79
set_option maxHeartbeats 4000000 in
set_option maxRecDepth 100000 in
theorem mo_cost0_t30 {p : Program} {e : Env} {s : State} {m : MethodId} {args : Array Value} {below : List Frame} {meth : Method} {c : Code} {Q : State → Prop} {A : Nat → Prop} (l : Launch) (D : va_G) (cI : ClassId) (TY : dl_TY) (hTY : TY[0]? = some (cI, .int)) (nw : List Cond) (N : Nat) (ad : Nat → Nat) (R : va_W) {r0 : Int32} {g0 : dl_Sg} (C : dl_Cx p s m args c A D TY nw cX12_cost0 3 yX12_cost0.cls wsX12_cost0) (hQ : dl_RtI p l e (headSpec wsX12_cost0 { frames := 3, cells := 0, slots := 0, locals := 67 }).room s m args below meth c Q A D cX12_cost0 3 0 0 .int (fun r u => r = r0 ∧ u = mm_w cI ad g0 ++ R)) (x1 : Int32) (x2 : Int32) (g : dl_Sg) (h : mo_cost0_b30 N x1 x2 g = some (r0, g0)) : dl_At p l e (headSpec wsX12_cost0 { frames := 3, cells := 0, slots := 0, locals := 67 }).room s m args below meth c Q A D 3 0 0 30 [(0, .ref (ad 0)), (1, .int x1), (2, .int x2)] [] (mm_w cI ad g ++ R) := by
  unfold mo_cost0_b30 at h
  refine dl_aload_n (pc := 30) C 0 dX12_cost0_30 rfl rfl ?_
  refine dl_bipush (pc := 31) C 11 dX12_cost0_31 (by decide) ?_
  obtain ⟨g1, h1, h⟩ := dl_bi_some h
  refine dl_vV0 (pc := 33) C (cmo_ran l D cI TY hTY nw ad R _ _ h1) (cwV 1 C.2.2.2.2.1 gX12_cost0_X12_ran rfl rfl rfl (by decide +kernel) ⟨Nat.le_of_ble_eq_true rfl, Nat.le_of_ble_eq_true rfl⟩) 0 12 mm_a0 rfl rfl rfl (Nat.le_of_ble_eq_true rfl) dX12_cost0_33 ⟨Nat.zero_le _, Nat.zero_le _⟩ (fun u hp => ?_)
  subst hp
  refine dl_aload_n (pc := 36) C 0 dX12_cost0_36 rfl rfl ?_
  refine dl_iload_n (pc := 37) C 1 dX12_cost0_37 rfl rfl ?_
  refine dl_iload_n (pc := 38) C 2 dX12_cost0_38 rfl rfl ?_
  obtain ⟨r2, g3, h1, h⟩ := dl_b2_some h
  refine dl_vI0 (pc := 39) C (cmo_join0 l D cI TY hTY nw N ad R _ _ _ h1) (cwV 2 C.2.2.2.2.1 gX12_cost0_X12_join0 rfl rfl rfl (by decide +kernel) ⟨Nat.le_of_ble_eq_true rfl, Nat.le_of_ble_eq_true rfl⟩) 0 12 mm_a0 rfl rfl rfl (Nat.le_of_ble_eq_true rfl) dX12_cost0_39 ⟨Nat.zero_le _, Nat.zero_le _⟩ (fun r u hp => ?_)
  obtain ⟨rfl, rfl⟩ := hp
  refine dl_iconst (pc := 42) C 2 dX12_cost0_42 (by decide) ?_
  refine dl_imul (pc := 43) C dX12_cost0_43 ?_
  refine dl_aload_n (pc := 44) C 0 dX12_cost0_44 rfl rfl ?_
  refine dl_iload_n (pc := 45) C 1 dX12_cost0_45 rfl rfl ?_
  obtain ⟨r4, h1, h⟩ := dl_bi_some h
  refine dl_vI0 (pc := 46) C (cmo_isTap l D cI TY hTY nw ad R _ _ h1) (cwV 1 C.2.2.2.2.1 gX12_cost0_X12_isTap rfl rfl rfl (by decide +kernel) ⟨Nat.le_of_ble_eq_true rfl, Nat.le_of_ble_eq_true rfl⟩) 0 12 mm_a0 rfl rfl rfl (Nat.le_of_ble_eq_true rfl) dX12_cost0_46 ⟨Nat.zero_le _, Nat.zero_le _⟩ (fun r u hp => ?_)
  obtain ⟨rfl, rfl⟩ := hp
  refine dl_if_eq (pc := 49) C 56 dX12_cost0_49 (by decide) h (fun q5 h => ?_) (fun q5 h => ?_)
  · refine dl_iconst (pc := 56) C 0 dX12_cost0_56 (by decide) ?_
    refine dl_sub [0, 1] rfl ?_
    exact mo_cost0_t57 l D cI TY hTY nw N ad R C hQ  _ _ _ _ h
  · refine dl_iconst (pc := 52) C 1 dX12_cost0_52 (by decide) ?_
    refine dl_goto (pc := 53) C 57 dX12_cost0_53 (by decide) ?_
    refine dl_sub [0, 1] rfl ?_
    exact mo_cost0_t57 l D cI TY hTY nw N ad R C hQ  _ _ _ _ h
set_option maxHeartbeats 4000000 in
set_option maxRecDepth 100000 in
theorem mo_cost0_t14 {p : Program} {e : Env} {s : State} {m : MethodId} {args : Array Value} {below : List Frame} {meth : Method} {c : Code} {Q : State → Prop} {A : Nat → Prop} (l : Launch) (D : va_G) (cI : ClassId) (TY : dl_TY) (hTY : TY[0]? = some (cI, .int)) (nw : List Cond) (N : Nat) (ad : Nat → Nat) (R : va_W) {r0 : Int32} {g0 : dl_Sg} (C : dl_Cx p s m args c A D TY nw cX12_cost0 3 yX12_cost0.cls wsX12_cost0) (hQ : dl_RtI p l e (headSpec wsX12_cost0 { frames := 3, cells := 0, slots := 0, locals := 67 }).room s m args below meth c Q A D cX12_cost0 3 0 0 .int (fun r u => r = r0 ∧ u = mm_w cI ad g0 ++ R)) (x1 : Int32) (x2 : Int32) (g : dl_Sg) (h : mo_cost0_b14 N x1 x2 g = some (r0, g0)) : dl_At p l e (headSpec wsX12_cost0 { frames := 3, cells := 0, slots := 0, locals := 67 }).room s m args below meth c Q A D 3 0 0 14 [(0, .ref (ad 0)), (1, .int x1), (2, .int x2)] [] (mm_w cI ad g ++ R) := by
  unfold mo_cost0_b14 at h
  refine dl_aload_n (pc := 14) C 0 dX12_cost0_14 rfl rfl ?_
  refine dl_get (pc := 15) C hin_X12_cost0_X12 0 mm_a0 rfl 1 (by decide) lk_X12_cost0_7 rfl rfl dX12_cost0_15 ?_
  refine dl_iload_n (pc := 18) C 1 dX12_cost0_18 rfl rfl ?_
  obtain ⟨h0, h⟩ := dl_gd_some h
  refine dl_iald (pc := 19) C 1 0 mm_a1 hTY h0 dX12_cost0_19 ?_
  refine dl_iconst (pc := 20) C 4 dX12_cost0_20 (by decide) ?_
  refine dl_icmp_ne (pc := 21) C 30 dX12_cost0_21 (by decide) h (fun q2 h => ?_) (fun q2 h => ?_)
  · refine dl_aload_n (pc := 24) C 0 dX12_cost0_24 rfl rfl ?_
    refine dl_bipush (pc := 25) C 50 dX12_cost0_25 (by decide) ?_
    obtain ⟨g1, h1, h⟩ := dl_bi_some h
    refine dl_vV0 (pc := 27) C (cmo_ran l D cI TY hTY nw ad R _ _ h1) (cwV 1 C.2.2.2.2.1 gX12_cost0_X12_ran rfl rfl rfl (by decide +kernel) ⟨Nat.le_of_ble_eq_true rfl, Nat.le_of_ble_eq_true rfl⟩) 0 12 mm_a0 rfl rfl rfl (Nat.le_of_ble_eq_true rfl) dX12_cost0_27 ⟨Nat.zero_le _, Nat.zero_le _⟩ (fun u hp => ?_)
    subst hp
    refine dl_sub [0, 1, 2] rfl ?_
    exact mo_cost0_t30 l D cI TY hTY nw N ad R C hQ  _ _ _ h
  · refine dl_sub [0, 1, 2] rfl ?_
    exact mo_cost0_t30 l D cI TY hTY nw N ad R C hQ  _ _ _ h
set_option maxHeartbeats 4000000 in
set_option maxRecDepth 100000 in
theorem cmo_cost0 (l : Launch) (D : va_G) (cI : ClassId) (TY : dl_TY) (hTY : TY[0]? = some (cI, .int)) (nw : List Cond) (N : Nat) (ad : Nat → Nat) (R : va_W) (g : dl_Sg) (x1 : Int32) (x2 : Int32) {r0 : Int32} {g0 : dl_Sg} (h : mo_cost0 N g x1 x2 = some (r0, g0)) : dl_CtI l D TY nw yX12_cost0 wsX12_cost0 { frames := 3, cells := 0, slots := 0, locals := 67 } 0 0 [.ref (ad 0), .int x1, .int x2] (mm_w cI ad g ++ R) (fun r u => r = r0 ∧ u = mm_w cI ad g0 ++ R) := by
  refine dl_metI (ty := .int) [(0, .ref (ad 0)), (1, .int x1), (2, .int x2)] (by decide) rfl (Nat.le_of_ble_eq_true rfl) rfl ?_
  intro p e s m args below meth c Q A C hQ
  unfold mo_cost0 at h
  refine dl_aload_n (pc := 0) C 0 dX12_cost0_0 rfl rfl ?_
  refine dl_iload_n (pc := 1) C 1 dX12_cost0_1 rfl rfl ?_
  obtain ⟨r1, h1, h⟩ := dl_bi_some h
  refine dl_vI0 (pc := 2) C (cmo_isTap l D cI TY hTY nw ad R _ _ h1) (cwV 1 C.2.2.2.2.1 gX12_cost0_X12_isTap rfl rfl rfl (by decide +kernel) ⟨Nat.le_of_ble_eq_true rfl, Nat.le_of_ble_eq_true rfl⟩) 0 12 mm_a0 rfl rfl rfl (Nat.le_of_ble_eq_true rfl) dX12_cost0_2 ⟨Nat.zero_le _, Nat.zero_le _⟩ (fun r u hp => ?_)
  obtain ⟨rfl, rfl⟩ := hp
  refine dl_if_eq (pc := 5) C 14 dX12_cost0_5 (by decide) h (fun q3 h => ?_) (fun q3 h => ?_)
  · refine dl_sub [0, 1, 2] rfl ?_
    exact mo_cost0_t14 l D cI TY hTY nw N ad R C hQ  _ _ _ h
  · refine dl_aload_n (pc := 8) C 0 dX12_cost0_8 rfl rfl ?_
    refine dl_bipush (pc := 9) C 20 dX12_cost0_9 (by decide) ?_
    obtain ⟨g2, h1, h⟩ := dl_bi_some h
    refine dl_vV0 (pc := 11) C (cmo_ran l D cI TY hTY nw ad R _ _ h1) (cwV 1 C.2.2.2.2.1 gX12_cost0_X12_ran rfl rfl rfl (by decide +kernel) ⟨Nat.le_of_ble_eq_true rfl, Nat.le_of_ble_eq_true rfl⟩) 0 12 mm_a0 rfl rfl rfl (Nat.le_of_ble_eq_true rfl) dX12_cost0_11 ⟨Nat.zero_le _, Nat.zero_le _⟩ (fun u hp => ?_)
    subst hp
    refine dl_sub [0, 1, 2] rfl ?_
    exact mo_cost0_t14 l D cI TY hTY nw N ad R C hQ  _ _ _ h
theorem hin_X12_ask0_X12 : ∀ w ∈ u_ws RX12 TX12 32, w ∈ wsX12_ask0 := fun _ h => List.mem_cons_of_mem _ (List.mem_append_right _ h)
theorem lk_X12_ask0_7 : Cond.fieldLink (yX12_ask0).cls 7 "DripLinesModel" (TX12 1).2.1 (TX12 1).2.2.1 ∈ wsX12_ask0 := by decide +kernel
theorem lk_X12_ask0_13 : Cond.fieldLink (yX12_ask0).cls 13 "DripLinesModel" (TX12 2).2.1 (TX12 2).2.2.1 ∈ wsX12_ask0 := by decide +kernel
set_option maxHeartbeats 4000000 in
set_option maxRecDepth 100000 in
theorem mo_ask0_t32 {p : Program} {e : Env} {s : State} {m : MethodId} {args : Array Value} {below : List Frame} {meth : Method} {c : Code} {Q : State → Prop} {A : Nat → Prop} (l : Launch) (D : va_G) (cI : ClassId) (TY : dl_TY) (hTY : TY[0]? = some (cI, .int)) (nw : List Cond) (ad : Nat → Nat) (R : va_W) {r0 : Int32} {g0 : dl_Sg} (C : dl_Cx p s m args c A D TY nw cX12_ask0 3 yX12_ask0.cls wsX12_ask0) (hQ : dl_RtI p l e (headSpec wsX12_ask0 { frames := 1, cells := 0, slots := 0, locals := 21 }).room s m args below meth c Q A D cX12_ask0 3 0 0 .int (fun r u => r = r0 ∧ u = mm_w cI ad g0 ++ R)) (x1 : Int32) (x2 : Int32) (g : dl_Sg) (h : mo_ask0_b32 x1 x2 g = some (r0, g0)) : dl_At p l e (headSpec wsX12_ask0 { frames := 1, cells := 0, slots := 0, locals := 21 }).room s m args below meth c Q A D 3 0 0 32 [(0, .ref (ad 0)), (1, .int x1), (2, .int x2)] [] (mm_w cI ad g ++ R) := by
  unfold mo_ask0_b32 at h
  refine dl_aload_n (pc := 32) C 0 dX12_ask0_32 rfl rfl ?_
  refine dl_bipush (pc := 33) C 12 dX12_ask0_33 (by decide) ?_
  obtain ⟨g1, h1, h⟩ := dl_bi_some h
  refine dl_vV0 (pc := 35) C (cmo_ran l D cI TY hTY nw ad R _ _ h1) (cwV 1 C.2.2.2.2.1 gX12_ask0_X12_ran rfl rfl rfl (by decide +kernel) ⟨Nat.le_of_ble_eq_true rfl, Nat.le_of_ble_eq_true rfl⟩) 0 12 mm_a0 rfl rfl rfl (Nat.le_of_ble_eq_true rfl) dX12_ask0_35 ⟨Nat.zero_le _, Nat.zero_le _⟩ (fun u hp => ?_)
  subst hp
  refine dl_aload_n (pc := 38) C 0 dX12_ask0_38 rfl rfl ?_
  refine dl_get (pc := 39) C hin_X12_ask0_X12 0 mm_a0 rfl 1 (by decide) lk_X12_ask0_7 rfl rfl dX12_ask0_39 ?_
  refine dl_iload_n (pc := 42) C 1 dX12_ask0_42 rfl rfl ?_
  obtain ⟨h0, h⟩ := dl_gd_some h
  refine dl_iald (pc := 43) C 1 0 mm_a1 hTY h0 dX12_ask0_43 ?_
  refine dl_iconst (pc := 44) C 3 dX12_ask0_44 (by decide) ?_
  refine dl_icmp_ne (pc := 45) C 56 dX12_ask0_45 (by decide) h (fun q3 h => ?_) (fun q3 h => ?_)
  · refine dl_iload_n (pc := 48) C 2 dX12_ask0_48 rfl rfl ?_
    refine dl_iconst (pc := 49) C 3 dX12_ask0_49 (by decide) ?_
    refine dl_imul (pc := 50) C dX12_ask0_50 ?_
    refine dl_iload_n (pc := 51) C 1 dX12_ask0_51 rfl rfl ?_
    refine dl_isub (pc := 52) C dX12_ask0_52 ?_
    refine dl_goto (pc := 53) C 82 dX12_ask0_53 (by decide) ?_
    exact hQ 82 _ _ _ ⟨(dl_r2 h).1, by rw [(dl_r2 h).2]⟩ (vp_nar_int _) dX12_ask0_82
  · refine dl_aload_n (pc := 56) C 0 dX12_ask0_56 rfl rfl ?_
    refine dl_get (pc := 57) C hin_X12_ask0_X12 0 mm_a0 rfl 1 (by decide) lk_X12_ask0_7 rfl rfl dX12_ask0_57 ?_
    refine dl_iload_n (pc := 60) C 1 dX12_ask0_60 rfl rfl ?_
    obtain ⟨h0, h⟩ := dl_gd_some h
    refine dl_iald (pc := 61) C 1 0 mm_a1 hTY h0 dX12_ask0_61 ?_
    refine dl_iconst (pc := 62) C 2 dX12_ask0_62 (by decide) ?_
    refine dl_icmp_ne (pc := 63) C 79 dX12_ask0_63 (by decide) h (fun q2 h => ?_) (fun q2 h => ?_)
    · refine dl_iload_n (pc := 66) C 2 dX12_ask0_66 rfl rfl ?_
      refine dl_iload_n (pc := 67) C 1 dX12_ask0_67 rfl rfl ?_
      refine dl_isub (pc := 68) C dX12_ask0_68 ?_
      refine dl_aload_n (pc := 69) C 0 dX12_ask0_69 rfl rfl ?_
      refine dl_get (pc := 70) C hin_X12_ask0_X12 0 mm_a0 rfl 2 (by decide) lk_X12_ask0_13 rfl rfl dX12_ask0_70 ?_
      refine dl_iload_n (pc := 73) C 1 dX12_ask0_73 rfl rfl ?_
      obtain ⟨h0, h⟩ := dl_gd_some h
      refine dl_iald (pc := 74) C 2 0 mm_a2 hTY h0 dX12_ask0_74 ?_
      refine dl_imul (pc := 75) C dX12_ask0_75 ?_
      refine dl_goto (pc := 76) C 82 dX12_ask0_76 (by decide) ?_
      exact hQ 82 _ _ _ ⟨(dl_r2 h).1, by rw [(dl_r2 h).2]⟩ (vp_nar_int _) dX12_ask0_82
    · refine dl_iload_n (pc := 79) C 2 dX12_ask0_79 rfl rfl ?_
      refine dl_iload_n (pc := 80) C 1 dX12_ask0_80 rfl rfl ?_
      refine dl_isub (pc := 81) C dX12_ask0_81 ?_
      exact hQ 82 _ _ _ ⟨(dl_r2 h).1, by rw [(dl_r2 h).2]⟩ (vp_nar_int _) dX12_ask0_82
set_option maxHeartbeats 4000000 in
set_option maxRecDepth 100000 in
theorem mo_ask0_t16 {p : Program} {e : Env} {s : State} {m : MethodId} {args : Array Value} {below : List Frame} {meth : Method} {c : Code} {Q : State → Prop} {A : Nat → Prop} (l : Launch) (D : va_G) (cI : ClassId) (TY : dl_TY) (hTY : TY[0]? = some (cI, .int)) (nw : List Cond) (ad : Nat → Nat) (R : va_W) {r0 : Int32} {g0 : dl_Sg} (C : dl_Cx p s m args c A D TY nw cX12_ask0 3 yX12_ask0.cls wsX12_ask0) (hQ : dl_RtI p l e (headSpec wsX12_ask0 { frames := 1, cells := 0, slots := 0, locals := 21 }).room s m args below meth c Q A D cX12_ask0 3 0 0 .int (fun r u => r = r0 ∧ u = mm_w cI ad g0 ++ R)) (x1 : Int32) (x2 : Int32) (g : dl_Sg) (h : mo_ask0_b16 x1 x2 g = some (r0, g0)) : dl_At p l e (headSpec wsX12_ask0 { frames := 1, cells := 0, slots := 0, locals := 21 }).room s m args below meth c Q A D 3 0 0 16 [(0, .ref (ad 0)), (1, .int x1), (2, .int x2)] [] (mm_w cI ad g ++ R) := by
  unfold mo_ask0_b16 at h
  refine dl_aload_n (pc := 16) C 0 dX12_ask0_16 rfl rfl ?_
  refine dl_get (pc := 17) C hin_X12_ask0_X12 0 mm_a0 rfl 1 (by decide) lk_X12_ask0_7 rfl rfl dX12_ask0_17 ?_
  refine dl_iload_n (pc := 20) C 1 dX12_ask0_20 rfl rfl ?_
  obtain ⟨h0, h⟩ := dl_gd_some h
  refine dl_iald (pc := 21) C 1 0 mm_a1 hTY h0 dX12_ask0_21 ?_
  refine dl_iconst (pc := 22) C 3 dX12_ask0_22 (by decide) ?_
  refine dl_icmp_ne (pc := 23) C 32 dX12_ask0_23 (by decide) h (fun q2 h => ?_) (fun q2 h => ?_)
  · refine dl_aload_n (pc := 26) C 0 dX12_ask0_26 rfl rfl ?_
    refine dl_bipush (pc := 27) C 41 dX12_ask0_27 (by decide) ?_
    obtain ⟨g1, h1, h⟩ := dl_bi_some h
    refine dl_vV0 (pc := 29) C (cmo_ran l D cI TY hTY nw ad R _ _ h1) (cwV 1 C.2.2.2.2.1 gX12_ask0_X12_ran rfl rfl rfl (by decide +kernel) ⟨Nat.le_of_ble_eq_true rfl, Nat.le_of_ble_eq_true rfl⟩) 0 12 mm_a0 rfl rfl rfl (Nat.le_of_ble_eq_true rfl) dX12_ask0_29 ⟨Nat.zero_le _, Nat.zero_le _⟩ (fun u hp => ?_)
    subst hp
    refine dl_sub [0, 1, 2] rfl ?_
    exact mo_ask0_t32 l D cI TY hTY nw ad R C hQ  _ _ _ h
  · refine dl_sub [0, 1, 2] rfl ?_
    exact mo_ask0_t32 l D cI TY hTY nw ad R C hQ  _ _ _ h
set_option maxHeartbeats 4000000 in
set_option maxRecDepth 100000 in
theorem cmo_ask0 (l : Launch) (D : va_G) (cI : ClassId) (TY : dl_TY) (hTY : TY[0]? = some (cI, .int)) (nw : List Cond) (ad : Nat → Nat) (R : va_W) (g : dl_Sg) (x1 : Int32) (x2 : Int32) {r0 : Int32} {g0 : dl_Sg} (h : mo_ask0 g x1 x2 = some (r0, g0)) : dl_CtI l D TY nw yX12_ask0 wsX12_ask0 { frames := 1, cells := 0, slots := 0, locals := 21 } 0 0 [.ref (ad 0), .int x1, .int x2] (mm_w cI ad g ++ R) (fun r u => r = r0 ∧ u = mm_w cI ad g0 ++ R) := by
  refine dl_metI (ty := .int) [(0, .ref (ad 0)), (1, .int x1), (2, .int x2)] (by decide) rfl (Nat.le_of_ble_eq_true rfl) rfl ?_
  intro p e s m args below meth c Q A C hQ
  unfold mo_ask0 at h
  refine dl_aload_n (pc := 0) C 0 dX12_ask0_0 rfl rfl ?_
  refine dl_get (pc := 1) C hin_X12_ask0_X12 0 mm_a0 rfl 1 (by decide) lk_X12_ask0_7 rfl rfl dX12_ask0_1 ?_
  refine dl_iload_n (pc := 4) C 1 dX12_ask0_4 rfl rfl ?_
  obtain ⟨h0, h⟩ := dl_gd_some h
  refine dl_iald (pc := 5) C 1 0 mm_a1 hTY h0 dX12_ask0_5 ?_
  refine dl_iconst (pc := 6) C 2 dX12_ask0_6 (by decide) ?_
  refine dl_icmp_ne (pc := 7) C 16 dX12_ask0_7 (by decide) h (fun q2 h => ?_) (fun q2 h => ?_)
  · refine dl_aload_n (pc := 10) C 0 dX12_ask0_10 rfl rfl ?_
    refine dl_bipush (pc := 11) C 30 dX12_ask0_11 (by decide) ?_
    obtain ⟨g1, h1, h⟩ := dl_bi_some h
    refine dl_vV0 (pc := 13) C (cmo_ran l D cI TY hTY nw ad R _ _ h1) (cwV 1 C.2.2.2.2.1 gX12_ask0_X12_ran rfl rfl rfl (by decide +kernel) ⟨Nat.le_of_ble_eq_true rfl, Nat.le_of_ble_eq_true rfl⟩) 0 12 mm_a0 rfl rfl rfl (Nat.le_of_ble_eq_true rfl) dX12_ask0_13 ⟨Nat.zero_le _, Nat.zero_le _⟩ (fun u hp => ?_)
    subst hp
    refine dl_sub [0, 1, 2] rfl ?_
    exact mo_ask0_t16 l D cI TY hTY nw ad R C hQ  _ _ _ h
  · refine dl_sub [0, 1, 2] rfl ?_
    exact mo_ask0_t16 l D cI TY hTY nw ad R C hQ  _ _ _ h
set_option maxHeartbeats 4000000 in
set_option maxRecDepth 100000 in
theorem cmo_placeTell (l : Launch) (D : va_G) (cI : ClassId) (TY : dl_TY) (hTY : TY[0]? = some (cI, .int)) (nw : List Cond) (N : Nat) (ad : Nat → Nat) (R : va_W) (g : dl_Sg) (x1 : Int32) (x2 : Int32) {r0 : Int32} {g0 : dl_Sg} (h : mo_placeTell N g x1 x2 = some (r0, g0)) : dl_CtI l D TY nw yX12_placeTell wsX12_placeTell { frames := 4, cells := 0, slots := 0, locals := 89 } 0 0 [.ref (ad 0), .int x1, .int x2] (mm_w cI ad g ++ R) (fun r u => r = r0 ∧ u = mm_w cI ad g0 ++ R) := by
  refine dl_metI (ty := .int) [(0, .ref (ad 0)), (1, .int x1), (2, .int x2)] (by decide) rfl (Nat.le_of_ble_eq_true rfl) rfl ?_
  intro p e s m args below meth c Q A C hQ
  unfold mo_placeTell at h
  refine dl_aload_n (pc := 0) C 0 dX12_placeTell_0 rfl rfl ?_
  refine dl_bipush (pc := 1) C 13 dX12_placeTell_1 (by decide) ?_
  obtain ⟨g1, h1, h⟩ := dl_bi_some h
  refine dl_vV0 (pc := 3) C (cmo_ran l D cI TY hTY nw ad R _ _ h1) (cwV 1 C.2.2.2.2.1 gX12_placeTell_X12_ran rfl rfl rfl (by decide +kernel) ⟨Nat.le_of_ble_eq_true rfl, Nat.le_of_ble_eq_true rfl⟩) 0 12 mm_a0 rfl rfl rfl (Nat.le_of_ble_eq_true rfl) dX12_placeTell_3 ⟨Nat.zero_le _, Nat.zero_le _⟩ (fun u hp => ?_)
  subst hp
  refine dl_aload_n (pc := 6) C 0 dX12_placeTell_6 rfl rfl ?_
  refine dl_iload_n (pc := 7) C 1 dX12_placeTell_7 rfl rfl ?_
  refine dl_iload_n (pc := 8) C 2 dX12_placeTell_8 rfl rfl ?_
  obtain ⟨r2, g3, h1, h⟩ := dl_b2_some h
  refine dl_vI0 (pc := 9) C (cmo_cost0 l D cI TY hTY nw N ad R _ _ _ h1) (cwV 2 C.2.2.2.2.1 gX12_placeTell_X12_cost0 rfl rfl rfl (by decide +kernel) ⟨Nat.le_of_ble_eq_true rfl, Nat.le_of_ble_eq_true rfl⟩) 0 12 mm_a0 rfl rfl rfl (Nat.le_of_ble_eq_true rfl) dX12_placeTell_9 ⟨Nat.zero_le _, Nat.zero_le _⟩ (fun r u hp => ?_)
  obtain ⟨rfl, rfl⟩ := hp
  refine dl_istore_n (pc := 12) C (fun v4 => [(3, .int v4), (0, .ref (ad 0)), (1, .int x1), (2, .int x2)]) dX12_placeTell_12 rfl (by decide) (fun _ => rfl) h (fun v4 h => ?_)
  refine dl_iload_n (pc := 13) C 0 dX12_placeTell_13 rfl rfl ?_
  refine dl_aload_n (pc := 14) C 1 dX12_placeTell_14 rfl rfl ?_
  refine dl_iload_n (pc := 15) C 2 dX12_placeTell_15 rfl rfl ?_
  refine dl_iload_n (pc := 16) C 3 dX12_placeTell_16 rfl rfl ?_
  obtain ⟨r5, g6, h1, h⟩ := dl_b2_some h
  refine dl_vI0 (pc := 17) C (cmo_ask0 l D cI TY hTY nw ad R _ _ _ h1) (cwV 2 C.2.2.2.2.1 gX12_placeTell_X12_ask0 rfl rfl rfl (by decide +kernel) ⟨Nat.le_of_ble_eq_true rfl, Nat.le_of_ble_eq_true rfl⟩) 0 12 mm_a0 rfl rfl rfl (Nat.le_of_ble_eq_true rfl) dX12_placeTell_17 ⟨Nat.zero_le _, Nat.zero_le _⟩ (fun r u hp => ?_)
  obtain ⟨rfl, rfl⟩ := hp
  refine dl_ixor (pc := 20) C dX12_placeTell_20 ?_
  exact hQ 21 _ _ _ ⟨(dl_r2 h).1, by rw [(dl_r2 h).2]⟩ (vp_nar_int _) dX12_placeTell_21
theorem hin_X12_tell0_X12 : ∀ w ∈ u_ws RX12 TX12 32, w ∈ wsX12_tell0 := fun _ h => List.mem_cons_of_mem _ (List.mem_append_right _ h)
theorem lk_X12_tell0_7 : Cond.fieldLink (yX12_tell0).cls 7 "DripLinesModel" (TX12 1).2.1 (TX12 1).2.2.1 ∈ wsX12_tell0 := by decide +kernel
set_option maxHeartbeats 4000000 in
set_option maxRecDepth 100000 in
theorem cmo_tell0 (l : Launch) (D : va_G) (cI : ClassId) (TY : dl_TY) (hTY : TY[0]? = some (cI, .int)) (nw : List Cond) (N : Nat) (ad : Nat → Nat) (R : va_W) (g : dl_Sg) (x1 : Int32) (x2 : Int32) {r0 : Int32} {g0 : dl_Sg} (h : mo_tell0 N g x1 x2 = some (r0, g0)) : dl_CtI l D TY nw yX12_tell0 wsX12_tell0 { frames := 5, cells := 0, slots := 0, locals := 112 } 0 0 [.ref (ad 0), .int x1, .int x2] (mm_w cI ad g ++ R) (fun r u => r = r0 ∧ u = mm_w cI ad g0 ++ R) := by
  refine dl_metI (ty := .int) [(0, .ref (ad 0)), (1, .int x1), (2, .int x2)] (by decide) rfl (Nat.le_of_ble_eq_true rfl) rfl ?_
  intro p e s m args below meth c Q A C hQ
  unfold mo_tell0 at h
  refine dl_aload_n (pc := 0) C 0 dX12_tell0_0 rfl rfl ?_
  refine dl_iload_n (pc := 1) C 1 dX12_tell0_1 rfl rfl ?_
  obtain ⟨r1, h1, h⟩ := dl_bi_some h
  refine dl_vI0 (pc := 2) C (cmo_isTap l D cI TY hTY nw ad R _ _ h1) (cwV 1 C.2.2.2.2.1 gX12_tell0_X12_isTap rfl rfl rfl (by decide +kernel) ⟨Nat.le_of_ble_eq_true rfl, Nat.le_of_ble_eq_true rfl⟩) 0 12 mm_a0 rfl rfl rfl (Nat.le_of_ble_eq_true rfl) dX12_tell0_2 ⟨Nat.zero_le _, Nat.zero_le _⟩ (fun r u hp => ?_)
  obtain ⟨rfl, rfl⟩ := hp
  refine dl_if_eq (pc := 5) C 23 dX12_tell0_5 (by decide) h (fun q14 h => ?_) (fun q14 h => ?_)
  · refine dl_aload_n (pc := 23) C 0 dX12_tell0_23 rfl rfl ?_
    refine dl_get (pc := 24) C hin_X12_tell0_X12 0 mm_a0 rfl 1 (by decide) lk_X12_tell0_7 rfl rfl dX12_tell0_24 ?_
    refine dl_iload_n (pc := 27) C 1 dX12_tell0_27 rfl rfl ?_
    obtain ⟨h0, h⟩ := dl_gd_some h
    refine dl_iald (pc := 28) C 1 0 mm_a1 hTY h0 dX12_tell0_28 ?_
    refine dl_iconst (pc := 29) C 4 dX12_tell0_29 (by decide) ?_
    refine dl_icmp_ne (pc := 30) C 55 dX12_tell0_30 (by decide) h (fun q10 h => ?_) (fun q10 h => ?_)
    · refine dl_aload_n (pc := 33) C 0 dX12_tell0_33 rfl rfl ?_
      refine dl_bipush (pc := 34) C 51 dX12_tell0_34 (by decide) ?_
      obtain ⟨g2, h1, h⟩ := dl_bi_some h
      refine dl_vV0 (pc := 36) C (cmo_ran l D cI TY hTY nw ad R _ _ h1) (cwV 1 C.2.2.2.2.1 gX12_tell0_X12_ran rfl rfl rfl (by decide +kernel) ⟨Nat.le_of_ble_eq_true rfl, Nat.le_of_ble_eq_true rfl⟩) 0 12 mm_a0 rfl rfl rfl (Nat.le_of_ble_eq_true rfl) dX12_tell0_36 ⟨Nat.zero_le _, Nat.zero_le _⟩ (fun u hp => ?_)
      subst hp
      refine dl_aload_n (pc := 39) C 0 dX12_tell0_39 rfl rfl ?_
      refine dl_iload_n (pc := 40) C 1 dX12_tell0_40 rfl rfl ?_
      refine dl_iload_n (pc := 41) C 2 dX12_tell0_41 rfl rfl ?_
      obtain ⟨r3, g4, h1, h⟩ := dl_b2_some h
      refine dl_vI0 (pc := 42) C (cmo_ask0 l D cI TY hTY nw ad R _ _ _ h1) (cwV 2 C.2.2.2.2.1 gX12_tell0_X12_ask0 rfl rfl rfl (by decide +kernel) ⟨Nat.le_of_ble_eq_true rfl, Nat.le_of_ble_eq_true rfl⟩) 0 12 mm_a0 rfl rfl rfl (Nat.le_of_ble_eq_true rfl) dX12_tell0_42 ⟨Nat.zero_le _, Nat.zero_le _⟩ (fun r u hp => ?_)
      obtain ⟨rfl, rfl⟩ := hp
      refine dl_istore_n (pc := 45) C (fun v5 => [(3, .int v5), (0, .ref (ad 0)), (1, .int x1), (2, .int x2)]) dX12_tell0_45 rfl (by decide) (fun _ => rfl) h (fun v5 h => ?_)
      refine dl_iload_n (pc := 46) C 0 dX12_tell0_46 rfl rfl ?_
      refine dl_aload_n (pc := 47) C 1 dX12_tell0_47 rfl rfl ?_
      refine dl_iload_n (pc := 48) C 2 dX12_tell0_48 rfl rfl ?_
      refine dl_iload_n (pc := 49) C 3 dX12_tell0_49 rfl rfl ?_
      obtain ⟨r6, g7, h1, h⟩ := dl_b2_some h
      refine dl_vI0 (pc := 50) C (cmo_placeTell l D cI TY hTY nw N ad R _ _ _ h1) (cwV 2 C.2.2.2.2.1 gX12_tell0_X12_placeTell rfl rfl rfl (by decide +kernel) ⟨Nat.le_of_ble_eq_true rfl, Nat.le_of_ble_eq_true rfl⟩) 0 12 mm_a0 rfl rfl rfl (Nat.le_of_ble_eq_true rfl) dX12_tell0_50 ⟨Nat.zero_le _, Nat.zero_le _⟩ (fun r u hp => ?_)
      obtain ⟨rfl, rfl⟩ := hp
      refine dl_iadd (pc := 53) C dX12_tell0_53 ?_
      exact hQ 54 _ _ _ ⟨(dl_r2 h).1, by rw [(dl_r2 h).2]⟩ (vp_nar_int _) dX12_tell0_54
    · refine dl_aload_n (pc := 55) C 0 dX12_tell0_55 rfl rfl ?_
      refine dl_iload_n (pc := 56) C 1 dX12_tell0_56 rfl rfl ?_
      refine dl_iload_n (pc := 57) C 2 dX12_tell0_57 rfl rfl ?_
      obtain ⟨r8, g9, h1, h⟩ := dl_b2_some h
      refine dl_vI0 (pc := 58) C (cmo_placeTell l D cI TY hTY nw N ad R _ _ _ h1) (cwV 2 C.2.2.2.2.1 gX12_tell0_X12_placeTell rfl rfl rfl (by decide +kernel) ⟨Nat.le_of_ble_eq_true rfl, Nat.le_of_ble_eq_true rfl⟩) 0 12 mm_a0 rfl rfl rfl (Nat.le_of_ble_eq_true rfl) dX12_tell0_58 ⟨Nat.zero_le _, Nat.zero_le _⟩ (fun r u hp => ?_)
      obtain ⟨rfl, rfl⟩ := hp
      exact hQ 61 _ _ _ ⟨(dl_r2 h).1, by rw [(dl_r2 h).2]⟩ (vp_nar_int _) dX12_tell0_61
  · refine dl_aload_n (pc := 8) C 0 dX12_tell0_8 rfl rfl ?_
    refine dl_bipush (pc := 9) C 21 dX12_tell0_9 (by decide) ?_
    obtain ⟨g11, h1, h⟩ := dl_bi_some h
    refine dl_vV0 (pc := 11) C (cmo_ran l D cI TY hTY nw ad R _ _ h1) (cwV 1 C.2.2.2.2.1 gX12_tell0_X12_ran rfl rfl rfl (by decide +kernel) ⟨Nat.le_of_ble_eq_true rfl, Nat.le_of_ble_eq_true rfl⟩) 0 12 mm_a0 rfl rfl rfl (Nat.le_of_ble_eq_true rfl) dX12_tell0_11 ⟨Nat.zero_le _, Nat.zero_le _⟩ (fun u hp => ?_)
    subst hp
    refine dl_aload_n (pc := 14) C 0 dX12_tell0_14 rfl rfl ?_
    refine dl_iload_n (pc := 15) C 1 dX12_tell0_15 rfl rfl ?_
    refine dl_iload_n (pc := 16) C 2 dX12_tell0_16 rfl rfl ?_
    refine dl_iconst (pc := 17) C 1 dX12_tell0_17 (by decide) ?_
    refine dl_isub (pc := 18) C dX12_tell0_18 ?_
    obtain ⟨r12, g13, h1, h⟩ := dl_b2_some h
    refine dl_vI0 (pc := 19) C (cmo_placeTell l D cI TY hTY nw N ad R _ _ _ h1) (cwV 2 C.2.2.2.2.1 gX12_tell0_X12_placeTell rfl rfl rfl (by decide +kernel) ⟨Nat.le_of_ble_eq_true rfl, Nat.le_of_ble_eq_true rfl⟩) 0 12 mm_a0 rfl rfl rfl (Nat.le_of_ble_eq_true rfl) dX12_tell0_19 ⟨Nat.zero_le _, Nat.zero_le _⟩ (fun r u hp => ?_)
    obtain ⟨rfl, rfl⟩ := hp
    exact hQ 22 _ _ _ ⟨(dl_r2 h).1, by rw [(dl_r2 h).2]⟩ (vp_nar_int _) dX12_tell0_22
theorem hin_X12_act_X12 : ∀ w ∈ u_ws RX12 TX12 32, w ∈ wsX12_act := fun _ h => List.mem_cons_of_mem _ (List.mem_append_right _ h)
theorem lk_X12_act_135 : Cond.fieldLink (yX12_act).cls 135 "DripLinesModel" (TX12 16).2.1 (TX12 16).2.2.1 ∈ wsX12_act := by decide +kernel
set_option maxHeartbeats 4000000 in
set_option maxRecDepth 100000 in
theorem mo_act_t76 {p : Program} {e : Env} {s : State} {m : MethodId} {args : Array Value} {below : List Frame} {meth : Method} {c : Code} {Q : State → Prop} {A : Nat → Prop} (l : Launch) (D : va_G) (cI : ClassId) (TY : dl_TY) (hTY : TY[0]? = some (cI, .int)) (nw : List Cond) (N : Nat) (ad : Nat → Nat) (R : va_W) {r0 : Int32} {g0 : dl_Sg} (C : dl_Cx p s m args c A D TY nw cX12_act 4 yX12_act.cls wsX12_act) (hQ : dl_RtI p l e (headSpec wsX12_act { frames := 6, cells := 0, slots := 0, locals := 135 }).room s m args below meth c Q A D cX12_act 4 0 0 .int (fun r u => r = r0 ∧ u = mm_w cI ad g0 ++ R)) (y1 : Int32) (g : dl_Sg) (h : mo_act_b76 N y1 g = some (r0, g0)) : dl_At p l e (headSpec wsX12_act { frames := 6, cells := 0, slots := 0, locals := 135 }).room s m args below meth c Q A D 4 0 0 76 [(0, .ref (ad 0))] [.int y1, .ref (ad 0)] (mm_w cI ad g ++ R) := by
  unfold mo_act_b76 at h
  obtain ⟨r1, g2, h1, h⟩ := dl_b2_some h
  refine dl_vI0 (pc := 76) C (cmo_done l D cI TY hTY nw ad R _ _ h1) (cwV 1 C.2.2.2.2.1 gX12_act_X12_done rfl rfl rfl (by decide +kernel) ⟨Nat.le_of_ble_eq_true rfl, Nat.le_of_ble_eq_true rfl⟩) 0 12 mm_a0 rfl rfl rfl (Nat.le_of_ble_eq_true rfl) dX12_act_76 ⟨Nat.zero_le _, Nat.zero_le _⟩ (fun r u hp => ?_)
  obtain ⟨rfl, rfl⟩ := hp
  exact hQ 79 _ _ _ ⟨(dl_r2 h).1, by rw [(dl_r2 h).2]⟩ (vp_nar_int _) dX12_act_79
set_option maxHeartbeats 4000000 in
set_option maxRecDepth 100000 in
theorem mo_act_t17 {p : Program} {e : Env} {s : State} {m : MethodId} {args : Array Value} {below : List Frame} {meth : Method} {c : Code} {Q : State → Prop} {A : Nat → Prop} (l : Launch) (D : va_G) (cI : ClassId) (TY : dl_TY) (hTY : TY[0]? = some (cI, .int)) (nw : List Cond) (N : Nat) (ad : Nat → Nat) (R : va_W) {r0 : Int32} {g0 : dl_Sg} (C : dl_Cx p s m args c A D TY nw cX12_act 4 yX12_act.cls wsX12_act) (hQ : dl_RtI p l e (headSpec wsX12_act { frames := 6, cells := 0, slots := 0, locals := 135 }).room s m args below meth c Q A D cX12_act 4 0 0 .int (fun r u => r = r0 ∧ u = mm_w cI ad g0 ++ R)) (g : dl_Sg) (h : mo_act_b17 N  g = some (r0, g0)) : dl_At p l e (headSpec wsX12_act { frames := 6, cells := 0, slots := 0, locals := 135 }).room s m args below meth c Q A D 4 0 0 17 [(0, .ref (ad 0))] [] (mm_w cI ad g ++ R) := by
  unfold mo_act_b17 at h
  refine dl_aload_n (pc := 17) C 0 dX12_act_17 rfl rfl ?_
  refine dl_iconst (pc := 18) C 1 dX12_act_18 (by decide) ?_
  obtain ⟨r1, g2, h1, h⟩ := dl_b2_some h
  refine dl_vI0 (pc := 19) C (cmo_refused l D cI TY hTY nw ad R _ _ h1) (cwV 1 C.2.2.2.2.1 gX12_act_X12_refused rfl rfl rfl (by decide +kernel) ⟨Nat.le_of_ble_eq_true rfl, Nat.le_of_ble_eq_true rfl⟩) 0 12 mm_a0 rfl rfl rfl (Nat.le_of_ble_eq_true rfl) dX12_act_19 ⟨Nat.zero_le _, Nat.zero_le _⟩ (fun r u hp => ?_)
  obtain ⟨rfl, rfl⟩ := hp
  exact hQ 22 _ _ _ ⟨(dl_r2 h).1, by rw [(dl_r2 h).2]⟩ (vp_nar_int _) dX12_act_22
set_option maxHeartbeats 4000000 in
set_option maxRecDepth 100000 in
theorem cmo_act (l : Launch) (D : va_G) (cI : ClassId) (TY : dl_TY) (hTY : TY[0]? = some (cI, .int)) (nw : List Cond) (N : Nat) (ad : Nat → Nat) (R : va_W) (g : dl_Sg) (x1 : Int32) (x2 : Int32) (x3 : Int32) {r0 : Int32} {g0 : dl_Sg} (h : mo_act N g x1 x2 x3 = some (r0, g0)) : dl_CtI l D TY nw yX12_act wsX12_act { frames := 6, cells := 0, slots := 0, locals := 135 } 0 0 [.ref (ad 0), .int x1, .int x2, .int x3] (mm_w cI ad g ++ R) (fun r u => r = r0 ∧ u = mm_w cI ad g0 ++ R) := by
  refine dl_metI (ty := .int) [(0, .ref (ad 0)), (1, .int x1), (2, .int x2), (3, .int x3)] (by decide) rfl (Nat.le_of_ble_eq_true rfl) rfl ?_
  intro p e s m args below meth c Q A C hQ
  unfold mo_act at h
  refine dl_aload_n (pc := 0) C 0 dX12_act_0 rfl rfl ?_
  refine dl_iload_n (pc := 1) C 1 dX12_act_1 rfl rfl ?_
  obtain ⟨r1, h1, h⟩ := dl_bi_some h
  refine dl_vI0 (pc := 2) C (cmo_isPlace l D cI TY hTY nw ad R _ _ h1) (cwV 1 C.2.2.2.2.1 gX12_act_X12_isPlace rfl rfl rfl (by decide +kernel) ⟨Nat.le_of_ble_eq_true rfl, Nat.le_of_ble_eq_true rfl⟩) 0 12 mm_a0 rfl rfl rfl (Nat.le_of_ble_eq_true rfl) dX12_act_2 ⟨Nat.zero_le _, Nat.zero_le _⟩ (fun r u hp => ?_)
  obtain ⟨rfl, rfl⟩ := hp
  refine dl_if_eq (pc := 5) C 17 dX12_act_5 (by decide) h (fun q16 h => ?_) (fun q16 h => ?_)
  · refine dl_sub [0] rfl ?_
    exact mo_act_t17 l D cI TY hTY nw N ad R C hQ  _ h
  · refine dl_iload_n (pc := 8) C 2 dX12_act_8 rfl rfl ?_
    refine dl_iconst (pc := 9) C 0 dX12_act_9 (by decide) ?_
    refine dl_iconst (pc := 10) C 3 dX12_act_10 (by decide) ?_
    obtain ⟨r2, h1, h⟩ := dl_bi_some h
    refine dl_sI0 (pc := 11) C (cmo_in l D TY nw _ _ _ _ h1) (va_cwS 3 C.2.2.2.2.1 gX12_act_X12_in rfl rfl rfl (by decide +kernel) ⟨Nat.le_of_ble_eq_true rfl, Nat.le_of_ble_eq_true rfl⟩) rfl rfl (Nat.le_of_ble_eq_true rfl) dX12_act_11 ⟨Nat.zero_le _, Nat.zero_le _⟩ (fun r u hp => ?_)
    obtain ⟨rfl, hu⟩ := hp
    rw [hu]
    clear hu
    refine dl_if_ne (pc := 14) C 23 dX12_act_14 (by decide) h (fun q15 h => ?_) (fun q15 h => ?_)
    · refine dl_sub [0] rfl ?_
      exact mo_act_t17 l D cI TY hTY nw N ad R C hQ  _ h
    · refine dl_aload_n (pc := 23) C 0 dX12_act_23 rfl rfl ?_
      refine dl_iconst (pc := 24) C 0 dX12_act_24 (by decide) ?_
      refine dl_put (pc := 25) C hin_X12_act_X12 tyX12 tyX12_ok nmX12 0 mm_a0 rfl 16 (by decide) lk_X12_act_135 rfl rfl (ty := .int) rfl (vp_nar_int _) rfl (Nat.le_of_ble_eq_true rfl) dX12_act_25 mm_p0_16 ?_
      obtain ⟨g3, h, hg⟩ := dl_nm_some h
      rw [← hg]
      clear hg
      refine dl_aload_n (pc := 28) C 0 dX12_act_28 rfl rfl ?_
      refine dl_iload_n (pc := 29) C 2 dX12_act_29 rfl rfl ?_
      refine dl_if_ne (pc := 30) C 42 dX12_act_30 (by decide) h (fun q14 h => ?_) (fun q14 h => ?_)
      · refine dl_aload_n (pc := 33) C 0 dX12_act_33 rfl rfl ?_
        refine dl_iload_n (pc := 34) C 1 dX12_act_34 rfl rfl ?_
        refine dl_iload_n (pc := 35) C 3 dX12_act_35 rfl rfl ?_
        obtain ⟨r4, g5, h1, h⟩ := dl_b2_some h
        refine dl_vI0 (pc := 36) C (cmo_join0 l D cI TY hTY nw N ad R _ _ _ h1) (cwV 2 C.2.2.2.2.1 gX12_act_X12_join0 rfl rfl rfl (by decide +kernel) ⟨Nat.le_of_ble_eq_true rfl, Nat.le_of_ble_eq_true rfl⟩) 0 12 mm_a0 rfl rfl rfl (Nat.le_of_ble_eq_true rfl) dX12_act_36 ⟨Nat.zero_le _, Nat.zero_le _⟩ (fun r u hp => ?_)
        obtain ⟨rfl, rfl⟩ := hp
        refine dl_goto (pc := 39) C 76 dX12_act_39 (by decide) ?_
        refine dl_sub [0] rfl ?_
        exact mo_act_t76 l D cI TY hTY nw N ad R C hQ  _ _ h
      · refine dl_iload_n (pc := 42) C 2 dX12_act_42 rfl rfl ?_
        refine dl_iconst (pc := 43) C 1 dX12_act_43 (by decide) ?_
        refine dl_icmp_ne (pc := 44) C 56 dX12_act_44 (by decide) h (fun q13 h => ?_) (fun q13 h => ?_)
        · refine dl_aload_n (pc := 47) C 0 dX12_act_47 rfl rfl ?_
          refine dl_iload_n (pc := 48) C 1 dX12_act_48 rfl rfl ?_
          refine dl_iload_n (pc := 49) C 3 dX12_act_49 rfl rfl ?_
          obtain ⟨r6, g7, h1, h⟩ := dl_b2_some h
          refine dl_vI0 (pc := 50) C (cmo_cost0 l D cI TY hTY nw N ad R _ _ _ h1) (cwV 2 C.2.2.2.2.1 gX12_act_X12_cost0 rfl rfl rfl (by decide +kernel) ⟨Nat.le_of_ble_eq_true rfl, Nat.le_of_ble_eq_true rfl⟩) 0 12 mm_a0 rfl rfl rfl (Nat.le_of_ble_eq_true rfl) dX12_act_50 ⟨Nat.zero_le _, Nat.zero_le _⟩ (fun r u hp => ?_)
          obtain ⟨rfl, rfl⟩ := hp
          refine dl_goto (pc := 53) C 76 dX12_act_53 (by decide) ?_
          refine dl_sub [0] rfl ?_
          exact mo_act_t76 l D cI TY hTY nw N ad R C hQ  _ _ h
        · refine dl_iload_n (pc := 56) C 2 dX12_act_56 rfl rfl ?_
          refine dl_iconst (pc := 57) C 2 dX12_act_57 (by decide) ?_
          refine dl_icmp_ne (pc := 58) C 70 dX12_act_58 (by decide) h (fun q12 h => ?_) (fun q12 h => ?_)
          · refine dl_aload_n (pc := 61) C 0 dX12_act_61 rfl rfl ?_
            refine dl_iload_n (pc := 62) C 1 dX12_act_62 rfl rfl ?_
            refine dl_iload_n (pc := 63) C 3 dX12_act_63 rfl rfl ?_
            obtain ⟨r8, g9, h1, h⟩ := dl_b2_some h
            refine dl_vI0 (pc := 64) C (cmo_ask0 l D cI TY hTY nw ad R _ _ _ h1) (cwV 2 C.2.2.2.2.1 gX12_act_X12_ask0 rfl rfl rfl (by decide +kernel) ⟨Nat.le_of_ble_eq_true rfl, Nat.le_of_ble_eq_true rfl⟩) 0 12 mm_a0 rfl rfl rfl (Nat.le_of_ble_eq_true rfl) dX12_act_64 ⟨Nat.zero_le _, Nat.zero_le _⟩ (fun r u hp => ?_)
            obtain ⟨rfl, rfl⟩ := hp
            refine dl_goto (pc := 67) C 76 dX12_act_67 (by decide) ?_
            refine dl_sub [0] rfl ?_
            exact mo_act_t76 l D cI TY hTY nw N ad R C hQ  _ _ h
          · refine dl_aload_n (pc := 70) C 0 dX12_act_70 rfl rfl ?_
            refine dl_iload_n (pc := 71) C 1 dX12_act_71 rfl rfl ?_
            refine dl_iload_n (pc := 72) C 3 dX12_act_72 rfl rfl ?_
            obtain ⟨r10, g11, h1, h⟩ := dl_b2_some h
            refine dl_vI0 (pc := 73) C (cmo_tell0 l D cI TY hTY nw N ad R _ _ _ h1) (cwV 2 C.2.2.2.2.1 gX12_act_X12_tell0 rfl rfl rfl (by decide +kernel) ⟨Nat.le_of_ble_eq_true rfl, Nat.le_of_ble_eq_true rfl⟩) 0 12 mm_a0 rfl rfl rfl (Nat.le_of_ble_eq_true rfl) dX12_act_73 ⟨Nat.zero_le _, Nat.zero_le _⟩ (fun r u hp => ?_)
            obtain ⟨rfl, rfl⟩ := hp
            refine dl_sub [0] rfl ?_
            exact mo_act_t76 l D cI TY hTY nw N ad R C hQ  _ _ h
