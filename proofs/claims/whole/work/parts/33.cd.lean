theorem hin_X11_done_X11 : ∀ w ∈ u_ws RX11 TX11 6, w ∈ wsX11_done := fun _ h => List.mem_cons_of_mem _ (List.mem_append_right _ h)
theorem lk_X11_done_46 : Cond.fieldLink (yX11_done).cls 46 "DripLines" (TX11 5).2.1 (TX11 5).2.2.1 ∈ wsX11_done := by decide +kernel
set_option maxHeartbeats 4000000 in
set_option maxRecDepth 100000 in
theorem ccl11_done (l : Launch) (D : va_G) (cI cP cII : ClassId) (TY : dl_TY) (hTY : TY[0]? = some (cI, .int)) (ad : Nat → Nat) (pr : Nat → Option Nat) (R : va_W) (g : dl_Sg) (x1 : Int32) {r0 : Int32} {g0 : dl_Sg} (h : cl11_done g x1 = some (r0, g0)) : dl_CtI l D TY cc_nw yX11_done wsX11_done { frames := 0, cells := 0, slots := 0, locals := 0 } 0 0 [.ref (ad 0), .int x1] (cc_w cI cP cII ad pr g ++ R) (fun r u => r = r0 ∧ u = cc_w cI cP cII ad pr g0 ++ R) := by
  refine dl_metI (ty := .int) [(0, .ref (ad 0)), (1, .int x1)] (by decide) rfl (Nat.le_of_ble_eq_true rfl) rfl ?_
  intro p e s m args below meth c Q A C hQ
  unfold cl11_done at h
  refine dl_aload_n (pc := 0) C 0 dX11_done_0 rfl rfl ?_
  refine dl_iconst (pc := 1) C 0 dX11_done_1 (by decide) ?_
  refine dl_put (pc := 2) C hin_X11_done_X11 tyX11 tyX11_ok nmX11 0 cc_a0 rfl 5 (by decide) lk_X11_done_46 rfl rfl (ty := .int) rfl (vp_nar_int _) rfl (Nat.le_of_ble_eq_true rfl) dX11_done_2 cc_p0_5 ?_
  obtain ⟨g1, h, hg⟩ := dl_nm_some h
  rw [← hg]
  clear hg
  refine dl_iload_n (pc := 5) C 1 dX11_done_5 rfl rfl ?_
  exact hQ 6 _ _ _ ⟨(dl_r2 h).1, by rw [(dl_r2 h).2]⟩ (vp_nar_int _) dX11_done_6
theorem hin_X11_refused_X11 : ∀ w ∈ u_ws RX11 TX11 6, w ∈ wsX11_refused := fun _ h => List.mem_cons_of_mem _ (List.mem_append_right _ h)
theorem lk_X11_refused_46 : Cond.fieldLink (yX11_refused).cls 46 "DripLines" (TX11 5).2.1 (TX11 5).2.2.1 ∈ wsX11_refused := by decide +kernel
set_option maxHeartbeats 4000000 in
set_option maxRecDepth 100000 in
theorem ccl11_refused (l : Launch) (D : va_G) (cI cP cII : ClassId) (TY : dl_TY) (hTY : TY[0]? = some (cI, .int)) (ad : Nat → Nat) (pr : Nat → Option Nat) (R : va_W) (g : dl_Sg) (x1 : Int32) {r0 : Int32} {g0 : dl_Sg} (h : cl11_refused g x1 = some (r0, g0)) : dl_CtI l D TY cc_nw yX11_refused wsX11_refused { frames := 0, cells := 0, slots := 0, locals := 0 } 0 0 [.ref (ad 0), .int x1] (cc_w cI cP cII ad pr g ++ R) (fun r u => r = r0 ∧ u = cc_w cI cP cII ad pr g0 ++ R) := by
  refine dl_metI (ty := .int) [(0, .ref (ad 0)), (1, .int x1)] (by decide) rfl (Nat.le_of_ble_eq_true rfl) rfl ?_
  intro p e s m args below meth c Q A C hQ
  unfold cl11_refused at h
  refine dl_aload_n (pc := 0) C 0 dX11_refused_0 rfl rfl ?_
  refine dl_iload_n (pc := 1) C 1 dX11_refused_1 rfl rfl ?_
  refine dl_put (pc := 2) C hin_X11_refused_X11 tyX11 tyX11_ok nmX11 0 cc_a0 rfl 5 (by decide) lk_X11_refused_46 rfl rfl (ty := .int) rfl (vp_nar_int _) rfl (Nat.le_of_ble_eq_true rfl) dX11_refused_2 cc_p0_5 ?_
  obtain ⟨g1, h, hg⟩ := dl_nm_some h
  rw [← hg]
  clear hg
  refine dl_iconst (pc := 5) C (-1) dX11_refused_5 (by decide) ?_
  exact hQ 6 _ _ _ ⟨(dl_r2 h).1, by rw [(dl_r2 h).2]⟩ (vp_nar_int _) dX11_refused_6
theorem hin_X11_street_X11 : ∀ w ∈ u_ws RX11 TX11 6, w ∈ wsX11_street := fun _ h => List.mem_cons_of_mem _ (List.mem_append_left _ (List.mem_append_right _ h))
theorem hin_X11_street_X2 : ∀ w ∈ u_ws RX2 TX2 18, w ∈ wsX11_street := fun _ h => List.mem_cons_of_mem _ (List.mem_append_right _ h)
theorem lk_X11_street_10 : Cond.fieldLink (yX11_street).cls 10 "DripLines" (TX11 0).2.1 (TX11 0).2.2.1 ∈ wsX11_street := by decide +kernel
set_option maxHeartbeats 4000000 in
set_option maxRecDepth 100000 in
theorem ccl11_street (l : Launch) (D : va_G) (cI cP cII : ClassId) (TY : dl_TY) (hTY : TY[0]? = some (cI, .int)) (ad : Nat → Nat) (pr : Nat → Option Nat) (R : va_W) (g : dl_Sg) (x1 : Int32) (x2 : Int32) (x3 : Int32) {r0 : Int32} {g0 : dl_Sg} (h : cl11_street g x1 x2 x3 = some (r0, g0)) : dl_CtI l D TY cc_nw yX11_street wsX11_street { frames := 3, cells := 0, slots := 0, locals := 105 } 0 0 [.ref (ad 0), .int x1, .int x2, .int x3] (cc_w cI cP cII ad pr g ++ R) (fun r u => r = r0 ∧ u = cc_w cI cP cII ad pr g0 ++ R) := by
  refine dl_metI (ty := .int) [(0, .ref (ad 0)), (1, .int x1), (2, .int x2), (3, .int x3)] (by decide) rfl (Nat.le_of_ble_eq_true rfl) rfl ?_
  intro p e s m args below meth c Q A C hQ
  unfold cl11_street at h
  refine dl_aload_n (pc := 0) C 0 dX11_street_0 rfl rfl ?_
  refine dl_get (pc := 1) C hin_X11_street_X11 0 cc_a0 rfl 0 (by decide) lk_X11_street_10 rfl rfl dX11_street_1 ?_
  refine dl_iload_n (pc := 4) C 1 dX11_street_4 rfl rfl ?_
  refine dl_iload_n (pc := 5) C 2 dX11_street_5 rfl rfl ?_
  refine dl_iload_n (pc := 6) C 3 dX11_street_6 rfl rfl ?_
  obtain ⟨r1, h1, h⟩ := dl_bi_some h
  refine dl_vI0 (pc := 7) C (ccl2_mayJoin l D cI cP cII TY hTY ad pr R _ _ _ _ h1) (cwV 3 C.2.2.2.2.1 gX11_street_X2_mayJoin rfl rfl rfl (by decide +kernel) ⟨Nat.le_of_ble_eq_true rfl, Nat.le_of_ble_eq_true rfl⟩) 1 2 cc_a1 rfl rfl rfl (Nat.le_of_ble_eq_true rfl) dX11_street_7 ⟨Nat.zero_le _, Nat.zero_le _⟩ (fun r u hp => ?_)
  obtain ⟨rfl, rfl⟩ := hp
  refine dl_if_ne (pc := 10) C 19 dX11_street_10 (by decide) h (fun q11 h => ?_) (fun q11 h => ?_)
  · refine dl_aload_n (pc := 13) C 0 dX11_street_13 rfl rfl ?_
    refine dl_iconst (pc := 14) C 1 dX11_street_14 (by decide) ?_
    obtain ⟨r2, g3, h1, h⟩ := dl_b2_some h
    refine dl_vI0 (pc := 15) C (ccl11_refused l D cI cP cII TY hTY ad pr R _ _ h1) (cwV 1 C.2.2.2.2.1 gX11_street_X11_refused rfl rfl rfl (by decide +kernel) ⟨Nat.le_of_ble_eq_true rfl, Nat.le_of_ble_eq_true rfl⟩) 0 11 cc_a0 rfl rfl rfl (Nat.le_of_ble_eq_true rfl) dX11_street_15 ⟨Nat.zero_le _, Nat.zero_le _⟩ (fun r u hp => ?_)
    obtain ⟨rfl, rfl⟩ := hp
    exact hQ 18 _ _ _ ⟨(dl_r2 h).1, by rw [(dl_r2 h).2]⟩ (vp_nar_int _) dX11_street_18
  · refine dl_aload_n (pc := 19) C 0 dX11_street_19 rfl rfl ?_
    refine dl_get (pc := 20) C hin_X11_street_X11 0 cc_a0 rfl 0 (by decide) lk_X11_street_10 rfl rfl dX11_street_20 ?_
    refine dl_getN (pc := 23) C hin_X11_street_X2 1 cc_a1 rfl 11 (by decide) nk_RX11_78 rfl rfl dX11_street_23 ?_
    refine dl_bipush (pc := 26) C 16 dX11_street_26 (by decide) ?_
    refine dl_icmp_lt (pc := 28) C 37 dX11_street_28 (by decide) h (fun q10 h => ?_) (fun q10 h => ?_)
    · refine dl_aload_n (pc := 37) C 0 dX11_street_37 rfl rfl ?_
      refine dl_aload_n (pc := 38) C 0 dX11_street_38 rfl rfl ?_
      refine dl_get (pc := 39) C hin_X11_street_X11 0 cc_a0 rfl 0 (by decide) lk_X11_street_10 rfl rfl dX11_street_39 ?_
      refine dl_iload_n (pc := 42) C 1 dX11_street_42 rfl rfl ?_
      refine dl_iload_n (pc := 43) C 2 dX11_street_43 rfl rfl ?_
      refine dl_iload_n (pc := 44) C 3 dX11_street_44 rfl rfl ?_
      obtain ⟨r4, g5, h1, h⟩ := dl_b2_some h
      refine dl_vI0 (pc := 45) C (ccl2_addStreet l D cI cP cII TY hTY ad pr R _ _ _ _ h1) (cwV 3 C.2.2.2.2.1 gX11_street_X2_addStreet rfl rfl rfl (by decide +kernel) ⟨Nat.le_of_ble_eq_true rfl, Nat.le_of_ble_eq_true rfl⟩) 1 2 cc_a1 rfl rfl rfl (Nat.le_of_ble_eq_true rfl) dX11_street_45 ⟨Nat.zero_le _, Nat.zero_le _⟩ (fun r u hp => ?_)
      obtain ⟨rfl, rfl⟩ := hp
      obtain ⟨r6, g7, h1, h⟩ := dl_b2_some h
      refine dl_vI0 (pc := 48) C (ccl11_done l D cI cP cII TY hTY ad pr R _ _ h1) (cwV 1 C.2.2.2.2.1 gX11_street_X11_done rfl rfl rfl (by decide +kernel) ⟨Nat.le_of_ble_eq_true rfl, Nat.le_of_ble_eq_true rfl⟩) 0 11 cc_a0 rfl rfl rfl (Nat.le_of_ble_eq_true rfl) dX11_street_48 ⟨Nat.zero_le _, Nat.zero_le _⟩ (fun r u hp => ?_)
      obtain ⟨rfl, rfl⟩ := hp
      exact hQ 51 _ _ _ ⟨(dl_r2 h).1, by rw [(dl_r2 h).2]⟩ (vp_nar_int _) dX11_street_51
    · refine dl_aload_n (pc := 31) C 0 dX11_street_31 rfl rfl ?_
      refine dl_iconst (pc := 32) C 2 dX11_street_32 (by decide) ?_
      obtain ⟨r8, g9, h1, h⟩ := dl_b2_some h
      refine dl_vI0 (pc := 33) C (ccl11_refused l D cI cP cII TY hTY ad pr R _ _ h1) (cwV 1 C.2.2.2.2.1 gX11_street_X11_refused rfl rfl rfl (by decide +kernel) ⟨Nat.le_of_ble_eq_true rfl, Nat.le_of_ble_eq_true rfl⟩) 0 11 cc_a0 rfl rfl rfl (Nat.le_of_ble_eq_true rfl) dX11_street_33 ⟨Nat.zero_le _, Nat.zero_le _⟩ (fun r u hp => ?_)
      obtain ⟨rfl, rfl⟩ := hp
      exact hQ 36 _ _ _ ⟨(dl_r2 h).1, by rw [(dl_r2 h).2]⟩ (vp_nar_int _) dX11_street_36
theorem hin_X11_drop_X11 : ∀ w ∈ u_ws RX11 TX11 6, w ∈ wsX11_drop := fun _ h => List.mem_cons_of_mem _ (List.mem_append_left _ (List.mem_append_right _ h))
theorem lk_X11_drop_10 : Cond.fieldLink (yX11_drop).cls 10 "DripLines" (TX11 0).2.1 (TX11 0).2.2.1 ∈ wsX11_drop := by decide +kernel
set_option maxHeartbeats 4000000 in
set_option maxRecDepth 100000 in
theorem ccl11_drop (l : Launch) (D : va_G) (cI cP cII : ClassId) (TY : dl_TY) (hTY : TY[0]? = some (cI, .int)) (ad : Nat → Nat) (pr : Nat → Option Nat) (R : va_W) (g : dl_Sg) (x1 : Int32) {r0 : Int32} {g0 : dl_Sg} (h : cl11_drop g x1 = some (r0, g0)) : dl_CtI l D TY cc_nw yX11_drop wsX11_drop { frames := 3, cells := 0, slots := 0, locals := 102 } 0 0 [.ref (ad 0), .int x1] (cc_w cI cP cII ad pr g ++ R) (fun r u => r = r0 ∧ u = cc_w cI cP cII ad pr g0 ++ R) := by
  refine dl_metI (ty := .int) [(0, .ref (ad 0)), (1, .int x1)] (by decide) rfl (Nat.le_of_ble_eq_true rfl) rfl ?_
  intro p e s m args below meth c Q A C hQ
  unfold cl11_drop at h
  refine dl_aload_n (pc := 0) C 0 dX11_drop_0 rfl rfl ?_
  refine dl_get (pc := 1) C hin_X11_drop_X11 0 cc_a0 rfl 0 (by decide) lk_X11_drop_10 rfl rfl dX11_drop_1 ?_
  refine dl_iload_n (pc := 4) C 1 dX11_drop_4 rfl rfl ?_
  obtain ⟨r1, h1, h⟩ := dl_bi_some h
  refine dl_vI0 (pc := 5) C (ccl2_hasStreet l D cI cP cII TY hTY ad pr R _ _ h1) (cwV 1 C.2.2.2.2.1 gX11_drop_X2_hasStreet rfl rfl rfl (by decide +kernel) ⟨Nat.le_of_ble_eq_true rfl, Nat.le_of_ble_eq_true rfl⟩) 1 2 cc_a1 rfl rfl rfl (Nat.le_of_ble_eq_true rfl) dX11_drop_5 ⟨Nat.zero_le _, Nat.zero_le _⟩ (fun r u hp => ?_)
  obtain ⟨rfl, rfl⟩ := hp
  refine dl_if_ne (pc := 8) C 17 dX11_drop_8 (by decide) h (fun q11 h => ?_) (fun q11 h => ?_)
  · refine dl_aload_n (pc := 11) C 0 dX11_drop_11 rfl rfl ?_
    refine dl_iconst (pc := 12) C 1 dX11_drop_12 (by decide) ?_
    obtain ⟨r2, g3, h1, h⟩ := dl_b2_some h
    refine dl_vI0 (pc := 13) C (ccl11_refused l D cI cP cII TY hTY ad pr R _ _ h1) (cwV 1 C.2.2.2.2.1 gX11_drop_X11_refused rfl rfl rfl (by decide +kernel) ⟨Nat.le_of_ble_eq_true rfl, Nat.le_of_ble_eq_true rfl⟩) 0 11 cc_a0 rfl rfl rfl (Nat.le_of_ble_eq_true rfl) dX11_drop_13 ⟨Nat.zero_le _, Nat.zero_le _⟩ (fun r u hp => ?_)
    obtain ⟨rfl, rfl⟩ := hp
    exact hQ 16 _ _ _ ⟨(dl_r2 h).1, by rw [(dl_r2 h).2]⟩ (vp_nar_int _) dX11_drop_16
  · refine dl_aload_n (pc := 17) C 0 dX11_drop_17 rfl rfl ?_
    refine dl_get (pc := 18) C hin_X11_drop_X11 0 cc_a0 rfl 0 (by decide) lk_X11_drop_10 rfl rfl dX11_drop_18 ?_
    refine dl_iload_n (pc := 21) C 1 dX11_drop_21 rfl rfl ?_
    obtain ⟨r4, h1, h⟩ := dl_bi_some h
    refine dl_vI0 (pc := 22) C (ccl2_isThere l D cI cP cII TY hTY ad pr R _ _ h1) (cwV 1 C.2.2.2.2.1 gX11_drop_X2_isThere rfl rfl rfl (by decide +kernel) ⟨Nat.le_of_ble_eq_true rfl, Nat.le_of_ble_eq_true rfl⟩) 1 2 cc_a1 rfl rfl rfl (Nat.le_of_ble_eq_true rfl) dX11_drop_22 ⟨Nat.zero_le _, Nat.zero_le _⟩ (fun r u hp => ?_)
    obtain ⟨rfl, rfl⟩ := hp
    refine dl_if_ne (pc := 25) C 34 dX11_drop_25 (by decide) h (fun q10 h => ?_) (fun q10 h => ?_)
    · refine dl_aload_n (pc := 28) C 0 dX11_drop_28 rfl rfl ?_
      refine dl_iconst (pc := 29) C 3 dX11_drop_29 (by decide) ?_
      obtain ⟨r5, g6, h1, h⟩ := dl_b2_some h
      refine dl_vI0 (pc := 30) C (ccl11_refused l D cI cP cII TY hTY ad pr R _ _ h1) (cwV 1 C.2.2.2.2.1 gX11_drop_X11_refused rfl rfl rfl (by decide +kernel) ⟨Nat.le_of_ble_eq_true rfl, Nat.le_of_ble_eq_true rfl⟩) 0 11 cc_a0 rfl rfl rfl (Nat.le_of_ble_eq_true rfl) dX11_drop_30 ⟨Nat.zero_le _, Nat.zero_le _⟩ (fun r u hp => ?_)
      obtain ⟨rfl, rfl⟩ := hp
      exact hQ 33 _ _ _ ⟨(dl_r2 h).1, by rw [(dl_r2 h).2]⟩ (vp_nar_int _) dX11_drop_33
    · refine dl_aload_n (pc := 34) C 0 dX11_drop_34 rfl rfl ?_
      refine dl_get (pc := 35) C hin_X11_drop_X11 0 cc_a0 rfl 0 (by decide) lk_X11_drop_10 rfl rfl dX11_drop_35 ?_
      refine dl_iload_n (pc := 38) C 1 dX11_drop_38 rfl rfl ?_
      obtain ⟨g7, h1, h⟩ := dl_bi_some h
      refine dl_vV0 (pc := 39) C (ccl2_dropStreet l D cI cP cII TY hTY ad pr R _ _ h1) (cwV 1 C.2.2.2.2.1 gX11_drop_X2_dropStreet rfl rfl rfl (by decide +kernel) ⟨Nat.le_of_ble_eq_true rfl, Nat.le_of_ble_eq_true rfl⟩) 1 2 cc_a1 rfl rfl rfl (Nat.le_of_ble_eq_true rfl) dX11_drop_39 ⟨Nat.zero_le _, Nat.zero_le _⟩ (fun u hp => ?_)
      subst hp
      refine dl_aload_n (pc := 42) C 0 dX11_drop_42 rfl rfl ?_
      refine dl_iconst (pc := 43) C 1 dX11_drop_43 (by decide) ?_
      obtain ⟨r8, g9, h1, h⟩ := dl_b2_some h
      refine dl_vI0 (pc := 44) C (ccl11_done l D cI cP cII TY hTY ad pr R _ _ h1) (cwV 1 C.2.2.2.2.1 gX11_drop_X11_done rfl rfl rfl (by decide +kernel) ⟨Nat.le_of_ble_eq_true rfl, Nat.le_of_ble_eq_true rfl⟩) 0 11 cc_a0 rfl rfl rfl (Nat.le_of_ble_eq_true rfl) dX11_drop_44 ⟨Nat.zero_le _, Nat.zero_le _⟩ (fun r u hp => ?_)
      obtain ⟨rfl, rfl⟩ := hp
      exact hQ 47 _ _ _ ⟨(dl_r2 h).1, by rw [(dl_r2 h).2]⟩ (vp_nar_int _) dX11_drop_47
theorem hin_X11_streetTold_X11 : ∀ w ∈ u_ws RX11 TX11 6, w ∈ wsX11_streetTold := fun _ h => List.mem_cons_of_mem _ (List.mem_append_left _ (List.mem_append_right _ h))
theorem hin_X11_streetTold_X2 : ∀ w ∈ u_ws RX2 TX2 18, w ∈ wsX11_streetTold := fun _ h => List.mem_cons_of_mem _ (List.mem_append_right _ h)
theorem lk_X11_streetTold_10 : Cond.fieldLink (yX11_streetTold).cls 10 "DripLines" (TX11 0).2.1 (TX11 0).2.2.1 ∈ wsX11_streetTold := by decide +kernel
set_option maxHeartbeats 4000000 in
set_option maxRecDepth 100000 in
theorem ccl11_streetTold (l : Launch) (D : va_G) (cI cP cII : ClassId) (TY : dl_TY) (hTY : TY[0]? = some (cI, .int)) (ad : Nat → Nat) (pr : Nat → Option Nat) (R : va_W) (g : dl_Sg) (x1 : Int32) (x2 : Int32) {r0 : Int32} (h : cl11_streetTold g x1 x2 = some r0) : dl_CtI l D TY cc_nw yX11_streetTold wsX11_streetTold { frames := 1, cells := 0, slots := 0, locals := 21 } 0 0 [.ref (ad 0), .int x1, .int x2] (cc_w cI cP cII ad pr g ++ R) (fun r u => r = r0 ∧ u = cc_w cI cP cII ad pr g ++ R) := by
  refine dl_metI (ty := .int) [(0, .ref (ad 0)), (1, .int x1), (2, .int x2)] (by decide) rfl (Nat.le_of_ble_eq_true rfl) rfl ?_
  intro p e s m args below meth c Q A C hQ
  unfold cl11_streetTold at h
  refine dl_aload_n (pc := 0) C 0 dX11_streetTold_0 rfl rfl ?_
  refine dl_get (pc := 1) C hin_X11_streetTold_X11 0 cc_a0 rfl 0 (by decide) lk_X11_streetTold_10 rfl rfl dX11_streetTold_1 ?_
  refine dl_iload_n (pc := 4) C 1 dX11_streetTold_4 rfl rfl ?_
  obtain ⟨r1, h1, h⟩ := dl_bi_some h
  refine dl_vI0 (pc := 5) C (ccl2_hasStreet l D cI cP cII TY hTY ad pr R _ _ h1) (cwV 1 C.2.2.2.2.1 gX11_streetTold_X2_hasStreet rfl rfl rfl (by decide +kernel) ⟨Nat.le_of_ble_eq_true rfl, Nat.le_of_ble_eq_true rfl⟩) 1 2 cc_a1 rfl rfl rfl (Nat.le_of_ble_eq_true rfl) dX11_streetTold_5 ⟨Nat.zero_le _, Nat.zero_le _⟩ (fun r u hp => ?_)
  obtain ⟨rfl, rfl⟩ := hp
  refine dl_if_ne (pc := 8) C 13 dX11_streetTold_8 (by decide) h (fun q9 h => ?_) (fun q9 h => ?_)
  · refine dl_iconst (pc := 11) C (-1) dX11_streetTold_11 (by decide) ?_
    exact hQ 12 _ _ _ ⟨Option.some.inj h, rfl⟩ (vp_nar_int _) dX11_streetTold_12
  · refine dl_iload_n (pc := 13) C 2 dX11_streetTold_13 rfl rfl ?_
    by_cases q4 : x2 = 0
    · rw [if_pos q4] at h
      refine dl_tabIn (pc := 14) C 34 48 dX11_streetTold_14 (by rw [q4]; decide) (by rw [q4]; decide) (by rw [q4]; rfl) (by decide) ?_
      refine dl_aload_n (pc := 48) C 0 dX11_streetTold_48 rfl rfl ?_
      refine dl_get (pc := 49) C hin_X11_streetTold_X11 0 cc_a0 rfl 0 (by decide) lk_X11_streetTold_10 rfl rfl dX11_streetTold_49 ?_
      refine dl_getN (pc := 52) C hin_X11_streetTold_X2 1 cc_a1 rfl 4 (by decide) nk_RX11_117 rfl rfl dX11_streetTold_52 ?_
      refine dl_iload_n (pc := 55) C 1 dX11_streetTold_55 rfl rfl ?_
      obtain ⟨h0, h⟩ := dl_gd_some h
      refine dl_iald (pc := 56) C 10 0 cc_a13 hTY h0 dX11_streetTold_56 ?_
      exact hQ 57 _ _ _ ⟨Option.some.inj h, rfl⟩ (vp_nar_int _) dX11_streetTold_57
    rw [if_neg q4] at h
    by_cases q5 : x2 = 1
    · rw [if_pos q5] at h
      refine dl_tabIn (pc := 14) C 44 58 dX11_streetTold_14 (by rw [q5]; decide) (by rw [q5]; decide) (by rw [q5]; rfl) (by decide) ?_
      refine dl_aload_n (pc := 58) C 0 dX11_streetTold_58 rfl rfl ?_
      refine dl_get (pc := 59) C hin_X11_streetTold_X11 0 cc_a0 rfl 0 (by decide) lk_X11_streetTold_10 rfl rfl dX11_streetTold_59 ?_
      refine dl_getN (pc := 62) C hin_X11_streetTold_X2 1 cc_a1 rfl 5 (by decide) nk_RX11_121 rfl rfl dX11_streetTold_62 ?_
      refine dl_iload_n (pc := 65) C 1 dX11_streetTold_65 rfl rfl ?_
      obtain ⟨h0, h⟩ := dl_gd_some h
      refine dl_iald (pc := 66) C 11 0 cc_a14 hTY h0 dX11_streetTold_66 ?_
      exact hQ 67 _ _ _ ⟨Option.some.inj h, rfl⟩ (vp_nar_int _) dX11_streetTold_67
    rw [if_neg q5] at h
    by_cases q6 : x2 = 2
    · rw [if_pos q6] at h
      refine dl_tabIn (pc := 14) C 54 68 dX11_streetTold_14 (by rw [q6]; decide) (by rw [q6]; decide) (by rw [q6]; rfl) (by decide) ?_
      refine dl_aload_n (pc := 68) C 0 dX11_streetTold_68 rfl rfl ?_
      refine dl_get (pc := 69) C hin_X11_streetTold_X11 0 cc_a0 rfl 0 (by decide) lk_X11_streetTold_10 rfl rfl dX11_streetTold_69 ?_
      refine dl_getN (pc := 72) C hin_X11_streetTold_X2 1 cc_a1 rfl 6 (by decide) nk_RX11_124 rfl rfl dX11_streetTold_72 ?_
      refine dl_iload_n (pc := 75) C 1 dX11_streetTold_75 rfl rfl ?_
      obtain ⟨h0, h⟩ := dl_gd_some h
      refine dl_iald (pc := 76) C 12 0 cc_a15 hTY h0 dX11_streetTold_76 ?_
      exact hQ 77 _ _ _ ⟨Option.some.inj h, rfl⟩ (vp_nar_int _) dX11_streetTold_77
    rw [if_neg q6] at h
    by_cases q7 : x2 = 3
    · rw [if_pos q7] at h
      refine dl_tabIn (pc := 14) C 64 78 dX11_streetTold_14 (by rw [q7]; decide) (by rw [q7]; decide) (by rw [q7]; rfl) (by decide) ?_
      refine dl_aload_n (pc := 78) C 0 dX11_streetTold_78 rfl rfl ?_
      refine dl_get (pc := 79) C hin_X11_streetTold_X11 0 cc_a0 rfl 0 (by decide) lk_X11_streetTold_10 rfl rfl dX11_streetTold_79 ?_
      refine dl_getN (pc := 82) C hin_X11_streetTold_X2 1 cc_a1 rfl 14 (by decide) nk_RX11_127 rfl rfl dX11_streetTold_82 ?_
      refine dl_iload_n (pc := 85) C 1 dX11_streetTold_85 rfl rfl ?_
      obtain ⟨r2, h1, h⟩ := dl_bi_some h
      refine dl_sI0 (pc := 86) C (ccl11_bitAt l D TY cc_nw _ _ _ h1) (va_cwS 2 C.2.2.2.2.1 gX11_streetTold_X11_bitAt rfl rfl rfl (by decide +kernel) ⟨Nat.le_of_ble_eq_true rfl, Nat.le_of_ble_eq_true rfl⟩) rfl rfl (Nat.le_of_ble_eq_true rfl) dX11_streetTold_86 ⟨Nat.zero_le _, Nat.zero_le _⟩ (fun r u hp => ?_)
      obtain ⟨rfl, hu⟩ := hp
      rw [hu]
      clear hu
      exact hQ 89 _ _ _ ⟨Option.some.inj h, rfl⟩ (vp_nar_int _) dX11_streetTold_89
    rw [if_neg q7] at h
    by_cases q8 : x2 = 4
    · rw [if_pos q8] at h
      refine dl_tabIn (pc := 14) C 76 90 dX11_streetTold_14 (by rw [q8]; decide) (by rw [q8]; decide) (by rw [q8]; rfl) (by decide) ?_
      refine dl_aload_n (pc := 90) C 0 dX11_streetTold_90 rfl rfl ?_
      refine dl_get (pc := 91) C hin_X11_streetTold_X11 0 cc_a0 rfl 0 (by decide) lk_X11_streetTold_10 rfl rfl dX11_streetTold_91 ?_
      refine dl_getN (pc := 94) C hin_X11_streetTold_X2 1 cc_a1 rfl 15 (by decide) nk_RX11_133 rfl rfl dX11_streetTold_94 ?_
      refine dl_iload_n (pc := 97) C 1 dX11_streetTold_97 rfl rfl ?_
      obtain ⟨r3, h1, h⟩ := dl_bi_some h
      refine dl_sI0 (pc := 98) C (ccl11_bitAt l D TY cc_nw _ _ _ h1) (va_cwS 2 C.2.2.2.2.1 gX11_streetTold_X11_bitAt rfl rfl rfl (by decide +kernel) ⟨Nat.le_of_ble_eq_true rfl, Nat.le_of_ble_eq_true rfl⟩) rfl rfl (Nat.le_of_ble_eq_true rfl) dX11_streetTold_98 ⟨Nat.zero_le _, Nat.zero_le _⟩ (fun r u hp => ?_)
      obtain ⟨rfl, hu⟩ := hp
      rw [hu]
      clear hu
      exact hQ 101 _ _ _ ⟨Option.some.inj h, rfl⟩ (vp_nar_int _) dX11_streetTold_101
    rw [if_neg q8] at h
    refine dl_tabOut (pc := 14) C 102 dX11_streetTold_14 (by have eq4 : (x2).toInt ≠ 0 := fun w => q4 (Int32.toInt_inj.mp w); have eq5 : (x2).toInt ≠ 1 := fun w => q5 (Int32.toInt_inj.mp w); have eq6 : (x2).toInt ≠ 2 := fun w => q6 (Int32.toInt_inj.mp w); have eq7 : (x2).toInt ≠ 3 := fun w => q7 (Int32.toInt_inj.mp w); have eq8 : (x2).toInt ≠ 4 := fun w => q8 (Int32.toInt_inj.mp w); omega) (by decide) ?_
    refine dl_iconst (pc := 102) C (-1) dX11_streetTold_102 (by decide) ?_
    exact hQ 103 _ _ _ ⟨Option.some.inj h, rfl⟩ (vp_nar_int _) dX11_streetTold_103
theorem hin_X11_count_X11 : ∀ w ∈ u_ws RX11 TX11 6, w ∈ wsX11_count := fun _ h => List.mem_cons_of_mem _ (List.mem_append_left _ (List.mem_append_left _ (List.mem_append_right _ h)))
theorem hin_X11_count_X2 : ∀ w ∈ u_ws RX2 TX2 18, w ∈ wsX11_count := fun _ h => List.mem_cons_of_mem _ (List.mem_append_left _ (List.mem_append_right _ h))
theorem hin_X11_count_X5 : ∀ w ∈ u_ws RX5 TX5 2, w ∈ wsX11_count := fun _ h => List.mem_cons_of_mem _ (List.mem_append_right _ h)
theorem lk_X11_count_10 : Cond.fieldLink (yX11_count).cls 10 "DripLines" (TX11 0).2.1 (TX11 0).2.2.1 ∈ wsX11_count := by decide +kernel
set_option maxHeartbeats 4000000 in
set_option maxRecDepth 100000 in
theorem ccl11_count (l : Launch) (D : va_G) (cI cP cII : ClassId) (TY : dl_TY) (hTY : TY[0]? = some (cI, .int)) (ad : Nat → Nat) (pr : Nat → Option Nat) (R : va_W) (g : dl_Sg) (x1 : Int32) {r0 : Int32} (h : cl11_count g x1 = some r0) : dl_CtI l D TY cc_nw yX11_count wsX11_count { frames := 1, cells := 0, slots := 0, locals := 20 } 0 0 [.ref (ad 0), .int x1] (cc_w cI cP cII ad pr g ++ R) (fun r u => r = r0 ∧ u = cc_w cI cP cII ad pr g ++ R) := by
  refine dl_metI (ty := .int) [(0, .ref (ad 0)), (1, .int x1)] (by decide) rfl (Nat.le_of_ble_eq_true rfl) rfl ?_
  intro p e s m args below meth c Q A C hQ
  unfold cl11_count at h
  refine dl_iload_n (pc := 0) C 1 dX11_count_0 rfl rfl ?_
  by_cases q4 : x1 = 0
  · rw [if_pos q4] at h
    refine dl_tabIn (pc := 1) C 43 44 dX11_count_1 (by rw [q4]; decide) (by rw [q4]; decide) (by rw [q4]; rfl) (by decide) ?_
    refine dl_aload_n (pc := 44) C 0 dX11_count_44 rfl rfl ?_
    refine dl_get (pc := 45) C hin_X11_count_X11 0 cc_a0 rfl 0 (by decide) lk_X11_count_10 rfl rfl dX11_count_45 ?_
    refine dl_getN (pc := 48) C hin_X11_count_X2 1 cc_a1 rfl 10 (by decide) nk_RX11_61 rfl rfl dX11_count_48 ?_
    exact hQ 51 _ _ _ ⟨Option.some.inj h, rfl⟩ (vp_nar_int _) dX11_count_51
  rw [if_neg q4] at h
  by_cases q5 : x1 = 1
  · rw [if_pos q5] at h
    refine dl_tabIn (pc := 1) C 51 52 dX11_count_1 (by rw [q5]; decide) (by rw [q5]; decide) (by rw [q5]; rfl) (by decide) ?_
    refine dl_aload_n (pc := 52) C 0 dX11_count_52 rfl rfl ?_
    refine dl_get (pc := 53) C hin_X11_count_X11 0 cc_a0 rfl 0 (by decide) lk_X11_count_10 rfl rfl dX11_count_53 ?_
    refine dl_getN (pc := 56) C hin_X11_count_X2 1 cc_a1 rfl 11 (by decide) nk_RX11_78 rfl rfl dX11_count_56 ?_
    exact hQ 59 _ _ _ ⟨Option.some.inj h, rfl⟩ (vp_nar_int _) dX11_count_59
  rw [if_neg q5] at h
  by_cases q6 : x1 = 2
  · rw [if_pos q6] at h
    refine dl_tabIn (pc := 1) C 59 60 dX11_count_1 (by rw [q6]; decide) (by rw [q6]; decide) (by rw [q6]; rfl) (by decide) ?_
    refine dl_aload_n (pc := 60) C 0 dX11_count_60 rfl rfl ?_
    refine dl_get (pc := 61) C hin_X11_count_X11 0 cc_a0 rfl 0 (by decide) lk_X11_count_10 rfl rfl dX11_count_61 ?_
    refine dl_getN (pc := 64) C hin_X11_count_X2 1 cc_a1 rfl 14 (by decide) nk_RX11_127 rfl rfl dX11_count_64 ?_
    obtain ⟨r1, h1, h⟩ := dl_bi_some h
    refine dl_sI0 (pc := 67) C (cjd_bitCount l D TY cc_nw _ _ h1) (va_cwS 1 C.2.2.2.2.1 gX11_count_J6_bitCount_0f7a4 rfl rfl rfl (by decide +kernel) ⟨Nat.le_of_ble_eq_true rfl, Nat.le_of_ble_eq_true rfl⟩) rfl rfl (Nat.le_of_ble_eq_true rfl) dX11_count_67 ⟨Nat.zero_le _, Nat.zero_le _⟩ (fun r u hp => ?_)
    obtain ⟨rfl, hu⟩ := hp
    rw [hu]
    clear hu
    exact hQ 70 _ _ _ ⟨Option.some.inj h, rfl⟩ (vp_nar_int _) dX11_count_70
  rw [if_neg q6] at h
  by_cases q7 : x1 = 3
  · rw [if_pos q7] at h
    refine dl_tabIn (pc := 1) C 70 71 dX11_count_1 (by rw [q7]; decide) (by rw [q7]; decide) (by rw [q7]; rfl) (by decide) ?_
    refine dl_aload_n (pc := 71) C 0 dX11_count_71 rfl rfl ?_
    refine dl_get (pc := 72) C hin_X11_count_X11 0 cc_a0 rfl 0 (by decide) lk_X11_count_10 rfl rfl dX11_count_72 ?_
    refine dl_getN (pc := 75) C hin_X11_count_X2 1 cc_a1 rfl 12 (by decide) nk_RX11_141 rfl rfl dX11_count_75 ?_
    obtain ⟨r2, h1, h⟩ := dl_bi_some h
    refine dl_sI0 (pc := 78) C (cjd_bitCount l D TY cc_nw _ _ h1) (va_cwS 1 C.2.2.2.2.1 gX11_count_J6_bitCount_0f7a4 rfl rfl rfl (by decide +kernel) ⟨Nat.le_of_ble_eq_true rfl, Nat.le_of_ble_eq_true rfl⟩) rfl rfl (Nat.le_of_ble_eq_true rfl) dX11_count_78 ⟨Nat.zero_le _, Nat.zero_le _⟩ (fun r u hp => ?_)
    obtain ⟨rfl, hu⟩ := hp
    rw [hu]
    clear hu
    exact hQ 81 _ _ _ ⟨Option.some.inj h, rfl⟩ (vp_nar_int _) dX11_count_81
  rw [if_neg q7] at h
  by_cases q8 : x1 = 4
  · rw [if_pos q8] at h
    refine dl_tabIn (pc := 1) C 81 82 dX11_count_1 (by rw [q8]; decide) (by rw [q8]; decide) (by rw [q8]; rfl) (by decide) ?_
    refine dl_aload_n (pc := 82) C 0 dX11_count_82 rfl rfl ?_
    refine dl_get (pc := 83) C hin_X11_count_X11 0 cc_a0 rfl 0 (by decide) lk_X11_count_10 rfl rfl dX11_count_83 ?_
    refine dl_getN (pc := 86) C hin_X11_count_X2 1 cc_a1 rfl 15 (by decide) nk_RX11_133 rfl rfl dX11_count_86 ?_
    obtain ⟨r3, h1, h⟩ := dl_bi_some h
    refine dl_sI0 (pc := 89) C (cjd_bitCount l D TY cc_nw _ _ h1) (va_cwS 1 C.2.2.2.2.1 gX11_count_J6_bitCount_0f7a4 rfl rfl rfl (by decide +kernel) ⟨Nat.le_of_ble_eq_true rfl, Nat.le_of_ble_eq_true rfl⟩) rfl rfl (Nat.le_of_ble_eq_true rfl) dX11_count_89 ⟨Nat.zero_le _, Nat.zero_le _⟩ (fun r u hp => ?_)
    obtain ⟨rfl, hu⟩ := hp
    rw [hu]
    clear hu
    exact hQ 92 _ _ _ ⟨Option.some.inj h, rfl⟩ (vp_nar_int _) dX11_count_92
  rw [if_neg q8] at h
  by_cases q9 : x1 = 5
  · rw [if_pos q9] at h
    refine dl_tabIn (pc := 1) C 92 93 dX11_count_1 (by rw [q9]; decide) (by rw [q9]; decide) (by rw [q9]; rfl) (by decide) ?_
    refine dl_aload_n (pc := 93) C 0 dX11_count_93 rfl rfl ?_
    refine dl_get (pc := 94) C hin_X11_count_X11 0 cc_a0 rfl 0 (by decide) lk_X11_count_10 rfl rfl dX11_count_94 ?_
    refine dl_getN (pc := 97) C hin_X11_count_X2 1 cc_a1 rfl 9 (by decide) nk_RX11_144 rfl rfl dX11_count_97 ?_
    refine dl_getN (pc := 100) C hin_X11_count_X5 6 cc_a6 rfl 1 (by decide) nk_RX11_148 rfl rfl dX11_count_100 ?_
    exact hQ 103 _ _ _ ⟨Option.some.inj h, rfl⟩ (vp_nar_int _) dX11_count_103
  rw [if_neg q9] at h
  by_cases q10 : x1 = 6
  · rw [if_pos q10] at h
    refine dl_tabIn (pc := 1) C 103 104 dX11_count_1 (by rw [q10]; decide) (by rw [q10]; decide) (by rw [q10]; rfl) (by decide) ?_
    refine dl_aload_n (pc := 104) C 0 dX11_count_104 rfl rfl ?_
    refine dl_get (pc := 105) C hin_X11_count_X11 0 cc_a0 rfl 0 (by decide) lk_X11_count_10 rfl rfl dX11_count_105 ?_
    refine dl_getN (pc := 108) C hin_X11_count_X2 1 cc_a1 rfl 16 (by decide) nk_RX11_95 rfl rfl dX11_count_108 ?_
    exact hQ 111 _ _ _ ⟨Option.some.inj h, rfl⟩ (vp_nar_int _) dX11_count_111
  rw [if_neg q10] at h
  refine dl_tabOut (pc := 1) C 112 dX11_count_1 (by have eq4 : (x1).toInt ≠ 0 := fun w => q4 (Int32.toInt_inj.mp w); have eq5 : (x1).toInt ≠ 1 := fun w => q5 (Int32.toInt_inj.mp w); have eq6 : (x1).toInt ≠ 2 := fun w => q6 (Int32.toInt_inj.mp w); have eq7 : (x1).toInt ≠ 3 := fun w => q7 (Int32.toInt_inj.mp w); have eq8 : (x1).toInt ≠ 4 := fun w => q8 (Int32.toInt_inj.mp w); have eq9 : (x1).toInt ≠ 5 := fun w => q9 (Int32.toInt_inj.mp w); have eq10 : (x1).toInt ≠ 6 := fun w => q10 (Int32.toInt_inj.mp w); omega) (by decide) ?_
  refine dl_iconst (pc := 112) C (-1) dX11_count_112 (by decide) ?_
  exact hQ 113 _ _ _ ⟨Option.some.inj h, rfl⟩ (vp_nar_int _) dX11_count_113
theorem hin_X11_apart_X11 : ∀ w ∈ u_ws RX11 TX11 6, w ∈ wsX11_apart := fun _ h => List.mem_cons_of_mem _ (List.mem_append_left _ (List.mem_append_left _ (List.mem_append_right _ h)))
theorem lk_X11_apart_10 : Cond.fieldLink (yX11_apart).cls 10 "DripLines" (TX11 0).2.1 (TX11 0).2.2.1 ∈ wsX11_apart := by decide +kernel
theorem lk_X11_apart_21 : Cond.fieldLink (yX11_apart).cls 21 "DripLines" (TX11 1).2.1 (TX11 1).2.2.1 ∈ wsX11_apart := by decide +kernel
set_option maxHeartbeats 4000000 in
set_option maxRecDepth 100000 in
theorem ccl11_apart (l : Launch) (D : va_G) (cI cP cII : ClassId) (TY : dl_TY) (hTY : TY[0]? = some (cI, .int)) (N : Nat) (ad : Nat → Nat) (pr : Nat → Option Nat) (R : va_W) (g : dl_Sg) (x1 : Int32) (x2 : Int32) {r0 : Int32} {g0 : dl_Sg} (h : cl11_apart N g x1 x2 = some (r0, g0)) : dl_CtI l D TY cc_nw yX11_apart wsX11_apart { frames := 4, cells := 0, slots := 0, locals := 97 } 0 0 [.ref (ad 0), .int x1, .int x2] (cc_w cI cP cII ad pr g ++ R) (fun r u => r = r0 ∧ u = cc_w cI cP cII ad pr g0 ++ R) := by
  refine dl_metI (ty := .int) [(0, .ref (ad 0)), (1, .int x1), (2, .int x2)] (by decide) rfl (Nat.le_of_ble_eq_true rfl) rfl ?_
  intro p e s m args below meth c Q A C hQ
  unfold cl11_apart at h
  refine dl_aload_n (pc := 0) C 0 dX11_apart_0 rfl rfl ?_
  refine dl_get (pc := 1) C hin_X11_apart_X11 0 cc_a0 rfl 0 (by decide) lk_X11_apart_10 rfl rfl dX11_apart_1 ?_
  refine dl_iload_n (pc := 4) C 1 dX11_apart_4 rfl rfl ?_
  obtain ⟨r1, h1, h⟩ := dl_bi_some h
  refine dl_vI0 (pc := 5) C (ccl2_hasPlace l D cI cP cII TY hTY ad pr R _ _ h1) (cwV 1 C.2.2.2.2.1 gX11_apart_X2_hasPlace rfl rfl rfl (by decide +kernel) ⟨Nat.le_of_ble_eq_true rfl, Nat.le_of_ble_eq_true rfl⟩) 1 2 cc_a1 rfl rfl rfl (Nat.le_of_ble_eq_true rfl) dX11_apart_5 ⟨Nat.zero_le _, Nat.zero_le _⟩ (fun r u hp => ?_)
  obtain ⟨rfl, rfl⟩ := hp
  refine dl_if_eq (pc := 8) C 34 dX11_apart_8 (by decide) h (fun q6 h => ?_) (fun q6 h => ?_)
  · refine dl_ldc (pc := 34) C (-1000000) (by decide +kernel) dX11_apart_34 ?_
    exact hQ 36 _ _ _ ⟨(dl_r2 h).1, by rw [(dl_r2 h).2]⟩ (vp_nar_int _) dX11_apart_36
  · refine dl_aload_n (pc := 11) C 0 dX11_apart_11 rfl rfl ?_
    refine dl_get (pc := 12) C hin_X11_apart_X11 0 cc_a0 rfl 0 (by decide) lk_X11_apart_10 rfl rfl dX11_apart_12 ?_
    refine dl_iload_n (pc := 15) C 2 dX11_apart_15 rfl rfl ?_
    obtain ⟨r2, h1, h⟩ := dl_bi_some h
    refine dl_vI0 (pc := 16) C (ccl2_hasPlace l D cI cP cII TY hTY ad pr R _ _ h1) (cwV 1 C.2.2.2.2.1 gX11_apart_X2_hasPlace rfl rfl rfl (by decide +kernel) ⟨Nat.le_of_ble_eq_true rfl, Nat.le_of_ble_eq_true rfl⟩) 1 2 cc_a1 rfl rfl rfl (Nat.le_of_ble_eq_true rfl) dX11_apart_16 ⟨Nat.zero_le _, Nat.zero_le _⟩ (fun r u hp => ?_)
    obtain ⟨rfl, rfl⟩ := hp
    refine dl_if_eq (pc := 19) C 34 dX11_apart_19 (by decide) h (fun q5 h => ?_) (fun q5 h => ?_)
    · refine dl_ldc (pc := 34) C (-1000000) (by decide +kernel) dX11_apart_34 ?_
      exact hQ 36 _ _ _ ⟨(dl_r2 h).1, by rw [(dl_r2 h).2]⟩ (vp_nar_int _) dX11_apart_36
    · refine dl_aload_n (pc := 22) C 0 dX11_apart_22 rfl rfl ?_
      refine dl_get (pc := 23) C hin_X11_apart_X11 0 cc_a0 rfl 1 (by decide) lk_X11_apart_21 rfl rfl dX11_apart_23 ?_
      refine dl_iload_n (pc := 26) C 1 dX11_apart_26 rfl rfl ?_
      refine dl_iload_n (pc := 27) C 2 dX11_apart_27 rfl rfl ?_
      obtain ⟨r3, g4, h1, h⟩ := dl_b2_some h
      refine dl_vI0 (pc := 28) C (ccl8_sumOf l D cI cP cII TY hTY N ad pr R _ _ _ h1) (cwV 2 C.2.2.2.2.1 gX11_apart_X8_sumOf rfl rfl rfl (by decide +kernel) ⟨Nat.le_of_ble_eq_true rfl, Nat.le_of_ble_eq_true rfl⟩) 2 8 cc_a2 rfl rfl rfl (Nat.le_of_ble_eq_true rfl) dX11_apart_28 ⟨Nat.zero_le _, Nat.zero_le _⟩ (fun r u hp => ?_)
      obtain ⟨rfl, rfl⟩ := hp
      refine dl_goto (pc := 31) C 36 dX11_apart_31 (by decide) ?_
      exact hQ 36 _ _ _ ⟨(dl_r2 h).1, by rw [(dl_r2 h).2]⟩ (vp_nar_int _) dX11_apart_36
theorem hin_X11_way_X11 : ∀ w ∈ u_ws RX11 TX11 6, w ∈ wsX11_way := fun _ h => List.mem_cons_of_mem _ (List.mem_append_left _ (List.mem_append_left _ (List.mem_append_right _ h)))
theorem lk_X11_way_10 : Cond.fieldLink (yX11_way).cls 10 "DripLines" (TX11 0).2.1 (TX11 0).2.2.1 ∈ wsX11_way := by decide +kernel
theorem lk_X11_way_21 : Cond.fieldLink (yX11_way).cls 21 "DripLines" (TX11 1).2.1 (TX11 1).2.2.1 ∈ wsX11_way := by decide +kernel
set_option maxHeartbeats 4000000 in
set_option maxRecDepth 100000 in
theorem ccl11_way (l : Launch) (D : va_G) (cI cP cII : ClassId) (TY : dl_TY) (hTY : TY[0]? = some (cI, .int)) (N : Nat) (ad : Nat → Nat) (pr : Nat → Option Nat) (R : va_W) (g : dl_Sg) (x1 : Int32) (x2 : Int32) (x3 : Int32) {r0 : Int32} {g0 : dl_Sg} (h : cl11_way N g x1 x2 x3 = some (r0, g0)) : dl_CtI l D TY cc_nw yX11_way wsX11_way { frames := 4, cells := 0, slots := 0, locals := 100 } 0 0 [.ref (ad 0), .int x1, .int x2, .int x3] (cc_w cI cP cII ad pr g ++ R) (fun r u => r = r0 ∧ u = cc_w cI cP cII ad pr g0 ++ R) := by
  refine dl_metI (ty := .int) [(0, .ref (ad 0)), (1, .int x1), (2, .int x2), (3, .int x3)] (by decide) rfl (Nat.le_of_ble_eq_true rfl) rfl ?_
  intro p e s m args below meth c Q A C hQ
  unfold cl11_way at h
  refine dl_aload_n (pc := 0) C 0 dX11_way_0 rfl rfl ?_
  refine dl_get (pc := 1) C hin_X11_way_X11 0 cc_a0 rfl 0 (by decide) lk_X11_way_10 rfl rfl dX11_way_1 ?_
  refine dl_iload_n (pc := 4) C 1 dX11_way_4 rfl rfl ?_
  obtain ⟨r1, h1, h⟩ := dl_bi_some h
  refine dl_vI0 (pc := 5) C (ccl2_hasPlace l D cI cP cII TY hTY ad pr R _ _ h1) (cwV 1 C.2.2.2.2.1 gX11_way_X2_hasPlace rfl rfl rfl (by decide +kernel) ⟨Nat.le_of_ble_eq_true rfl, Nat.le_of_ble_eq_true rfl⟩) 1 2 cc_a1 rfl rfl rfl (Nat.le_of_ble_eq_true rfl) dX11_way_5 ⟨Nat.zero_le _, Nat.zero_le _⟩ (fun r u hp => ?_)
  obtain ⟨rfl, rfl⟩ := hp
  refine dl_if_eq (pc := 8) C 35 dX11_way_8 (by decide) h (fun q6 h => ?_) (fun q6 h => ?_)
  · refine dl_iconst (pc := 35) C (-1) dX11_way_35 (by decide) ?_
    exact hQ 36 _ _ _ ⟨(dl_r2 h).1, by rw [(dl_r2 h).2]⟩ (vp_nar_int _) dX11_way_36
  · refine dl_aload_n (pc := 11) C 0 dX11_way_11 rfl rfl ?_
    refine dl_get (pc := 12) C hin_X11_way_X11 0 cc_a0 rfl 0 (by decide) lk_X11_way_10 rfl rfl dX11_way_12 ?_
    refine dl_iload_n (pc := 15) C 2 dX11_way_15 rfl rfl ?_
    obtain ⟨r2, h1, h⟩ := dl_bi_some h
    refine dl_vI0 (pc := 16) C (ccl2_hasPlace l D cI cP cII TY hTY ad pr R _ _ h1) (cwV 1 C.2.2.2.2.1 gX11_way_X2_hasPlace rfl rfl rfl (by decide +kernel) ⟨Nat.le_of_ble_eq_true rfl, Nat.le_of_ble_eq_true rfl⟩) 1 2 cc_a1 rfl rfl rfl (Nat.le_of_ble_eq_true rfl) dX11_way_16 ⟨Nat.zero_le _, Nat.zero_le _⟩ (fun r u hp => ?_)
    obtain ⟨rfl, rfl⟩ := hp
    refine dl_if_eq (pc := 19) C 35 dX11_way_19 (by decide) h (fun q5 h => ?_) (fun q5 h => ?_)
    · refine dl_iconst (pc := 35) C (-1) dX11_way_35 (by decide) ?_
      exact hQ 36 _ _ _ ⟨(dl_r2 h).1, by rw [(dl_r2 h).2]⟩ (vp_nar_int _) dX11_way_36
    · refine dl_aload_n (pc := 22) C 0 dX11_way_22 rfl rfl ?_
      refine dl_get (pc := 23) C hin_X11_way_X11 0 cc_a0 rfl 1 (by decide) lk_X11_way_21 rfl rfl dX11_way_23 ?_
      refine dl_iload_n (pc := 26) C 1 dX11_way_26 rfl rfl ?_
      refine dl_iload_n (pc := 27) C 2 dX11_way_27 rfl rfl ?_
      refine dl_iload_n (pc := 28) C 3 dX11_way_28 rfl rfl ?_
      obtain ⟨r3, g4, h1, h⟩ := dl_b2_some h
      refine dl_vI0 (pc := 29) C (ccl8_placeOn l D cI cP cII TY hTY N ad pr R _ _ _ _ h1) (cwV 3 C.2.2.2.2.1 gX11_way_X8_placeOn rfl rfl rfl (by decide +kernel) ⟨Nat.le_of_ble_eq_true rfl, Nat.le_of_ble_eq_true rfl⟩) 2 8 cc_a2 rfl rfl rfl (Nat.le_of_ble_eq_true rfl) dX11_way_29 ⟨Nat.zero_le _, Nat.zero_le _⟩ (fun r u hp => ?_)
      obtain ⟨rfl, rfl⟩ := hp
      refine dl_goto (pc := 32) C 36 dX11_way_32 (by decide) ?_
      exact hQ 36 _ _ _ ⟨(dl_r2 h).1, by rw [(dl_r2 h).2]⟩ (vp_nar_int _) dX11_way_36
theorem hin_X11_span_X11 : ∀ w ∈ u_ws RX11 TX11 6, w ∈ wsX11_span := fun _ h => List.mem_cons_of_mem _ (List.mem_append_left _ (List.mem_append_left _ (List.mem_append_right _ h)))
theorem lk_X11_span_21 : Cond.fieldLink (yX11_span).cls 21 "DripLines" (TX11 1).2.1 (TX11 1).2.2.1 ∈ wsX11_span := by decide +kernel
set_option maxHeartbeats 4000000 in
set_option maxRecDepth 100000 in
theorem ccl11_span (l : Launch) (D : va_G) (cI cP cII : ClassId) (TY : dl_TY) (hTY : TY[0]? = some (cI, .int)) (N : Nat) (ad : Nat → Nat) (pr : Nat → Option Nat) (R : va_W) (g : dl_Sg) {r0 : Int32} {g0 : dl_Sg} (h : cl11_span N g  = some (r0, g0)) : dl_CtI l D TY cc_nw yX11_span wsX11_span { frames := 5, cells := 0, slots := 0, locals := 121 } 0 0 [.ref (ad 0)] (cc_w cI cP cII ad pr g ++ R) (fun r u => r = r0 ∧ u = cc_w cI cP cII ad pr g0 ++ R) := by
  refine dl_metI (ty := .int) [(0, .ref (ad 0))] (by decide) rfl (Nat.le_of_ble_eq_true rfl) rfl ?_
  intro p e s m args below meth c Q A C hQ
  unfold cl11_span at h
  refine dl_aload_n (pc := 0) C 0 dX11_span_0 rfl rfl ?_
  refine dl_get (pc := 1) C hin_X11_span_X11 0 cc_a0 rfl 1 (by decide) lk_X11_span_21 rfl rfl dX11_span_1 ?_
  obtain ⟨r1, g2, h1, h⟩ := dl_b2_some h
  refine dl_vI0 (pc := 4) C (ccl8_spanOfTaps l D cI cP cII TY hTY N ad pr R _ h1) (cwV 0 C.2.2.2.2.1 gX11_span_X8_spanOfTaps rfl rfl rfl (by decide +kernel) ⟨Nat.le_of_ble_eq_true rfl, Nat.le_of_ble_eq_true rfl⟩) 2 8 cc_a2 rfl rfl rfl (Nat.le_of_ble_eq_true rfl) dX11_span_4 ⟨Nat.zero_le _, Nat.zero_le _⟩ (fun r u hp => ?_)
  obtain ⟨rfl, rfl⟩ := hp
  exact hQ 7 _ _ _ ⟨(dl_r2 h).1, by rw [(dl_r2 h).2]⟩ (vp_nar_int _) dX11_span_7
theorem hin_X11_lay_X11 : ∀ w ∈ u_ws RX11 TX11 6, w ∈ wsX11_lay := fun _ h => List.mem_cons_of_mem _ (List.mem_append_left _ (List.mem_append_right _ h))
theorem hin_X11_lay_X2 : ∀ w ∈ u_ws RX2 TX2 18, w ∈ wsX11_lay := fun _ h => List.mem_cons_of_mem _ (List.mem_append_right _ h)
theorem lk_X11_lay_10 : Cond.fieldLink (yX11_lay).cls 10 "DripLines" (TX11 0).2.1 (TX11 0).2.2.1 ∈ wsX11_lay := by decide +kernel
set_option maxHeartbeats 4000000 in
set_option maxRecDepth 100000 in
theorem cl11_lay_t22 {p : Program} {e : Env} {s : State} {m : MethodId} {args : Array Value} {below : List Frame} {meth : Method} {c : Code} {Q : State → Prop} {A : Nat → Prop} (l : Launch) (D : va_G) (cI cP cII : ClassId) (TY : dl_TY) (hTY : TY[0]? = some (cI, .int)) (ad : Nat → Nat) (pr : Nat → Option Nat) (R : va_W) {r0 : Int32} {g0 : dl_Sg} (C : dl_Cx p s m args c A D TY cc_nw cX11_lay 2 yX11_lay.cls wsX11_lay) (hQ : dl_RtI p l e (headSpec wsX11_lay { frames := 2, cells := 0, slots := 0, locals := 42 }).room s m args below meth c Q A D cX11_lay 2 0 0 .int (fun r u => r = r0 ∧ u = cc_w cI cP cII ad pr g0 ++ R)) (g : dl_Sg) (h : cl11_lay_b22  g = some (r0, g0)) : dl_At p l e (headSpec wsX11_lay { frames := 2, cells := 0, slots := 0, locals := 42 }).room s m args below meth c Q A D 2 0 0 22 [(0, .ref (ad 0))] [] (cc_w cI cP cII ad pr g ++ R) := by
  unfold cl11_lay_b22 at h
  refine dl_aload_n (pc := 22) C 0 dX11_lay_22 rfl rfl ?_
  refine dl_iconst (pc := 23) C 1 dX11_lay_23 (by decide) ?_
  obtain ⟨r1, g2, h1, h⟩ := dl_b2_some h
  refine dl_vI0 (pc := 24) C (ccl11_refused l D cI cP cII TY hTY ad pr R _ _ h1) (cwV 1 C.2.2.2.2.1 gX11_lay_X11_refused rfl rfl rfl (by decide +kernel) ⟨Nat.le_of_ble_eq_true rfl, Nat.le_of_ble_eq_true rfl⟩) 0 11 cc_a0 rfl rfl rfl (Nat.le_of_ble_eq_true rfl) dX11_lay_24 ⟨Nat.zero_le _, Nat.zero_le _⟩ (fun r u hp => ?_)
  obtain ⟨rfl, rfl⟩ := hp
  exact hQ 27 _ _ _ ⟨(dl_r2 h).1, by rw [(dl_r2 h).2]⟩ (vp_nar_int _) dX11_lay_27
set_option maxHeartbeats 4000000 in
set_option maxRecDepth 100000 in
theorem ccl11_lay (l : Launch) (D : va_G) (cI cP cII : ClassId) (TY : dl_TY) (hTY : TY[0]? = some (cI, .int)) (ad : Nat → Nat) (pr : Nat → Option Nat) (R : va_W) (g : dl_Sg) (x1 : Int32) {r0 : Int32} {g0 : dl_Sg} (h : cl11_lay g x1 = some (r0, g0)) : dl_CtI l D TY cc_nw yX11_lay wsX11_lay { frames := 2, cells := 0, slots := 0, locals := 42 } 0 0 [.ref (ad 0), .int x1] (cc_w cI cP cII ad pr g ++ R) (fun r u => r = r0 ∧ u = cc_w cI cP cII ad pr g0 ++ R) := by
  refine dl_metI (ty := .int) [(0, .ref (ad 0)), (1, .int x1)] (by decide) rfl (Nat.le_of_ble_eq_true rfl) rfl ?_
  intro p e s m args below meth c Q A C hQ
  unfold cl11_lay at h
  refine dl_aload_n (pc := 0) C 0 dX11_lay_0 rfl rfl ?_
  refine dl_get (pc := 1) C hin_X11_lay_X11 0 cc_a0 rfl 0 (by decide) lk_X11_lay_10 rfl rfl dX11_lay_1 ?_
  refine dl_iload_n (pc := 4) C 1 dX11_lay_4 rfl rfl ?_
  obtain ⟨r1, h1, h⟩ := dl_bi_some h
  refine dl_vI0 (pc := 5) C (ccl2_hasStreet l D cI cP cII TY hTY ad pr R _ _ h1) (cwV 1 C.2.2.2.2.1 gX11_lay_X2_hasStreet rfl rfl rfl (by decide +kernel) ⟨Nat.le_of_ble_eq_true rfl, Nat.le_of_ble_eq_true rfl⟩) 1 2 cc_a1 rfl rfl rfl (Nat.le_of_ble_eq_true rfl) dX11_lay_5 ⟨Nat.zero_le _, Nat.zero_le _⟩ (fun r u hp => ?_)
  obtain ⟨rfl, rfl⟩ := hp
  refine dl_if_eq (pc := 8) C 22 dX11_lay_8 (by decide) h (fun q8 h => ?_) (fun q8 h => ?_)
  · refine dl_sub [0] rfl ?_
    exact cl11_lay_t22 l D cI cP cII TY hTY ad pr R C hQ  _ h
  · refine dl_aload_n (pc := 11) C 0 dX11_lay_11 rfl rfl ?_
    refine dl_get (pc := 12) C hin_X11_lay_X11 0 cc_a0 rfl 0 (by decide) lk_X11_lay_10 rfl rfl dX11_lay_12 ?_
    refine dl_iload_n (pc := 15) C 1 dX11_lay_15 rfl rfl ?_
    obtain ⟨r2, h1, h⟩ := dl_bi_some h
    refine dl_vI0 (pc := 16) C (ccl2_isThere l D cI cP cII TY hTY ad pr R _ _ h1) (cwV 1 C.2.2.2.2.1 gX11_lay_X2_isThere rfl rfl rfl (by decide +kernel) ⟨Nat.le_of_ble_eq_true rfl, Nat.le_of_ble_eq_true rfl⟩) 1 2 cc_a1 rfl rfl rfl (Nat.le_of_ble_eq_true rfl) dX11_lay_16 ⟨Nat.zero_le _, Nat.zero_le _⟩ (fun r u hp => ?_)
    obtain ⟨rfl, rfl⟩ := hp
    refine dl_if_ne (pc := 19) C 28 dX11_lay_19 (by decide) h (fun q7 h => ?_) (fun q7 h => ?_)
    · refine dl_sub [0] rfl ?_
      exact cl11_lay_t22 l D cI cP cII TY hTY ad pr R C hQ  _ h
    · refine dl_aload_n (pc := 28) C 0 dX11_lay_28 rfl rfl ?_
      refine dl_get (pc := 29) C hin_X11_lay_X11 0 cc_a0 rfl 0 (by decide) lk_X11_lay_10 rfl rfl dX11_lay_29 ?_
      refine dl_dup (pc := 32) C dX11_lay_32 rfl ?_
      refine dl_getN (pc := 33) C hin_X11_lay_X2 1 cc_a1 rfl 15 (by decide) nk_RX11_133 rfl rfl dX11_lay_33 ?_
      refine dl_iconst (pc := 36) C 1 dX11_lay_36 (by decide) ?_
      refine dl_iload_n (pc := 37) C 1 dX11_lay_37 rfl rfl ?_
      refine dl_ishl (pc := 38) C dX11_lay_38 ?_
      refine dl_ixor (pc := 39) C dX11_lay_39 ?_
      refine dl_putN (pc := 40) C hin_X11_lay_X2 tyX2 tyX2_ok nmX2 1 cc_a1 rfl 15 (by decide) nk_RX11_133 rfl rfl (ty := .int) rfl (vp_nar_int _) rfl (Nat.le_of_ble_eq_true rfl) dX11_lay_40 cc_p1_15 ?_
      obtain ⟨g3, h, hg⟩ := dl_nm_some h
      rw [← hg]
      clear hg
      refine dl_aload_n (pc := 43) C 0 dX11_lay_43 rfl rfl ?_
      refine dl_aload_n (pc := 44) C 0 dX11_lay_44 rfl rfl ?_
      refine dl_get (pc := 45) C hin_X11_lay_X11 0 cc_a0 rfl 0 (by decide) lk_X11_lay_10 rfl rfl dX11_lay_45 ?_
      refine dl_getN (pc := 48) C hin_X11_lay_X2 1 cc_a1 rfl 15 (by decide) nk_RX11_133 rfl rfl dX11_lay_48 ?_
      refine dl_iload_n (pc := 51) C 1 dX11_lay_51 rfl rfl ?_
      obtain ⟨r4, h1, h⟩ := dl_bi_some h
      refine dl_sI0 (pc := 52) C (ccl11_bitAt l D TY cc_nw _ _ _ h1) (va_cwS 2 C.2.2.2.2.1 gX11_lay_X11_bitAt rfl rfl rfl (by decide +kernel) ⟨Nat.le_of_ble_eq_true rfl, Nat.le_of_ble_eq_true rfl⟩) rfl rfl (Nat.le_of_ble_eq_true rfl) dX11_lay_52 ⟨Nat.zero_le _, Nat.zero_le _⟩ (fun r u hp => ?_)
      obtain ⟨rfl, hu⟩ := hp
      rw [hu]
      clear hu
      obtain ⟨r5, g6, h1, h⟩ := dl_b2_some h
      refine dl_vI0 (pc := 55) C (ccl11_done l D cI cP cII TY hTY ad pr R _ _ h1) (cwV 1 C.2.2.2.2.1 gX11_lay_X11_done rfl rfl rfl (by decide +kernel) ⟨Nat.le_of_ble_eq_true rfl, Nat.le_of_ble_eq_true rfl⟩) 0 11 cc_a0 rfl rfl rfl (Nat.le_of_ble_eq_true rfl) dX11_lay_55 ⟨Nat.zero_le _, Nat.zero_le _⟩ (fun r u hp => ?_)
      obtain ⟨rfl, rfl⟩ := hp
      exact hQ 58 _ _ _ ⟨(dl_r2 h).1, by rw [(dl_r2 h).2]⟩ (vp_nar_int _) dX11_lay_58
theorem hin_X11_clear_X11 : ∀ w ∈ u_ws RX11 TX11 6, w ∈ wsX11_clear := fun _ h => List.mem_cons_of_mem _ (List.mem_append_left _ (List.mem_append_right _ h))
theorem hin_X11_clear_X2 : ∀ w ∈ u_ws RX2 TX2 18, w ∈ wsX11_clear := fun _ h => List.mem_cons_of_mem _ (List.mem_append_right _ h)
theorem lk_X11_clear_10 : Cond.fieldLink (yX11_clear).cls 10 "DripLines" (TX11 0).2.1 (TX11 0).2.2.1 ∈ wsX11_clear := by decide +kernel
set_option maxHeartbeats 4000000 in
set_option maxRecDepth 100000 in
theorem ccl11_clear (l : Launch) (D : va_G) (cI cP cII : ClassId) (TY : dl_TY) (hTY : TY[0]? = some (cI, .int)) (ad : Nat → Nat) (pr : Nat → Option Nat) (R : va_W) (g : dl_Sg) {r0 : Int32} {g0 : dl_Sg} (h : cl11_clear g  = some (r0, g0)) : dl_CtI l D TY cc_nw yX11_clear wsX11_clear { frames := 1, cells := 0, slots := 0, locals := 21 } 0 0 [.ref (ad 0)] (cc_w cI cP cII ad pr g ++ R) (fun r u => r = r0 ∧ u = cc_w cI cP cII ad pr g0 ++ R) := by
  refine dl_metI (ty := .int) [(0, .ref (ad 0))] (by decide) rfl (Nat.le_of_ble_eq_true rfl) rfl ?_
  intro p e s m args below meth c Q A C hQ
  unfold cl11_clear at h
  refine dl_aload_n (pc := 0) C 0 dX11_clear_0 rfl rfl ?_
  refine dl_get (pc := 1) C hin_X11_clear_X11 0 cc_a0 rfl 0 (by decide) lk_X11_clear_10 rfl rfl dX11_clear_1 ?_
  refine dl_getN (pc := 4) C hin_X11_clear_X2 1 cc_a1 rfl 15 (by decide) nk_RX11_133 rfl rfl dX11_clear_4 ?_
  obtain ⟨r1, h1, h⟩ := dl_bi_some h
  refine dl_sI0 (pc := 7) C (cjd_bitCount l D TY cc_nw _ _ h1) (va_cwS 1 C.2.2.2.2.1 gX11_clear_J6_bitCount_0f7a4 rfl rfl rfl (by decide +kernel) ⟨Nat.le_of_ble_eq_true rfl, Nat.le_of_ble_eq_true rfl⟩) rfl rfl (Nat.le_of_ble_eq_true rfl) dX11_clear_7 ⟨Nat.zero_le _, Nat.zero_le _⟩ (fun r u hp => ?_)
  obtain ⟨rfl, hu⟩ := hp
  rw [hu]
  clear hu
  refine dl_istore_n (pc := 10) C (fun v2 => [(1, .int v2), (0, .ref (ad 0))]) dX11_clear_10 rfl (by decide) (fun _ => rfl) h (fun v2 h => ?_)
  refine dl_aload_n (pc := 11) C 1 dX11_clear_11 rfl rfl ?_
  refine dl_get (pc := 12) C hin_X11_clear_X11 0 cc_a0 rfl 0 (by decide) lk_X11_clear_10 rfl rfl dX11_clear_12 ?_
  refine dl_iconst (pc := 15) C 0 dX11_clear_15 (by decide) ?_
  refine dl_putN (pc := 16) C hin_X11_clear_X2 tyX2 tyX2_ok nmX2 1 cc_a1 rfl 15 (by decide) nk_RX11_133 rfl rfl (ty := .int) rfl (vp_nar_int _) rfl (Nat.le_of_ble_eq_true rfl) dX11_clear_16 cc_p1_15 ?_
  obtain ⟨g3, h, hg⟩ := dl_nm_some h
  rw [← hg]
  clear hg
  refine dl_aload_n (pc := 19) C 1 dX11_clear_19 rfl rfl ?_
  refine dl_iload_n (pc := 20) C 0 dX11_clear_20 rfl rfl ?_
  obtain ⟨r4, g5, h1, h⟩ := dl_b2_some h
  refine dl_vI0 (pc := 21) C (ccl11_done l D cI cP cII TY hTY ad pr R _ _ h1) (cwV 1 C.2.2.2.2.1 gX11_clear_X11_done rfl rfl rfl (by decide +kernel) ⟨Nat.le_of_ble_eq_true rfl, Nat.le_of_ble_eq_true rfl⟩) 0 11 cc_a0 rfl rfl rfl (Nat.le_of_ble_eq_true rfl) dX11_clear_21 ⟨Nat.zero_le _, Nat.zero_le _⟩ (fun r u hp => ?_)
  obtain ⟨rfl, rfl⟩ := hp
  exact hQ 24 _ _ _ ⟨(dl_r2 h).1, by rw [(dl_r2 h).2]⟩ (vp_nar_int _) dX11_clear_24
theorem hin_X11_why_X11 : ∀ w ∈ u_ws RX11 TX11 6, w ∈ wsX11_why := fun _ h => List.mem_cons_of_mem _ (List.mem_append_left _ (List.mem_append_left _ (List.mem_append_right _ h)))
theorem hin_X11_why_X2 : ∀ w ∈ u_ws RX2 TX2 18, w ∈ wsX11_why := fun _ h => List.mem_cons_of_mem _ (List.mem_append_left _ (List.mem_append_right _ h))
theorem lk_X11_why_10 : Cond.fieldLink (yX11_why).cls 10 "DripLines" (TX11 0).2.1 (TX11 0).2.2.1 ∈ wsX11_why := by decide +kernel
theorem lk_X11_why_28 : Cond.fieldLink (yX11_why).cls 28 "DripLines" (TX11 2).2.1 (TX11 2).2.2.1 ∈ wsX11_why := by decide +kernel
set_option maxHeartbeats 4000000 in
set_option maxRecDepth 100000 in
theorem ccl11_why (l : Launch) (D : va_G) (cI cP cII : ClassId) (TY : dl_TY) (hTY : TY[0]? = some (cI, .int)) (N : Nat) (ad : Nat → Nat) (pr : Nat → Option Nat) (R : va_W) (g : dl_Sg) {r0 : Int32} {g0 : dl_Sg} (h : cl11_why N g  = some (r0, g0)) : dl_CtI l D TY cc_nw yX11_why wsX11_why { frames := 3, cells := 0, slots := 0, locals := 69 } 0 0 [.ref (ad 0)] (cc_w cI cP cII ad pr g ++ R) (fun r u => r = r0 ∧ u = cc_w cI cP cII ad pr g0 ++ R) := by
  refine dl_metI (ty := .int) [(0, .ref (ad 0))] (by decide) rfl (Nat.le_of_ble_eq_true rfl) rfl ?_
  intro p e s m args below meth c Q A C hQ
  unfold cl11_why at h
  refine dl_aload_n (pc := 0) C 0 dX11_why_0 rfl rfl ?_
  refine dl_get (pc := 1) C hin_X11_why_X11 0 cc_a0 rfl 2 (by decide) lk_X11_why_28 rfl rfl dX11_why_1 ?_
  refine dl_aload_n (pc := 4) C 0 dX11_why_4 rfl rfl ?_
  refine dl_get (pc := 5) C hin_X11_why_X11 0 cc_a0 rfl 0 (by decide) lk_X11_why_10 rfl rfl dX11_why_5 ?_
  refine dl_getN (pc := 8) C hin_X11_why_X2 1 cc_a1 rfl 15 (by decide) nk_RX11_133 rfl rfl dX11_why_8 ?_
  obtain ⟨r1, g2, h1, h⟩ := dl_b2_some h
  refine dl_vI0 (pc := 11) C (ccl6_flawOf l D cI cP cII TY hTY N ad pr R _ _ h1) (cwV 1 C.2.2.2.2.1 gX11_why_X6_flawOf rfl rfl rfl (by decide +kernel) ⟨Nat.le_of_ble_eq_true rfl, Nat.le_of_ble_eq_true rfl⟩) 3 6 cc_a3 rfl rfl rfl (Nat.le_of_ble_eq_true rfl) dX11_why_11 ⟨Nat.zero_le _, Nat.zero_le _⟩ (fun r u hp => ?_)
  obtain ⟨rfl, rfl⟩ := hp
  exact hQ 14 _ _ _ ⟨(dl_r2 h).1, by rw [(dl_r2 h).2]⟩ (vp_nar_int _) dX11_why_14
theorem hin_X11_tag_X11 : ∀ w ∈ u_ws RX11 TX11 6, w ∈ wsX11_tag := fun _ h => List.mem_cons_of_mem _ (List.mem_append_left _ (List.mem_append_left _ (List.mem_append_right _ h)))
theorem hin_X11_tag_X2 : ∀ w ∈ u_ws RX2 TX2 18, w ∈ wsX11_tag := fun _ h => List.mem_cons_of_mem _ (List.mem_append_left _ (List.mem_append_right _ h))
theorem lk_X11_tag_10 : Cond.fieldLink (yX11_tag).cls 10 "DripLines" (TX11 0).2.1 (TX11 0).2.2.1 ∈ wsX11_tag := by decide +kernel
theorem lk_X11_tag_28 : Cond.fieldLink (yX11_tag).cls 28 "DripLines" (TX11 2).2.1 (TX11 2).2.2.1 ∈ wsX11_tag := by decide +kernel
set_option maxHeartbeats 4000000 in
set_option maxRecDepth 100000 in
theorem ccl11_tag (l : Launch) (D : va_G) (cI cP cII : ClassId) (TY : dl_TY) (hTY : TY[0]? = some (cI, .int)) (N : Nat) (ad : Nat → Nat) (pr : Nat → Option Nat) (R : va_W) (g : dl_Sg) {r0 : Int32} {g0 : dl_Sg} (h : cl11_tag N g  = some (r0, g0)) : dl_CtI l D TY cc_nw yX11_tag wsX11_tag { frames := 3, cells := 0, slots := 0, locals := 69 } 0 0 [.ref (ad 0)] (cc_w cI cP cII ad pr g ++ R) (fun r u => r = r0 ∧ u = cc_w cI cP cII ad pr g0 ++ R) := by
  refine dl_metI (ty := .int) [(0, .ref (ad 0))] (by decide) rfl (Nat.le_of_ble_eq_true rfl) rfl ?_
  intro p e s m args below meth c Q A C hQ
  unfold cl11_tag at h
  refine dl_aload_n (pc := 0) C 0 dX11_tag_0 rfl rfl ?_
  refine dl_get (pc := 1) C hin_X11_tag_X11 0 cc_a0 rfl 2 (by decide) lk_X11_tag_28 rfl rfl dX11_tag_1 ?_
  refine dl_aload_n (pc := 4) C 0 dX11_tag_4 rfl rfl ?_
  refine dl_get (pc := 5) C hin_X11_tag_X11 0 cc_a0 rfl 0 (by decide) lk_X11_tag_10 rfl rfl dX11_tag_5 ?_
  refine dl_getN (pc := 8) C hin_X11_tag_X2 1 cc_a1 rfl 15 (by decide) nk_RX11_133 rfl rfl dX11_tag_8 ?_
  obtain ⟨r1, g2, h1, h⟩ := dl_b2_some h
  refine dl_vI0 (pc := 11) C (ccl6_flawOf l D cI cP cII TY hTY N ad pr R _ _ h1) (cwV 1 C.2.2.2.2.1 gX11_tag_X6_flawOf rfl rfl rfl (by decide +kernel) ⟨Nat.le_of_ble_eq_true rfl, Nat.le_of_ble_eq_true rfl⟩) 3 6 cc_a3 rfl rfl rfl (Nat.le_of_ble_eq_true rfl) dX11_tag_11 ⟨Nat.zero_le _, Nat.zero_le _⟩ (fun r u hp => ?_)
  obtain ⟨rfl, rfl⟩ := hp
  refine dl_if_ne (pc := 14) C 34 dX11_tag_14 (by decide) h (fun q4 h => ?_) (fun q4 h => ?_)
  · refine dl_aload_n (pc := 17) C 0 dX11_tag_17 rfl rfl ?_
    refine dl_get (pc := 18) C hin_X11_tag_X11 0 cc_a0 rfl 2 (by decide) lk_X11_tag_28 rfl rfl dX11_tag_18 ?_
    refine dl_aload_n (pc := 21) C 0 dX11_tag_21 rfl rfl ?_
    refine dl_get (pc := 22) C hin_X11_tag_X11 0 cc_a0 rfl 0 (by decide) lk_X11_tag_10 rfl rfl dX11_tag_22 ?_
    refine dl_getN (pc := 25) C hin_X11_tag_X2 1 cc_a1 rfl 15 (by decide) nk_RX11_133 rfl rfl dX11_tag_25 ?_
    obtain ⟨r3, h1, h⟩ := dl_bi_some h
    refine dl_vI0 (pc := 28) C (ccl6_tagOf l D cI cP cII TY hTY N ad pr R _ _ h1) (cwV 1 C.2.2.2.2.1 gX11_tag_X6_tagOf rfl rfl rfl (by decide +kernel) ⟨Nat.le_of_ble_eq_true rfl, Nat.le_of_ble_eq_true rfl⟩) 3 6 cc_a3 rfl rfl rfl (Nat.le_of_ble_eq_true rfl) dX11_tag_28 ⟨Nat.zero_le _, Nat.zero_le _⟩ (fun r u hp => ?_)
    obtain ⟨rfl, rfl⟩ := hp
    refine dl_goto (pc := 31) C 36 dX11_tag_31 (by decide) ?_
    exact hQ 36 _ _ _ ⟨(dl_r2 h).1, by rw [(dl_r2 h).2]⟩ (vp_nar_int _) dX11_tag_36
  · refine dl_ldc (pc := 34) C (-1000000) (by decide +kernel) dX11_tag_34 ?_
    exact hQ 36 _ _ _ ⟨(dl_r2 h).1, by rw [(dl_r2 h).2]⟩ (vp_nar_int _) dX11_tag_36
theorem hin_X11_trim_X11 : ∀ w ∈ u_ws RX11 TX11 6, w ∈ wsX11_trim := fun _ h => List.mem_cons_of_mem _ (List.mem_append_left _ (List.mem_append_left _ (List.mem_append_right _ h)))
theorem hin_X11_trim_X2 : ∀ w ∈ u_ws RX2 TX2 18, w ∈ wsX11_trim := fun _ h => List.mem_cons_of_mem _ (List.mem_append_left _ (List.mem_append_right _ h))
theorem lk_X11_trim_10 : Cond.fieldLink (yX11_trim).cls 10 "DripLines" (TX11 0).2.1 (TX11 0).2.2.1 ∈ wsX11_trim := by decide +kernel
theorem lk_X11_trim_28 : Cond.fieldLink (yX11_trim).cls 28 "DripLines" (TX11 2).2.1 (TX11 2).2.2.1 ∈ wsX11_trim := by decide +kernel
set_option maxHeartbeats 4000000 in
set_option maxRecDepth 100000 in
theorem ccl11_trim (l : Launch) (D : va_G) (cI cP cII : ClassId) (TY : dl_TY) (hTY : TY[0]? = some (cI, .int)) (N : Nat) (ad : Nat → Nat) (pr : Nat → Option Nat) (R : va_W) (g : dl_Sg) {r0 : Int32} {g0 : dl_Sg} (h : cl11_trim N g  = some (r0, g0)) : dl_CtI l D TY cc_nw yX11_trim wsX11_trim { frames := 4, cells := 0, slots := 0, locals := 90 } 0 0 [.ref (ad 0)] (cc_w cI cP cII ad pr g ++ R) (fun r u => r = r0 ∧ u = cc_w cI cP cII ad pr g0 ++ R) := by
  refine dl_metI (ty := .int) [(0, .ref (ad 0))] (by decide) rfl (Nat.le_of_ble_eq_true rfl) rfl ?_
  intro p e s m args below meth c Q A C hQ
  unfold cl11_trim at h
  refine dl_aload_n (pc := 0) C 0 dX11_trim_0 rfl rfl ?_
  refine dl_get (pc := 1) C hin_X11_trim_X11 0 cc_a0 rfl 2 (by decide) lk_X11_trim_28 rfl rfl dX11_trim_1 ?_
  refine dl_aload_n (pc := 4) C 0 dX11_trim_4 rfl rfl ?_
  refine dl_get (pc := 5) C hin_X11_trim_X11 0 cc_a0 rfl 0 (by decide) lk_X11_trim_10 rfl rfl dX11_trim_5 ?_
  refine dl_getN (pc := 8) C hin_X11_trim_X2 1 cc_a1 rfl 15 (by decide) nk_RX11_133 rfl rfl dX11_trim_8 ?_
  obtain ⟨r1, g2, h1, h⟩ := dl_b2_some h
  refine dl_vI0 (pc := 11) C (ccl6_flawOf l D cI cP cII TY hTY N ad pr R _ _ h1) (cwV 1 C.2.2.2.2.1 gX11_trim_X6_flawOf rfl rfl rfl (by decide +kernel) ⟨Nat.le_of_ble_eq_true rfl, Nat.le_of_ble_eq_true rfl⟩) 3 6 cc_a3 rfl rfl rfl (Nat.le_of_ble_eq_true rfl) dX11_trim_11 ⟨Nat.zero_le _, Nat.zero_le _⟩ (fun r u hp => ?_)
  obtain ⟨rfl, rfl⟩ := hp
  refine dl_if_eq (pc := 14) C 23 dX11_trim_14 (by decide) h (fun q12 h => ?_) (fun q12 h => ?_)
  · refine dl_aload_n (pc := 23) C 0 dX11_trim_23 rfl rfl ?_
    refine dl_get (pc := 24) C hin_X11_trim_X11 0 cc_a0 rfl 0 (by decide) lk_X11_trim_10 rfl rfl dX11_trim_24 ?_
    refine dl_getN (pc := 27) C hin_X11_trim_X2 1 cc_a1 rfl 15 (by decide) nk_RX11_133 rfl rfl dX11_trim_27 ?_
    obtain ⟨r3, h1, h⟩ := dl_bi_some h
    refine dl_sI0 (pc := 30) C (cjd_bitCount l D TY cc_nw _ _ h1) (va_cwS 1 C.2.2.2.2.1 gX11_trim_J6_bitCount_0f7a4 rfl rfl rfl (by decide +kernel) ⟨Nat.le_of_ble_eq_true rfl, Nat.le_of_ble_eq_true rfl⟩) rfl rfl (Nat.le_of_ble_eq_true rfl) dX11_trim_30 ⟨Nat.zero_le _, Nat.zero_le _⟩ (fun r u hp => ?_)
    obtain ⟨rfl, hu⟩ := hp
    rw [hu]
    clear hu
    refine dl_istore_n (pc := 33) C (fun v4 => [(1, .int v4), (0, .ref (ad 0))]) dX11_trim_33 rfl (by decide) (fun _ => rfl) h (fun v4 h => ?_)
    refine dl_aload_n (pc := 34) C 1 dX11_trim_34 rfl rfl ?_
    refine dl_get (pc := 35) C hin_X11_trim_X11 0 cc_a0 rfl 0 (by decide) lk_X11_trim_10 rfl rfl dX11_trim_35 ?_
    refine dl_aload_n (pc := 38) C 1 dX11_trim_38 rfl rfl ?_
    refine dl_get (pc := 39) C hin_X11_trim_X11 0 cc_a0 rfl 2 (by decide) lk_X11_trim_28 rfl rfl dX11_trim_39 ?_
    refine dl_aload_n (pc := 42) C 1 dX11_trim_42 rfl rfl ?_
    refine dl_get (pc := 43) C hin_X11_trim_X11 0 cc_a0 rfl 0 (by decide) lk_X11_trim_10 rfl rfl dX11_trim_43 ?_
    refine dl_getN (pc := 46) C hin_X11_trim_X2 1 cc_a1 rfl 15 (by decide) nk_RX11_133 rfl rfl dX11_trim_46 ?_
    obtain ⟨r5, h1, h⟩ := dl_bi_some h
    refine dl_vI0 (pc := 49) C (ccl6_trimmed l D cI cP cII TY hTY N ad pr R _ _ h1) (cwV 1 C.2.2.2.2.1 gX11_trim_X6_trimmed rfl rfl rfl (by decide +kernel) ⟨Nat.le_of_ble_eq_true rfl, Nat.le_of_ble_eq_true rfl⟩) 3 6 cc_a3 rfl rfl rfl (Nat.le_of_ble_eq_true rfl) dX11_trim_49 ⟨Nat.zero_le _, Nat.zero_le _⟩ (fun r u hp => ?_)
    obtain ⟨rfl, rfl⟩ := hp
    refine dl_putN (pc := 52) C hin_X11_trim_X2 tyX2 tyX2_ok nmX2 1 cc_a1 rfl 15 (by decide) nk_RX11_133 rfl rfl (ty := .int) rfl (vp_nar_int _) rfl (Nat.le_of_ble_eq_true rfl) dX11_trim_52 cc_p1_15 ?_
    obtain ⟨g6, h, hg⟩ := dl_nm_some h
    rw [← hg]
    clear hg
    refine dl_aload_n (pc := 55) C 1 dX11_trim_55 rfl rfl ?_
    refine dl_iload_n (pc := 56) C 0 dX11_trim_56 rfl rfl ?_
    refine dl_aload_n (pc := 57) C 1 dX11_trim_57 rfl rfl ?_
    refine dl_get (pc := 58) C hin_X11_trim_X11 0 cc_a0 rfl 0 (by decide) lk_X11_trim_10 rfl rfl dX11_trim_58 ?_
    refine dl_getN (pc := 61) C hin_X11_trim_X2 1 cc_a1 rfl 15 (by decide) nk_RX11_133 rfl rfl dX11_trim_61 ?_
    obtain ⟨r7, h1, h⟩ := dl_bi_some h
    refine dl_sI0 (pc := 64) C (cjd_bitCount l D TY cc_nw _ _ h1) (va_cwS 1 C.2.2.2.2.1 gX11_trim_J6_bitCount_0f7a4 rfl rfl rfl (by decide +kernel) ⟨Nat.le_of_ble_eq_true rfl, Nat.le_of_ble_eq_true rfl⟩) rfl rfl (Nat.le_of_ble_eq_true rfl) dX11_trim_64 ⟨Nat.zero_le _, Nat.zero_le _⟩ (fun r u hp => ?_)
    obtain ⟨rfl, hu⟩ := hp
    rw [hu]
    clear hu
    refine dl_isub (pc := 67) C dX11_trim_67 ?_
    obtain ⟨r8, g9, h1, h⟩ := dl_b2_some h
    refine dl_vI0 (pc := 68) C (ccl11_done l D cI cP cII TY hTY ad pr R _ _ h1) (cwV 1 C.2.2.2.2.1 gX11_trim_X11_done rfl rfl rfl (by decide +kernel) ⟨Nat.le_of_ble_eq_true rfl, Nat.le_of_ble_eq_true rfl⟩) 0 11 cc_a0 rfl rfl rfl (Nat.le_of_ble_eq_true rfl) dX11_trim_68 ⟨Nat.zero_le _, Nat.zero_le _⟩ (fun r u hp => ?_)
    obtain ⟨rfl, rfl⟩ := hp
    exact hQ 71 _ _ _ ⟨(dl_r2 h).1, by rw [(dl_r2 h).2]⟩ (vp_nar_int _) dX11_trim_71
  · refine dl_aload_n (pc := 17) C 0 dX11_trim_17 rfl rfl ?_
    refine dl_iconst (pc := 18) C 3 dX11_trim_18 (by decide) ?_
    obtain ⟨r10, g11, h1, h⟩ := dl_b2_some h
    refine dl_vI0 (pc := 19) C (ccl11_refused l D cI cP cII TY hTY ad pr R _ _ h1) (cwV 1 C.2.2.2.2.1 gX11_trim_X11_refused rfl rfl rfl (by decide +kernel) ⟨Nat.le_of_ble_eq_true rfl, Nat.le_of_ble_eq_true rfl⟩) 0 11 cc_a0 rfl rfl rfl (Nat.le_of_ble_eq_true rfl) dX11_trim_19 ⟨Nat.zero_le _, Nat.zero_le _⟩ (fun r u hp => ?_)
    obtain ⟨rfl, rfl⟩ := hp
    exact hQ 22 _ _ _ ⟨(dl_r2 h).1, by rw [(dl_r2 h).2]⟩ (vp_nar_int _) dX11_trim_22
theorem hin_X11_better_X11 : ∀ w ∈ u_ws RX11 TX11 6, w ∈ wsX11_better := fun _ h => List.mem_cons_of_mem _ (List.mem_append_left _ (List.mem_append_left _ (List.mem_append_right _ h)))
theorem hin_X11_better_X2 : ∀ w ∈ u_ws RX2 TX2 18, w ∈ wsX11_better := fun _ h => List.mem_cons_of_mem _ (List.mem_append_left _ (List.mem_append_right _ h))
theorem lk_X11_better_10 : Cond.fieldLink (yX11_better).cls 10 "DripLines" (TX11 0).2.1 (TX11 0).2.2.1 ∈ wsX11_better := by decide +kernel
theorem lk_X11_better_28 : Cond.fieldLink (yX11_better).cls 28 "DripLines" (TX11 2).2.1 (TX11 2).2.2.1 ∈ wsX11_better := by decide +kernel
set_option maxHeartbeats 4000000 in
set_option maxRecDepth 100000 in
theorem ccl11_better (l : Launch) (D : va_G) (cI cP cII : ClassId) (TY : dl_TY) (hTY : TY[0]? = some (cI, .int)) (N : Nat) (ad : Nat → Nat) (pr : Nat → Option Nat) (R : va_W) (g : dl_Sg) {r0 : Int32} {g0 : dl_Sg} (h : cl11_better N g  = some (r0, g0)) : dl_CtI l D TY cc_nw yX11_better wsX11_better { frames := 4, cells := 0, slots := 0, locals := 94 } 0 0 [.ref (ad 0)] (cc_w cI cP cII ad pr g ++ R) (fun r u => r = r0 ∧ u = cc_w cI cP cII ad pr g0 ++ R) := by
  refine dl_metI (ty := .int) [(0, .ref (ad 0))] (by decide) rfl (Nat.le_of_ble_eq_true rfl) rfl ?_
  intro p e s m args below meth c Q A C hQ
  unfold cl11_better at h
  refine dl_aload_n (pc := 0) C 0 dX11_better_0 rfl rfl ?_
  refine dl_get (pc := 1) C hin_X11_better_X11 0 cc_a0 rfl 2 (by decide) lk_X11_better_28 rfl rfl dX11_better_1 ?_
  refine dl_aload_n (pc := 4) C 0 dX11_better_4 rfl rfl ?_
  refine dl_get (pc := 5) C hin_X11_better_X11 0 cc_a0 rfl 0 (by decide) lk_X11_better_10 rfl rfl dX11_better_5 ?_
  refine dl_getN (pc := 8) C hin_X11_better_X2 1 cc_a1 rfl 15 (by decide) nk_RX11_133 rfl rfl dX11_better_8 ?_
  obtain ⟨r1, g2, h1, h⟩ := dl_b2_some h
  refine dl_vI0 (pc := 11) C (ccl6_flawOf l D cI cP cII TY hTY N ad pr R _ _ h1) (cwV 1 C.2.2.2.2.1 gX11_better_X6_flawOf rfl rfl rfl (by decide +kernel) ⟨Nat.le_of_ble_eq_true rfl, Nat.le_of_ble_eq_true rfl⟩) 3 6 cc_a3 rfl rfl rfl (Nat.le_of_ble_eq_true rfl) dX11_better_11 ⟨Nat.zero_le _, Nat.zero_le _⟩ (fun r u hp => ?_)
  obtain ⟨rfl, rfl⟩ := hp
  refine dl_if_eq (pc := 14) C 23 dX11_better_14 (by decide) h (fun q13 h => ?_) (fun q13 h => ?_)
  · refine dl_aload_n (pc := 23) C 0 dX11_better_23 rfl rfl ?_
    refine dl_get (pc := 24) C hin_X11_better_X11 0 cc_a0 rfl 2 (by decide) lk_X11_better_28 rfl rfl dX11_better_24 ?_
    refine dl_aload_n (pc := 27) C 0 dX11_better_27 rfl rfl ?_
    refine dl_get (pc := 28) C hin_X11_better_X11 0 cc_a0 rfl 0 (by decide) lk_X11_better_10 rfl rfl dX11_better_28 ?_
    refine dl_getN (pc := 31) C hin_X11_better_X2 1 cc_a1 rfl 15 (by decide) nk_RX11_133 rfl rfl dX11_better_31 ?_
    obtain ⟨r3, h1, h⟩ := dl_bi_some h
    refine dl_vI0 (pc := 34) C (ccl6_tagOf l D cI cP cII TY hTY N ad pr R _ _ h1) (cwV 1 C.2.2.2.2.1 gX11_better_X6_tagOf rfl rfl rfl (by decide +kernel) ⟨Nat.le_of_ble_eq_true rfl, Nat.le_of_ble_eq_true rfl⟩) 3 6 cc_a3 rfl rfl rfl (Nat.le_of_ble_eq_true rfl) dX11_better_34 ⟨Nat.zero_le _, Nat.zero_le _⟩ (fun r u hp => ?_)
    obtain ⟨rfl, rfl⟩ := hp
    refine dl_istore_n (pc := 37) C (fun v4 => [(1, .int v4), (0, .ref (ad 0))]) dX11_better_37 rfl (by decide) (fun _ => rfl) h (fun v4 h => ?_)
    refine dl_aload_n (pc := 38) C 1 dX11_better_38 rfl rfl ?_
    refine dl_get (pc := 39) C hin_X11_better_X11 0 cc_a0 rfl 0 (by decide) lk_X11_better_10 rfl rfl dX11_better_39 ?_
    refine dl_aload_n (pc := 42) C 1 dX11_better_42 rfl rfl ?_
    refine dl_get (pc := 43) C hin_X11_better_X11 0 cc_a0 rfl 2 (by decide) lk_X11_better_28 rfl rfl dX11_better_43 ?_
    refine dl_aload_n (pc := 46) C 1 dX11_better_46 rfl rfl ?_
    refine dl_get (pc := 47) C hin_X11_better_X11 0 cc_a0 rfl 0 (by decide) lk_X11_better_10 rfl rfl dX11_better_47 ?_
    refine dl_getN (pc := 50) C hin_X11_better_X2 1 cc_a1 rfl 15 (by decide) nk_RX11_133 rfl rfl dX11_better_50 ?_
    obtain ⟨r5, g6, h1, h⟩ := dl_b2_some h
    refine dl_vI0 (pc := 53) C (ccl6_swapped l D cI cP cII TY hTY N ad pr R _ _ h1) (cwV 1 C.2.2.2.2.1 gX11_better_X6_swapped rfl rfl rfl (by decide +kernel) ⟨Nat.le_of_ble_eq_true rfl, Nat.le_of_ble_eq_true rfl⟩) 3 6 cc_a3 rfl rfl rfl (Nat.le_of_ble_eq_true rfl) dX11_better_53 ⟨Nat.zero_le _, Nat.zero_le _⟩ (fun r u hp => ?_)
    obtain ⟨rfl, rfl⟩ := hp
    refine dl_putN (pc := 56) C hin_X11_better_X2 tyX2 tyX2_ok nmX2 1 cc_a1 rfl 15 (by decide) nk_RX11_133 rfl rfl (ty := .int) rfl (vp_nar_int _) rfl (Nat.le_of_ble_eq_true rfl) dX11_better_56 cc_p1_15 ?_
    obtain ⟨g7, h, hg⟩ := dl_nm_some h
    rw [← hg]
    clear hg
    refine dl_aload_n (pc := 59) C 1 dX11_better_59 rfl rfl ?_
    refine dl_iload_n (pc := 60) C 0 dX11_better_60 rfl rfl ?_
    refine dl_aload_n (pc := 61) C 1 dX11_better_61 rfl rfl ?_
    refine dl_get (pc := 62) C hin_X11_better_X11 0 cc_a0 rfl 2 (by decide) lk_X11_better_28 rfl rfl dX11_better_62 ?_
    refine dl_aload_n (pc := 65) C 1 dX11_better_65 rfl rfl ?_
    refine dl_get (pc := 66) C hin_X11_better_X11 0 cc_a0 rfl 0 (by decide) lk_X11_better_10 rfl rfl dX11_better_66 ?_
    refine dl_getN (pc := 69) C hin_X11_better_X2 1 cc_a1 rfl 15 (by decide) nk_RX11_133 rfl rfl dX11_better_69 ?_
    obtain ⟨r8, h1, h⟩ := dl_bi_some h
    refine dl_vI0 (pc := 72) C (ccl6_tagOf l D cI cP cII TY hTY N ad pr R _ _ h1) (cwV 1 C.2.2.2.2.1 gX11_better_X6_tagOf rfl rfl rfl (by decide +kernel) ⟨Nat.le_of_ble_eq_true rfl, Nat.le_of_ble_eq_true rfl⟩) 3 6 cc_a3 rfl rfl rfl (Nat.le_of_ble_eq_true rfl) dX11_better_72 ⟨Nat.zero_le _, Nat.zero_le _⟩ (fun r u hp => ?_)
    obtain ⟨rfl, rfl⟩ := hp
    refine dl_isub (pc := 75) C dX11_better_75 ?_
    obtain ⟨r9, g10, h1, h⟩ := dl_b2_some h
    refine dl_vI0 (pc := 76) C (ccl11_done l D cI cP cII TY hTY ad pr R _ _ h1) (cwV 1 C.2.2.2.2.1 gX11_better_X11_done rfl rfl rfl (by decide +kernel) ⟨Nat.le_of_ble_eq_true rfl, Nat.le_of_ble_eq_true rfl⟩) 0 11 cc_a0 rfl rfl rfl (Nat.le_of_ble_eq_true rfl) dX11_better_76 ⟨Nat.zero_le _, Nat.zero_le _⟩ (fun r u hp => ?_)
    obtain ⟨rfl, rfl⟩ := hp
    exact hQ 79 _ _ _ ⟨(dl_r2 h).1, by rw [(dl_r2 h).2]⟩ (vp_nar_int _) dX11_better_79
  · refine dl_aload_n (pc := 17) C 0 dX11_better_17 rfl rfl ?_
    refine dl_iconst (pc := 18) C 3 dX11_better_18 (by decide) ?_
    obtain ⟨r11, g12, h1, h⟩ := dl_b2_some h
    refine dl_vI0 (pc := 19) C (ccl11_refused l D cI cP cII TY hTY ad pr R _ _ h1) (cwV 1 C.2.2.2.2.1 gX11_better_X11_refused rfl rfl rfl (by decide +kernel) ⟨Nat.le_of_ble_eq_true rfl, Nat.le_of_ble_eq_true rfl⟩) 0 11 cc_a0 rfl rfl rfl (Nat.le_of_ble_eq_true rfl) dX11_better_19 ⟨Nat.zero_le _, Nat.zero_le _⟩ (fun r u hp => ?_)
    obtain ⟨rfl, rfl⟩ := hp
    exact hQ 22 _ _ _ ⟨(dl_r2 h).1, by rw [(dl_r2 h).2]⟩ (vp_nar_int _) dX11_better_22
theorem hin_X11_walls_X11 : ∀ w ∈ u_ws RX11 TX11 6, w ∈ wsX11_walls := fun _ h => List.mem_cons_of_mem _ (List.mem_append_left _ (List.mem_append_left _ (List.mem_append_right _ h)))
theorem lk_X11_walls_35 : Cond.fieldLink (yX11_walls).cls 35 "DripLines" (TX11 3).2.1 (TX11 3).2.2.1 ∈ wsX11_walls := by decide +kernel
set_option maxHeartbeats 4000000 in
set_option maxRecDepth 100000 in
theorem ccl11_walls (l : Launch) (D : va_G) (cI cP cII : ClassId) (TY : dl_TY) (hTY : TY[0]? = some (cI, .int)) (N : Nat) (ad : Nat → Nat) (pr : Nat → Option Nat) (R : va_W) (g : dl_Sg) {r0 : Int32} {g0 : dl_Sg} (h : cl11_walls N g  = some (r0, g0)) : dl_CtI l D TY cc_nw yX11_walls wsX11_walls { frames := 6, cells := 0, slots := 0, locals := 132 } 0 0 [.ref (ad 0)] (cc_w cI cP cII ad pr g ++ R) (fun r u => r = r0 ∧ u = cc_w cI cP cII ad pr g0 ++ R) := by
  refine dl_metI (ty := .int) [(0, .ref (ad 0))] (by decide) rfl (Nat.le_of_ble_eq_true rfl) rfl ?_
  intro p e s m args below meth c Q A C hQ
  unfold cl11_walls at h
  refine dl_aload_n (pc := 0) C 0 dX11_walls_0 rfl rfl ?_
  refine dl_get (pc := 1) C hin_X11_walls_X11 0 cc_a0 rfl 3 (by decide) lk_X11_walls_35 rfl rfl dX11_walls_1 ?_
  obtain ⟨r1, g2, h1, h⟩ := dl_b2_some h
  refine dl_vI0 (pc := 4) C (ccl7_howMany l D cI cP cII TY hTY N ad pr R _ h1) (cwV 0 C.2.2.2.2.1 gX11_walls_X7_howMany rfl rfl rfl (by decide +kernel) ⟨Nat.le_of_ble_eq_true rfl, Nat.le_of_ble_eq_true rfl⟩) 4 7 cc_a4 rfl rfl rfl (Nat.le_of_ble_eq_true rfl) dX11_walls_4 ⟨Nat.zero_le _, Nat.zero_le _⟩ (fun r u hp => ?_)
  obtain ⟨rfl, rfl⟩ := hp
  exact hQ 7 _ _ _ ⟨(dl_r2 h).1, by rw [(dl_r2 h).2]⟩ (vp_nar_int _) dX11_walls_7
theorem hin_X11_wall_X11 : ∀ w ∈ u_ws RX11 TX11 6, w ∈ wsX11_wall := fun _ h => List.mem_cons_of_mem _ (List.mem_append_left _ (List.mem_append_left _ (List.mem_append_right _ h)))
theorem lk_X11_wall_35 : Cond.fieldLink (yX11_wall).cls 35 "DripLines" (TX11 3).2.1 (TX11 3).2.2.1 ∈ wsX11_wall := by decide +kernel
set_option maxHeartbeats 4000000 in
set_option maxRecDepth 100000 in
theorem ccl11_wall (l : Launch) (D : va_G) (cI cP cII : ClassId) (TY : dl_TY) (hTY : TY[0]? = some (cI, .int)) (N : Nat) (ad : Nat → Nat) (pr : Nat → Option Nat) (R : va_W) (g : dl_Sg) (x1 : Int32) (x2 : Int32) {r0 : Int32} {g0 : dl_Sg} (h : cl11_wall N g x1 x2 = some (r0, g0)) : dl_CtI l D TY cc_nw yX11_wall wsX11_wall { frames := 6, cells := 0, slots := 0, locals := 134 } 0 0 [.ref (ad 0), .int x1, .int x2] (cc_w cI cP cII ad pr g ++ R) (fun r u => r = r0 ∧ u = cc_w cI cP cII ad pr g0 ++ R) := by
  refine dl_metI (ty := .int) [(0, .ref (ad 0)), (1, .int x1), (2, .int x2)] (by decide) rfl (Nat.le_of_ble_eq_true rfl) rfl ?_
  intro p e s m args below meth c Q A C hQ
  unfold cl11_wall at h
  refine dl_aload_n (pc := 0) C 0 dX11_wall_0 rfl rfl ?_
  refine dl_get (pc := 1) C hin_X11_wall_X11 0 cc_a0 rfl 3 (by decide) lk_X11_wall_35 rfl rfl dX11_wall_1 ?_
  refine dl_iload_n (pc := 4) C 1 dX11_wall_4 rfl rfl ?_
  refine dl_iload_n (pc := 5) C 2 dX11_wall_5 rfl rfl ?_
  obtain ⟨r1, g2, h1, h⟩ := dl_b2_some h
  refine dl_vI0 (pc := 6) C (ccl7_toldOf l D cI cP cII TY hTY N ad pr R _ _ _ h1) (cwV 2 C.2.2.2.2.1 gX11_wall_X7_toldOf rfl rfl rfl (by decide +kernel) ⟨Nat.le_of_ble_eq_true rfl, Nat.le_of_ble_eq_true rfl⟩) 4 7 cc_a4 rfl rfl rfl (Nat.le_of_ble_eq_true rfl) dX11_wall_6 ⟨Nat.zero_le _, Nat.zero_le _⟩ (fun r u hp => ?_)
  obtain ⟨rfl, rfl⟩ := hp
  exact hQ 9 _ _ _ ⟨(dl_r2 h).1, by rw [(dl_r2 h).2]⟩ (vp_nar_int _) dX11_wall_9
theorem hin_X11_bound_X11 : ∀ w ∈ u_ws RX11 TX11 6, w ∈ wsX11_bound := fun _ h => List.mem_cons_of_mem _ (List.mem_append_left _ (List.mem_append_left _ (List.mem_append_right _ h)))
theorem lk_X11_bound_35 : Cond.fieldLink (yX11_bound).cls 35 "DripLines" (TX11 3).2.1 (TX11 3).2.2.1 ∈ wsX11_bound := by decide +kernel
set_option maxHeartbeats 4000000 in
set_option maxRecDepth 100000 in
theorem ccl11_bound (l : Launch) (D : va_G) (cI cP cII : ClassId) (TY : dl_TY) (hTY : TY[0]? = some (cI, .int)) (N : Nat) (ad : Nat → Nat) (pr : Nat → Option Nat) (R : va_W) (g : dl_Sg) {r0 : Int32} {g0 : dl_Sg} (h : cl11_bound N g  = some (r0, g0)) : dl_CtI l D TY cc_nw yX11_bound wsX11_bound { frames := 6, cells := 0, slots := 0, locals := 132 } 0 0 [.ref (ad 0)] (cc_w cI cP cII ad pr g ++ R) (fun r u => r = r0 ∧ u = cc_w cI cP cII ad pr g0 ++ R) := by
  refine dl_metI (ty := .int) [(0, .ref (ad 0))] (by decide) rfl (Nat.le_of_ble_eq_true rfl) rfl ?_
  intro p e s m args below meth c Q A C hQ
  unfold cl11_bound at h
  refine dl_aload_n (pc := 0) C 0 dX11_bound_0 rfl rfl ?_
  refine dl_get (pc := 1) C hin_X11_bound_X11 0 cc_a0 rfl 3 (by decide) lk_X11_bound_35 rfl rfl dX11_bound_1 ?_
  obtain ⟨r1, g2, h1, h⟩ := dl_b2_some h
  refine dl_vI0 (pc := 4) C (ccl7_sumOfShares l D cI cP cII TY hTY N ad pr R _ h1) (cwV 0 C.2.2.2.2.1 gX11_bound_X7_sumOfShares rfl rfl rfl (by decide +kernel) ⟨Nat.le_of_ble_eq_true rfl, Nat.le_of_ble_eq_true rfl⟩) 4 7 cc_a4 rfl rfl rfl (Nat.le_of_ble_eq_true rfl) dX11_bound_4 ⟨Nat.zero_le _, Nat.zero_le _⟩ (fun r u hp => ?_)
  obtain ⟨rfl, rfl⟩ := hp
  exact hQ 7 _ _ _ ⟨(dl_r2 h).1, by rw [(dl_r2 h).2]⟩ (vp_nar_int _) dX11_bound_7
theorem hin_X11_trace_X11 : ∀ w ∈ u_ws RX11 TX11 6, w ∈ wsX11_trace := fun _ h => List.mem_cons_of_mem _ (List.mem_append_left _ (List.mem_append_left _ (List.mem_append_right _ h)))
theorem hin_X11_trace_X2 : ∀ w ∈ u_ws RX2 TX2 18, w ∈ wsX11_trace := fun _ h => List.mem_cons_of_mem _ (List.mem_append_left _ (List.mem_append_right _ h))
theorem lk_X11_trace_10 : Cond.fieldLink (yX11_trace).cls 10 "DripLines" (TX11 0).2.1 (TX11 0).2.2.1 ∈ wsX11_trace := by decide +kernel
set_option maxHeartbeats 4000000 in
set_option maxRecDepth 100000 in
theorem ccl11_trace (l : Launch) (D : va_G) (cI cP cII : ClassId) (TY : dl_TY) (hTY : TY[0]? = some (cI, .int)) (ad : Nat → Nat) (pr : Nat → Option Nat) (R : va_W) (g : dl_Sg) (x1 : Int32) {r0 : Int32} (h : cl11_trace g x1 = some r0) : dl_CtI l D TY cc_nw yX11_trace wsX11_trace { frames := 1, cells := 0, slots := 0, locals := 21 } 0 0 [.ref (ad 0), .int x1] (cc_w cI cP cII ad pr g ++ R) (fun r u => r = r0 ∧ u = cc_w cI cP cII ad pr g ++ R) := by
  refine dl_metI (ty := .int) [(0, .ref (ad 0)), (1, .int x1)] (by decide) rfl (Nat.le_of_ble_eq_true rfl) rfl ?_
  intro p e s m args below meth c Q A C hQ
  unfold cl11_trace at h
  refine dl_aload_n (pc := 0) C 0 dX11_trace_0 rfl rfl ?_
  refine dl_get (pc := 1) C hin_X11_trace_X11 0 cc_a0 rfl 0 (by decide) lk_X11_trace_10 rfl rfl dX11_trace_1 ?_
  refine dl_getN (pc := 4) C hin_X11_trace_X2 1 cc_a1 rfl 9 (by decide) nk_RX11_144 rfl rfl dX11_trace_4 ?_
  refine dl_iload_n (pc := 7) C 1 dX11_trace_7 rfl rfl ?_
  obtain ⟨r1, h1, h⟩ := dl_bi_some h
  refine dl_vI0 (pc := 8) C (ccl5_bodyAt l D cI cP cII TY hTY ad pr R _ _ h1) (cwV 1 C.2.2.2.2.1 gX11_trace_X5_bodyAt rfl rfl rfl (by decide +kernel) ⟨Nat.le_of_ble_eq_true rfl, Nat.le_of_ble_eq_true rfl⟩) 6 5 cc_a6 rfl rfl rfl (Nat.le_of_ble_eq_true rfl) dX11_trace_8 ⟨Nat.zero_le _, Nat.zero_le _⟩ (fun r u hp => ?_)
  obtain ⟨rfl, rfl⟩ := hp
  exact hQ 11 _ _ _ ⟨Option.some.inj h, rfl⟩ (vp_nar_int _) dX11_trace_11
theorem hin_X11_status_X11 : ∀ w ∈ u_ws RX11 TX11 6, w ∈ wsX11_status := fun _ h => List.mem_cons_of_mem _ (List.mem_append_right _ h)
theorem lk_X11_status_46 : Cond.fieldLink (yX11_status).cls 46 "DripLines" (TX11 5).2.1 (TX11 5).2.2.1 ∈ wsX11_status := by decide +kernel
set_option maxHeartbeats 4000000 in
set_option maxRecDepth 100000 in
theorem ccl11_status (l : Launch) (D : va_G) (cI cP cII : ClassId) (TY : dl_TY) (hTY : TY[0]? = some (cI, .int)) (ad : Nat → Nat) (pr : Nat → Option Nat) (R : va_W) (g : dl_Sg) {r0 : Int32} (h : cl11_status g  = some r0) : dl_CtI l D TY cc_nw yX11_status wsX11_status { frames := 0, cells := 0, slots := 0, locals := 0 } 0 0 [.ref (ad 0)] (cc_w cI cP cII ad pr g ++ R) (fun r u => r = r0 ∧ u = cc_w cI cP cII ad pr g ++ R) := by
  refine dl_metI (ty := .int) [(0, .ref (ad 0))] (by decide) rfl (Nat.le_of_ble_eq_true rfl) rfl ?_
  intro p e s m args below meth c Q A C hQ
  unfold cl11_status at h
  refine dl_aload_n (pc := 0) C 0 dX11_status_0 rfl rfl ?_
  refine dl_get (pc := 1) C hin_X11_status_X11 0 cc_a0 rfl 5 (by decide) lk_X11_status_46 rfl rfl dX11_status_1 ?_
  exact hQ 4 _ _ _ ⟨Option.some.inj h, rfl⟩ (vp_nar_int _) dX11_status_4
