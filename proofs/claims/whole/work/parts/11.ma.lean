set_option maxHeartbeats 4000000 in
set_option maxRecDepth 100000 in
theorem cmo_in (l : Launch) (D : va_G) (TY : dl_TY) (nw : List Cond) (R : va_W) (x0 : Int32) (x1 : Int32) (x2 : Int32) {r0 : Int32} (h : mo_in x0 x1 x2 = some r0) : dl_CtI l D TY nw yX12_in wsX12_in { frames := 0, cells := 0, slots := 0, locals := 0 } 0 0 [.int x0, .int x1, .int x2] (R) (fun r u => r = r0 ∧ u = R) := by
  refine dl_metI (ty := .boolean) [(0, .int x0), (1, .int x1), (2, .int x2)] (by decide) rfl (Nat.le_of_ble_eq_true rfl) rfl ?_
  intro p e s m args below meth c Q A C hQ
  unfold mo_in at h
  refine dl_iload_n (pc := 0) C 0 dX12_in_0 rfl rfl ?_
  refine dl_iload_n (pc := 1) C 1 dX12_in_1 rfl rfl ?_
  refine dl_icmp_lt (pc := 2) C 14 dX12_in_2 (by decide) h (fun q2 h => ?_) (fun q2 h => ?_)
  · refine dl_iconst (pc := 14) C 0 dX12_in_14 (by decide) ?_
    exact hQ 15 _ _ _ ⟨Option.some.inj h, rfl⟩ rfl dX12_in_15
  · refine dl_iload_n (pc := 5) C 0 dX12_in_5 rfl rfl ?_
    refine dl_iload_n (pc := 6) C 2 dX12_in_6 rfl rfl ?_
    refine dl_icmp_gt (pc := 7) C 14 dX12_in_7 (by decide) h (fun q1 h => ?_) (fun q1 h => ?_)
    · refine dl_iconst (pc := 14) C 0 dX12_in_14 (by decide) ?_
      exact hQ 15 _ _ _ ⟨Option.some.inj h, rfl⟩ rfl dX12_in_15
    · refine dl_iconst (pc := 10) C 1 dX12_in_10 (by decide) ?_
      refine dl_goto (pc := 11) C 15 dX12_in_11 (by decide) ?_
      exact hQ 15 _ _ _ ⟨Option.some.inj h, rfl⟩ rfl dX12_in_15
theorem hin_X12_refused_X12 : ∀ w ∈ u_ws RX12 TX12 32, w ∈ wsX12_refused := fun _ h => List.mem_cons_of_mem _ (List.mem_append_right _ h)
theorem lk_X12_refused_65 : Cond.fieldLink (yX12_refused).cls 65 "DripLinesModel" (TX12 14).2.1 (TX12 14).2.2.1 ∈ wsX12_refused := by decide +kernel
set_option maxHeartbeats 4000000 in
set_option maxRecDepth 100000 in
theorem cmo_refused (l : Launch) (D : va_G) (cI : ClassId) (TY : dl_TY) (hTY : TY[0]? = some (cI, .int)) (nw : List Cond) (ad : Nat → Nat) (R : va_W) (g : dl_Sg) (x1 : Int32) {r0 : Int32} {g0 : dl_Sg} (h : mo_refused g x1 = some (r0, g0)) : dl_CtI l D TY nw yX12_refused wsX12_refused { frames := 0, cells := 0, slots := 0, locals := 0 } 0 0 [.ref (ad 0), .int x1] (mm_w cI ad g ++ R) (fun r u => r = r0 ∧ u = mm_w cI ad g0 ++ R) := by
  refine dl_metI (ty := .int) [(0, .ref (ad 0)), (1, .int x1)] (by decide) rfl (Nat.le_of_ble_eq_true rfl) rfl ?_
  intro p e s m args below meth c Q A C hQ
  unfold mo_refused at h
  refine dl_aload_n (pc := 0) C 0 dX12_refused_0 rfl rfl ?_
  refine dl_iload_n (pc := 1) C 1 dX12_refused_1 rfl rfl ?_
  refine dl_put (pc := 2) C hin_X12_refused_X12 tyX12 tyX12_ok nmX12 0 mm_a0 rfl 14 (by decide) lk_X12_refused_65 rfl rfl (ty := .int) rfl (vp_nar_int _) rfl (Nat.le_of_ble_eq_true rfl) dX12_refused_2 mm_p0_14 ?_
  obtain ⟨g1, h, hg⟩ := dl_nm_some h
  rw [← hg]
  clear hg
  refine dl_iconst (pc := 5) C (-1) dX12_refused_5 (by decide) ?_
  exact hQ 6 _ _ _ ⟨(dl_r2 h).1, by rw [(dl_r2 h).2]⟩ (vp_nar_int _) dX12_refused_6
theorem hin_X12_done_X12 : ∀ w ∈ u_ws RX12 TX12 32, w ∈ wsX12_done := fun _ h => List.mem_cons_of_mem _ (List.mem_append_right _ h)
theorem lk_X12_done_65 : Cond.fieldLink (yX12_done).cls 65 "DripLinesModel" (TX12 14).2.1 (TX12 14).2.2.1 ∈ wsX12_done := by decide +kernel
set_option maxHeartbeats 4000000 in
set_option maxRecDepth 100000 in
theorem cmo_done (l : Launch) (D : va_G) (cI : ClassId) (TY : dl_TY) (hTY : TY[0]? = some (cI, .int)) (nw : List Cond) (ad : Nat → Nat) (R : va_W) (g : dl_Sg) (x1 : Int32) {r0 : Int32} {g0 : dl_Sg} (h : mo_done g x1 = some (r0, g0)) : dl_CtI l D TY nw yX12_done wsX12_done { frames := 0, cells := 0, slots := 0, locals := 0 } 0 0 [.ref (ad 0), .int x1] (mm_w cI ad g ++ R) (fun r u => r = r0 ∧ u = mm_w cI ad g0 ++ R) := by
  refine dl_metI (ty := .int) [(0, .ref (ad 0)), (1, .int x1)] (by decide) rfl (Nat.le_of_ble_eq_true rfl) rfl ?_
  intro p e s m args below meth c Q A C hQ
  unfold mo_done at h
  refine dl_aload_n (pc := 0) C 0 dX12_done_0 rfl rfl ?_
  refine dl_iconst (pc := 1) C 0 dX12_done_1 (by decide) ?_
  refine dl_put (pc := 2) C hin_X12_done_X12 tyX12 tyX12_ok nmX12 0 mm_a0 rfl 14 (by decide) lk_X12_done_65 rfl rfl (ty := .int) rfl (vp_nar_int _) rfl (Nat.le_of_ble_eq_true rfl) dX12_done_2 mm_p0_14 ?_
  obtain ⟨g1, h, hg⟩ := dl_nm_some h
  rw [← hg]
  clear hg
  refine dl_iload_n (pc := 5) C 1 dX12_done_5 rfl rfl ?_
  exact hQ 6 _ _ _ ⟨(dl_r2 h).1, by rw [(dl_r2 h).2]⟩ (vp_nar_int _) dX12_done_6
theorem hin_X12_isPlace_X12 : ∀ w ∈ u_ws RX12 TX12 32, w ∈ wsX12_isPlace := fun _ h => List.mem_cons_of_mem _ (List.mem_append_right _ h)
theorem lk_X12_isPlace_69 : Cond.fieldLink (yX12_isPlace).cls 69 "DripLinesModel" (TX12 0).2.1 (TX12 0).2.2.1 ∈ wsX12_isPlace := by decide +kernel
set_option maxHeartbeats 4000000 in
set_option maxRecDepth 100000 in
theorem cmo_isPlace (l : Launch) (D : va_G) (cI : ClassId) (TY : dl_TY) (hTY : TY[0]? = some (cI, .int)) (nw : List Cond) (ad : Nat → Nat) (R : va_W) (g : dl_Sg) (x1 : Int32) {r0 : Int32} (h : mo_isPlace g x1 = some r0) : dl_CtI l D TY nw yX12_isPlace wsX12_isPlace { frames := 1, cells := 0, slots := 0, locals := 22 } 0 0 [.ref (ad 0), .int x1] (mm_w cI ad g ++ R) (fun r u => r = r0 ∧ u = mm_w cI ad g ++ R) := by
  refine dl_metI (ty := .boolean) [(0, .ref (ad 0)), (1, .int x1)] (by decide) rfl (Nat.le_of_ble_eq_true rfl) rfl ?_
  intro p e s m args below meth c Q A C hQ
  unfold mo_isPlace at h
  refine dl_iload_n (pc := 0) C 1 dX12_isPlace_0 rfl rfl ?_
  refine dl_iconst (pc := 1) C 0 dX12_isPlace_1 (by decide) ?_
  refine dl_aload_n (pc := 2) C 0 dX12_isPlace_2 rfl rfl ?_
  refine dl_get (pc := 3) C hin_X12_isPlace_X12 0 mm_a0 rfl 0 (by decide) lk_X12_isPlace_69 rfl rfl dX12_isPlace_3 ?_
  refine dl_iconst (pc := 6) C 1 dX12_isPlace_6 (by decide) ?_
  refine dl_isub (pc := 7) C dX12_isPlace_7 ?_
  obtain ⟨r1, h1, h⟩ := dl_bi_some h
  refine dl_sI0 (pc := 8) C (cmo_in l D TY nw _ _ _ _ h1) (va_cwS 3 C.2.2.2.2.1 gX12_isPlace_X12_in rfl rfl rfl (by decide +kernel) ⟨Nat.le_of_ble_eq_true rfl, Nat.le_of_ble_eq_true rfl⟩) rfl rfl (Nat.le_of_ble_eq_true rfl) dX12_isPlace_8 ⟨Nat.zero_le _, Nat.zero_le _⟩ (fun r u hp => ?_)
  obtain ⟨rfl, hu⟩ := hp
  rw [hu]
  clear hu
  obtain ⟨h0, h⟩ := dl_gd_some h
  exact hQ 11 _ _ _ ⟨Option.some.inj h, rfl⟩ (dl_bo_n h0) dX12_isPlace_11
theorem hin_X12_isStreet_X12 : ∀ w ∈ u_ws RX12 TX12 32, w ∈ wsX12_isStreet := fun _ h => List.mem_cons_of_mem _ (List.mem_append_right _ h)
theorem lk_X12_isStreet_76 : Cond.fieldLink (yX12_isStreet).cls 76 "DripLinesModel" (TX12 3).2.1 (TX12 3).2.2.1 ∈ wsX12_isStreet := by decide +kernel
set_option maxHeartbeats 4000000 in
set_option maxRecDepth 100000 in
theorem cmo_isStreet (l : Launch) (D : va_G) (cI : ClassId) (TY : dl_TY) (hTY : TY[0]? = some (cI, .int)) (nw : List Cond) (ad : Nat → Nat) (R : va_W) (g : dl_Sg) (x1 : Int32) {r0 : Int32} (h : mo_isStreet g x1 = some r0) : dl_CtI l D TY nw yX12_isStreet wsX12_isStreet { frames := 1, cells := 0, slots := 0, locals := 22 } 0 0 [.ref (ad 0), .int x1] (mm_w cI ad g ++ R) (fun r u => r = r0 ∧ u = mm_w cI ad g ++ R) := by
  refine dl_metI (ty := .boolean) [(0, .ref (ad 0)), (1, .int x1)] (by decide) rfl (Nat.le_of_ble_eq_true rfl) rfl ?_
  intro p e s m args below meth c Q A C hQ
  unfold mo_isStreet at h
  refine dl_iload_n (pc := 0) C 1 dX12_isStreet_0 rfl rfl ?_
  refine dl_iconst (pc := 1) C 0 dX12_isStreet_1 (by decide) ?_
  refine dl_aload_n (pc := 2) C 0 dX12_isStreet_2 rfl rfl ?_
  refine dl_get (pc := 3) C hin_X12_isStreet_X12 0 mm_a0 rfl 3 (by decide) lk_X12_isStreet_76 rfl rfl dX12_isStreet_3 ?_
  refine dl_iconst (pc := 6) C 1 dX12_isStreet_6 (by decide) ?_
  refine dl_isub (pc := 7) C dX12_isStreet_7 ?_
  obtain ⟨r1, h1, h⟩ := dl_bi_some h
  refine dl_sI0 (pc := 8) C (cmo_in l D TY nw _ _ _ _ h1) (va_cwS 3 C.2.2.2.2.1 gX12_isStreet_X12_in rfl rfl rfl (by decide +kernel) ⟨Nat.le_of_ble_eq_true rfl, Nat.le_of_ble_eq_true rfl⟩) rfl rfl (Nat.le_of_ble_eq_true rfl) dX12_isStreet_8 ⟨Nat.zero_le _, Nat.zero_le _⟩ (fun r u hp => ?_)
  obtain ⟨rfl, hu⟩ := hp
  rw [hu]
  clear hu
  obtain ⟨h0, h⟩ := dl_gd_some h
  exact hQ 11 _ _ _ ⟨Option.some.inj h, rfl⟩ (dl_bo_n h0) dX12_isStreet_11
set_option maxHeartbeats 4000000 in
set_option maxRecDepth 100000 in
theorem cmo_has (l : Launch) (D : va_G) (TY : dl_TY) (nw : List Cond) (R : va_W) (x0 : Int32) (x1 : Int32) {r0 : Int32} (h : mo_has x0 x1 = some r0) : dl_CtI l D TY nw yX12_has wsX12_has { frames := 0, cells := 0, slots := 0, locals := 0 } 0 0 [.int x0, .int x1] (R) (fun r u => r = r0 ∧ u = R) := by
  refine dl_metI (ty := .boolean) [(0, .int x0), (1, .int x1)] (by decide) rfl (Nat.le_of_ble_eq_true rfl) rfl ?_
  intro p e s m args below meth c Q A C hQ
  unfold mo_has at h
  refine dl_iload_n (pc := 0) C 0 dX12_has_0 rfl rfl ?_
  refine dl_iload_n (pc := 1) C 1 dX12_has_1 rfl rfl ?_
  refine dl_ishr (pc := 2) C dX12_has_2 ?_
  refine dl_iconst (pc := 3) C 1 dX12_has_3 (by decide) ?_
  refine dl_iand (pc := 4) C dX12_has_4 ?_
  refine dl_iconst (pc := 5) C 1 dX12_has_5 (by decide) ?_
  refine dl_icmp_ne (pc := 6) C 13 dX12_has_6 (by decide) h (fun q1 h => ?_) (fun q1 h => ?_)
  · refine dl_iconst (pc := 9) C 1 dX12_has_9 (by decide) ?_
    refine dl_goto (pc := 10) C 14 dX12_has_10 (by decide) ?_
    exact hQ 14 _ _ _ ⟨Option.some.inj h, rfl⟩ rfl dX12_has_14
  · refine dl_iconst (pc := 13) C 0 dX12_has_13 (by decide) ?_
    exact hQ 14 _ _ _ ⟨Option.some.inj h, rfl⟩ rfl dX12_has_14
theorem hin_X12_isTap_X12 : ∀ w ∈ u_ws RX12 TX12 32, w ∈ wsX12_isTap := fun _ h => List.mem_cons_of_mem _ (List.mem_append_right _ h)
theorem lk_X12_isTap_7 : Cond.fieldLink (yX12_isTap).cls 7 "DripLinesModel" (TX12 1).2.1 (TX12 1).2.2.1 ∈ wsX12_isTap := by decide +kernel
set_option maxHeartbeats 4000000 in
set_option maxRecDepth 100000 in
theorem mo_isTap_t20 {p : Program} {e : Env} {s : State} {m : MethodId} {args : Array Value} {below : List Frame} {meth : Method} {c : Code} {Q : State → Prop} {A : Nat → Prop} (l : Launch) (D : va_G) (cI : ClassId) (TY : dl_TY) (hTY : TY[0]? = some (cI, .int)) (nw : List Cond) (ad : Nat → Nat) (R : va_W) (g : dl_Sg) {r0 : Int32} (C : dl_Cx p s m args c A D TY nw cX12_isTap 2 yX12_isTap.cls wsX12_isTap) (hQ : dl_RtI p l e (headSpec wsX12_isTap { frames := 0, cells := 0, slots := 0, locals := 0 }).room s m args below meth c Q A D cX12_isTap 2 0 0 .boolean (fun r u => r = r0 ∧ u = mm_w cI ad g ++ R)) (h : mo_isTap_b20 g  = some r0) : dl_At p l e (headSpec wsX12_isTap { frames := 0, cells := 0, slots := 0, locals := 0 }).room s m args below meth c Q A D 2 0 0 20 [(0, .ref (ad 0))] [] (mm_w cI ad g ++ R) := by
  unfold mo_isTap_b20 at h
  refine dl_iconst (pc := 20) C 1 dX12_isTap_20 (by decide) ?_
  refine dl_goto (pc := 21) C 25 dX12_isTap_21 (by decide) ?_
  exact hQ 25 _ _ _ ⟨Option.some.inj h, rfl⟩ rfl dX12_isTap_25
set_option maxHeartbeats 4000000 in
set_option maxRecDepth 100000 in
theorem cmo_isTap (l : Launch) (D : va_G) (cI : ClassId) (TY : dl_TY) (hTY : TY[0]? = some (cI, .int)) (nw : List Cond) (ad : Nat → Nat) (R : va_W) (g : dl_Sg) (x1 : Int32) {r0 : Int32} (h : mo_isTap g x1 = some r0) : dl_CtI l D TY nw yX12_isTap wsX12_isTap { frames := 0, cells := 0, slots := 0, locals := 0 } 0 0 [.ref (ad 0), .int x1] (mm_w cI ad g ++ R) (fun r u => r = r0 ∧ u = mm_w cI ad g ++ R) := by
  refine dl_metI (ty := .boolean) [(0, .ref (ad 0)), (1, .int x1)] (by decide) rfl (Nat.le_of_ble_eq_true rfl) rfl ?_
  intro p e s m args below meth c Q A C hQ
  unfold mo_isTap at h
  refine dl_aload_n (pc := 0) C 0 dX12_isTap_0 rfl rfl ?_
  refine dl_get (pc := 1) C hin_X12_isTap_X12 0 mm_a0 rfl 1 (by decide) lk_X12_isTap_7 rfl rfl dX12_isTap_1 ?_
  refine dl_iload_n (pc := 4) C 1 dX12_isTap_4 rfl rfl ?_
  obtain ⟨h0, h⟩ := dl_gd_some h
  refine dl_iald (pc := 5) C 1 0 mm_a1 hTY h0 dX12_isTap_5 ?_
  refine dl_iconst (pc := 6) C 1 dX12_isTap_6 (by decide) ?_
  refine dl_icmp_eq (pc := 7) C 20 dX12_isTap_7 (by decide) h (fun q2 h => ?_) (fun q2 h => ?_)
  · refine dl_sub [0] rfl ?_
    exact mo_isTap_t20 l D cI TY hTY nw ad R g C hQ  h
  · refine dl_aload_n (pc := 10) C 0 dX12_isTap_10 rfl rfl ?_
    refine dl_get (pc := 11) C hin_X12_isTap_X12 0 mm_a0 rfl 1 (by decide) lk_X12_isTap_7 rfl rfl dX12_isTap_11 ?_
    refine dl_iload_n (pc := 14) C 1 dX12_isTap_14 rfl rfl ?_
    obtain ⟨h0, h⟩ := dl_gd_some h
    refine dl_iald (pc := 15) C 1 0 mm_a1 hTY h0 dX12_isTap_15 ?_
    refine dl_iconst (pc := 16) C 3 dX12_isTap_16 (by decide) ?_
    refine dl_icmp_ne (pc := 17) C 24 dX12_isTap_17 (by decide) h (fun q1 h => ?_) (fun q1 h => ?_)
    · refine dl_sub [0] rfl ?_
      exact mo_isTap_t20 l D cI TY hTY nw ad R g C hQ  h
    · refine dl_iconst (pc := 24) C 0 dX12_isTap_24 (by decide) ?_
      exact hQ 25 _ _ _ ⟨Option.some.inj h, rfl⟩ rfl dX12_isTap_25
theorem hin_X12_taps_X12 : ∀ w ∈ u_ws RX12 TX12 32, w ∈ wsX12_taps := fun _ h => List.mem_cons_of_mem _ (List.mem_append_right _ h)
theorem lk_X12_taps_69 : Cond.fieldLink (yX12_taps).cls 69 "DripLinesModel" (TX12 0).2.1 (TX12 0).2.2.1 ∈ wsX12_taps := by decide +kernel
set_option maxHeartbeats 4000000 in
set_option maxRecDepth 100000 in
theorem mo_taps_t28 {p : Program} {e : Env} {s : State} {m : MethodId} {args : Array Value} {below : List Frame} {meth : Method} {c : Code} {Q : State → Prop} {A : Nat → Prop} (l : Launch) (D : va_G) (cI : ClassId) (TY : dl_TY) (hTY : TY[0]? = some (cI, .int)) (nw : List Cond) (N : Nat) (ad : Nat → Nat) (R : va_W) (g : dl_Sg) {r0 : Int32} (C : dl_Cx p s m args c A D TY nw cX12_taps 3 yX12_taps.cls wsX12_taps) (hQ : dl_RtI p l e (headSpec wsX12_taps { frames := 1, cells := 0, slots := 0, locals := 21 }).room s m args below meth c Q A D cX12_taps 3 0 0 .int (fun r u => r = r0 ∧ u = mm_w cI ad g ++ R)) {k4 : Int32 → Int32 → Option Int32} (hk4 : ∀ (x1 : Int32) (x2 : Int32), k4 x1 x2 = some r0 → dl_At p l e (headSpec wsX12_taps { frames := 1, cells := 0, slots := 0, locals := 21 }).room s m args below meth c Q A D 3 0 0 4 [(0, .ref (ad 0)), (1, .int x1), (2, .int x2)] [] (mm_w cI ad g ++ R)) (x2 : Int32) (y0 : Int32) (y1 : Int32) (h : mo_taps_b28 N g k4 x2 y0 y1 = some r0) : dl_At p l e (headSpec wsX12_taps { frames := 1, cells := 0, slots := 0, locals := 21 }).room s m args below meth c Q A D 3 0 0 28 [(0, .ref (ad 0)), (2, .int x2)] [.int y1, .int y0] (mm_w cI ad g ++ R) := by
  unfold mo_taps_b28 at h
  refine dl_ior (pc := 28) C dX12_taps_28 ?_
  refine dl_istore_n (pc := 29) C (fun v1 => [(1, .int v1), (0, .ref (ad 0)), (2, .int x2)]) dX12_taps_29 rfl (by decide) (fun _ => rfl) h (fun v1 h => ?_)
  refine dl_iinc (pc := 30) C 2 (fun v2 => [(2, .int v2), (1, .int v1), (0, .ref (ad 0))]) dX12_taps_30 rfl rfl (by decide) (fun _ => rfl) h (fun v2 h => ?_)
  refine dl_goto (pc := 33) C 4 dX12_taps_33 (by decide) ?_
  refine dl_sub [2, 1, 0] rfl ?_
  exact hk4 _ _ h
set_option maxHeartbeats 4000000 in
set_option maxRecDepth 100000 in
theorem mo_taps_t4 {p : Program} {e : Env} {s : State} {m : MethodId} {args : Array Value} {below : List Frame} {meth : Method} {c : Code} {Q : State → Prop} {A : Nat → Prop} (l : Launch) (D : va_G) (cI : ClassId) (TY : dl_TY) (hTY : TY[0]? = some (cI, .int)) (nw : List Cond) (N : Nat) (ad : Nat → Nat) (R : va_W) (g : dl_Sg) {r0 : Int32} (C : dl_Cx p s m args c A D TY nw cX12_taps 3 yX12_taps.cls wsX12_taps) (hQ : dl_RtI p l e (headSpec wsX12_taps { frames := 1, cells := 0, slots := 0, locals := 21 }).room s m args below meth c Q A D cX12_taps 3 0 0 .int (fun r u => r = r0 ∧ u = mm_w cI ad g ++ R)) : ∀ (n : Nat) (x1 : Int32) (x2 : Int32), mo_taps_b4 N g n x1 x2 = some r0 → dl_At p l e (headSpec wsX12_taps { frames := 1, cells := 0, slots := 0, locals := 21 }).room s m args below meth c Q A D 3 0 0 4 [(0, .ref (ad 0)), (1, .int x1), (2, .int x2)] [] (mm_w cI ad g ++ R) := by
  intro n
  induction n with
  | zero => exact fun _ _ h => absurd (show (none : Option Int32) = some _ from h) (by intro q; cases q)
  | succ n ih =>
    intro x1 x2 h
    rw [mo_taps_b4] at h
    refine dl_iload_n (pc := 4) C 2 dX12_taps_4 rfl rfl ?_
    refine dl_aload_n (pc := 5) C 0 dX12_taps_5 rfl rfl ?_
    refine dl_get (pc := 6) C hin_X12_taps_X12 0 mm_a0 rfl 0 (by decide) lk_X12_taps_69 rfl rfl dX12_taps_6 ?_
    refine dl_icmp_ge (pc := 9) C 36 dX12_taps_9 (by decide) h (fun q3 h => ?_) (fun q3 h => ?_)
    · refine dl_iload_n (pc := 36) C 1 dX12_taps_36 rfl rfl ?_
      exact hQ 37 _ _ _ ⟨Option.some.inj h, rfl⟩ (vp_nar_int _) dX12_taps_37
    · refine dl_iload_n (pc := 12) C 1 dX12_taps_12 rfl rfl ?_
      refine dl_aload_n (pc := 13) C 0 dX12_taps_13 rfl rfl ?_
      refine dl_iload_n (pc := 14) C 2 dX12_taps_14 rfl rfl ?_
      obtain ⟨r1, h1, h⟩ := dl_bi_some h
      refine dl_vI0 (pc := 15) C (cmo_isTap l D cI TY hTY nw ad R _ _ h1) (cwV 1 C.2.2.2.2.1 gX12_taps_X12_isTap rfl rfl rfl (by decide +kernel) ⟨Nat.le_of_ble_eq_true rfl, Nat.le_of_ble_eq_true rfl⟩) 0 12 mm_a0 rfl rfl rfl (Nat.le_of_ble_eq_true rfl) dX12_taps_15 ⟨Nat.zero_le _, Nat.zero_le _⟩ (fun r u hp => ?_)
      obtain ⟨rfl, rfl⟩ := hp
      refine dl_if_eq (pc := 18) C 27 dX12_taps_18 (by decide) h (fun q2 h => ?_) (fun q2 h => ?_)
      · refine dl_iconst (pc := 27) C 0 dX12_taps_27 (by decide) ?_
        refine dl_sub [0, 2] rfl ?_
        exact mo_taps_t28 l D cI TY hTY nw N ad R g C hQ ih  _ _ _ h
      · refine dl_iconst (pc := 21) C 1 dX12_taps_21 (by decide) ?_
        refine dl_iload_n (pc := 22) C 2 dX12_taps_22 rfl rfl ?_
        refine dl_ishl (pc := 23) C dX12_taps_23 ?_
        refine dl_goto (pc := 24) C 28 dX12_taps_24 (by decide) ?_
        refine dl_sub [0, 2] rfl ?_
        exact mo_taps_t28 l D cI TY hTY nw N ad R g C hQ ih  _ _ _ h
set_option maxHeartbeats 4000000 in
set_option maxRecDepth 100000 in
theorem cmo_taps (l : Launch) (D : va_G) (cI : ClassId) (TY : dl_TY) (hTY : TY[0]? = some (cI, .int)) (nw : List Cond) (N : Nat) (ad : Nat → Nat) (R : va_W) (g : dl_Sg) {r0 : Int32} (h : mo_taps N g  = some r0) : dl_CtI l D TY nw yX12_taps wsX12_taps { frames := 1, cells := 0, slots := 0, locals := 21 } 0 0 [.ref (ad 0)] (mm_w cI ad g ++ R) (fun r u => r = r0 ∧ u = mm_w cI ad g ++ R) := by
  refine dl_metI (ty := .int) [(0, .ref (ad 0))] (by decide) rfl (Nat.le_of_ble_eq_true rfl) rfl ?_
  intro p e s m args below meth c Q A C hQ
  unfold mo_taps at h
  refine dl_iconst (pc := 0) C 0 dX12_taps_0 (by decide) ?_
  refine dl_istore_n (pc := 1) C (fun v1 => [(1, .int v1), (0, .ref (ad 0))]) dX12_taps_1 rfl (by decide) (fun _ => rfl) h (fun v1 h => ?_)
  refine dl_iconst (pc := 2) C 0 dX12_taps_2 (by decide) ?_
  refine dl_istore_n (pc := 3) C (fun v2 => [(2, .int v2), (1, .int v1), (0, .ref (ad 0))]) dX12_taps_3 rfl (by decide) (fun _ => rfl) h (fun v2 h => ?_)
  refine dl_sub [2, 1, 0] rfl ?_
  exact mo_taps_t4 l D cI TY hTY nw N ad R g C hQ N _ _ h
set_option maxHeartbeats 4000000 in
set_option maxRecDepth 100000 in
theorem mo_bits_t4 {p : Program} {e : Env} {s : State} {m : MethodId} {args : Array Value} {below : List Frame} {meth : Method} {c : Code} {Q : State → Prop} {A : Nat → Prop} (l : Launch) (D : va_G) (TY : dl_TY) (nw : List Cond) (N : Nat) (R : va_W) {r0 : Int32} (C : dl_Cx p s m args c A D TY nw cX12_bits 3 yX12_bits.cls wsX12_bits) (hQ : dl_RtI p l e (headSpec wsX12_bits { frames := 0, cells := 0, slots := 0, locals := 0 }).room s m args below meth c Q A D cX12_bits 3 0 0 .int (fun r u => r = r0 ∧ u = R)) : ∀ (n : Nat) (x0 : Int32) (x1 : Int32) (x2 : Int32), mo_bits_b4 N n x0 x1 x2 = some r0 → dl_At p l e (headSpec wsX12_bits { frames := 0, cells := 0, slots := 0, locals := 0 }).room s m args below meth c Q A D 3 0 0 4 [(0, .int x0), (1, .int x1), (2, .int x2)] [] (R) := by
  intro n
  induction n with
  | zero => exact fun _ _ _ h => absurd (show (none : Option Int32) = some _ from h) (by intro q; cases q)
  | succ n ih =>
    intro x0 x1 x2 h
    rw [mo_bits_b4] at h
    refine dl_iload_n (pc := 4) C 2 dX12_bits_4 rfl rfl ?_
    refine dl_bipush (pc := 5) C 16 dX12_bits_5 (by decide) ?_
    refine dl_icmp_ge (pc := 7) C 24 dX12_bits_7 (by decide) h (fun q3 h => ?_) (fun q3 h => ?_)
    · refine dl_iload_n (pc := 24) C 1 dX12_bits_24 rfl rfl ?_
      exact hQ 25 _ _ _ ⟨Option.some.inj h, rfl⟩ (vp_nar_int _) dX12_bits_25
    · refine dl_iload_n (pc := 10) C 1 dX12_bits_10 rfl rfl ?_
      refine dl_iload_n (pc := 11) C 0 dX12_bits_11 rfl rfl ?_
      refine dl_iload_n (pc := 12) C 2 dX12_bits_12 rfl rfl ?_
      refine dl_ishr (pc := 13) C dX12_bits_13 ?_
      refine dl_iconst (pc := 14) C 1 dX12_bits_14 (by decide) ?_
      refine dl_iand (pc := 15) C dX12_bits_15 ?_
      refine dl_iadd (pc := 16) C dX12_bits_16 ?_
      refine dl_istore_n (pc := 17) C (fun v1 => [(1, .int v1), (0, .int x0), (2, .int x2)]) dX12_bits_17 rfl (by decide) (fun _ => rfl) h (fun v1 h => ?_)
      refine dl_iinc (pc := 18) C 2 (fun v2 => [(2, .int v2), (1, .int v1), (0, .int x0)]) dX12_bits_18 rfl rfl (by decide) (fun _ => rfl) h (fun v2 h => ?_)
      refine dl_goto (pc := 21) C 4 dX12_bits_21 (by decide) ?_
      refine dl_sub [2, 1, 0] rfl ?_
      exact ih _ _ _ h
set_option maxHeartbeats 4000000 in
set_option maxRecDepth 100000 in
theorem cmo_bits (l : Launch) (D : va_G) (TY : dl_TY) (nw : List Cond) (N : Nat) (R : va_W) (x0 : Int32) {r0 : Int32} (h : mo_bits N x0 = some r0) : dl_CtI l D TY nw yX12_bits wsX12_bits { frames := 0, cells := 0, slots := 0, locals := 0 } 0 0 [.int x0] (R) (fun r u => r = r0 ∧ u = R) := by
  refine dl_metI (ty := .int) [(0, .int x0)] (by decide) rfl (Nat.le_of_ble_eq_true rfl) rfl ?_
  intro p e s m args below meth c Q A C hQ
  unfold mo_bits at h
  refine dl_iconst (pc := 0) C 0 dX12_bits_0 (by decide) ?_
  refine dl_istore_n (pc := 1) C (fun v1 => [(1, .int v1), (0, .int x0)]) dX12_bits_1 rfl (by decide) (fun _ => rfl) h (fun v1 h => ?_)
  refine dl_iconst (pc := 2) C 0 dX12_bits_2 (by decide) ?_
  refine dl_istore_n (pc := 3) C (fun v2 => [(2, .int v2), (1, .int v1), (0, .int x0)]) dX12_bits_3 rfl (by decide) (fun _ => rfl) h (fun v2 h => ?_)
  refine dl_sub [2, 1, 0] rfl ?_
  exact mo_bits_t4 l D TY nw N R C hQ N _ _ _ h
theorem hin_X12_changed_X12 : ∀ w ∈ u_ws RX12 TX12 32, w ∈ wsX12_changed := fun _ h => List.mem_cons_of_mem _ (List.mem_append_right _ h)
theorem lk_X12_changed_25 : Cond.fieldLink (yX12_changed).cls 25 "DripLinesModel" (TX12 10).2.1 (TX12 10).2.2.1 ∈ wsX12_changed := by decide +kernel
theorem lk_X12_changed_83 : Cond.fieldLink (yX12_changed).cls 83 "DripLinesModel" (TX12 9).2.1 (TX12 9).2.2.1 ∈ wsX12_changed := by decide +kernel
theorem lk_X12_changed_86 : Cond.fieldLink (yX12_changed).cls 86 "DripLinesModel" (TX12 19).2.1 (TX12 19).2.2.1 ∈ wsX12_changed := by decide +kernel
set_option maxHeartbeats 4000000 in
set_option maxRecDepth 100000 in
theorem mo_changed_t49 {p : Program} {e : Env} {s : State} {m : MethodId} {args : Array Value} {below : List Frame} {meth : Method} {c : Code} {Q : State → Prop} {A : Nat → Prop} (l : Launch) (D : va_G) (cI : ClassId) (TY : dl_TY) (hTY : TY[0]? = some (cI, .int)) (nw : List Cond) (N : Nat) (ad : Nat → Nat) (R : va_W) {g0 : dl_Sg} (C : dl_Cx p s m args c A D TY nw cX12_changed 3 yX12_changed.cls wsX12_changed) (hQ : dl_RtV p l e (headSpec wsX12_changed { frames := 0, cells := 0, slots := 0, locals := 0 }).room s m args below meth c Q A D cX12_changed 3 0 0 (fun u => u = mm_w cI ad g0 ++ R)) (x1 : Int32) (g : dl_Sg) (h : mo_changed_b49 N x1 g = some g0) : dl_At p l e (headSpec wsX12_changed { frames := 0, cells := 0, slots := 0, locals := 0 }).room s m args below meth c Q A D 3 0 0 49 [(0, .ref (ad 0)), (1, .int x1)] [] (mm_w cI ad g ++ R) := by
  unfold mo_changed_b49 at h
  refine dl_aload_n (pc := 49) C 0 dX12_changed_49 rfl rfl ?_
  refine dl_get (pc := 50) C hin_X12_changed_X12 0 mm_a0 rfl 10 (by decide) lk_X12_changed_25 rfl rfl dX12_changed_50 ?_
  refine dl_aload_n (pc := 53) C 0 dX12_changed_53 rfl rfl ?_
  refine dl_get (pc := 54) C hin_X12_changed_X12 0 mm_a0 rfl 9 (by decide) lk_X12_changed_83 rfl rfl dX12_changed_54 ?_
  refine dl_iload_n (pc := 57) C 1 dX12_changed_57 rfl rfl ?_
  obtain ⟨h0, h⟩ := dl_gd_some h
  refine dl_iast (pc := 58) C 6 0 mm_a10 hTY h0 dX12_changed_58 mm_s10 ?_
  obtain ⟨g1, h, hg⟩ := dl_nm_some h
  rw [← hg]
  clear hg
  refine dl_aload_n (pc := 59) C 0 dX12_changed_59 rfl rfl ?_
  refine dl_dup (pc := 60) C dX12_changed_60 rfl ?_
  refine dl_get (pc := 61) C hin_X12_changed_X12 0 mm_a0 rfl 9 (by decide) lk_X12_changed_83 rfl rfl dX12_changed_61 ?_
  refine dl_iconst (pc := 64) C 1 dX12_changed_64 (by decide) ?_
  refine dl_iadd (pc := 65) C dX12_changed_65 ?_
  refine dl_put (pc := 66) C hin_X12_changed_X12 tyX12 tyX12_ok nmX12 0 mm_a0 rfl 9 (by decide) lk_X12_changed_83 rfl rfl (ty := .int) rfl (vp_nar_int _) rfl (Nat.le_of_ble_eq_true rfl) dX12_changed_66 mm_p0_9 ?_
  obtain ⟨g2, h, hg⟩ := dl_nm_some h
  rw [← hg]
  clear hg
  refine dl_aload_n (pc := 69) C 0 dX12_changed_69 rfl rfl ?_
  refine dl_iconst (pc := 70) C 0 dX12_changed_70 (by decide) ?_
  refine dl_put (pc := 71) C hin_X12_changed_X12 tyX12 tyX12_ok nmX12 0 mm_a0 rfl 19 (by decide) lk_X12_changed_86 rfl rfl (ty := .boolean) rfl rfl rfl (Nat.le_of_ble_eq_true rfl) dX12_changed_71 mm_p0_19 ?_
  obtain ⟨g3, h, hg⟩ := dl_nm_some h
  rw [← hg]
  clear hg
  exact hQ 74 _ _ (by rw [Option.some.inj h]) dX12_changed_74
set_option maxHeartbeats 4000000 in
set_option maxRecDepth 100000 in
theorem mo_changed_t21 {p : Program} {e : Env} {s : State} {m : MethodId} {args : Array Value} {below : List Frame} {meth : Method} {c : Code} {Q : State → Prop} {A : Nat → Prop} (l : Launch) (D : va_G) (cI : ClassId) (TY : dl_TY) (hTY : TY[0]? = some (cI, .int)) (nw : List Cond) (N : Nat) (ad : Nat → Nat) (R : va_W) {g0 : dl_Sg} (C : dl_Cx p s m args c A D TY nw cX12_changed 3 yX12_changed.cls wsX12_changed) (hQ : dl_RtV p l e (headSpec wsX12_changed { frames := 0, cells := 0, slots := 0, locals := 0 }).room s m args below meth c Q A D cX12_changed 3 0 0 (fun u => u = mm_w cI ad g0 ++ R)) : ∀ (n : Nat) (x1 : Int32) (x2 : Int32) (g : dl_Sg), mo_changed_b21 N n x1 x2 g = some g0 → dl_At p l e (headSpec wsX12_changed { frames := 0, cells := 0, slots := 0, locals := 0 }).room s m args below meth c Q A D 3 0 0 21 [(0, .ref (ad 0)), (1, .int x1), (2, .int x2)] [] (mm_w cI ad g ++ R) := by
  intro n
  induction n with
  | zero => exact fun _ _ _ h => absurd (show (none : Option dl_Sg) = some _ from h) (by intro q; cases q)
  | succ n ih =>
    intro x1 x2 g h
    rw [mo_changed_b21] at h
    refine dl_iload_n (pc := 21) C 2 dX12_changed_21 rfl rfl ?_
    refine dl_aload_n (pc := 22) C 0 dX12_changed_22 rfl rfl ?_
    refine dl_get (pc := 23) C hin_X12_changed_X12 0 mm_a0 rfl 9 (by decide) lk_X12_changed_83 rfl rfl dX12_changed_23 ?_
    refine dl_icmp_ge (pc := 26) C 49 dX12_changed_26 (by decide) h (fun q3 h => ?_) (fun q3 h => ?_)
    · refine dl_sub [0, 1] rfl ?_
      exact mo_changed_t49 l D cI TY hTY nw N ad R C hQ  _ _ h
    · refine dl_aload_n (pc := 29) C 0 dX12_changed_29 rfl rfl ?_
      refine dl_get (pc := 30) C hin_X12_changed_X12 0 mm_a0 rfl 10 (by decide) lk_X12_changed_25 rfl rfl dX12_changed_30 ?_
      refine dl_iload_n (pc := 33) C 2 dX12_changed_33 rfl rfl ?_
      refine dl_aload_n (pc := 34) C 0 dX12_changed_34 rfl rfl ?_
      refine dl_get (pc := 35) C hin_X12_changed_X12 0 mm_a0 rfl 10 (by decide) lk_X12_changed_25 rfl rfl dX12_changed_35 ?_
      refine dl_iload_n (pc := 38) C 2 dX12_changed_38 rfl rfl ?_
      refine dl_iconst (pc := 39) C 1 dX12_changed_39 (by decide) ?_
      refine dl_iadd (pc := 40) C dX12_changed_40 ?_
      obtain ⟨h0, h⟩ := dl_gd_some h
      refine dl_iald (pc := 41) C 6 0 mm_a10 hTY h0 dX12_changed_41 ?_
      obtain ⟨h0, h⟩ := dl_gd_some h
      refine dl_iast (pc := 42) C 6 0 mm_a10 hTY h0 dX12_changed_42 mm_s10 ?_
      obtain ⟨g1, h, hg⟩ := dl_nm_some h
      rw [← hg]
      clear hg
      refine dl_iinc (pc := 43) C 2 (fun v2 => [(2, .int v2), (0, .ref (ad 0)), (1, .int x1)]) dX12_changed_43 rfl rfl (by decide) (fun _ => rfl) h (fun v2 h => ?_)
      refine dl_goto (pc := 46) C 21 dX12_changed_46 (by decide) ?_
      refine dl_sub [1, 2, 0] rfl ?_
      exact ih _ _ _ h
set_option maxHeartbeats 4000000 in
set_option maxRecDepth 100000 in
theorem cmo_changed (l : Launch) (D : va_G) (cI : ClassId) (TY : dl_TY) (hTY : TY[0]? = some (cI, .int)) (nw : List Cond) (N : Nat) (ad : Nat → Nat) (R : va_W) (g : dl_Sg) (x1 : Int32) {g0 : dl_Sg} (h : mo_changed N g x1 = some g0) : dl_CtV l D TY nw yX12_changed wsX12_changed { frames := 0, cells := 0, slots := 0, locals := 0 } 0 0 [.ref (ad 0), .int x1] (mm_w cI ad g ++ R) (fun u => u = mm_w cI ad g0 ++ R) := by
  refine dl_metV [(0, .ref (ad 0)), (1, .int x1)] (by decide) rfl (Nat.le_of_ble_eq_true rfl) rfl ?_
  intro p e s m args below meth c Q A C hQ
  unfold mo_changed at h
  refine dl_aload_n (pc := 0) C 0 dX12_changed_0 rfl rfl ?_
  refine dl_get (pc := 1) C hin_X12_changed_X12 0 mm_a0 rfl 9 (by decide) lk_X12_changed_83 rfl rfl dX12_changed_1 ?_
  refine dl_bipush (pc := 4) C 10 dX12_changed_4 (by decide) ?_
  refine dl_icmp_ne (pc := 6) C 49 dX12_changed_6 (by decide) h (fun q3 h => ?_) (fun q3 h => ?_)
  · refine dl_aload_n (pc := 9) C 0 dX12_changed_9 rfl rfl ?_
    refine dl_dup (pc := 10) C dX12_changed_10 rfl ?_
    refine dl_get (pc := 11) C hin_X12_changed_X12 0 mm_a0 rfl 9 (by decide) lk_X12_changed_83 rfl rfl dX12_changed_11 ?_
    refine dl_iconst (pc := 14) C 1 dX12_changed_14 (by decide) ?_
    refine dl_isub (pc := 15) C dX12_changed_15 ?_
    refine dl_put (pc := 16) C hin_X12_changed_X12 tyX12 tyX12_ok nmX12 0 mm_a0 rfl 9 (by decide) lk_X12_changed_83 rfl rfl (ty := .int) rfl (vp_nar_int _) rfl (Nat.le_of_ble_eq_true rfl) dX12_changed_16 mm_p0_9 ?_
    obtain ⟨g1, h, hg⟩ := dl_nm_some h
    rw [← hg]
    clear hg
    refine dl_iconst (pc := 19) C 0 dX12_changed_19 (by decide) ?_
    refine dl_istore_n (pc := 20) C (fun v2 => [(2, .int v2), (0, .ref (ad 0)), (1, .int x1)]) dX12_changed_20 rfl (by decide) (fun _ => rfl) h (fun v2 h => ?_)
    refine dl_sub [1, 2, 0] rfl ?_
    exact mo_changed_t21 l D cI TY hTY nw N ad R C hQ N _ _ _ h
  · refine dl_sub [0, 1] rfl ?_
    exact mo_changed_t49 l D cI TY hTY nw N ad R C hQ  _ _ h
theorem hin_X12_place_X12 : ∀ w ∈ u_ws RX12 TX12 32, w ∈ wsX12_place := fun _ h => List.mem_cons_of_mem _ (List.mem_append_right _ h)
theorem lk_X12_place_7 : Cond.fieldLink (yX12_place).cls 7 "DripLinesModel" (TX12 1).2.1 (TX12 1).2.2.1 ∈ wsX12_place := by decide +kernel
theorem lk_X12_place_13 : Cond.fieldLink (yX12_place).cls 13 "DripLinesModel" (TX12 2).2.1 (TX12 2).2.2.1 ∈ wsX12_place := by decide +kernel
theorem lk_X12_place_69 : Cond.fieldLink (yX12_place).cls 69 "DripLinesModel" (TX12 0).2.1 (TX12 0).2.2.1 ∈ wsX12_place := by decide +kernel
set_option maxHeartbeats 4000000 in
set_option maxRecDepth 100000 in
theorem mo_place_t127 {p : Program} {e : Env} {s : State} {m : MethodId} {args : Array Value} {below : List Frame} {meth : Method} {c : Code} {Q : State → Prop} {A : Nat → Prop} (l : Launch) (D : va_G) (cI : ClassId) (TY : dl_TY) (hTY : TY[0]? = some (cI, .int)) (nw : List Cond) (N : Nat) (ad : Nat → Nat) (R : va_W) {r0 : Int32} {g0 : dl_Sg} (C : dl_Cx p s m args c A D TY nw cX12_place 5 yX12_place.cls wsX12_place) (hQ : dl_RtI p l e (headSpec wsX12_place { frames := 1, cells := 0, slots := 0, locals := 22 }).room s m args below meth c Q A D cX12_place 5 0 0 .int (fun r u => r = r0 ∧ u = mm_w cI ad g0 ++ R)) (y1 : Int32) (y2 : Int32) (g : dl_Sg) (h : mo_place_b127 N y1 y2 g = some (r0, g0)) : dl_At p l e (headSpec wsX12_place { frames := 1, cells := 0, slots := 0, locals := 22 }).room s m args below meth c Q A D 5 0 0 127 [(0, .ref (ad 0))] [.int y2, .int y1, .ref (ad 2)] (mm_w cI ad g ++ R) := by
  unfold mo_place_b127 at h
  obtain ⟨h0, h⟩ := dl_gd_some h
  refine dl_iast (pc := 127) C 2 0 mm_a2 hTY h0 dX12_place_127 mm_s2 ?_
  obtain ⟨g1, h, hg⟩ := dl_nm_some h
  rw [← hg]
  clear hg
  refine dl_aload_n (pc := 128) C 0 dX12_place_128 rfl rfl ?_
  refine dl_dup (pc := 129) C dX12_place_129 rfl ?_
  refine dl_get (pc := 130) C hin_X12_place_X12 0 mm_a0 rfl 0 (by decide) lk_X12_place_69 rfl rfl dX12_place_130 ?_
  refine dl_iconst (pc := 133) C 1 dX12_place_133 (by decide) ?_
  refine dl_iadd (pc := 134) C dX12_place_134 ?_
  refine dl_put (pc := 135) C hin_X12_place_X12 tyX12 tyX12_ok nmX12 0 mm_a0 rfl 0 (by decide) lk_X12_place_69 rfl rfl (ty := .int) rfl (vp_nar_int _) rfl (Nat.le_of_ble_eq_true rfl) dX12_place_135 mm_p0_0 ?_
  obtain ⟨g2, h, hg⟩ := dl_nm_some h
  rw [← hg]
  clear hg
  refine dl_aload_n (pc := 138) C 0 dX12_place_138 rfl rfl ?_
  refine dl_iconst (pc := 139) C 1 dX12_place_139 (by decide) ?_
  obtain ⟨g3, h1, h⟩ := dl_bi_some h
  refine dl_vV0 (pc := 140) C (cmo_changed l D cI TY hTY nw N ad R _ _ h1) (cwV 1 C.2.2.2.2.1 gX12_place_X12_changed rfl rfl rfl (by decide +kernel) ⟨Nat.le_of_ble_eq_true rfl, Nat.le_of_ble_eq_true rfl⟩) 0 12 mm_a0 rfl rfl rfl (Nat.le_of_ble_eq_true rfl) dX12_place_140 ⟨Nat.zero_le _, Nat.zero_le _⟩ (fun u hp => ?_)
  subst hp
  refine dl_aload_n (pc := 143) C 0 dX12_place_143 rfl rfl ?_
  refine dl_aload_n (pc := 144) C 0 dX12_place_144 rfl rfl ?_
  refine dl_get (pc := 145) C hin_X12_place_X12 0 mm_a0 rfl 0 (by decide) lk_X12_place_69 rfl rfl dX12_place_145 ?_
  refine dl_iconst (pc := 148) C 1 dX12_place_148 (by decide) ?_
  refine dl_isub (pc := 149) C dX12_place_149 ?_
  obtain ⟨r4, g5, h1, h⟩ := dl_b2_some h
  refine dl_vI0 (pc := 150) C (cmo_done l D cI TY hTY nw ad R _ _ h1) (cwV 1 C.2.2.2.2.1 gX12_place_X12_done rfl rfl rfl (by decide +kernel) ⟨Nat.le_of_ble_eq_true rfl, Nat.le_of_ble_eq_true rfl⟩) 0 12 mm_a0 rfl rfl rfl (Nat.le_of_ble_eq_true rfl) dX12_place_150 ⟨Nat.zero_le _, Nat.zero_le _⟩ (fun r u hp => ?_)
  obtain ⟨rfl, rfl⟩ := hp
  exact hQ 153 _ _ _ ⟨(dl_r2 h).1, by rw [(dl_r2 h).2]⟩ (vp_nar_int _) dX12_place_153
set_option maxHeartbeats 4000000 in
set_option maxRecDepth 100000 in
theorem mo_place_t94 {p : Program} {e : Env} {s : State} {m : MethodId} {args : Array Value} {below : List Frame} {meth : Method} {c : Code} {Q : State → Prop} {A : Nat → Prop} (l : Launch) (D : va_G) (cI : ClassId) (TY : dl_TY) (hTY : TY[0]? = some (cI, .int)) (nw : List Cond) (N : Nat) (ad : Nat → Nat) (R : va_W) {r0 : Int32} {g0 : dl_Sg} (C : dl_Cx p s m args c A D TY nw cX12_place 5 yX12_place.cls wsX12_place) (hQ : dl_RtI p l e (headSpec wsX12_place { frames := 1, cells := 0, slots := 0, locals := 22 }).room s m args below meth c Q A D cX12_place 5 0 0 .int (fun r u => r = r0 ∧ u = mm_w cI ad g0 ++ R)) {k63 : Int32 → Int32 → Int32 → Int32 → dl_Sg → Option (Int32 × dl_Sg)} (hk63 : ∀ (x1 : Int32) (x2 : Int32) (x3 : Int32) (x4 : Int32) (g : dl_Sg), k63 x1 x2 x3 x4 g = some (r0, g0) → dl_At p l e (headSpec wsX12_place { frames := 1, cells := 0, slots := 0, locals := 22 }).room s m args below meth c Q A D 5 0 0 63 [(0, .ref (ad 0)), (1, .int x1), (2, .int x2), (3, .int x3), (4, .int x4)] [] (mm_w cI ad g ++ R)) (x1 : Int32) (x2 : Int32) (x3 : Int32) (x4 : Int32) (g : dl_Sg) (h : mo_place_b94 N k63 x1 x2 x3 x4 g = some (r0, g0)) : dl_At p l e (headSpec wsX12_place { frames := 1, cells := 0, slots := 0, locals := 22 }).room s m args below meth c Q A D 5 0 0 94 [(0, .ref (ad 0)), (1, .int x1), (2, .int x2), (3, .int x3), (4, .int x4)] [] (mm_w cI ad g ++ R) := by
  unfold mo_place_b94 at h
  refine dl_iinc (pc := 94) C 4 (fun v1 => [(4, .int v1), (0, .ref (ad 0)), (1, .int x1), (2, .int x2), (3, .int x3)]) dX12_place_94 rfl rfl (by decide) (fun _ => rfl) h (fun v1 h => ?_)
  refine dl_goto (pc := 97) C 63 dX12_place_97 (by decide) ?_
  refine dl_sub [1, 2, 3, 4, 0] rfl ?_
  exact hk63 _ _ _ _ _ h
set_option maxHeartbeats 4000000 in
set_option maxRecDepth 100000 in
theorem mo_place_t63 {p : Program} {e : Env} {s : State} {m : MethodId} {args : Array Value} {below : List Frame} {meth : Method} {c : Code} {Q : State → Prop} {A : Nat → Prop} (l : Launch) (D : va_G) (cI : ClassId) (TY : dl_TY) (hTY : TY[0]? = some (cI, .int)) (nw : List Cond) (N : Nat) (ad : Nat → Nat) (R : va_W) {r0 : Int32} {g0 : dl_Sg} (C : dl_Cx p s m args c A D TY nw cX12_place 5 yX12_place.cls wsX12_place) (hQ : dl_RtI p l e (headSpec wsX12_place { frames := 1, cells := 0, slots := 0, locals := 22 }).room s m args below meth c Q A D cX12_place 5 0 0 .int (fun r u => r = r0 ∧ u = mm_w cI ad g0 ++ R)) : ∀ (n : Nat) (x1 : Int32) (x2 : Int32) (x3 : Int32) (x4 : Int32) (g : dl_Sg), mo_place_b63 N n x1 x2 x3 x4 g = some (r0, g0) → dl_At p l e (headSpec wsX12_place { frames := 1, cells := 0, slots := 0, locals := 22 }).room s m args below meth c Q A D 5 0 0 63 [(0, .ref (ad 0)), (1, .int x1), (2, .int x2), (3, .int x3), (4, .int x4)] [] (mm_w cI ad g ++ R) := by
  intro n
  induction n with
  | zero => exact fun _ _ _ _ _ h => absurd (show (none : Option (Int32 × dl_Sg)) = some _ from h) (by intro q; cases q)
  | succ n ih =>
    intro x1 x2 x3 x4 g h
    rw [mo_place_b63] at h
    refine dl_iload (pc := 63) C 4 dX12_place_63 rfl ?_
    refine dl_aload_n (pc := 65) C 0 dX12_place_65 rfl rfl ?_
    refine dl_get (pc := 66) C hin_X12_place_X12 0 mm_a0 rfl 0 (by decide) lk_X12_place_69 rfl rfl dX12_place_66 ?_
    refine dl_icmp_ge (pc := 69) C 100 dX12_place_69 (by decide) h (fun q7 h => ?_) (fun q7 h => ?_)
    · refine dl_aload_n (pc := 100) C 0 dX12_place_100 rfl rfl ?_
      refine dl_get (pc := 101) C hin_X12_place_X12 0 mm_a0 rfl 1 (by decide) lk_X12_place_7 rfl rfl dX12_place_101 ?_
      refine dl_aload_n (pc := 104) C 0 dX12_place_104 rfl rfl ?_
      refine dl_get (pc := 105) C hin_X12_place_X12 0 mm_a0 rfl 0 (by decide) lk_X12_place_69 rfl rfl dX12_place_105 ?_
      refine dl_iload_n (pc := 108) C 1 dX12_place_108 rfl rfl ?_
      obtain ⟨h0, h⟩ := dl_gd_some h
      refine dl_iast (pc := 109) C 1 0 mm_a1 hTY h0 dX12_place_109 mm_s1 ?_
      obtain ⟨g1, h, hg⟩ := dl_nm_some h
      rw [← hg]
      clear hg
      refine dl_aload_n (pc := 110) C 0 dX12_place_110 rfl rfl ?_
      refine dl_get (pc := 111) C hin_X12_place_X12 0 mm_a0 rfl 2 (by decide) lk_X12_place_13 rfl rfl dX12_place_111 ?_
      refine dl_aload_n (pc := 114) C 0 dX12_place_114 rfl rfl ?_
      refine dl_get (pc := 115) C hin_X12_place_X12 0 mm_a0 rfl 0 (by decide) lk_X12_place_69 rfl rfl dX12_place_115 ?_
      refine dl_iload_n (pc := 118) C 3 dX12_place_118 rfl rfl ?_
      refine dl_if_eq (pc := 119) C 126 dX12_place_119 (by decide) h (fun q2 h => ?_) (fun q2 h => ?_)
      · refine dl_iconst (pc := 126) C 0 dX12_place_126 (by decide) ?_
        refine dl_sub [0] rfl ?_
        exact mo_place_t127 l D cI TY hTY nw N ad R C hQ  _ _ _ h
      · refine dl_iload_n (pc := 122) C 2 dX12_place_122 rfl rfl ?_
        refine dl_goto (pc := 123) C 127 dX12_place_123 (by decide) ?_
        refine dl_sub [0] rfl ?_
        exact mo_place_t127 l D cI TY hTY nw N ad R C hQ  _ _ _ h
    · refine dl_iload_n (pc := 72) C 1 dX12_place_72 rfl rfl ?_
      refine dl_iconst (pc := 73) C 3 dX12_place_73 (by decide) ?_
      refine dl_icmp_ne (pc := 74) C 94 dX12_place_74 (by decide) h (fun q6 h => ?_) (fun q6 h => ?_)
      · refine dl_aload_n (pc := 77) C 0 dX12_place_77 rfl rfl ?_
        refine dl_get (pc := 78) C hin_X12_place_X12 0 mm_a0 rfl 1 (by decide) lk_X12_place_7 rfl rfl dX12_place_78 ?_
        refine dl_iload (pc := 81) C 4 dX12_place_81 rfl ?_
        obtain ⟨h0, h⟩ := dl_gd_some h
        refine dl_iald (pc := 83) C 1 0 mm_a1 hTY h0 dX12_place_83 ?_
        refine dl_iconst (pc := 84) C 3 dX12_place_84 (by decide) ?_
        refine dl_icmp_ne (pc := 85) C 94 dX12_place_85 (by decide) h (fun q5 h => ?_) (fun q5 h => ?_)
        · refine dl_aload_n (pc := 88) C 0 dX12_place_88 rfl rfl ?_
          refine dl_iconst (pc := 89) C 3 dX12_place_89 (by decide) ?_
          obtain ⟨r3, g4, h1, h⟩ := dl_b2_some h
          refine dl_vI0 (pc := 90) C (cmo_refused l D cI TY hTY nw ad R _ _ h1) (cwV 1 C.2.2.2.2.1 gX12_place_X12_refused rfl rfl rfl (by decide +kernel) ⟨Nat.le_of_ble_eq_true rfl, Nat.le_of_ble_eq_true rfl⟩) 0 12 mm_a0 rfl rfl rfl (Nat.le_of_ble_eq_true rfl) dX12_place_90 ⟨Nat.zero_le _, Nat.zero_le _⟩ (fun r u hp => ?_)
          obtain ⟨rfl, rfl⟩ := hp
          exact hQ 93 _ _ _ ⟨(dl_r2 h).1, by rw [(dl_r2 h).2]⟩ (vp_nar_int _) dX12_place_93
        · refine dl_sub [0, 1, 2, 3, 4] rfl ?_
          exact mo_place_t94 l D cI TY hTY nw N ad R C hQ ih  _ _ _ _ _ h
      · refine dl_sub [0, 1, 2, 3, 4] rfl ?_
        exact mo_place_t94 l D cI TY hTY nw N ad R C hQ ih  _ _ _ _ _ h
set_option maxHeartbeats 4000000 in
set_option maxRecDepth 100000 in
theorem mo_place_t45 {p : Program} {e : Env} {s : State} {m : MethodId} {args : Array Value} {below : List Frame} {meth : Method} {c : Code} {Q : State → Prop} {A : Nat → Prop} (l : Launch) (D : va_G) (cI : ClassId) (TY : dl_TY) (hTY : TY[0]? = some (cI, .int)) (nw : List Cond) (N : Nat) (ad : Nat → Nat) (R : va_W) {r0 : Int32} {g0 : dl_Sg} (C : dl_Cx p s m args c A D TY nw cX12_place 5 yX12_place.cls wsX12_place) (hQ : dl_RtI p l e (headSpec wsX12_place { frames := 1, cells := 0, slots := 0, locals := 22 }).room s m args below meth c Q A D cX12_place 5 0 0 .int (fun r u => r = r0 ∧ u = mm_w cI ad g0 ++ R)) (x1 : Int32) (x2 : Int32) (x3 : Int32) (g : dl_Sg) (h : mo_place_b45 N x1 x2 x3 g = some (r0, g0)) : dl_At p l e (headSpec wsX12_place { frames := 1, cells := 0, slots := 0, locals := 22 }).room s m args below meth c Q A D 5 0 0 45 [(0, .ref (ad 0)), (1, .int x1), (2, .int x2), (3, .int x3)] [] (mm_w cI ad g ++ R) := by
  unfold mo_place_b45 at h
  refine dl_aload_n (pc := 45) C 0 dX12_place_45 rfl rfl ?_
  refine dl_get (pc := 46) C hin_X12_place_X12 0 mm_a0 rfl 0 (by decide) lk_X12_place_69 rfl rfl dX12_place_46 ?_
  refine dl_bipush (pc := 49) C 10 dX12_place_49 (by decide) ?_
  refine dl_icmp_ne (pc := 51) C 60 dX12_place_51 (by decide) h (fun q4 h => ?_) (fun q4 h => ?_)
  · refine dl_aload_n (pc := 54) C 0 dX12_place_54 rfl rfl ?_
    refine dl_iconst (pc := 55) C 2 dX12_place_55 (by decide) ?_
    obtain ⟨r1, g2, h1, h⟩ := dl_b2_some h
    refine dl_vI0 (pc := 56) C (cmo_refused l D cI TY hTY nw ad R _ _ h1) (cwV 1 C.2.2.2.2.1 gX12_place_X12_refused rfl rfl rfl (by decide +kernel) ⟨Nat.le_of_ble_eq_true rfl, Nat.le_of_ble_eq_true rfl⟩) 0 12 mm_a0 rfl rfl rfl (Nat.le_of_ble_eq_true rfl) dX12_place_56 ⟨Nat.zero_le _, Nat.zero_le _⟩ (fun r u hp => ?_)
    obtain ⟨rfl, rfl⟩ := hp
    exact hQ 59 _ _ _ ⟨(dl_r2 h).1, by rw [(dl_r2 h).2]⟩ (vp_nar_int _) dX12_place_59
  · refine dl_iconst (pc := 60) C 0 dX12_place_60 (by decide) ?_
    refine dl_istore (pc := 61) C (fun v3 => [(4, .int v3), (0, .ref (ad 0)), (1, .int x1), (2, .int x2), (3, .int x3)]) dX12_place_61 (by decide) (fun _ => rfl) h (fun v3 h => ?_)
    refine dl_sub [1, 2, 3, 4, 0] rfl ?_
    exact mo_place_t63 l D cI TY hTY nw N ad R C hQ N _ _ _ _ _ h
set_option maxHeartbeats 4000000 in
set_option maxRecDepth 100000 in
theorem mo_place_t39 {p : Program} {e : Env} {s : State} {m : MethodId} {args : Array Value} {below : List Frame} {meth : Method} {c : Code} {Q : State → Prop} {A : Nat → Prop} (l : Launch) (D : va_G) (cI : ClassId) (TY : dl_TY) (hTY : TY[0]? = some (cI, .int)) (nw : List Cond) (N : Nat) (ad : Nat → Nat) (R : va_W) {r0 : Int32} {g0 : dl_Sg} (C : dl_Cx p s m args c A D TY nw cX12_place 5 yX12_place.cls wsX12_place) (hQ : dl_RtI p l e (headSpec wsX12_place { frames := 1, cells := 0, slots := 0, locals := 22 }).room s m args below meth c Q A D cX12_place 5 0 0 .int (fun r u => r = r0 ∧ u = mm_w cI ad g0 ++ R)) (g : dl_Sg) (h : mo_place_b39 N  g = some (r0, g0)) : dl_At p l e (headSpec wsX12_place { frames := 1, cells := 0, slots := 0, locals := 22 }).room s m args below meth c Q A D 5 0 0 39 [(0, .ref (ad 0))] [] (mm_w cI ad g ++ R) := by
  unfold mo_place_b39 at h
  refine dl_aload_n (pc := 39) C 0 dX12_place_39 rfl rfl ?_
  refine dl_iconst (pc := 40) C 1 dX12_place_40 (by decide) ?_
  obtain ⟨r1, g2, h1, h⟩ := dl_b2_some h
  refine dl_vI0 (pc := 41) C (cmo_refused l D cI TY hTY nw ad R _ _ h1) (cwV 1 C.2.2.2.2.1 gX12_place_X12_refused rfl rfl rfl (by decide +kernel) ⟨Nat.le_of_ble_eq_true rfl, Nat.le_of_ble_eq_true rfl⟩) 0 12 mm_a0 rfl rfl rfl (Nat.le_of_ble_eq_true rfl) dX12_place_41 ⟨Nat.zero_le _, Nat.zero_le _⟩ (fun r u hp => ?_)
  obtain ⟨rfl, rfl⟩ := hp
  exact hQ 44 _ _ _ ⟨(dl_r2 h).1, by rw [(dl_r2 h).2]⟩ (vp_nar_int _) dX12_place_44
set_option maxHeartbeats 4000000 in
set_option maxRecDepth 100000 in
theorem mo_place_t15 {p : Program} {e : Env} {s : State} {m : MethodId} {args : Array Value} {below : List Frame} {meth : Method} {c : Code} {Q : State → Prop} {A : Nat → Prop} (l : Launch) (D : va_G) (cI : ClassId) (TY : dl_TY) (hTY : TY[0]? = some (cI, .int)) (nw : List Cond) (N : Nat) (ad : Nat → Nat) (R : va_W) {r0 : Int32} {g0 : dl_Sg} (C : dl_Cx p s m args c A D TY nw cX12_place 5 yX12_place.cls wsX12_place) (hQ : dl_RtI p l e (headSpec wsX12_place { frames := 1, cells := 0, slots := 0, locals := 22 }).room s m args below meth c Q A D cX12_place 5 0 0 .int (fun r u => r = r0 ∧ u = mm_w cI ad g0 ++ R)) (x1 : Int32) (x2 : Int32) (y0 : Int32) (g : dl_Sg) (h : mo_place_b15 N x1 x2 y0 g = some (r0, g0)) : dl_At p l e (headSpec wsX12_place { frames := 1, cells := 0, slots := 0, locals := 22 }).room s m args below meth c Q A D 5 0 0 15 [(0, .ref (ad 0)), (1, .int x1), (2, .int x2)] [.int y0] (mm_w cI ad g ++ R) := by
  unfold mo_place_b15 at h
  refine dl_istore_n (pc := 15) C (fun v1 => [(3, .int v1), (0, .ref (ad 0)), (1, .int x1), (2, .int x2)]) dX12_place_15 rfl (by decide) (fun _ => rfl) h (fun v1 h => ?_)
  refine dl_iload_n (pc := 16) C 2 dX12_place_16 rfl rfl ?_
  refine dl_iconst (pc := 17) C 0 dX12_place_17 (by decide) ?_
  refine dl_iconst (pc := 18) C 4 dX12_place_18 (by decide) ?_
  obtain ⟨r2, h1, h⟩ := dl_bi_some h
  refine dl_sI0 (pc := 19) C (cmo_in l D TY nw _ _ _ _ h1) (va_cwS 3 C.2.2.2.2.1 gX12_place_X12_in rfl rfl rfl (by decide +kernel) ⟨Nat.le_of_ble_eq_true rfl, Nat.le_of_ble_eq_true rfl⟩) rfl rfl (Nat.le_of_ble_eq_true rfl) dX12_place_19 ⟨Nat.zero_le _, Nat.zero_le _⟩ (fun r u hp => ?_)
  obtain ⟨rfl, hu⟩ := hp
  rw [hu]
  clear hu
  refine dl_if_eq (pc := 22) C 39 dX12_place_22 (by decide) h (fun q6 h => ?_) (fun q6 h => ?_)
  · refine dl_sub [1] rfl ?_
    exact mo_place_t39 l D cI TY hTY nw N ad R C hQ  _ h
  · refine dl_iload_n (pc := 25) C 0 dX12_place_25 rfl rfl ?_
    refine dl_if_eq (pc := 26) C 45 dX12_place_26 (by decide) h (fun q5 h => ?_) (fun q5 h => ?_)
    · refine dl_sub [1, 2, 3, 0] rfl ?_
      exact mo_place_t45 l D cI TY hTY nw N ad R C hQ  _ _ _ _ h
    · refine dl_iload_n (pc := 29) C 3 dX12_place_29 rfl rfl ?_
      refine dl_iconst (pc := 30) C 1 dX12_place_30 (by decide) ?_
      refine dl_bipush (pc := 31) C 100 dX12_place_31 (by decide) ?_
      obtain ⟨r3, h1, h⟩ := dl_bi_some h
      refine dl_sI0 (pc := 33) C (cmo_in l D TY nw _ _ _ _ h1) (va_cwS 3 C.2.2.2.2.1 gX12_place_X12_in rfl rfl rfl (by decide +kernel) ⟨Nat.le_of_ble_eq_true rfl, Nat.le_of_ble_eq_true rfl⟩) rfl rfl (Nat.le_of_ble_eq_true rfl) dX12_place_33 ⟨Nat.zero_le _, Nat.zero_le _⟩ (fun r u hp => ?_)
      obtain ⟨rfl, hu⟩ := hp
      rw [hu]
      clear hu
      refine dl_if_ne (pc := 36) C 45 dX12_place_36 (by decide) h (fun q4 h => ?_) (fun q4 h => ?_)
      · refine dl_sub [1] rfl ?_
        exact mo_place_t39 l D cI TY hTY nw N ad R C hQ  _ h
      · refine dl_sub [1, 2, 3, 0] rfl ?_
        exact mo_place_t45 l D cI TY hTY nw N ad R C hQ  _ _ _ _ h
set_option maxHeartbeats 4000000 in
set_option maxRecDepth 100000 in
theorem mo_place_t10 {p : Program} {e : Env} {s : State} {m : MethodId} {args : Array Value} {below : List Frame} {meth : Method} {c : Code} {Q : State → Prop} {A : Nat → Prop} (l : Launch) (D : va_G) (cI : ClassId) (TY : dl_TY) (hTY : TY[0]? = some (cI, .int)) (nw : List Cond) (N : Nat) (ad : Nat → Nat) (R : va_W) {r0 : Int32} {g0 : dl_Sg} (C : dl_Cx p s m args c A D TY nw cX12_place 5 yX12_place.cls wsX12_place) (hQ : dl_RtI p l e (headSpec wsX12_place { frames := 1, cells := 0, slots := 0, locals := 22 }).room s m args below meth c Q A D cX12_place 5 0 0 .int (fun r u => r = r0 ∧ u = mm_w cI ad g0 ++ R)) (x1 : Int32) (x2 : Int32) (g : dl_Sg) (h : mo_place_b10 N x1 x2 g = some (r0, g0)) : dl_At p l e (headSpec wsX12_place { frames := 1, cells := 0, slots := 0, locals := 22 }).room s m args below meth c Q A D 5 0 0 10 [(0, .ref (ad 0)), (1, .int x1), (2, .int x2)] [] (mm_w cI ad g ++ R) := by
  unfold mo_place_b10 at h
  refine dl_iconst (pc := 10) C 1 dX12_place_10 (by decide) ?_
  refine dl_goto (pc := 11) C 15 dX12_place_11 (by decide) ?_
  refine dl_sub [0, 1, 2] rfl ?_
  exact mo_place_t15 l D cI TY hTY nw N ad R C hQ  _ _ _ _ h
set_option maxHeartbeats 4000000 in
set_option maxRecDepth 100000 in
theorem cmo_place (l : Launch) (D : va_G) (cI : ClassId) (TY : dl_TY) (hTY : TY[0]? = some (cI, .int)) (nw : List Cond) (N : Nat) (ad : Nat → Nat) (R : va_W) (g : dl_Sg) (x1 : Int32) (x2 : Int32) {r0 : Int32} {g0 : dl_Sg} (h : mo_place N g x1 x2 = some (r0, g0)) : dl_CtI l D TY nw yX12_place wsX12_place { frames := 1, cells := 0, slots := 0, locals := 22 } 0 0 [.ref (ad 0), .int x1, .int x2] (mm_w cI ad g ++ R) (fun r u => r = r0 ∧ u = mm_w cI ad g0 ++ R) := by
  refine dl_metI (ty := .int) [(0, .ref (ad 0)), (1, .int x1), (2, .int x2)] (by decide) rfl (Nat.le_of_ble_eq_true rfl) rfl ?_
  intro p e s m args below meth c Q A C hQ
  unfold mo_place at h
  refine dl_iload_n (pc := 0) C 1 dX12_place_0 rfl rfl ?_
  refine dl_iconst (pc := 1) C 2 dX12_place_1 (by decide) ?_
  refine dl_icmp_eq (pc := 2) C 10 dX12_place_2 (by decide) h (fun q2 h => ?_) (fun q2 h => ?_)
  · refine dl_sub [0, 1, 2] rfl ?_
    exact mo_place_t10 l D cI TY hTY nw N ad R C hQ  _ _ _ h
  · refine dl_iload_n (pc := 5) C 1 dX12_place_5 rfl rfl ?_
    refine dl_iconst (pc := 6) C 4 dX12_place_6 (by decide) ?_
    refine dl_icmp_ne (pc := 7) C 14 dX12_place_7 (by decide) h (fun q1 h => ?_) (fun q1 h => ?_)
    · refine dl_sub [0, 1, 2] rfl ?_
      exact mo_place_t10 l D cI TY hTY nw N ad R C hQ  _ _ _ h
    · refine dl_iconst (pc := 14) C 0 dX12_place_14 (by decide) ?_
      refine dl_sub [0, 1, 2] rfl ?_
      exact mo_place_t15 l D cI TY hTY nw N ad R C hQ  _ _ _ _ h
theorem hin_X12_made_X12 : ∀ w ∈ u_ws RX12 TX12 32, w ∈ wsX12_made := fun _ h => List.mem_cons_of_mem _ (List.mem_append_right _ h)
theorem lk_X12_made_16 : Cond.fieldLink (yX12_made).cls 16 "DripLinesModel" (TX12 4).2.1 (TX12 4).2.2.1 ∈ wsX12_made := by decide +kernel
theorem lk_X12_made_19 : Cond.fieldLink (yX12_made).cls 19 "DripLinesModel" (TX12 5).2.1 (TX12 5).2.2.1 ∈ wsX12_made := by decide +kernel
theorem lk_X12_made_22 : Cond.fieldLink (yX12_made).cls 22 "DripLinesModel" (TX12 6).2.1 (TX12 6).2.2.1 ∈ wsX12_made := by decide +kernel
theorem lk_X12_made_76 : Cond.fieldLink (yX12_made).cls 76 "DripLinesModel" (TX12 3).2.1 (TX12 3).2.2.1 ∈ wsX12_made := by decide +kernel
theorem lk_X12_made_101 : Cond.fieldLink (yX12_made).cls 101 "DripLinesModel" (TX12 7).2.1 (TX12 7).2.2.1 ∈ wsX12_made := by decide +kernel
set_option maxHeartbeats 4000000 in
set_option maxRecDepth 100000 in
theorem cmo_made (l : Launch) (D : va_G) (cI : ClassId) (TY : dl_TY) (hTY : TY[0]? = some (cI, .int)) (nw : List Cond) (N : Nat) (ad : Nat → Nat) (R : va_W) (g : dl_Sg) (x1 : Int32) (x2 : Int32) (x3 : Int32) {r0 : Int32} {g0 : dl_Sg} (h : mo_made N g x1 x2 x3 = some (r0, g0)) : dl_CtI l D TY nw yX12_made wsX12_made { frames := 1, cells := 0, slots := 0, locals := 22 } 0 0 [.ref (ad 0), .int x1, .int x2, .int x3] (mm_w cI ad g ++ R) (fun r u => r = r0 ∧ u = mm_w cI ad g0 ++ R) := by
  refine dl_metI (ty := .int) [(0, .ref (ad 0)), (1, .int x1), (2, .int x2), (3, .int x3)] (by decide) rfl (Nat.le_of_ble_eq_true rfl) rfl ?_
  intro p e s m args below meth c Q A C hQ
  unfold mo_made at h
  refine dl_aload_n (pc := 0) C 0 dX12_made_0 rfl rfl ?_
  refine dl_get (pc := 1) C hin_X12_made_X12 0 mm_a0 rfl 4 (by decide) lk_X12_made_16 rfl rfl dX12_made_1 ?_
  refine dl_aload_n (pc := 4) C 0 dX12_made_4 rfl rfl ?_
  refine dl_get (pc := 5) C hin_X12_made_X12 0 mm_a0 rfl 3 (by decide) lk_X12_made_76 rfl rfl dX12_made_5 ?_
  refine dl_iload_n (pc := 8) C 1 dX12_made_8 rfl rfl ?_
  obtain ⟨h0, h⟩ := dl_gd_some h
  refine dl_iast (pc := 9) C 3 0 mm_a4 hTY h0 dX12_made_9 mm_s4 ?_
  obtain ⟨g1, h, hg⟩ := dl_nm_some h
  rw [← hg]
  clear hg
  refine dl_aload_n (pc := 10) C 0 dX12_made_10 rfl rfl ?_
  refine dl_get (pc := 11) C hin_X12_made_X12 0 mm_a0 rfl 5 (by decide) lk_X12_made_19 rfl rfl dX12_made_11 ?_
  refine dl_aload_n (pc := 14) C 0 dX12_made_14 rfl rfl ?_
  refine dl_get (pc := 15) C hin_X12_made_X12 0 mm_a0 rfl 3 (by decide) lk_X12_made_76 rfl rfl dX12_made_15 ?_
  refine dl_iload_n (pc := 18) C 2 dX12_made_18 rfl rfl ?_
  obtain ⟨h0, h⟩ := dl_gd_some h
  refine dl_iast (pc := 19) C 4 0 mm_a5 hTY h0 dX12_made_19 mm_s5 ?_
  obtain ⟨g2, h, hg⟩ := dl_nm_some h
  rw [← hg]
  clear hg
  refine dl_aload_n (pc := 20) C 0 dX12_made_20 rfl rfl ?_
  refine dl_get (pc := 21) C hin_X12_made_X12 0 mm_a0 rfl 6 (by decide) lk_X12_made_22 rfl rfl dX12_made_21 ?_
  refine dl_aload_n (pc := 24) C 0 dX12_made_24 rfl rfl ?_
  refine dl_get (pc := 25) C hin_X12_made_X12 0 mm_a0 rfl 3 (by decide) lk_X12_made_76 rfl rfl dX12_made_25 ?_
  refine dl_iload_n (pc := 28) C 3 dX12_made_28 rfl rfl ?_
  obtain ⟨h0, h⟩ := dl_gd_some h
  refine dl_iast (pc := 29) C 5 0 mm_a6 hTY h0 dX12_made_29 mm_s6 ?_
  obtain ⟨g3, h, hg⟩ := dl_nm_some h
  rw [← hg]
  clear hg
  refine dl_aload_n (pc := 30) C 0 dX12_made_30 rfl rfl ?_
  refine dl_dup (pc := 31) C dX12_made_31 rfl ?_
  refine dl_get (pc := 32) C hin_X12_made_X12 0 mm_a0 rfl 7 (by decide) lk_X12_made_101 rfl rfl dX12_made_32 ?_
  refine dl_iconst (pc := 35) C 1 dX12_made_35 (by decide) ?_
  refine dl_aload_n (pc := 36) C 0 dX12_made_36 rfl rfl ?_
  refine dl_get (pc := 37) C hin_X12_made_X12 0 mm_a0 rfl 3 (by decide) lk_X12_made_76 rfl rfl dX12_made_37 ?_
  refine dl_ishl (pc := 40) C dX12_made_40 ?_
  refine dl_ior (pc := 41) C dX12_made_41 ?_
  refine dl_put (pc := 42) C hin_X12_made_X12 tyX12 tyX12_ok nmX12 0 mm_a0 rfl 7 (by decide) lk_X12_made_101 rfl rfl (ty := .int) rfl (vp_nar_int _) rfl (Nat.le_of_ble_eq_true rfl) dX12_made_42 mm_p0_7 ?_
  obtain ⟨g4, h, hg⟩ := dl_nm_some h
  rw [← hg]
  clear hg
  refine dl_aload_n (pc := 45) C 0 dX12_made_45 rfl rfl ?_
  refine dl_dup (pc := 46) C dX12_made_46 rfl ?_
  refine dl_get (pc := 47) C hin_X12_made_X12 0 mm_a0 rfl 3 (by decide) lk_X12_made_76 rfl rfl dX12_made_47 ?_
  refine dl_iconst (pc := 50) C 1 dX12_made_50 (by decide) ?_
  refine dl_iadd (pc := 51) C dX12_made_51 ?_
  refine dl_put (pc := 52) C hin_X12_made_X12 tyX12 tyX12_ok nmX12 0 mm_a0 rfl 3 (by decide) lk_X12_made_76 rfl rfl (ty := .int) rfl (vp_nar_int _) rfl (Nat.le_of_ble_eq_true rfl) dX12_made_52 mm_p0_3 ?_
  obtain ⟨g5, h, hg⟩ := dl_nm_some h
  rw [← hg]
  clear hg
  refine dl_aload_n (pc := 55) C 0 dX12_made_55 rfl rfl ?_
  refine dl_iconst (pc := 56) C 2 dX12_made_56 (by decide) ?_
  obtain ⟨g6, h1, h⟩ := dl_bi_some h
  refine dl_vV0 (pc := 57) C (cmo_changed l D cI TY hTY nw N ad R _ _ h1) (cwV 1 C.2.2.2.2.1 gX12_made_X12_changed rfl rfl rfl (by decide +kernel) ⟨Nat.le_of_ble_eq_true rfl, Nat.le_of_ble_eq_true rfl⟩) 0 12 mm_a0 rfl rfl rfl (Nat.le_of_ble_eq_true rfl) dX12_made_57 ⟨Nat.zero_le _, Nat.zero_le _⟩ (fun u hp => ?_)
  subst hp
  refine dl_aload_n (pc := 60) C 0 dX12_made_60 rfl rfl ?_
  refine dl_aload_n (pc := 61) C 0 dX12_made_61 rfl rfl ?_
  refine dl_get (pc := 62) C hin_X12_made_X12 0 mm_a0 rfl 3 (by decide) lk_X12_made_76 rfl rfl dX12_made_62 ?_
  refine dl_iconst (pc := 65) C 1 dX12_made_65 (by decide) ?_
  refine dl_isub (pc := 66) C dX12_made_66 ?_
  obtain ⟨r7, g8, h1, h⟩ := dl_b2_some h
  refine dl_vI0 (pc := 67) C (cmo_done l D cI TY hTY nw ad R _ _ h1) (cwV 1 C.2.2.2.2.1 gX12_made_X12_done rfl rfl rfl (by decide +kernel) ⟨Nat.le_of_ble_eq_true rfl, Nat.le_of_ble_eq_true rfl⟩) 0 12 mm_a0 rfl rfl rfl (Nat.le_of_ble_eq_true rfl) dX12_made_67 ⟨Nat.zero_le _, Nat.zero_le _⟩ (fun r u hp => ?_)
  obtain ⟨rfl, rfl⟩ := hp
  exact hQ 70 _ _ _ ⟨(dl_r2 h).1, by rw [(dl_r2 h).2]⟩ (vp_nar_int _) dX12_made_70
set_option maxHeartbeats 4000000 in
set_option maxRecDepth 100000 in
theorem cmo_isGood (l : Launch) (D : va_G) (cI : ClassId) (TY : dl_TY) (hTY : TY[0]? = some (cI, .int)) (nw : List Cond) (ad : Nat → Nat) (R : va_W) (g : dl_Sg) (x1 : Int32) (x2 : Int32) (x3 : Int32) {r0 : Int32} (h : mo_isGood g x1 x2 x3 = some r0) : dl_CtI l D TY nw yX12_isGood wsX12_isGood { frames := 2, cells := 0, slots := 0, locals := 43 } 0 0 [.ref (ad 0), .int x1, .int x2, .int x3] (mm_w cI ad g ++ R) (fun r u => r = r0 ∧ u = mm_w cI ad g ++ R) := by
  refine dl_metI (ty := .boolean) [(0, .ref (ad 0)), (1, .int x1), (2, .int x2), (3, .int x3)] (by decide) rfl (Nat.le_of_ble_eq_true rfl) rfl ?_
  intro p e s m args below meth c Q A C hQ
  unfold mo_isGood at h
  refine dl_aload_n (pc := 0) C 0 dX12_isGood_0 rfl rfl ?_
  refine dl_iload_n (pc := 1) C 1 dX12_isGood_1 rfl rfl ?_
  obtain ⟨r1, h1, h⟩ := dl_bi_some h
  refine dl_vI0 (pc := 2) C (cmo_isPlace l D cI TY hTY nw ad R _ _ h1) (cwV 1 C.2.2.2.2.1 gX12_isGood_X12_isPlace rfl rfl rfl (by decide +kernel) ⟨Nat.le_of_ble_eq_true rfl, Nat.le_of_ble_eq_true rfl⟩) 0 12 mm_a0 rfl rfl rfl (Nat.le_of_ble_eq_true rfl) dX12_isGood_2 ⟨Nat.zero_le _, Nat.zero_le _⟩ (fun r u hp => ?_)
  obtain ⟨rfl, rfl⟩ := hp
  refine dl_if_eq (pc := 5) C 35 dX12_isGood_5 (by decide) h (fun q7 h => ?_) (fun q7 h => ?_)
  · refine dl_iconst (pc := 35) C 0 dX12_isGood_35 (by decide) ?_
    exact hQ 36 _ _ _ ⟨Option.some.inj h, rfl⟩ rfl dX12_isGood_36
  · refine dl_aload_n (pc := 8) C 0 dX12_isGood_8 rfl rfl ?_
    refine dl_iload_n (pc := 9) C 2 dX12_isGood_9 rfl rfl ?_
    obtain ⟨r2, h1, h⟩ := dl_bi_some h
    refine dl_vI0 (pc := 10) C (cmo_isPlace l D cI TY hTY nw ad R _ _ h1) (cwV 1 C.2.2.2.2.1 gX12_isGood_X12_isPlace rfl rfl rfl (by decide +kernel) ⟨Nat.le_of_ble_eq_true rfl, Nat.le_of_ble_eq_true rfl⟩) 0 12 mm_a0 rfl rfl rfl (Nat.le_of_ble_eq_true rfl) dX12_isGood_10 ⟨Nat.zero_le _, Nat.zero_le _⟩ (fun r u hp => ?_)
    obtain ⟨rfl, rfl⟩ := hp
    refine dl_if_eq (pc := 13) C 35 dX12_isGood_13 (by decide) h (fun q6 h => ?_) (fun q6 h => ?_)
    · refine dl_iconst (pc := 35) C 0 dX12_isGood_35 (by decide) ?_
      exact hQ 36 _ _ _ ⟨Option.some.inj h, rfl⟩ rfl dX12_isGood_36
    · refine dl_iload_n (pc := 16) C 1 dX12_isGood_16 rfl rfl ?_
      refine dl_iload_n (pc := 17) C 2 dX12_isGood_17 rfl rfl ?_
      refine dl_icmp_eq (pc := 18) C 35 dX12_isGood_18 (by decide) h (fun q5 h => ?_) (fun q5 h => ?_)
      · refine dl_iconst (pc := 35) C 0 dX12_isGood_35 (by decide) ?_
        exact hQ 36 _ _ _ ⟨Option.some.inj h, rfl⟩ rfl dX12_isGood_36
      · refine dl_iload_n (pc := 21) C 3 dX12_isGood_21 rfl rfl ?_
        refine dl_iconst (pc := 22) C 1 dX12_isGood_22 (by decide) ?_
        refine dl_bipush (pc := 23) C 100 dX12_isGood_23 (by decide) ?_
        obtain ⟨r3, h1, h⟩ := dl_bi_some h
        refine dl_sI0 (pc := 25) C (cmo_in l D TY nw _ _ _ _ h1) (va_cwS 3 C.2.2.2.2.1 gX12_isGood_X12_in rfl rfl rfl (by decide +kernel) ⟨Nat.le_of_ble_eq_true rfl, Nat.le_of_ble_eq_true rfl⟩) rfl rfl (Nat.le_of_ble_eq_true rfl) dX12_isGood_25 ⟨Nat.zero_le _, Nat.zero_le _⟩ (fun r u hp => ?_)
        obtain ⟨rfl, hu⟩ := hp
        rw [hu]
        clear hu
        refine dl_if_eq (pc := 28) C 35 dX12_isGood_28 (by decide) h (fun q4 h => ?_) (fun q4 h => ?_)
        · refine dl_iconst (pc := 35) C 0 dX12_isGood_35 (by decide) ?_
          exact hQ 36 _ _ _ ⟨Option.some.inj h, rfl⟩ rfl dX12_isGood_36
        · refine dl_iconst (pc := 31) C 1 dX12_isGood_31 (by decide) ?_
          refine dl_goto (pc := 32) C 36 dX12_isGood_32 (by decide) ?_
          exact hQ 36 _ _ _ ⟨Option.some.inj h, rfl⟩ rfl dX12_isGood_36
theorem hin_X12_street_X12 : ∀ w ∈ u_ws RX12 TX12 32, w ∈ wsX12_street := fun _ h => List.mem_cons_of_mem _ (List.mem_append_right _ h)
theorem lk_X12_street_76 : Cond.fieldLink (yX12_street).cls 76 "DripLinesModel" (TX12 3).2.1 (TX12 3).2.2.1 ∈ wsX12_street := by decide +kernel
set_option maxHeartbeats 4000000 in
set_option maxRecDepth 100000 in
theorem cmo_street (l : Launch) (D : va_G) (cI : ClassId) (TY : dl_TY) (hTY : TY[0]? = some (cI, .int)) (nw : List Cond) (N : Nat) (ad : Nat → Nat) (R : va_W) (g : dl_Sg) (x1 : Int32) (x2 : Int32) (x3 : Int32) {r0 : Int32} {g0 : dl_Sg} (h : mo_street N g x1 x2 x3 = some (r0, g0)) : dl_CtI l D TY nw yX12_street wsX12_street { frames := 3, cells := 0, slots := 0, locals := 66 } 0 0 [.ref (ad 0), .int x1, .int x2, .int x3] (mm_w cI ad g ++ R) (fun r u => r = r0 ∧ u = mm_w cI ad g0 ++ R) := by
  refine dl_metI (ty := .int) [(0, .ref (ad 0)), (1, .int x1), (2, .int x2), (3, .int x3)] (by decide) rfl (Nat.le_of_ble_eq_true rfl) rfl ?_
  intro p e s m args below meth c Q A C hQ
  unfold mo_street at h
  refine dl_aload_n (pc := 0) C 0 dX12_street_0 rfl rfl ?_
  refine dl_iload_n (pc := 1) C 1 dX12_street_1 rfl rfl ?_
  refine dl_iload_n (pc := 2) C 2 dX12_street_2 rfl rfl ?_
  refine dl_iload_n (pc := 3) C 3 dX12_street_3 rfl rfl ?_
  obtain ⟨r1, h1, h⟩ := dl_bi_some h
  refine dl_vI0 (pc := 4) C (cmo_isGood l D cI TY hTY nw ad R _ _ _ _ h1) (cwV 3 C.2.2.2.2.1 gX12_street_X12_isGood rfl rfl rfl (by decide +kernel) ⟨Nat.le_of_ble_eq_true rfl, Nat.le_of_ble_eq_true rfl⟩) 0 12 mm_a0 rfl rfl rfl (Nat.le_of_ble_eq_true rfl) dX12_street_4 ⟨Nat.zero_le _, Nat.zero_le _⟩ (fun r u hp => ?_)
  obtain ⟨rfl, rfl⟩ := hp
  refine dl_if_ne (pc := 7) C 18 dX12_street_7 (by decide) h (fun q9 h => ?_) (fun q9 h => ?_)
  · refine dl_aload_n (pc := 10) C 0 dX12_street_10 rfl rfl ?_
    refine dl_iconst (pc := 11) C 1 dX12_street_11 (by decide) ?_
    obtain ⟨r2, g3, h1, h⟩ := dl_b2_some h
    refine dl_vI0 (pc := 12) C (cmo_refused l D cI TY hTY nw ad R _ _ h1) (cwV 1 C.2.2.2.2.1 gX12_street_X12_refused rfl rfl rfl (by decide +kernel) ⟨Nat.le_of_ble_eq_true rfl, Nat.le_of_ble_eq_true rfl⟩) 0 12 mm_a0 rfl rfl rfl (Nat.le_of_ble_eq_true rfl) dX12_street_12 ⟨Nat.zero_le _, Nat.zero_le _⟩ (fun r u hp => ?_)
    obtain ⟨rfl, rfl⟩ := hp
    refine dl_goto (pc := 15) C 42 dX12_street_15 (by decide) ?_
    exact hQ 42 _ _ _ ⟨(dl_r2 h).1, by rw [(dl_r2 h).2]⟩ (vp_nar_int _) dX12_street_42
  · refine dl_aload_n (pc := 18) C 0 dX12_street_18 rfl rfl ?_
    refine dl_get (pc := 19) C hin_X12_street_X12 0 mm_a0 rfl 3 (by decide) lk_X12_street_76 rfl rfl dX12_street_19 ?_
    refine dl_bipush (pc := 22) C 16 dX12_street_22 (by decide) ?_
    refine dl_icmp_ne (pc := 24) C 35 dX12_street_24 (by decide) h (fun q8 h => ?_) (fun q8 h => ?_)
    · refine dl_aload_n (pc := 27) C 0 dX12_street_27 rfl rfl ?_
      refine dl_iconst (pc := 28) C 2 dX12_street_28 (by decide) ?_
      obtain ⟨r4, g5, h1, h⟩ := dl_b2_some h
      refine dl_vI0 (pc := 29) C (cmo_refused l D cI TY hTY nw ad R _ _ h1) (cwV 1 C.2.2.2.2.1 gX12_street_X12_refused rfl rfl rfl (by decide +kernel) ⟨Nat.le_of_ble_eq_true rfl, Nat.le_of_ble_eq_true rfl⟩) 0 12 mm_a0 rfl rfl rfl (Nat.le_of_ble_eq_true rfl) dX12_street_29 ⟨Nat.zero_le _, Nat.zero_le _⟩ (fun r u hp => ?_)
      obtain ⟨rfl, rfl⟩ := hp
      refine dl_goto (pc := 32) C 42 dX12_street_32 (by decide) ?_
      exact hQ 42 _ _ _ ⟨(dl_r2 h).1, by rw [(dl_r2 h).2]⟩ (vp_nar_int _) dX12_street_42
    · refine dl_aload_n (pc := 35) C 0 dX12_street_35 rfl rfl ?_
      refine dl_iload_n (pc := 36) C 1 dX12_street_36 rfl rfl ?_
      refine dl_iload_n (pc := 37) C 2 dX12_street_37 rfl rfl ?_
      refine dl_iload_n (pc := 38) C 3 dX12_street_38 rfl rfl ?_
      obtain ⟨r6, g7, h1, h⟩ := dl_b2_some h
      refine dl_vI0 (pc := 39) C (cmo_made l D cI TY hTY nw N ad R _ _ _ _ h1) (cwV 3 C.2.2.2.2.1 gX12_street_X12_made rfl rfl rfl (by decide +kernel) ⟨Nat.le_of_ble_eq_true rfl, Nat.le_of_ble_eq_true rfl⟩) 0 12 mm_a0 rfl rfl rfl (Nat.le_of_ble_eq_true rfl) dX12_street_39 ⟨Nat.zero_le _, Nat.zero_le _⟩ (fun r u hp => ?_)
      obtain ⟨rfl, rfl⟩ := hp
      exact hQ 42 _ _ _ ⟨(dl_r2 h).1, by rw [(dl_r2 h).2]⟩ (vp_nar_int _) dX12_street_42
theorem hin_X12_drop_X12 : ∀ w ∈ u_ws RX12 TX12 32, w ∈ wsX12_drop := fun _ h => List.mem_cons_of_mem _ (List.mem_append_right _ h)
theorem lk_X12_drop_101 : Cond.fieldLink (yX12_drop).cls 101 "DripLinesModel" (TX12 7).2.1 (TX12 7).2.2.1 ∈ wsX12_drop := by decide +kernel
theorem lk_X12_drop_121 : Cond.fieldLink (yX12_drop).cls 121 "DripLinesModel" (TX12 8).2.1 (TX12 8).2.2.1 ∈ wsX12_drop := by decide +kernel
set_option maxHeartbeats 4000000 in
set_option maxRecDepth 100000 in
theorem cmo_drop (l : Launch) (D : va_G) (cI : ClassId) (TY : dl_TY) (hTY : TY[0]? = some (cI, .int)) (nw : List Cond) (N : Nat) (ad : Nat → Nat) (R : va_W) (g : dl_Sg) (x1 : Int32) {r0 : Int32} {g0 : dl_Sg} (h : mo_drop N g x1 = some (r0, g0)) : dl_CtI l D TY nw yX12_drop wsX12_drop { frames := 2, cells := 0, slots := 0, locals := 43 } 0 0 [.ref (ad 0), .int x1] (mm_w cI ad g ++ R) (fun r u => r = r0 ∧ u = mm_w cI ad g0 ++ R) := by
  refine dl_metI (ty := .int) [(0, .ref (ad 0)), (1, .int x1)] (by decide) rfl (Nat.le_of_ble_eq_true rfl) rfl ?_
  intro p e s m args below meth c Q A C hQ
  unfold mo_drop at h
  refine dl_aload_n (pc := 0) C 0 dX12_drop_0 rfl rfl ?_
  refine dl_iload_n (pc := 1) C 1 dX12_drop_1 rfl rfl ?_
  obtain ⟨r1, h1, h⟩ := dl_bi_some h
  refine dl_vI0 (pc := 2) C (cmo_isStreet l D cI TY hTY nw ad R _ _ h1) (cwV 1 C.2.2.2.2.1 gX12_drop_X12_isStreet rfl rfl rfl (by decide +kernel) ⟨Nat.le_of_ble_eq_true rfl, Nat.le_of_ble_eq_true rfl⟩) 0 12 mm_a0 rfl rfl rfl (Nat.le_of_ble_eq_true rfl) dX12_drop_2 ⟨Nat.zero_le _, Nat.zero_le _⟩ (fun r u hp => ?_)
  obtain ⟨rfl, rfl⟩ := hp
  refine dl_if_ne (pc := 5) C 14 dX12_drop_5 (by decide) h (fun q13 h => ?_) (fun q13 h => ?_)
  · refine dl_aload_n (pc := 8) C 0 dX12_drop_8 rfl rfl ?_
    refine dl_iconst (pc := 9) C 1 dX12_drop_9 (by decide) ?_
    obtain ⟨r2, g3, h1, h⟩ := dl_b2_some h
    refine dl_vI0 (pc := 10) C (cmo_refused l D cI TY hTY nw ad R _ _ h1) (cwV 1 C.2.2.2.2.1 gX12_drop_X12_refused rfl rfl rfl (by decide +kernel) ⟨Nat.le_of_ble_eq_true rfl, Nat.le_of_ble_eq_true rfl⟩) 0 12 mm_a0 rfl rfl rfl (Nat.le_of_ble_eq_true rfl) dX12_drop_10 ⟨Nat.zero_le _, Nat.zero_le _⟩ (fun r u hp => ?_)
    obtain ⟨rfl, rfl⟩ := hp
    exact hQ 13 _ _ _ ⟨(dl_r2 h).1, by rw [(dl_r2 h).2]⟩ (vp_nar_int _) dX12_drop_13
  · refine dl_aload_n (pc := 14) C 0 dX12_drop_14 rfl rfl ?_
    refine dl_get (pc := 15) C hin_X12_drop_X12 0 mm_a0 rfl 7 (by decide) lk_X12_drop_101 rfl rfl dX12_drop_15 ?_
    refine dl_iload_n (pc := 18) C 1 dX12_drop_18 rfl rfl ?_
    obtain ⟨r4, h1, h⟩ := dl_bi_some h
    refine dl_sI0 (pc := 19) C (cmo_has l D TY nw _ _ _ h1) (va_cwS 2 C.2.2.2.2.1 gX12_drop_X12_has rfl rfl rfl (by decide +kernel) ⟨Nat.le_of_ble_eq_true rfl, Nat.le_of_ble_eq_true rfl⟩) rfl rfl (Nat.le_of_ble_eq_true rfl) dX12_drop_19 ⟨Nat.zero_le _, Nat.zero_le _⟩ (fun r u hp => ?_)
    obtain ⟨rfl, hu⟩ := hp
    rw [hu]
    clear hu
    refine dl_if_ne (pc := 22) C 31 dX12_drop_22 (by decide) h (fun q12 h => ?_) (fun q12 h => ?_)
    · refine dl_aload_n (pc := 25) C 0 dX12_drop_25 rfl rfl ?_
      refine dl_iconst (pc := 26) C 3 dX12_drop_26 (by decide) ?_
      obtain ⟨r5, g6, h1, h⟩ := dl_b2_some h
      refine dl_vI0 (pc := 27) C (cmo_refused l D cI TY hTY nw ad R _ _ h1) (cwV 1 C.2.2.2.2.1 gX12_drop_X12_refused rfl rfl rfl (by decide +kernel) ⟨Nat.le_of_ble_eq_true rfl, Nat.le_of_ble_eq_true rfl⟩) 0 12 mm_a0 rfl rfl rfl (Nat.le_of_ble_eq_true rfl) dX12_drop_27 ⟨Nat.zero_le _, Nat.zero_le _⟩ (fun r u hp => ?_)
      obtain ⟨rfl, rfl⟩ := hp
      exact hQ 30 _ _ _ ⟨(dl_r2 h).1, by rw [(dl_r2 h).2]⟩ (vp_nar_int _) dX12_drop_30
    · refine dl_aload_n (pc := 31) C 0 dX12_drop_31 rfl rfl ?_
      refine dl_dup (pc := 32) C dX12_drop_32 rfl ?_
      refine dl_get (pc := 33) C hin_X12_drop_X12 0 mm_a0 rfl 7 (by decide) lk_X12_drop_101 rfl rfl dX12_drop_33 ?_
      refine dl_iconst (pc := 36) C 1 dX12_drop_36 (by decide) ?_
      refine dl_iload_n (pc := 37) C 1 dX12_drop_37 rfl rfl ?_
      refine dl_ishl (pc := 38) C dX12_drop_38 ?_
      refine dl_iconst (pc := 39) C (-1) dX12_drop_39 (by decide) ?_
      refine dl_ixor (pc := 40) C dX12_drop_40 ?_
      refine dl_iand (pc := 41) C dX12_drop_41 ?_
      refine dl_put (pc := 42) C hin_X12_drop_X12 tyX12 tyX12_ok nmX12 0 mm_a0 rfl 7 (by decide) lk_X12_drop_101 rfl rfl (ty := .int) rfl (vp_nar_int _) rfl (Nat.le_of_ble_eq_true rfl) dX12_drop_42 mm_p0_7 ?_
      obtain ⟨g7, h, hg⟩ := dl_nm_some h
      rw [← hg]
      clear hg
      refine dl_aload_n (pc := 45) C 0 dX12_drop_45 rfl rfl ?_
      refine dl_dup (pc := 46) C dX12_drop_46 rfl ?_
      refine dl_get (pc := 47) C hin_X12_drop_X12 0 mm_a0 rfl 8 (by decide) lk_X12_drop_121 rfl rfl dX12_drop_47 ?_
      refine dl_iconst (pc := 50) C 1 dX12_drop_50 (by decide) ?_
      refine dl_iload_n (pc := 51) C 1 dX12_drop_51 rfl rfl ?_
      refine dl_ishl (pc := 52) C dX12_drop_52 ?_
      refine dl_iconst (pc := 53) C (-1) dX12_drop_53 (by decide) ?_
      refine dl_ixor (pc := 54) C dX12_drop_54 ?_
      refine dl_iand (pc := 55) C dX12_drop_55 ?_
      refine dl_put (pc := 56) C hin_X12_drop_X12 tyX12 tyX12_ok nmX12 0 mm_a0 rfl 8 (by decide) lk_X12_drop_121 rfl rfl (ty := .int) rfl (vp_nar_int _) rfl (Nat.le_of_ble_eq_true rfl) dX12_drop_56 mm_p0_8 ?_
      obtain ⟨g8, h, hg⟩ := dl_nm_some h
      rw [← hg]
      clear hg
      refine dl_aload_n (pc := 59) C 0 dX12_drop_59 rfl rfl ?_
      refine dl_iconst (pc := 60) C 3 dX12_drop_60 (by decide) ?_
      refine dl_iload_n (pc := 61) C 1 dX12_drop_61 rfl rfl ?_
      refine dl_iadd (pc := 62) C dX12_drop_62 ?_
      obtain ⟨g9, h1, h⟩ := dl_bi_some h
      refine dl_vV0 (pc := 63) C (cmo_changed l D cI TY hTY nw N ad R _ _ h1) (cwV 1 C.2.2.2.2.1 gX12_drop_X12_changed rfl rfl rfl (by decide +kernel) ⟨Nat.le_of_ble_eq_true rfl, Nat.le_of_ble_eq_true rfl⟩) 0 12 mm_a0 rfl rfl rfl (Nat.le_of_ble_eq_true rfl) dX12_drop_63 ⟨Nat.zero_le _, Nat.zero_le _⟩ (fun u hp => ?_)
      subst hp
      refine dl_aload_n (pc := 66) C 0 dX12_drop_66 rfl rfl ?_
      refine dl_iconst (pc := 67) C 1 dX12_drop_67 (by decide) ?_
      obtain ⟨r10, g11, h1, h⟩ := dl_b2_some h
      refine dl_vI0 (pc := 68) C (cmo_done l D cI TY hTY nw ad R _ _ h1) (cwV 1 C.2.2.2.2.1 gX12_drop_X12_done rfl rfl rfl (by decide +kernel) ⟨Nat.le_of_ble_eq_true rfl, Nat.le_of_ble_eq_true rfl⟩) 0 12 mm_a0 rfl rfl rfl (Nat.le_of_ble_eq_true rfl) dX12_drop_68 ⟨Nat.zero_le _, Nat.zero_le _⟩ (fun r u hp => ?_)
      obtain ⟨rfl, rfl⟩ := hp
      exact hQ 71 _ _ _ ⟨(dl_r2 h).1, by rw [(dl_r2 h).2]⟩ (vp_nar_int _) dX12_drop_71
theorem hin_X12_undo_X12 : ∀ w ∈ u_ws RX12 TX12 32, w ∈ wsX12_undo := fun _ h => List.mem_cons_of_mem _ (List.mem_append_right _ h)
theorem lk_X12_undo_25 : Cond.fieldLink (yX12_undo).cls 25 "DripLinesModel" (TX12 10).2.1 (TX12 10).2.2.1 ∈ wsX12_undo := by decide +kernel
theorem lk_X12_undo_69 : Cond.fieldLink (yX12_undo).cls 69 "DripLinesModel" (TX12 0).2.1 (TX12 0).2.2.1 ∈ wsX12_undo := by decide +kernel
theorem lk_X12_undo_76 : Cond.fieldLink (yX12_undo).cls 76 "DripLinesModel" (TX12 3).2.1 (TX12 3).2.2.1 ∈ wsX12_undo := by decide +kernel
theorem lk_X12_undo_83 : Cond.fieldLink (yX12_undo).cls 83 "DripLinesModel" (TX12 9).2.1 (TX12 9).2.2.1 ∈ wsX12_undo := by decide +kernel
theorem lk_X12_undo_86 : Cond.fieldLink (yX12_undo).cls 86 "DripLinesModel" (TX12 19).2.1 (TX12 19).2.2.1 ∈ wsX12_undo := by decide +kernel
theorem lk_X12_undo_101 : Cond.fieldLink (yX12_undo).cls 101 "DripLinesModel" (TX12 7).2.1 (TX12 7).2.2.1 ∈ wsX12_undo := by decide +kernel
theorem lk_X12_undo_121 : Cond.fieldLink (yX12_undo).cls 121 "DripLinesModel" (TX12 8).2.1 (TX12 8).2.2.1 ∈ wsX12_undo := by decide +kernel
set_option maxHeartbeats 4000000 in
set_option maxRecDepth 100000 in
theorem mo_undo_t100 {p : Program} {e : Env} {s : State} {m : MethodId} {args : Array Value} {below : List Frame} {meth : Method} {c : Code} {Q : State → Prop} {A : Nat → Prop} (l : Launch) (D : va_G) (cI : ClassId) (TY : dl_TY) (hTY : TY[0]? = some (cI, .int)) (nw : List Cond) (ad : Nat → Nat) (R : va_W) {r0 : Int32} {g0 : dl_Sg} (C : dl_Cx p s m args c A D TY nw cX12_undo 2 yX12_undo.cls wsX12_undo) (hQ : dl_RtI p l e (headSpec wsX12_undo { frames := 1, cells := 0, slots := 0, locals := 21 }).room s m args below meth c Q A D cX12_undo 2 0 0 .int (fun r u => r = r0 ∧ u = mm_w cI ad g0 ++ R)) (g : dl_Sg) (h : mo_undo_b100  g = some (r0, g0)) : dl_At p l e (headSpec wsX12_undo { frames := 1, cells := 0, slots := 0, locals := 21 }).room s m args below meth c Q A D 2 0 0 100 [(0, .ref (ad 0))] [] (mm_w cI ad g ++ R) := by
  unfold mo_undo_b100 at h
  refine dl_aload_n (pc := 100) C 0 dX12_undo_100 rfl rfl ?_
  refine dl_iconst (pc := 101) C 0 dX12_undo_101 (by decide) ?_
  refine dl_put (pc := 102) C hin_X12_undo_X12 tyX12 tyX12_ok nmX12 0 mm_a0 rfl 8 (by decide) lk_X12_undo_121 rfl rfl (ty := .int) rfl (vp_nar_int _) rfl (Nat.le_of_ble_eq_true rfl) dX12_undo_102 mm_p0_8 ?_
  obtain ⟨g1, h, hg⟩ := dl_nm_some h
  rw [← hg]
  clear hg
  refine dl_aload_n (pc := 105) C 0 dX12_undo_105 rfl rfl ?_
  refine dl_iconst (pc := 106) C 0 dX12_undo_106 (by decide) ?_
  refine dl_put (pc := 107) C hin_X12_undo_X12 tyX12 tyX12_ok nmX12 0 mm_a0 rfl 19 (by decide) lk_X12_undo_86 rfl rfl (ty := .boolean) rfl rfl rfl (Nat.le_of_ble_eq_true rfl) dX12_undo_107 mm_p0_19 ?_
  obtain ⟨g2, h, hg⟩ := dl_nm_some h
  rw [← hg]
  clear hg
  refine dl_aload_n (pc := 110) C 0 dX12_undo_110 rfl rfl ?_
  refine dl_iconst (pc := 111) C 1 dX12_undo_111 (by decide) ?_
  obtain ⟨r3, g4, h1, h⟩ := dl_b2_some h
  refine dl_vI0 (pc := 112) C (cmo_done l D cI TY hTY nw ad R _ _ h1) (cwV 1 C.2.2.2.2.1 gX12_undo_X12_done rfl rfl rfl (by decide +kernel) ⟨Nat.le_of_ble_eq_true rfl, Nat.le_of_ble_eq_true rfl⟩) 0 12 mm_a0 rfl rfl rfl (Nat.le_of_ble_eq_true rfl) dX12_undo_112 ⟨Nat.zero_le _, Nat.zero_le _⟩ (fun r u hp => ?_)
  obtain ⟨rfl, rfl⟩ := hp
  exact hQ 115 _ _ _ ⟨(dl_r2 h).1, by rw [(dl_r2 h).2]⟩ (vp_nar_int _) dX12_undo_115
set_option maxHeartbeats 4000000 in
set_option maxRecDepth 100000 in
theorem cmo_undo (l : Launch) (D : va_G) (cI : ClassId) (TY : dl_TY) (hTY : TY[0]? = some (cI, .int)) (nw : List Cond) (ad : Nat → Nat) (R : va_W) (g : dl_Sg) {r0 : Int32} {g0 : dl_Sg} (h : mo_undo g  = some (r0, g0)) : dl_CtI l D TY nw yX12_undo wsX12_undo { frames := 1, cells := 0, slots := 0, locals := 21 } 0 0 [.ref (ad 0)] (mm_w cI ad g ++ R) (fun r u => r = r0 ∧ u = mm_w cI ad g0 ++ R) := by
  refine dl_metI (ty := .int) [(0, .ref (ad 0))] (by decide) rfl (Nat.le_of_ble_eq_true rfl) rfl ?_
  intro p e s m args below meth c Q A C hQ
  unfold mo_undo at h
  refine dl_aload_n (pc := 0) C 0 dX12_undo_0 rfl rfl ?_
  refine dl_get (pc := 1) C hin_X12_undo_X12 0 mm_a0 rfl 9 (by decide) lk_X12_undo_83 rfl rfl dX12_undo_1 ?_
  refine dl_if_ne (pc := 4) C 13 dX12_undo_4 (by decide) h (fun q11 h => ?_) (fun q11 h => ?_)
  · refine dl_aload_n (pc := 7) C 0 dX12_undo_7 rfl rfl ?_
    refine dl_iconst (pc := 8) C 3 dX12_undo_8 (by decide) ?_
    obtain ⟨r1, g2, h1, h⟩ := dl_b2_some h
    refine dl_vI0 (pc := 9) C (cmo_refused l D cI TY hTY nw ad R _ _ h1) (cwV 1 C.2.2.2.2.1 gX12_undo_X12_refused rfl rfl rfl (by decide +kernel) ⟨Nat.le_of_ble_eq_true rfl, Nat.le_of_ble_eq_true rfl⟩) 0 12 mm_a0 rfl rfl rfl (Nat.le_of_ble_eq_true rfl) dX12_undo_9 ⟨Nat.zero_le _, Nat.zero_le _⟩ (fun r u hp => ?_)
    obtain ⟨rfl, rfl⟩ := hp
    exact hQ 12 _ _ _ ⟨(dl_r2 h).1, by rw [(dl_r2 h).2]⟩ (vp_nar_int _) dX12_undo_12
  · refine dl_aload_n (pc := 13) C 0 dX12_undo_13 rfl rfl ?_
    refine dl_dup (pc := 14) C dX12_undo_14 rfl ?_
    refine dl_get (pc := 15) C hin_X12_undo_X12 0 mm_a0 rfl 9 (by decide) lk_X12_undo_83 rfl rfl dX12_undo_15 ?_
    refine dl_iconst (pc := 18) C 1 dX12_undo_18 (by decide) ?_
    refine dl_isub (pc := 19) C dX12_undo_19 ?_
    refine dl_put (pc := 20) C hin_X12_undo_X12 tyX12 tyX12_ok nmX12 0 mm_a0 rfl 9 (by decide) lk_X12_undo_83 rfl rfl (ty := .int) rfl (vp_nar_int _) rfl (Nat.le_of_ble_eq_true rfl) dX12_undo_20 mm_p0_9 ?_
    obtain ⟨g3, h, hg⟩ := dl_nm_some h
    rw [← hg]
    clear hg
    refine dl_aload_n (pc := 23) C 0 dX12_undo_23 rfl rfl ?_
    refine dl_get (pc := 24) C hin_X12_undo_X12 0 mm_a0 rfl 10 (by decide) lk_X12_undo_25 rfl rfl dX12_undo_24 ?_
    refine dl_aload_n (pc := 27) C 0 dX12_undo_27 rfl rfl ?_
    refine dl_get (pc := 28) C hin_X12_undo_X12 0 mm_a0 rfl 9 (by decide) lk_X12_undo_83 rfl rfl dX12_undo_28 ?_
    obtain ⟨h0, h⟩ := dl_gd_some h
    refine dl_iald (pc := 31) C 6 0 mm_a10 hTY h0 dX12_undo_31 ?_
    refine dl_istore_n (pc := 32) C (fun v4 => [(1, .int v4), (0, .ref (ad 0))]) dX12_undo_32 rfl (by decide) (fun _ => rfl) h (fun v4 h => ?_)
    refine dl_iload_n (pc := 33) C 0 dX12_undo_33 rfl rfl ?_
    refine dl_iconst (pc := 34) C 1 dX12_undo_34 (by decide) ?_
    refine dl_icmp_ne (pc := 35) C 51 dX12_undo_35 (by decide) h (fun q10 h => ?_) (fun q10 h => ?_)
    · refine dl_aload_n (pc := 38) C 1 dX12_undo_38 rfl rfl ?_
      refine dl_dup (pc := 39) C dX12_undo_39 rfl ?_
      refine dl_get (pc := 40) C hin_X12_undo_X12 0 mm_a0 rfl 0 (by decide) lk_X12_undo_69 rfl rfl dX12_undo_40 ?_
      refine dl_iconst (pc := 43) C 1 dX12_undo_43 (by decide) ?_
      refine dl_isub (pc := 44) C dX12_undo_44 ?_
      refine dl_put (pc := 45) C hin_X12_undo_X12 tyX12 tyX12_ok nmX12 0 mm_a0 rfl 0 (by decide) lk_X12_undo_69 rfl rfl (ty := .int) rfl (vp_nar_int _) rfl (Nat.le_of_ble_eq_true rfl) dX12_undo_45 mm_p0_0 ?_
      obtain ⟨g5, h, hg⟩ := dl_nm_some h
      rw [← hg]
      clear hg
      refine dl_goto (pc := 48) C 100 dX12_undo_48 (by decide) ?_
      refine dl_sub [1] rfl ?_
      exact mo_undo_t100 l D cI TY hTY nw ad R C hQ  _ h
    · refine dl_iload_n (pc := 51) C 0 dX12_undo_51 rfl rfl ?_
      refine dl_iconst (pc := 52) C 2 dX12_undo_52 (by decide) ?_
      refine dl_icmp_ne (pc := 53) C 86 dX12_undo_53 (by decide) h (fun q9 h => ?_) (fun q9 h => ?_)
      · refine dl_aload_n (pc := 56) C 1 dX12_undo_56 rfl rfl ?_
        refine dl_dup (pc := 57) C dX12_undo_57 rfl ?_
        refine dl_get (pc := 58) C hin_X12_undo_X12 0 mm_a0 rfl 3 (by decide) lk_X12_undo_76 rfl rfl dX12_undo_58 ?_
        refine dl_iconst (pc := 61) C 1 dX12_undo_61 (by decide) ?_
        refine dl_isub (pc := 62) C dX12_undo_62 ?_
        refine dl_put (pc := 63) C hin_X12_undo_X12 tyX12 tyX12_ok nmX12 0 mm_a0 rfl 3 (by decide) lk_X12_undo_76 rfl rfl (ty := .int) rfl (vp_nar_int _) rfl (Nat.le_of_ble_eq_true rfl) dX12_undo_63 mm_p0_3 ?_
        obtain ⟨g6, h, hg⟩ := dl_nm_some h
        rw [← hg]
        clear hg
        refine dl_aload_n (pc := 66) C 1 dX12_undo_66 rfl rfl ?_
        refine dl_dup (pc := 67) C dX12_undo_67 rfl ?_
        refine dl_get (pc := 68) C hin_X12_undo_X12 0 mm_a0 rfl 7 (by decide) lk_X12_undo_101 rfl rfl dX12_undo_68 ?_
        refine dl_iconst (pc := 71) C 1 dX12_undo_71 (by decide) ?_
        refine dl_aload_n (pc := 72) C 1 dX12_undo_72 rfl rfl ?_
        refine dl_get (pc := 73) C hin_X12_undo_X12 0 mm_a0 rfl 3 (by decide) lk_X12_undo_76 rfl rfl dX12_undo_73 ?_
        refine dl_ishl (pc := 76) C dX12_undo_76 ?_
        refine dl_iconst (pc := 77) C (-1) dX12_undo_77 (by decide) ?_
        refine dl_ixor (pc := 78) C dX12_undo_78 ?_
        refine dl_iand (pc := 79) C dX12_undo_79 ?_
        refine dl_put (pc := 80) C hin_X12_undo_X12 tyX12 tyX12_ok nmX12 0 mm_a0 rfl 7 (by decide) lk_X12_undo_101 rfl rfl (ty := .int) rfl (vp_nar_int _) rfl (Nat.le_of_ble_eq_true rfl) dX12_undo_80 mm_p0_7 ?_
        obtain ⟨g7, h, hg⟩ := dl_nm_some h
        rw [← hg]
        clear hg
        refine dl_goto (pc := 83) C 100 dX12_undo_83 (by decide) ?_
        refine dl_sub [1] rfl ?_
        exact mo_undo_t100 l D cI TY hTY nw ad R C hQ  _ h
      · refine dl_aload_n (pc := 86) C 1 dX12_undo_86 rfl rfl ?_
        refine dl_dup (pc := 87) C dX12_undo_87 rfl ?_
        refine dl_get (pc := 88) C hin_X12_undo_X12 0 mm_a0 rfl 7 (by decide) lk_X12_undo_101 rfl rfl dX12_undo_88 ?_
        refine dl_iconst (pc := 91) C 1 dX12_undo_91 (by decide) ?_
        refine dl_iload_n (pc := 92) C 0 dX12_undo_92 rfl rfl ?_
        refine dl_iconst (pc := 93) C 3 dX12_undo_93 (by decide) ?_
        refine dl_isub (pc := 94) C dX12_undo_94 ?_
        refine dl_ishl (pc := 95) C dX12_undo_95 ?_
        refine dl_ior (pc := 96) C dX12_undo_96 ?_
        refine dl_put (pc := 97) C hin_X12_undo_X12 tyX12 tyX12_ok nmX12 0 mm_a0 rfl 7 (by decide) lk_X12_undo_101 rfl rfl (ty := .int) rfl (vp_nar_int _) rfl (Nat.le_of_ble_eq_true rfl) dX12_undo_97 mm_p0_7 ?_
        obtain ⟨g8, h, hg⟩ := dl_nm_some h
        rw [← hg]
        clear hg
        refine dl_sub [1] rfl ?_
        exact mo_undo_t100 l D cI TY hTY nw ad R C hQ  _ h
theorem hin_X12_degree_X12 : ∀ w ∈ u_ws RX12 TX12 32, w ∈ wsX12_degree := fun _ h => List.mem_cons_of_mem _ (List.mem_append_right _ h)
theorem lk_X12_degree_16 : Cond.fieldLink (yX12_degree).cls 16 "DripLinesModel" (TX12 4).2.1 (TX12 4).2.2.1 ∈ wsX12_degree := by decide +kernel
theorem lk_X12_degree_19 : Cond.fieldLink (yX12_degree).cls 19 "DripLinesModel" (TX12 5).2.1 (TX12 5).2.2.1 ∈ wsX12_degree := by decide +kernel
theorem lk_X12_degree_76 : Cond.fieldLink (yX12_degree).cls 76 "DripLinesModel" (TX12 3).2.1 (TX12 3).2.2.1 ∈ wsX12_degree := by decide +kernel
set_option maxHeartbeats 4000000 in
set_option maxRecDepth 100000 in
theorem mo_degree_t51 {p : Program} {e : Env} {s : State} {m : MethodId} {args : Array Value} {below : List Frame} {meth : Method} {c : Code} {Q : State → Prop} {A : Nat → Prop} (l : Launch) (D : va_G) (cI : ClassId) (TY : dl_TY) (hTY : TY[0]? = some (cI, .int)) (nw : List Cond) (N : Nat) (ad : Nat → Nat) (R : va_W) (g : dl_Sg) {r0 : Int32} (C : dl_Cx p s m args c A D TY nw cX12_degree 5 yX12_degree.cls wsX12_degree) (hQ : dl_RtI p l e (headSpec wsX12_degree { frames := 1, cells := 0, slots := 0, locals := 21 }).room s m args below meth c Q A D cX12_degree 5 0 0 .int (fun r u => r = r0 ∧ u = mm_w cI ad g ++ R)) {k5 : Int32 → Int32 → Int32 → Int32 → Option Int32} (hk5 : ∀ (x1 : Int32) (x2 : Int32) (x3 : Int32) (x4 : Int32), k5 x1 x2 x3 x4 = some r0 → dl_At p l e (headSpec wsX12_degree { frames := 1, cells := 0, slots := 0, locals := 21 }).room s m args below meth c Q A D 5 0 0 5 [(0, .ref (ad 0)), (1, .int x1), (2, .int x2), (3, .int x3), (4, .int x4)] [] (mm_w cI ad g ++ R)) (x1 : Int32) (x2 : Int32) (x4 : Int32) (y0 : Int32) (y1 : Int32) (h : mo_degree_b51 N g k5 x1 x2 x4 y0 y1 = some r0) : dl_At p l e (headSpec wsX12_degree { frames := 1, cells := 0, slots := 0, locals := 21 }).room s m args below meth c Q A D 5 0 0 51 [(0, .ref (ad 0)), (1, .int x1), (2, .int x2), (4, .int x4)] [.int y1, .int y0] (mm_w cI ad g ++ R) := by
  unfold mo_degree_b51 at h
  refine dl_iadd (pc := 51) C dX12_degree_51 ?_
  refine dl_istore_n (pc := 52) C (fun v1 => [(3, .int v1), (0, .ref (ad 0)), (1, .int x1), (2, .int x2), (4, .int x4)]) dX12_degree_52 rfl (by decide) (fun _ => rfl) h (fun v1 h => ?_)
  refine dl_iinc (pc := 53) C 4 (fun v2 => [(4, .int v2), (3, .int v1), (0, .ref (ad 0)), (1, .int x1), (2, .int x2)]) dX12_degree_53 rfl rfl (by decide) (fun _ => rfl) h (fun v2 h => ?_)
  refine dl_goto (pc := 56) C 5 dX12_degree_56 (by decide) ?_
  refine dl_sub [2, 3, 4, 1, 0] rfl ?_
  exact hk5 _ _ _ _ h
set_option maxHeartbeats 4000000 in
set_option maxRecDepth 100000 in
theorem mo_degree_t50 {p : Program} {e : Env} {s : State} {m : MethodId} {args : Array Value} {below : List Frame} {meth : Method} {c : Code} {Q : State → Prop} {A : Nat → Prop} (l : Launch) (D : va_G) (cI : ClassId) (TY : dl_TY) (hTY : TY[0]? = some (cI, .int)) (nw : List Cond) (N : Nat) (ad : Nat → Nat) (R : va_W) (g : dl_Sg) {r0 : Int32} (C : dl_Cx p s m args c A D TY nw cX12_degree 5 yX12_degree.cls wsX12_degree) (hQ : dl_RtI p l e (headSpec wsX12_degree { frames := 1, cells := 0, slots := 0, locals := 21 }).room s m args below meth c Q A D cX12_degree 5 0 0 .int (fun r u => r = r0 ∧ u = mm_w cI ad g ++ R)) {k5 : Int32 → Int32 → Int32 → Int32 → Option Int32} (hk5 : ∀ (x1 : Int32) (x2 : Int32) (x3 : Int32) (x4 : Int32), k5 x1 x2 x3 x4 = some r0 → dl_At p l e (headSpec wsX12_degree { frames := 1, cells := 0, slots := 0, locals := 21 }).room s m args below meth c Q A D 5 0 0 5 [(0, .ref (ad 0)), (1, .int x1), (2, .int x2), (3, .int x3), (4, .int x4)] [] (mm_w cI ad g ++ R)) (x1 : Int32) (x2 : Int32) (x4 : Int32) (y0 : Int32) (h : mo_degree_b50 N g k5 x1 x2 x4 y0 = some r0) : dl_At p l e (headSpec wsX12_degree { frames := 1, cells := 0, slots := 0, locals := 21 }).room s m args below meth c Q A D 5 0 0 50 [(0, .ref (ad 0)), (1, .int x1), (2, .int x2), (4, .int x4)] [.int y0] (mm_w cI ad g ++ R) := by
  unfold mo_degree_b50 at h
  refine dl_iconst (pc := 50) C 0 dX12_degree_50 (by decide) ?_
  refine dl_sub [0, 1, 2, 3] rfl ?_
  exact mo_degree_t51 l D cI TY hTY nw N ad R g C hQ hk5  _ _ _ _ _ h
set_option maxHeartbeats 4000000 in
set_option maxRecDepth 100000 in
theorem mo_degree_t46 {p : Program} {e : Env} {s : State} {m : MethodId} {args : Array Value} {below : List Frame} {meth : Method} {c : Code} {Q : State → Prop} {A : Nat → Prop} (l : Launch) (D : va_G) (cI : ClassId) (TY : dl_TY) (hTY : TY[0]? = some (cI, .int)) (nw : List Cond) (N : Nat) (ad : Nat → Nat) (R : va_W) (g : dl_Sg) {r0 : Int32} (C : dl_Cx p s m args c A D TY nw cX12_degree 5 yX12_degree.cls wsX12_degree) (hQ : dl_RtI p l e (headSpec wsX12_degree { frames := 1, cells := 0, slots := 0, locals := 21 }).room s m args below meth c Q A D cX12_degree 5 0 0 .int (fun r u => r = r0 ∧ u = mm_w cI ad g ++ R)) {k5 : Int32 → Int32 → Int32 → Int32 → Option Int32} (hk5 : ∀ (x1 : Int32) (x2 : Int32) (x3 : Int32) (x4 : Int32), k5 x1 x2 x3 x4 = some r0 → dl_At p l e (headSpec wsX12_degree { frames := 1, cells := 0, slots := 0, locals := 21 }).room s m args below meth c Q A D 5 0 0 5 [(0, .ref (ad 0)), (1, .int x1), (2, .int x2), (3, .int x3), (4, .int x4)] [] (mm_w cI ad g ++ R)) (x1 : Int32) (x2 : Int32) (x4 : Int32) (y0 : Int32) (h : mo_degree_b46 N g k5 x1 x2 x4 y0 = some r0) : dl_At p l e (headSpec wsX12_degree { frames := 1, cells := 0, slots := 0, locals := 21 }).room s m args below meth c Q A D 5 0 0 46 [(0, .ref (ad 0)), (1, .int x1), (2, .int x2), (4, .int x4)] [.int y0] (mm_w cI ad g ++ R) := by
  unfold mo_degree_b46 at h
  refine dl_iconst (pc := 46) C 1 dX12_degree_46 (by decide) ?_
  refine dl_goto (pc := 47) C 51 dX12_degree_47 (by decide) ?_
  refine dl_sub [0, 1, 2, 3] rfl ?_
  exact mo_degree_t51 l D cI TY hTY nw N ad R g C hQ hk5  _ _ _ _ _ h
set_option maxHeartbeats 4000000 in
set_option maxRecDepth 100000 in
theorem mo_degree_t5 {p : Program} {e : Env} {s : State} {m : MethodId} {args : Array Value} {below : List Frame} {meth : Method} {c : Code} {Q : State → Prop} {A : Nat → Prop} (l : Launch) (D : va_G) (cI : ClassId) (TY : dl_TY) (hTY : TY[0]? = some (cI, .int)) (nw : List Cond) (N : Nat) (ad : Nat → Nat) (R : va_W) (g : dl_Sg) {r0 : Int32} (C : dl_Cx p s m args c A D TY nw cX12_degree 5 yX12_degree.cls wsX12_degree) (hQ : dl_RtI p l e (headSpec wsX12_degree { frames := 1, cells := 0, slots := 0, locals := 21 }).room s m args below meth c Q A D cX12_degree 5 0 0 .int (fun r u => r = r0 ∧ u = mm_w cI ad g ++ R)) : ∀ (n : Nat) (x1 : Int32) (x2 : Int32) (x3 : Int32) (x4 : Int32), mo_degree_b5 N g n x1 x2 x3 x4 = some r0 → dl_At p l e (headSpec wsX12_degree { frames := 1, cells := 0, slots := 0, locals := 21 }).room s m args below meth c Q A D 5 0 0 5 [(0, .ref (ad 0)), (1, .int x1), (2, .int x2), (3, .int x3), (4, .int x4)] [] (mm_w cI ad g ++ R) := by
  intro n
  induction n with
  | zero => exact fun _ _ _ _ h => absurd (show (none : Option Int32) = some _ from h) (by intro q; cases q)
  | succ n ih =>
    intro x1 x2 x3 x4 h
    rw [mo_degree_b5] at h
    refine dl_iload (pc := 5) C 4 dX12_degree_5 rfl ?_
    refine dl_aload_n (pc := 7) C 0 dX12_degree_7 rfl rfl ?_
    refine dl_get (pc := 8) C hin_X12_degree_X12 0 mm_a0 rfl 3 (by decide) lk_X12_degree_76 rfl rfl dX12_degree_8 ?_
    refine dl_icmp_ge (pc := 11) C 59 dX12_degree_11 (by decide) h (fun q5 h => ?_) (fun q5 h => ?_)
    · refine dl_iload_n (pc := 59) C 3 dX12_degree_59 rfl rfl ?_
      exact hQ 60 _ _ _ ⟨Option.some.inj h, rfl⟩ (vp_nar_int _) dX12_degree_60
    · refine dl_iload_n (pc := 14) C 3 dX12_degree_14 rfl rfl ?_
      refine dl_iload_n (pc := 15) C 2 dX12_degree_15 rfl rfl ?_
      refine dl_iload (pc := 16) C 4 dX12_degree_16 rfl ?_
      obtain ⟨r1, h1, h⟩ := dl_bi_some h
      refine dl_sI0 (pc := 18) C (cmo_has l D TY nw _ _ _ h1) (va_cwS 2 C.2.2.2.2.1 gX12_degree_X12_has rfl rfl rfl (by decide +kernel) ⟨Nat.le_of_ble_eq_true rfl, Nat.le_of_ble_eq_true rfl⟩) rfl rfl (Nat.le_of_ble_eq_true rfl) dX12_degree_18 ⟨Nat.zero_le _, Nat.zero_le _⟩ (fun r u hp => ?_)
      obtain ⟨rfl, hu⟩ := hp
      rw [hu]
      clear hu
      refine dl_if_eq (pc := 21) C 50 dX12_degree_21 (by decide) h (fun q4 h => ?_) (fun q4 h => ?_)
      · refine dl_sub [0, 1, 2, 4] rfl ?_
        exact mo_degree_t50 l D cI TY hTY nw N ad R g C hQ ih  _ _ _ _ h
      · refine dl_aload_n (pc := 24) C 0 dX12_degree_24 rfl rfl ?_
        refine dl_get (pc := 25) C hin_X12_degree_X12 0 mm_a0 rfl 4 (by decide) lk_X12_degree_16 rfl rfl dX12_degree_25 ?_
        refine dl_iload (pc := 28) C 4 dX12_degree_28 rfl ?_
        obtain ⟨h0, h⟩ := dl_gd_some h
        refine dl_iald (pc := 30) C 3 0 mm_a4 hTY h0 dX12_degree_30 ?_
        refine dl_iload_n (pc := 31) C 1 dX12_degree_31 rfl rfl ?_
        refine dl_icmp_eq (pc := 32) C 46 dX12_degree_32 (by decide) h (fun q3 h => ?_) (fun q3 h => ?_)
        · refine dl_sub [0, 1, 2, 4] rfl ?_
          exact mo_degree_t46 l D cI TY hTY nw N ad R g C hQ ih  _ _ _ _ h
        · refine dl_aload_n (pc := 35) C 0 dX12_degree_35 rfl rfl ?_
          refine dl_get (pc := 36) C hin_X12_degree_X12 0 mm_a0 rfl 5 (by decide) lk_X12_degree_19 rfl rfl dX12_degree_36 ?_
          refine dl_iload (pc := 39) C 4 dX12_degree_39 rfl ?_
          obtain ⟨h0, h⟩ := dl_gd_some h
          refine dl_iald (pc := 41) C 4 0 mm_a5 hTY h0 dX12_degree_41 ?_
          refine dl_iload_n (pc := 42) C 1 dX12_degree_42 rfl rfl ?_
          refine dl_icmp_ne (pc := 43) C 50 dX12_degree_43 (by decide) h (fun q2 h => ?_) (fun q2 h => ?_)
          · refine dl_sub [0, 1, 2, 4] rfl ?_
            exact mo_degree_t46 l D cI TY hTY nw N ad R g C hQ ih  _ _ _ _ h
          · refine dl_sub [0, 1, 2, 4] rfl ?_
            exact mo_degree_t50 l D cI TY hTY nw N ad R g C hQ ih  _ _ _ _ h
set_option maxHeartbeats 4000000 in
set_option maxRecDepth 100000 in
theorem cmo_degree (l : Launch) (D : va_G) (cI : ClassId) (TY : dl_TY) (hTY : TY[0]? = some (cI, .int)) (nw : List Cond) (N : Nat) (ad : Nat → Nat) (R : va_W) (g : dl_Sg) (x1 : Int32) (x2 : Int32) {r0 : Int32} (h : mo_degree N g x1 x2 = some r0) : dl_CtI l D TY nw yX12_degree wsX12_degree { frames := 1, cells := 0, slots := 0, locals := 21 } 0 0 [.ref (ad 0), .int x1, .int x2] (mm_w cI ad g ++ R) (fun r u => r = r0 ∧ u = mm_w cI ad g ++ R) := by
  refine dl_metI (ty := .int) [(0, .ref (ad 0)), (1, .int x1), (2, .int x2)] (by decide) rfl (Nat.le_of_ble_eq_true rfl) rfl ?_
  intro p e s m args below meth c Q A C hQ
  unfold mo_degree at h
  refine dl_iconst (pc := 0) C 0 dX12_degree_0 (by decide) ?_
  refine dl_istore_n (pc := 1) C (fun v1 => [(3, .int v1), (0, .ref (ad 0)), (1, .int x1), (2, .int x2)]) dX12_degree_1 rfl (by decide) (fun _ => rfl) h (fun v1 h => ?_)
  refine dl_iconst (pc := 2) C 0 dX12_degree_2 (by decide) ?_
  refine dl_istore (pc := 3) C (fun v2 => [(4, .int v2), (3, .int v1), (0, .ref (ad 0)), (1, .int x1), (2, .int x2)]) dX12_degree_3 (by decide) (fun _ => rfl) h (fun v2 h => ?_)
  refine dl_sub [2, 3, 4, 1, 0] rfl ?_
  exact mo_degree_t5 l D cI TY hTY nw N ad R g C hQ N _ _ _ _ h
theorem hin_X12_told_X12 : ∀ w ∈ u_ws RX12 TX12 32, w ∈ wsX12_told := fun _ h => List.mem_cons_of_mem _ (List.mem_append_right _ h)
theorem lk_X12_told_7 : Cond.fieldLink (yX12_told).cls 7 "DripLinesModel" (TX12 1).2.1 (TX12 1).2.2.1 ∈ wsX12_told := by decide +kernel
theorem lk_X12_told_13 : Cond.fieldLink (yX12_told).cls 13 "DripLinesModel" (TX12 2).2.1 (TX12 2).2.2.1 ∈ wsX12_told := by decide +kernel
theorem lk_X12_told_101 : Cond.fieldLink (yX12_told).cls 101 "DripLinesModel" (TX12 7).2.1 (TX12 7).2.2.1 ∈ wsX12_told := by decide +kernel
set_option maxHeartbeats 4000000 in
set_option maxRecDepth 100000 in
theorem cmo_told (l : Launch) (D : va_G) (cI : ClassId) (TY : dl_TY) (hTY : TY[0]? = some (cI, .int)) (nw : List Cond) (N : Nat) (ad : Nat → Nat) (R : va_W) (g : dl_Sg) (x1 : Int32) (x2 : Int32) {r0 : Int32} (h : mo_told N g x1 x2 = some r0) : dl_CtI l D TY nw yX12_told wsX12_told { frames := 2, cells := 0, slots := 0, locals := 45 } 0 0 [.ref (ad 0), .int x1, .int x2] (mm_w cI ad g ++ R) (fun r u => r = r0 ∧ u = mm_w cI ad g ++ R) := by
  refine dl_metI (ty := .int) [(0, .ref (ad 0)), (1, .int x1), (2, .int x2)] (by decide) rfl (Nat.le_of_ble_eq_true rfl) rfl ?_
  intro p e s m args below meth c Q A C hQ
  unfold mo_told at h
  refine dl_aload_n (pc := 0) C 0 dX12_told_0 rfl rfl ?_
  refine dl_iload_n (pc := 1) C 1 dX12_told_1 rfl rfl ?_
  obtain ⟨r1, h1, h⟩ := dl_bi_some h
  refine dl_vI0 (pc := 2) C (cmo_isPlace l D cI TY hTY nw ad R _ _ h1) (cwV 1 C.2.2.2.2.1 gX12_told_X12_isPlace rfl rfl rfl (by decide +kernel) ⟨Nat.le_of_ble_eq_true rfl, Nat.le_of_ble_eq_true rfl⟩) 0 12 mm_a0 rfl rfl rfl (Nat.le_of_ble_eq_true rfl) dX12_told_2 ⟨Nat.zero_le _, Nat.zero_le _⟩ (fun r u hp => ?_)
  obtain ⟨rfl, rfl⟩ := hp
  refine dl_if_ne (pc := 5) C 10 dX12_told_5 (by decide) h (fun q6 h => ?_) (fun q6 h => ?_)
  · refine dl_iconst (pc := 8) C (-1) dX12_told_8 (by decide) ?_
    exact hQ 9 _ _ _ ⟨Option.some.inj h, rfl⟩ (vp_nar_int _) dX12_told_9
  · refine dl_iload_n (pc := 10) C 2 dX12_told_10 rfl rfl ?_
    refine dl_if_ne (pc := 11) C 23 dX12_told_11 (by decide) h (fun q5 h => ?_) (fun q5 h => ?_)
    · refine dl_aload_n (pc := 14) C 0 dX12_told_14 rfl rfl ?_
      refine dl_get (pc := 15) C hin_X12_told_X12 0 mm_a0 rfl 1 (by decide) lk_X12_told_7 rfl rfl dX12_told_15 ?_
      refine dl_iload_n (pc := 18) C 1 dX12_told_18 rfl rfl ?_
      obtain ⟨h0, h⟩ := dl_gd_some h
      refine dl_iald (pc := 19) C 1 0 mm_a1 hTY h0 dX12_told_19 ?_
      refine dl_goto (pc := 20) C 55 dX12_told_20 (by decide) ?_
      exact hQ 55 _ _ _ ⟨Option.some.inj h, rfl⟩ (vp_nar_int _) dX12_told_55
    · refine dl_iload_n (pc := 23) C 2 dX12_told_23 rfl rfl ?_
      refine dl_iconst (pc := 24) C 1 dX12_told_24 (by decide) ?_
      refine dl_icmp_ne (pc := 25) C 37 dX12_told_25 (by decide) h (fun q4 h => ?_) (fun q4 h => ?_)
      · refine dl_aload_n (pc := 28) C 0 dX12_told_28 rfl rfl ?_
        refine dl_get (pc := 29) C hin_X12_told_X12 0 mm_a0 rfl 2 (by decide) lk_X12_told_13 rfl rfl dX12_told_29 ?_
        refine dl_iload_n (pc := 32) C 1 dX12_told_32 rfl rfl ?_
        obtain ⟨h0, h⟩ := dl_gd_some h
        refine dl_iald (pc := 33) C 2 0 mm_a2 hTY h0 dX12_told_33 ?_
        refine dl_goto (pc := 34) C 55 dX12_told_34 (by decide) ?_
        exact hQ 55 _ _ _ ⟨Option.some.inj h, rfl⟩ (vp_nar_int _) dX12_told_55
      · refine dl_iload_n (pc := 37) C 2 dX12_told_37 rfl rfl ?_
        refine dl_iconst (pc := 38) C 2 dX12_told_38 (by decide) ?_
        refine dl_icmp_ne (pc := 39) C 54 dX12_told_39 (by decide) h (fun q3 h => ?_) (fun q3 h => ?_)
        · refine dl_aload_n (pc := 42) C 0 dX12_told_42 rfl rfl ?_
          refine dl_iload_n (pc := 43) C 1 dX12_told_43 rfl rfl ?_
          refine dl_aload_n (pc := 44) C 0 dX12_told_44 rfl rfl ?_
          refine dl_get (pc := 45) C hin_X12_told_X12 0 mm_a0 rfl 7 (by decide) lk_X12_told_101 rfl rfl dX12_told_45 ?_
          obtain ⟨r2, h1, h⟩ := dl_bi_some h
          refine dl_vI0 (pc := 48) C (cmo_degree l D cI TY hTY nw N ad R _ _ _ h1) (cwV 2 C.2.2.2.2.1 gX12_told_X12_degree rfl rfl rfl (by decide +kernel) ⟨Nat.le_of_ble_eq_true rfl, Nat.le_of_ble_eq_true rfl⟩) 0 12 mm_a0 rfl rfl rfl (Nat.le_of_ble_eq_true rfl) dX12_told_48 ⟨Nat.zero_le _, Nat.zero_le _⟩ (fun r u hp => ?_)
          obtain ⟨rfl, rfl⟩ := hp
          refine dl_goto (pc := 51) C 55 dX12_told_51 (by decide) ?_
          exact hQ 55 _ _ _ ⟨Option.some.inj h, rfl⟩ (vp_nar_int _) dX12_told_55
        · refine dl_iconst (pc := 54) C (-1) dX12_told_54 (by decide) ?_
          exact hQ 55 _ _ _ ⟨Option.some.inj h, rfl⟩ (vp_nar_int _) dX12_told_55
theorem hin_X12_streetTold_X12 : ∀ w ∈ u_ws RX12 TX12 32, w ∈ wsX12_streetTold := fun _ h => List.mem_cons_of_mem _ (List.mem_append_right _ h)
theorem lk_X12_streetTold_16 : Cond.fieldLink (yX12_streetTold).cls 16 "DripLinesModel" (TX12 4).2.1 (TX12 4).2.2.1 ∈ wsX12_streetTold := by decide +kernel
theorem lk_X12_streetTold_19 : Cond.fieldLink (yX12_streetTold).cls 19 "DripLinesModel" (TX12 5).2.1 (TX12 5).2.2.1 ∈ wsX12_streetTold := by decide +kernel
theorem lk_X12_streetTold_22 : Cond.fieldLink (yX12_streetTold).cls 22 "DripLinesModel" (TX12 6).2.1 (TX12 6).2.2.1 ∈ wsX12_streetTold := by decide +kernel
theorem lk_X12_streetTold_101 : Cond.fieldLink (yX12_streetTold).cls 101 "DripLinesModel" (TX12 7).2.1 (TX12 7).2.2.1 ∈ wsX12_streetTold := by decide +kernel
theorem lk_X12_streetTold_121 : Cond.fieldLink (yX12_streetTold).cls 121 "DripLinesModel" (TX12 8).2.1 (TX12 8).2.2.1 ∈ wsX12_streetTold := by decide +kernel
set_option maxHeartbeats 4000000 in
set_option maxRecDepth 100000 in
theorem cmo_streetTold (l : Launch) (D : va_G) (cI : ClassId) (TY : dl_TY) (hTY : TY[0]? = some (cI, .int)) (nw : List Cond) (ad : Nat → Nat) (R : va_W) (g : dl_Sg) (x1 : Int32) (x2 : Int32) {r0 : Int32} (h : mo_streetTold g x1 x2 = some r0) : dl_CtI l D TY nw yX12_streetTold wsX12_streetTold { frames := 2, cells := 0, slots := 0, locals := 43 } 0 0 [.ref (ad 0), .int x1, .int x2] (mm_w cI ad g ++ R) (fun r u => r = r0 ∧ u = mm_w cI ad g ++ R) := by
  refine dl_metI (ty := .int) [(0, .ref (ad 0)), (1, .int x1), (2, .int x2)] (by decide) rfl (Nat.le_of_ble_eq_true rfl) rfl ?_
  intro p e s m args below meth c Q A C hQ
  unfold mo_streetTold at h
  refine dl_aload_n (pc := 0) C 0 dX12_streetTold_0 rfl rfl ?_
  refine dl_iload_n (pc := 1) C 1 dX12_streetTold_1 rfl rfl ?_
  obtain ⟨r1, h1, h⟩ := dl_bi_some h
  refine dl_vI0 (pc := 2) C (cmo_isStreet l D cI TY hTY nw ad R _ _ h1) (cwV 1 C.2.2.2.2.1 gX12_streetTold_X12_isStreet rfl rfl rfl (by decide +kernel) ⟨Nat.le_of_ble_eq_true rfl, Nat.le_of_ble_eq_true rfl⟩) 0 12 mm_a0 rfl rfl rfl (Nat.le_of_ble_eq_true rfl) dX12_streetTold_2 ⟨Nat.zero_le _, Nat.zero_le _⟩ (fun r u hp => ?_)
  obtain ⟨rfl, rfl⟩ := hp
  refine dl_if_ne (pc := 5) C 10 dX12_streetTold_5 (by decide) h (fun q7 h => ?_) (fun q7 h => ?_)
  · refine dl_iconst (pc := 8) C (-1) dX12_streetTold_8 (by decide) ?_
    exact hQ 9 _ _ _ ⟨Option.some.inj h, rfl⟩ (vp_nar_int _) dX12_streetTold_9
  · refine dl_iload_n (pc := 10) C 2 dX12_streetTold_10 rfl rfl ?_
    by_cases q2 : x2 = 0
    · rw [if_pos q2] at h
      refine dl_tabIn (pc := 11) C 33 44 dX12_streetTold_11 (by rw [q2]; decide) (by rw [q2]; decide) (by rw [q2]; rfl) (by decide) ?_
      refine dl_aload_n (pc := 44) C 0 dX12_streetTold_44 rfl rfl ?_
      refine dl_get (pc := 45) C hin_X12_streetTold_X12 0 mm_a0 rfl 4 (by decide) lk_X12_streetTold_16 rfl rfl dX12_streetTold_45 ?_
      refine dl_iload_n (pc := 48) C 1 dX12_streetTold_48 rfl rfl ?_
      obtain ⟨h0, h⟩ := dl_gd_some h
      refine dl_iald (pc := 49) C 3 0 mm_a4 hTY h0 dX12_streetTold_49 ?_
      exact hQ 50 _ _ _ ⟨Option.some.inj h, rfl⟩ (vp_nar_int _) dX12_streetTold_50
    rw [if_neg q2] at h
    by_cases q3 : x2 = 1
    · rw [if_pos q3] at h
      refine dl_tabIn (pc := 11) C 40 51 dX12_streetTold_11 (by rw [q3]; decide) (by rw [q3]; decide) (by rw [q3]; rfl) (by decide) ?_
      refine dl_aload_n (pc := 51) C 0 dX12_streetTold_51 rfl rfl ?_
      refine dl_get (pc := 52) C hin_X12_streetTold_X12 0 mm_a0 rfl 5 (by decide) lk_X12_streetTold_19 rfl rfl dX12_streetTold_52 ?_
      refine dl_iload_n (pc := 55) C 1 dX12_streetTold_55 rfl rfl ?_
      obtain ⟨h0, h⟩ := dl_gd_some h
      refine dl_iald (pc := 56) C 4 0 mm_a5 hTY h0 dX12_streetTold_56 ?_
      exact hQ 57 _ _ _ ⟨Option.some.inj h, rfl⟩ (vp_nar_int _) dX12_streetTold_57
    rw [if_neg q3] at h
    by_cases q4 : x2 = 2
    · rw [if_pos q4] at h
      refine dl_tabIn (pc := 11) C 47 58 dX12_streetTold_11 (by rw [q4]; decide) (by rw [q4]; decide) (by rw [q4]; rfl) (by decide) ?_
      refine dl_aload_n (pc := 58) C 0 dX12_streetTold_58 rfl rfl ?_
      refine dl_get (pc := 59) C hin_X12_streetTold_X12 0 mm_a0 rfl 6 (by decide) lk_X12_streetTold_22 rfl rfl dX12_streetTold_59 ?_
      refine dl_iload_n (pc := 62) C 1 dX12_streetTold_62 rfl rfl ?_
      obtain ⟨h0, h⟩ := dl_gd_some h
      refine dl_iald (pc := 63) C 5 0 mm_a6 hTY h0 dX12_streetTold_63 ?_
      exact hQ 64 _ _ _ ⟨Option.some.inj h, rfl⟩ (vp_nar_int _) dX12_streetTold_64
    rw [if_neg q4] at h
    by_cases q5 : x2 = 3
    · rw [if_pos q5] at h
      refine dl_tabIn (pc := 11) C 54 65 dX12_streetTold_11 (by rw [q5]; decide) (by rw [q5]; decide) (by rw [q5]; rfl) (by decide) ?_
      refine dl_aload_n (pc := 65) C 0 dX12_streetTold_65 rfl rfl ?_
      refine dl_get (pc := 66) C hin_X12_streetTold_X12 0 mm_a0 rfl 7 (by decide) lk_X12_streetTold_101 rfl rfl dX12_streetTold_66 ?_
      refine dl_iload_n (pc := 69) C 1 dX12_streetTold_69 rfl rfl ?_
      refine dl_ishr (pc := 70) C dX12_streetTold_70 ?_
      refine dl_iconst (pc := 71) C 1 dX12_streetTold_71 (by decide) ?_
      refine dl_iand (pc := 72) C dX12_streetTold_72 ?_
      exact hQ 73 _ _ _ ⟨Option.some.inj h, rfl⟩ (vp_nar_int _) dX12_streetTold_73
    rw [if_neg q5] at h
    by_cases q6 : x2 = 4
    · rw [if_pos q6] at h
      refine dl_tabIn (pc := 11) C 63 74 dX12_streetTold_11 (by rw [q6]; decide) (by rw [q6]; decide) (by rw [q6]; rfl) (by decide) ?_
      refine dl_aload_n (pc := 74) C 0 dX12_streetTold_74 rfl rfl ?_
      refine dl_get (pc := 75) C hin_X12_streetTold_X12 0 mm_a0 rfl 8 (by decide) lk_X12_streetTold_121 rfl rfl dX12_streetTold_75 ?_
      refine dl_iload_n (pc := 78) C 1 dX12_streetTold_78 rfl rfl ?_
      refine dl_ishr (pc := 79) C dX12_streetTold_79 ?_
      refine dl_iconst (pc := 80) C 1 dX12_streetTold_80 (by decide) ?_
      refine dl_iand (pc := 81) C dX12_streetTold_81 ?_
      exact hQ 82 _ _ _ ⟨Option.some.inj h, rfl⟩ (vp_nar_int _) dX12_streetTold_82
    rw [if_neg q6] at h
    refine dl_tabOut (pc := 11) C 83 dX12_streetTold_11 (by have eq2 : (x2).toInt ≠ 0 := fun w => q2 (Int32.toInt_inj.mp w); have eq3 : (x2).toInt ≠ 1 := fun w => q3 (Int32.toInt_inj.mp w); have eq4 : (x2).toInt ≠ 2 := fun w => q4 (Int32.toInt_inj.mp w); have eq5 : (x2).toInt ≠ 3 := fun w => q5 (Int32.toInt_inj.mp w); have eq6 : (x2).toInt ≠ 4 := fun w => q6 (Int32.toInt_inj.mp w); omega) (by decide) ?_
    refine dl_iconst (pc := 83) C (-1) dX12_streetTold_83 (by decide) ?_
    exact hQ 84 _ _ _ ⟨Option.some.inj h, rfl⟩ (vp_nar_int _) dX12_streetTold_84
