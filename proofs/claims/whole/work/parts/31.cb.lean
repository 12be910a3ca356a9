theorem hin_X8_placeOn_X2 : ∀ w ∈ u_ws RX2 TX2 18, w ∈ wsX8_placeOn := fun _ h => List.mem_cons_of_mem _ (List.mem_append_right _ h)
theorem hin_X8_placeOn_X8 : ∀ w ∈ u_ws RX8 TX8 3, w ∈ wsX8_placeOn := fun _ h => List.mem_cons_of_mem _ (List.mem_append_left _ (List.mem_append_right _ h))
theorem lk_X8_placeOn_9 : Cond.fieldLink (yX8_placeOn).cls 9 "DripLines$Ways" (TX8 1).2.1 (TX8 1).2.2.1 ∈ wsX8_placeOn := by decide +kernel
theorem lk_X8_placeOn_18 : Cond.fieldLink (yX8_placeOn).cls 18 "DripLines$Ways" (TX8 0).2.1 (TX8 0).2.2.1 ∈ wsX8_placeOn := by decide +kernel
set_option maxHeartbeats 4000000 in
set_option maxRecDepth 100000 in
theorem cl8_placeOn_t41 {p : Program} {e : Env} {s : State} {m : MethodId} {args : Array Value} {below : List Frame} {meth : Method} {c : Code} {Q : State → Prop} {A : Nat → Prop} (l : Launch) (D : va_G) (cI cP cII : ClassId) (TY : dl_TY) (hTY : TY[0]? = some (cI, .int)) (N : Nat) (ad : Nat → Nat) (pr : Nat → Option Nat) (R : va_W) {r0 : Int32} {g0 : dl_Sg} (C : dl_Cx p s m args c A D TY cc_nw cX8_placeOn 6 yX8_placeOn.cls wsX8_placeOn) (hQ : dl_RtI p l e (headSpec wsX8_placeOn { frames := 3, cells := 0, slots := 0, locals := 75 }).room s m args below meth c Q A D cX8_placeOn 6 0 0 .int (fun r u => r = r0 ∧ u = cc_w cI cP cII ad pr g0 ++ R)) : ∀ (n : Nat) (x2 : Int32) (x3 : Int32) (x4 : Int32) (x5 : Int32) (g : dl_Sg), cl8_placeOn_b41 N n x2 x3 x4 x5 g = some (r0, g0) → dl_At p l e (headSpec wsX8_placeOn { frames := 3, cells := 0, slots := 0, locals := 75 }).room s m args below meth c Q A D 6 0 0 41 [(0, .ref (ad 2)), (2, .int x2), (3, .int x3), (4, .int x4), (5, .int x5)] [] (cc_w cI cP cII ad pr g ++ R) := by
  intro n
  induction n with
  | zero => exact fun _ _ _ _ _ h => absurd (show (none : Option (Int32 × dl_Sg)) = some _ from h) (by intro q; cases q)
  | succ n ih =>
    intro x2 x3 x4 x5 g h
    rw [cl8_placeOn_b41] at h
    refine dl_iload (pc := 41) C 4 dX8_placeOn_41 rfl ?_
    refine dl_iload_n (pc := 43) C 2 dX8_placeOn_43 rfl rfl ?_
    refine dl_icmp_ge (pc := 44) C 68 dX8_placeOn_44 (by decide) h (fun q5 h => ?_) (fun q5 h => ?_)
    · refine dl_iload (pc := 68) C 3 dX8_placeOn_68 rfl ?_
      exact hQ 70 _ _ _ ⟨(dl_r2 h).1, by rw [(dl_r2 h).2]⟩ (vp_nar_int _) dX8_placeOn_70
    · refine dl_iload (pc := 47) C 3 dX8_placeOn_47 rfl ?_
      refine dl_iconst (pc := 49) C (-1) dX8_placeOn_49 (by decide) ?_
      refine dl_icmp_eq (pc := 50) C 68 dX8_placeOn_50 (by decide) h (fun q4 h => ?_) (fun q4 h => ?_)
      · refine dl_iload (pc := 68) C 3 dX8_placeOn_68 rfl ?_
        exact hQ 70 _ _ _ ⟨(dl_r2 h).1, by rw [(dl_r2 h).2]⟩ (vp_nar_int _) dX8_placeOn_70
      · refine dl_aload_n (pc := 53) C 0 dX8_placeOn_53 rfl rfl ?_
        refine dl_iload (pc := 54) C 3 dX8_placeOn_54 rfl ?_
        refine dl_iload_n (pc := 56) C 1 dX8_placeOn_56 rfl rfl ?_
        obtain ⟨r1, h1, h⟩ := dl_bi_some h
        refine dl_vI0 (pc := 57) C (ccl8_nextOf l D cI cP cII TY hTY N ad pr R _ _ _ h1) (cwV 2 C.2.2.2.2.1 gX8_placeOn_X8_nextOf rfl rfl rfl (by decide +kernel) ⟨Nat.le_of_ble_eq_true rfl, Nat.le_of_ble_eq_true rfl⟩) 2 8 cc_a2 rfl rfl rfl (Nat.le_of_ble_eq_true rfl) dX8_placeOn_57 ⟨Nat.zero_le _, Nat.zero_le _⟩ (fun r u hp => ?_)
        obtain ⟨rfl, rfl⟩ := hp
        refine dl_istore (pc := 60) C (fun v2 => [(4, .int v2), (0, .ref (ad 2)), (2, .int x2), (3, .int x3), (5, .int x5)]) dX8_placeOn_60 (by decide) (fun _ => rfl) h (fun v2 h => ?_)
        refine dl_iinc (pc := 62) C 4 (fun v3 => [(5, .int v3), (4, .int v2), (0, .ref (ad 2)), (2, .int x2), (3, .int x3)]) dX8_placeOn_62 rfl rfl (by decide) (fun _ => rfl) h (fun v3 h => ?_)
        refine dl_goto (pc := 65) C 41 dX8_placeOn_65 (by decide) ?_
        refine dl_sub [2, 3, 4, 1, 0] rfl ?_
        exact ih _ _ _ _ _ h
set_option maxHeartbeats 4000000 in
set_option maxRecDepth 100000 in
theorem ccl8_placeOn (l : Launch) (D : va_G) (cI cP cII : ClassId) (TY : dl_TY) (hTY : TY[0]? = some (cI, .int)) (N : Nat) (ad : Nat → Nat) (pr : Nat → Option Nat) (R : va_W) (g : dl_Sg) (x1 : Int32) (x2 : Int32) (x3 : Int32) {r0 : Int32} {g0 : dl_Sg} (h : cl8_placeOn N g x1 x2 x3 = some (r0, g0)) : dl_CtI l D TY cc_nw yX8_placeOn wsX8_placeOn { frames := 3, cells := 0, slots := 0, locals := 75 } 0 0 [.ref (ad 2), .int x1, .int x2, .int x3] (cc_w cI cP cII ad pr g ++ R) (fun r u => r = r0 ∧ u = cc_w cI cP cII ad pr g0 ++ R) := by
  refine dl_metI (ty := .int) [(0, .ref (ad 2)), (1, .int x1), (2, .int x2), (3, .int x3)] (by decide) rfl (Nat.le_of_ble_eq_true rfl) rfl ?_
  intro p e s m args below meth c Q A C hQ
  unfold cl8_placeOn at h
  refine dl_iload_n (pc := 0) C 3 dX8_placeOn_0 rfl rfl ?_
  refine dl_if_lt (pc := 1) C 15 dX8_placeOn_1 (by decide) h (fun q6 h => ?_) (fun q6 h => ?_)
  · refine dl_iconst (pc := 15) C (-1) dX8_placeOn_15 (by decide) ?_
    exact hQ 16 _ _ _ ⟨(dl_r2 h).1, by rw [(dl_r2 h).2]⟩ (vp_nar_int _) dX8_placeOn_16
  · refine dl_iload_n (pc := 4) C 3 dX8_placeOn_4 rfl rfl ?_
    refine dl_aload_n (pc := 5) C 0 dX8_placeOn_5 rfl rfl ?_
    refine dl_get (pc := 6) C hin_X8_placeOn_X8 2 cc_a2 rfl 0 (by decide) lk_X8_placeOn_18 rfl rfl dX8_placeOn_6 ?_
    refine dl_getN (pc := 9) C hin_X8_placeOn_X2 1 cc_a1 rfl 10 (by decide) nk_RX8_28 rfl rfl dX8_placeOn_9 ?_
    refine dl_icmp_lt (pc := 12) C 17 dX8_placeOn_12 (by decide) h (fun q5 h => ?_) (fun q5 h => ?_)
    · refine dl_aload_n (pc := 17) C 0 dX8_placeOn_17 rfl rfl ?_
      refine dl_iload_n (pc := 18) C 2 dX8_placeOn_18 rfl rfl ?_
      obtain ⟨g1, h1, h⟩ := dl_bi_some h
      refine dl_vV0 (pc := 19) C (ccl8_measure l D cI cP cII TY hTY N ad pr R _ _ h1) (cwV 1 C.2.2.2.2.1 gX8_placeOn_X8_measure rfl rfl rfl (by decide +kernel) ⟨Nat.le_of_ble_eq_true rfl, Nat.le_of_ble_eq_true rfl⟩) 2 8 cc_a2 rfl rfl rfl (Nat.le_of_ble_eq_true rfl) dX8_placeOn_19 ⟨Nat.zero_le _, Nat.zero_le _⟩ (fun u hp => ?_)
      subst hp
      refine dl_aload_n (pc := 22) C 0 dX8_placeOn_22 rfl rfl ?_
      refine dl_get (pc := 23) C hin_X8_placeOn_X8 2 cc_a2 rfl 1 (by decide) lk_X8_placeOn_9 rfl rfl dX8_placeOn_23 ?_
      refine dl_iload_n (pc := 26) C 1 dX8_placeOn_26 rfl rfl ?_
      obtain ⟨h0, h⟩ := dl_gd_some h
      refine dl_iald (pc := 27) C 15 0 cc_a18 hTY h0 dX8_placeOn_27 ?_
      refine dl_ldc (pc := 28) C 100000000 (by decide +kernel) dX8_placeOn_28 ?_
      refine dl_icmp_lt (pc := 30) C 35 dX8_placeOn_30 (by decide) h (fun q4 h => ?_) (fun q4 h => ?_)
      · refine dl_iload_n (pc := 35) C 1 dX8_placeOn_35 rfl rfl ?_
        refine dl_istore (pc := 36) C (fun v2 => [(4, .int v2), (0, .ref (ad 2)), (1, .int x1), (2, .int x2), (3, .int x3)]) dX8_placeOn_36 (by decide) (fun _ => rfl) h (fun v2 h => ?_)
        refine dl_iconst (pc := 38) C 0 dX8_placeOn_38 (by decide) ?_
        refine dl_istore (pc := 39) C (fun v3 => [(5, .int v3), (4, .int v2), (0, .ref (ad 2)), (1, .int x1), (2, .int x2), (3, .int x3)]) dX8_placeOn_39 (by decide) (fun _ => rfl) h (fun v3 h => ?_)
        refine dl_sub [2, 4, 5, 1, 0] rfl ?_
        exact cl8_placeOn_t41 l D cI cP cII TY hTY N ad pr R C hQ N _ _ _ _ _ h
      · refine dl_iconst (pc := 33) C (-1) dX8_placeOn_33 (by decide) ?_
        exact hQ 34 _ _ _ ⟨(dl_r2 h).1, by rw [(dl_r2 h).2]⟩ (vp_nar_int _) dX8_placeOn_34
    · refine dl_iconst (pc := 15) C (-1) dX8_placeOn_15 (by decide) ?_
      exact hQ 16 _ _ _ ⟨(dl_r2 h).1, by rw [(dl_r2 h).2]⟩ (vp_nar_int _) dX8_placeOn_16
theorem hin_X8_comeNearer_X2 : ∀ w ∈ u_ws RX2 TX2 18, w ∈ wsX8_comeNearer := fun _ h => List.mem_cons_of_mem _ (List.mem_append_right _ h)
theorem hin_X8_comeNearer_X8 : ∀ w ∈ u_ws RX8 TX8 3, w ∈ wsX8_comeNearer := fun _ h => List.mem_cons_of_mem _ (List.mem_append_left _ (List.mem_append_right _ h))
theorem lk_X8_comeNearer_9 : Cond.fieldLink (yX8_comeNearer).cls 9 "DripLines$Ways" (TX8 1).2.1 (TX8 1).2.2.1 ∈ wsX8_comeNearer := by decide +kernel
theorem lk_X8_comeNearer_15 : Cond.fieldLink (yX8_comeNearer).cls 15 "DripLines$Ways" (TX8 2).2.1 (TX8 2).2.2.1 ∈ wsX8_comeNearer := by decide +kernel
theorem lk_X8_comeNearer_18 : Cond.fieldLink (yX8_comeNearer).cls 18 "DripLines$Ways" (TX8 0).2.1 (TX8 0).2.2.1 ∈ wsX8_comeNearer := by decide +kernel
set_option maxHeartbeats 4000000 in
set_option maxRecDepth 100000 in
theorem cl8_comeNearer_t7 {p : Program} {e : Env} {s : State} {m : MethodId} {args : Array Value} {below : List Frame} {meth : Method} {c : Code} {Q : State → Prop} {A : Nat → Prop} (l : Launch) (D : va_G) (cI cP cII : ClassId) (TY : dl_TY) (hTY : TY[0]? = some (cI, .int)) (N : Nat) (ad : Nat → Nat) (pr : Nat → Option Nat) (R : va_W) {g0 : dl_Sg} (C : dl_Cx p s m args c A D TY cc_nw cX8_comeNearer 3 yX8_comeNearer.cls wsX8_comeNearer) (hQ : dl_RtV p l e (headSpec wsX8_comeNearer { frames := 3, cells := 0, slots := 0, locals := 75 }).room s m args below meth c Q A D cX8_comeNearer 3 0 0 (fun u => u = cc_w cI cP cII ad pr g0 ++ R)) : ∀ (n : Nat) (x2 : Int32) (g : dl_Sg), cl8_comeNearer_b7 N n x2 g = some g0 → dl_At p l e (headSpec wsX8_comeNearer { frames := 3, cells := 0, slots := 0, locals := 75 }).room s m args below meth c Q A D 3 0 0 7 [(0, .ref (ad 2)), (2, .int x2)] [] (cc_w cI cP cII ad pr g ++ R) := by
  intro n
  induction n with
  | zero => exact fun _ _ h => absurd (show (none : Option dl_Sg) = some _ from h) (by intro q; cases q)
  | succ n ih =>
    intro x2 g h
    rw [cl8_comeNearer_b7] at h
    refine dl_iload_n (pc := 7) C 1 dX8_comeNearer_7 rfl rfl ?_
    refine dl_aload_n (pc := 8) C 0 dX8_comeNearer_8 rfl rfl ?_
    refine dl_get (pc := 9) C hin_X8_comeNearer_X8 2 cc_a2 rfl 0 (by decide) lk_X8_comeNearer_18 rfl rfl dX8_comeNearer_9 ?_
    refine dl_getN (pc := 12) C hin_X8_comeNearer_X2 1 cc_a1 rfl 10 (by decide) nk_RX8_28 rfl rfl dX8_comeNearer_12 ?_
    refine dl_icmp_ge (pc := 15) C 45 dX8_comeNearer_15 (by decide) h (fun q3 h => ?_) (fun q3 h => ?_)
    · exact hQ 45 _ _ (by rw [Option.some.inj h]) dX8_comeNearer_45
    · refine dl_aload_n (pc := 18) C 0 dX8_comeNearer_18 rfl rfl ?_
      refine dl_get (pc := 19) C hin_X8_comeNearer_X8 2 cc_a2 rfl 2 (by decide) lk_X8_comeNearer_15 rfl rfl dX8_comeNearer_19 ?_
      refine dl_iload_n (pc := 22) C 1 dX8_comeNearer_22 rfl rfl ?_
      refine dl_aload_n (pc := 23) C 0 dX8_comeNearer_23 rfl rfl ?_
      refine dl_get (pc := 24) C hin_X8_comeNearer_X8 2 cc_a2 rfl 2 (by decide) lk_X8_comeNearer_15 rfl rfl dX8_comeNearer_24 ?_
      refine dl_iload_n (pc := 27) C 1 dX8_comeNearer_27 rfl rfl ?_
      obtain ⟨h0, h⟩ := dl_gd_some h
      refine dl_iald (pc := 28) C 16 0 cc_a19 hTY h0 dX8_comeNearer_28 ?_
      refine dl_aload_n (pc := 29) C 0 dX8_comeNearer_29 rfl rfl ?_
      refine dl_get (pc := 30) C hin_X8_comeNearer_X8 2 cc_a2 rfl 1 (by decide) lk_X8_comeNearer_9 rfl rfl dX8_comeNearer_30 ?_
      refine dl_iload_n (pc := 33) C 1 dX8_comeNearer_33 rfl rfl ?_
      obtain ⟨h0, h⟩ := dl_gd_some h
      refine dl_iald (pc := 34) C 15 0 cc_a18 hTY h0 dX8_comeNearer_34 ?_
      refine dl_mmin (pc := 35) C (by decide +kernel) (by decide +kernel) (by decide +kernel) (by decide +kernel) (Nat.le_of_ble_eq_true rfl) (Nat.le_of_ble_eq_true rfl) ⟨Nat.zero_le _, Nat.zero_le _⟩ dX8_comeNearer_35 ?_
      obtain ⟨h0, h⟩ := dl_gd_some h
      refine dl_iast (pc := 38) C 16 0 cc_a19 hTY h0 dX8_comeNearer_38 cc_s19 ?_
      obtain ⟨g1, h, hg⟩ := dl_nm_some h
      rw [← hg]
      clear hg
      refine dl_iinc (pc := 39) C 1 (fun v2 => [(2, .int v2), (0, .ref (ad 2))]) dX8_comeNearer_39 rfl rfl (by decide) (fun _ => rfl) h (fun v2 h => ?_)
      refine dl_goto (pc := 42) C 7 dX8_comeNearer_42 (by decide) ?_
      refine dl_sub [1, 0] rfl ?_
      exact ih _ _ h
set_option maxHeartbeats 4000000 in
set_option maxRecDepth 100000 in
theorem ccl8_comeNearer (l : Launch) (D : va_G) (cI cP cII : ClassId) (TY : dl_TY) (hTY : TY[0]? = some (cI, .int)) (N : Nat) (ad : Nat → Nat) (pr : Nat → Option Nat) (R : va_W) (g : dl_Sg) (x1 : Int32) {g0 : dl_Sg} (h : cl8_comeNearer N g x1 = some g0) : dl_CtV l D TY cc_nw yX8_comeNearer wsX8_comeNearer { frames := 3, cells := 0, slots := 0, locals := 75 } 0 0 [.ref (ad 2), .int x1] (cc_w cI cP cII ad pr g ++ R) (fun u => u = cc_w cI cP cII ad pr g0 ++ R) := by
  refine dl_metV [(0, .ref (ad 2)), (1, .int x1)] (by decide) rfl (Nat.le_of_ble_eq_true rfl) rfl ?_
  intro p e s m args below meth c Q A C hQ
  unfold cl8_comeNearer at h
  refine dl_aload_n (pc := 0) C 0 dX8_comeNearer_0 rfl rfl ?_
  refine dl_iload_n (pc := 1) C 1 dX8_comeNearer_1 rfl rfl ?_
  obtain ⟨g1, h1, h⟩ := dl_bi_some h
  refine dl_vV0 (pc := 2) C (ccl8_measure l D cI cP cII TY hTY N ad pr R _ _ h1) (cwV 1 C.2.2.2.2.1 gX8_comeNearer_X8_measure rfl rfl rfl (by decide +kernel) ⟨Nat.le_of_ble_eq_true rfl, Nat.le_of_ble_eq_true rfl⟩) 2 8 cc_a2 rfl rfl rfl (Nat.le_of_ble_eq_true rfl) dX8_comeNearer_2 ⟨Nat.zero_le _, Nat.zero_le _⟩ (fun u hp => ?_)
  subst hp
  refine dl_iconst (pc := 5) C 0 dX8_comeNearer_5 (by decide) ?_
  refine dl_istore_n (pc := 6) C (fun v2 => [(2, .int v2), (0, .ref (ad 2)), (1, .int x1)]) dX8_comeNearer_6 rfl (by decide) (fun _ => rfl) h (fun v2 h => ?_)
  refine dl_sub [1, 0] rfl ?_
  exact cl8_comeNearer_t7 l D cI cP cII TY hTY N ad pr R C hQ N _ _ h
theorem hin_X8_nearestOf_X2 : ∀ w ∈ u_ws RX2 TX2 18, w ∈ wsX8_nearestOf := fun _ h => List.mem_cons_of_mem _ (List.mem_append_right _ h)
theorem hin_X8_nearestOf_X8 : ∀ w ∈ u_ws RX8 TX8 3, w ∈ wsX8_nearestOf := fun _ h => List.mem_cons_of_mem _ (List.mem_append_left _ (List.mem_append_right _ h))
theorem lk_X8_nearestOf_15 : Cond.fieldLink (yX8_nearestOf).cls 15 "DripLines$Ways" (TX8 2).2.1 (TX8 2).2.2.1 ∈ wsX8_nearestOf := by decide +kernel
theorem lk_X8_nearestOf_18 : Cond.fieldLink (yX8_nearestOf).cls 18 "DripLines$Ways" (TX8 0).2.1 (TX8 0).2.2.1 ∈ wsX8_nearestOf := by decide +kernel
set_option maxHeartbeats 4000000 in
set_option maxRecDepth 100000 in
theorem cl8_nearestOf_t52 {p : Program} {e : Env} {s : State} {m : MethodId} {args : Array Value} {below : List Frame} {meth : Method} {c : Code} {Q : State → Prop} {A : Nat → Prop} (l : Launch) (D : va_G) (cI cP cII : ClassId) (TY : dl_TY) (hTY : TY[0]? = some (cI, .int)) (N : Nat) (ad : Nat → Nat) (pr : Nat → Option Nat) (R : va_W) (g : dl_Sg) {r0 : Int32} (C : dl_Cx p s m args c A D TY cc_nw cX8_nearestOf 5 yX8_nearestOf.cls wsX8_nearestOf) (hQ : dl_RtI p l e (headSpec wsX8_nearestOf { frames := 1, cells := 0, slots := 0, locals := 21 }).room s m args below meth c Q A D cX8_nearestOf 5 0 0 .int (fun r u => r = r0 ∧ u = cc_w cI cP cII ad pr g ++ R)) {k8 : Int32 → Int32 → Int32 → Int32 → Option Int32} (hk8 : ∀ (x1 : Int32) (x2 : Int32) (x3 : Int32) (x4 : Int32), k8 x1 x2 x3 x4 = some r0 → dl_At p l e (headSpec wsX8_nearestOf { frames := 1, cells := 0, slots := 0, locals := 21 }).room s m args below meth c Q A D 5 0 0 8 [(0, .ref (ad 2)), (1, .int x1), (2, .int x2), (3, .int x3), (4, .int x4)] [] (cc_w cI cP cII ad pr g ++ R)) (x1 : Int32) (x2 : Int32) (x3 : Int32) (x4 : Int32) (h : cl8_nearestOf_b52 N g k8 x1 x2 x3 x4 = some r0) : dl_At p l e (headSpec wsX8_nearestOf { frames := 1, cells := 0, slots := 0, locals := 21 }).room s m args below meth c Q A D 5 0 0 52 [(0, .ref (ad 2)), (1, .int x1), (2, .int x2), (3, .int x3), (4, .int x4)] [] (cc_w cI cP cII ad pr g ++ R) := by
  unfold cl8_nearestOf_b52 at h
  refine dl_iinc (pc := 52) C 4 (fun v1 => [(4, .int v1), (0, .ref (ad 2)), (1, .int x1), (2, .int x2), (3, .int x3)]) dX8_nearestOf_52 rfl rfl (by decide) (fun _ => rfl) h (fun v1 h => ?_)
  refine dl_goto (pc := 55) C 8 dX8_nearestOf_55 (by decide) ?_
  refine dl_sub [1, 2, 3, 4, 0] rfl ?_
  exact hk8 _ _ _ _ h
set_option maxHeartbeats 4000000 in
set_option maxRecDepth 100000 in
theorem cl8_nearestOf_t8 {p : Program} {e : Env} {s : State} {m : MethodId} {args : Array Value} {below : List Frame} {meth : Method} {c : Code} {Q : State → Prop} {A : Nat → Prop} (l : Launch) (D : va_G) (cI cP cII : ClassId) (TY : dl_TY) (hTY : TY[0]? = some (cI, .int)) (N : Nat) (ad : Nat → Nat) (pr : Nat → Option Nat) (R : va_W) (g : dl_Sg) {r0 : Int32} (C : dl_Cx p s m args c A D TY cc_nw cX8_nearestOf 5 yX8_nearestOf.cls wsX8_nearestOf) (hQ : dl_RtI p l e (headSpec wsX8_nearestOf { frames := 1, cells := 0, slots := 0, locals := 21 }).room s m args below meth c Q A D cX8_nearestOf 5 0 0 .int (fun r u => r = r0 ∧ u = cc_w cI cP cII ad pr g ++ R)) : ∀ (n : Nat) (x1 : Int32) (x2 : Int32) (x3 : Int32) (x4 : Int32), cl8_nearestOf_b8 N g n x1 x2 x3 x4 = some r0 → dl_At p l e (headSpec wsX8_nearestOf { frames := 1, cells := 0, slots := 0, locals := 21 }).room s m args below meth c Q A D 5 0 0 8 [(0, .ref (ad 2)), (1, .int x1), (2, .int x2), (3, .int x3), (4, .int x4)] [] (cc_w cI cP cII ad pr g ++ R) := by
  intro n
  induction n with
  | zero => exact fun _ _ _ _ h => absurd (show (none : Option Int32) = some _ from h) (by intro q; cases q)
  | succ n ih =>
    intro x1 x2 x3 x4 h
    rw [cl8_nearestOf_b8] at h
    refine dl_iload (pc := 8) C 4 dX8_nearestOf_8 rfl ?_
    refine dl_aload_n (pc := 10) C 0 dX8_nearestOf_10 rfl rfl ?_
    refine dl_get (pc := 11) C hin_X8_nearestOf_X8 2 cc_a2 rfl 0 (by decide) lk_X8_nearestOf_18 rfl rfl dX8_nearestOf_11 ?_
    refine dl_getN (pc := 14) C hin_X8_nearestOf_X2 1 cc_a1 rfl 10 (by decide) nk_RX8_28 rfl rfl dX8_nearestOf_14 ?_
    refine dl_icmp_ge (pc := 17) C 58 dX8_nearestOf_17 (by decide) h (fun q6 h => ?_) (fun q6 h => ?_)
    · refine dl_iload_n (pc := 58) C 2 dX8_nearestOf_58 rfl rfl ?_
      exact hQ 59 _ _ _ ⟨Option.some.inj h, rfl⟩ (vp_nar_int _) dX8_nearestOf_59
    · refine dl_iload_n (pc := 20) C 1 dX8_nearestOf_20 rfl rfl ?_
      refine dl_iload (pc := 21) C 4 dX8_nearestOf_21 rfl ?_
      obtain ⟨r1, h1, h⟩ := dl_bi_some h
      refine dl_sIN0 (n := 2) (pc := 23) C (ccl11_bitAt l D TY cc_nw _ _ _ h1) ggX8_nearestOf_X11_bitAt rfl rfl rfl nk_RX8_64 (by decide +kernel) (by decide +kernel) (by decide +kernel) ⟨Nat.le_of_ble_eq_true rfl, Nat.le_of_ble_eq_true rfl⟩ rfl rfl (Nat.le_of_ble_eq_true rfl) dX8_nearestOf_23 ⟨Nat.zero_le _, Nat.zero_le _⟩ (fun r u hp => ?_)
      obtain ⟨rfl, hu⟩ := hp
      rw [hu]
      clear hu
      refine dl_iconst (pc := 26) C 1 dX8_nearestOf_26 (by decide) ?_
      refine dl_icmp_ne (pc := 27) C 52 dX8_nearestOf_27 (by decide) h (fun q5 h => ?_) (fun q5 h => ?_)
      · refine dl_aload_n (pc := 30) C 0 dX8_nearestOf_30 rfl rfl ?_
        refine dl_get (pc := 31) C hin_X8_nearestOf_X8 2 cc_a2 rfl 2 (by decide) lk_X8_nearestOf_15 rfl rfl dX8_nearestOf_31 ?_
        refine dl_iload (pc := 34) C 4 dX8_nearestOf_34 rfl ?_
        obtain ⟨h0, h⟩ := dl_gd_some h
        refine dl_iald (pc := 36) C 16 0 cc_a19 hTY h0 dX8_nearestOf_36 ?_
        refine dl_iload_n (pc := 37) C 3 dX8_nearestOf_37 rfl rfl ?_
        refine dl_icmp_ge (pc := 38) C 52 dX8_nearestOf_38 (by decide) h (fun q4 h => ?_) (fun q4 h => ?_)
        · refine dl_sub [0, 1, 2, 3, 4] rfl ?_
          exact cl8_nearestOf_t52 l D cI cP cII TY hTY N ad pr R g C hQ ih  _ _ _ _ h
        · refine dl_iload (pc := 41) C 4 dX8_nearestOf_41 rfl ?_
          refine dl_istore_n (pc := 43) C (fun v2 => [(2, .int v2), (0, .ref (ad 2)), (1, .int x1), (3, .int x3), (4, .int x4)]) dX8_nearestOf_43 rfl (by decide) (fun _ => rfl) h (fun v2 h => ?_)
          refine dl_aload_n (pc := 44) C 1 dX8_nearestOf_44 rfl rfl ?_
          refine dl_get (pc := 45) C hin_X8_nearestOf_X8 2 cc_a2 rfl 2 (by decide) lk_X8_nearestOf_15 rfl rfl dX8_nearestOf_45 ?_
          refine dl_iload (pc := 48) C 4 dX8_nearestOf_48 rfl ?_
          obtain ⟨h0, h⟩ := dl_gd_some h
          refine dl_iald (pc := 50) C 16 0 cc_a19 hTY h0 dX8_nearestOf_50 ?_
          refine dl_istore_n (pc := 51) C (fun v3 => [(3, .int v3), (2, .int v2), (0, .ref (ad 2)), (1, .int x1), (4, .int x4)]) dX8_nearestOf_51 rfl (by decide) (fun _ => rfl) h (fun v3 h => ?_)
          refine dl_sub [2, 3, 1, 0, 4] rfl ?_
          exact cl8_nearestOf_t52 l D cI cP cII TY hTY N ad pr R g C hQ ih  _ _ _ _ h
      · refine dl_sub [0, 1, 2, 3, 4] rfl ?_
        exact cl8_nearestOf_t52 l D cI cP cII TY hTY N ad pr R g C hQ ih  _ _ _ _ h
set_option maxHeartbeats 4000000 in
set_option maxRecDepth 100000 in
theorem ccl8_nearestOf (l : Launch) (D : va_G) (cI cP cII : ClassId) (TY : dl_TY) (hTY : TY[0]? = some (cI, .int)) (N : Nat) (ad : Nat → Nat) (pr : Nat → Option Nat) (R : va_W) (g : dl_Sg) (x1 : Int32) {r0 : Int32} (h : cl8_nearestOf N g x1 = some r0) : dl_CtI l D TY cc_nw yX8_nearestOf wsX8_nearestOf { frames := 1, cells := 0, slots := 0, locals := 21 } 0 0 [.ref (ad 2), .int x1] (cc_w cI cP cII ad pr g ++ R) (fun r u => r = r0 ∧ u = cc_w cI cP cII ad pr g ++ R) := by
  refine dl_metI (ty := .int) [(0, .ref (ad 2)), (1, .int x1)] (by decide) rfl (Nat.le_of_ble_eq_true rfl) rfl ?_
  intro p e s m args below meth c Q A C hQ
  unfold cl8_nearestOf at h
  refine dl_iconst (pc := 0) C (-1) dX8_nearestOf_0 (by decide) ?_
  refine dl_istore_n (pc := 1) C (fun v1 => [(2, .int v1), (0, .ref (ad 2)), (1, .int x1)]) dX8_nearestOf_1 rfl (by decide) (fun _ => rfl) h (fun v1 h => ?_)
  refine dl_ldc (pc := 2) C 100000000 (by decide +kernel) dX8_nearestOf_2 ?_
  refine dl_istore_n (pc := 4) C (fun v2 => [(3, .int v2), (2, .int v1), (0, .ref (ad 2)), (1, .int x1)]) dX8_nearestOf_4 rfl (by decide) (fun _ => rfl) h (fun v2 h => ?_)
  refine dl_iconst (pc := 5) C 0 dX8_nearestOf_5 (by decide) ?_
  refine dl_istore (pc := 6) C (fun v3 => [(4, .int v3), (3, .int v2), (2, .int v1), (0, .ref (ad 2)), (1, .int x1)]) dX8_nearestOf_6 (by decide) (fun _ => rfl) h (fun v3 h => ?_)
  refine dl_sub [3, 4, 2, 1, 0] rfl ?_
  exact cl8_nearestOf_t8 l D cI cP cII TY hTY N ad pr R g C hQ N _ _ _ _ h
theorem hin_X8_spanOfTaps_X2 : ∀ w ∈ u_ws RX2 TX2 18, w ∈ wsX8_spanOfTaps := fun _ h => List.mem_cons_of_mem _ (List.mem_append_right _ h)
theorem hin_X8_spanOfTaps_X8 : ∀ w ∈ u_ws RX8 TX8 3, w ∈ wsX8_spanOfTaps := fun _ h => List.mem_cons_of_mem _ (List.mem_append_left _ (List.mem_append_right _ h))
theorem lk_X8_spanOfTaps_15 : Cond.fieldLink (yX8_spanOfTaps).cls 15 "DripLines$Ways" (TX8 2).2.1 (TX8 2).2.2.1 ∈ wsX8_spanOfTaps := by decide +kernel
theorem lk_X8_spanOfTaps_18 : Cond.fieldLink (yX8_spanOfTaps).cls 18 "DripLines$Ways" (TX8 0).2.1 (TX8 0).2.2.1 ∈ wsX8_spanOfTaps := by decide +kernel
set_option maxHeartbeats 4000000 in
set_option maxRecDepth 100000 in
theorem cl8_spanOfTaps_t52 {p : Program} {e : Env} {s : State} {m : MethodId} {args : Array Value} {below : List Frame} {meth : Method} {c : Code} {Q : State → Prop} {A : Nat → Prop} (l : Launch) (D : va_G) (cI cP cII : ClassId) (TY : dl_TY) (hTY : TY[0]? = some (cI, .int)) (N : Nat) (ad : Nat → Nat) (pr : Nat → Option Nat) (R : va_W) {r0 : Int32} {g0 : dl_Sg} (C : dl_Cx p s m args c A D TY cc_nw cX8_spanOfTaps 5 yX8_spanOfTaps.cls wsX8_spanOfTaps) (hQ : dl_RtI p l e (headSpec wsX8_spanOfTaps { frames := 4, cells := 0, slots := 0, locals := 97 }).room s m args below meth c Q A D cX8_spanOfTaps 5 0 0 .int (fun r u => r = r0 ∧ u = cc_w cI cP cII ad pr g0 ++ R)) : ∀ (n : Nat) (x1 : Int32) (x2 : Int32) (x3 : Int32) (x4 : Int32) (g : dl_Sg), cl8_spanOfTaps_b52 N n x1 x2 x3 x4 g = some (r0, g0) → dl_At p l e (headSpec wsX8_spanOfTaps { frames := 4, cells := 0, slots := 0, locals := 97 }).room s m args below meth c Q A D 5 0 0 52 [(0, .ref (ad 2)), (1, .int x1), (2, .int x2), (3, .int x3), (4, .int x4)] [] (cc_w cI cP cII ad pr g ++ R) := by
  intro n
  induction n with
  | zero => exact fun _ _ _ _ _ h => absurd (show (none : Option (Int32 × dl_Sg)) = some _ from h) (by intro q; cases q)
  | succ n ih =>
    intro x1 x2 x3 x4 g h
    rw [cl8_spanOfTaps_b52] at h
    refine dl_iload (pc := 52) C 4 dX8_spanOfTaps_52 rfl ?_
    refine dl_bipush (pc := 54) C 10 dX8_spanOfTaps_54 (by decide) ?_
    refine dl_icmp_ge (pc := 56) C 105 dX8_spanOfTaps_56 (by decide) h (fun q9 h => ?_) (fun q9 h => ?_)
    · refine dl_iload_n (pc := 105) C 3 dX8_spanOfTaps_105 rfl rfl ?_
      exact hQ 106 _ _ _ ⟨(dl_r2 h).1, by rw [(dl_r2 h).2]⟩ (vp_nar_int _) dX8_spanOfTaps_106
    · refine dl_iload_n (pc := 59) C 2 dX8_spanOfTaps_59 rfl rfl ?_
      refine dl_if_eq (pc := 60) C 105 dX8_spanOfTaps_60 (by decide) h (fun q8 h => ?_) (fun q8 h => ?_)
      · refine dl_iload_n (pc := 105) C 3 dX8_spanOfTaps_105 rfl rfl ?_
        exact hQ 106 _ _ _ ⟨(dl_r2 h).1, by rw [(dl_r2 h).2]⟩ (vp_nar_int _) dX8_spanOfTaps_106
      · refine dl_aload_n (pc := 63) C 0 dX8_spanOfTaps_63 rfl rfl ?_
        refine dl_iload_n (pc := 64) C 1 dX8_spanOfTaps_64 rfl rfl ?_
        obtain ⟨g1, h1, h⟩ := dl_bi_some h
        refine dl_vV0 (pc := 65) C (ccl8_comeNearer l D cI cP cII TY hTY N ad pr R _ _ h1) (cwV 1 C.2.2.2.2.1 gX8_spanOfTaps_X8_comeNearer rfl rfl rfl (by decide +kernel) ⟨Nat.le_of_ble_eq_true rfl, Nat.le_of_ble_eq_true rfl⟩) 2 8 cc_a2 rfl rfl rfl (Nat.le_of_ble_eq_true rfl) dX8_spanOfTaps_65 ⟨Nat.zero_le _, Nat.zero_le _⟩ (fun u hp => ?_)
        subst hp
        refine dl_aload_n (pc := 68) C 0 dX8_spanOfTaps_68 rfl rfl ?_
        refine dl_iload_n (pc := 69) C 2 dX8_spanOfTaps_69 rfl rfl ?_
        obtain ⟨r2, h1, h⟩ := dl_bi_some h
        refine dl_vI0 (pc := 70) C (ccl8_nearestOf l D cI cP cII TY hTY N ad pr R _ _ h1) (cwV 1 C.2.2.2.2.1 gX8_spanOfTaps_X8_nearestOf rfl rfl rfl (by decide +kernel) ⟨Nat.le_of_ble_eq_true rfl, Nat.le_of_ble_eq_true rfl⟩) 2 8 cc_a2 rfl rfl rfl (Nat.le_of_ble_eq_true rfl) dX8_spanOfTaps_70 ⟨Nat.zero_le _, Nat.zero_le _⟩ (fun r u hp => ?_)
        obtain ⟨rfl, rfl⟩ := hp
        refine dl_istore_n (pc := 73) C (fun v3 => [(1, .int v3), (0, .ref (ad 2)), (2, .int x2), (3, .int x3), (4, .int x4)]) dX8_spanOfTaps_73 rfl (by decide) (fun _ => rfl) h (fun v3 h => ?_)
        refine dl_iload_n (pc := 74) C 0 dX8_spanOfTaps_74 rfl rfl ?_
        refine dl_iconst (pc := 75) C (-1) dX8_spanOfTaps_75 (by decide) ?_
        refine dl_icmp_ne (pc := 76) C 82 dX8_spanOfTaps_76 (by decide) h (fun q7 h => ?_) (fun q7 h => ?_)
        · refine dl_ldc (pc := 79) C (-1000000) (by decide +kernel) dX8_spanOfTaps_79 ?_
          exact hQ 81 _ _ _ ⟨(dl_r2 h).1, by rw [(dl_r2 h).2]⟩ (vp_nar_int _) dX8_spanOfTaps_81
        · refine dl_iload_n (pc := 82) C 3 dX8_spanOfTaps_82 rfl rfl ?_
          refine dl_aload_n (pc := 83) C 1 dX8_spanOfTaps_83 rfl rfl ?_
          refine dl_get (pc := 84) C hin_X8_spanOfTaps_X8 2 cc_a2 rfl 2 (by decide) lk_X8_spanOfTaps_15 rfl rfl dX8_spanOfTaps_84 ?_
          refine dl_iload_n (pc := 87) C 0 dX8_spanOfTaps_87 rfl rfl ?_
          obtain ⟨h0, h⟩ := dl_gd_some h
          refine dl_iald (pc := 88) C 16 0 cc_a19 hTY h0 dX8_spanOfTaps_88 ?_
          refine dl_iadd (pc := 89) C dX8_spanOfTaps_89 ?_
          refine dl_istore_n (pc := 90) C (fun v4 => [(3, .int v4), (1, .int v3), (0, .ref (ad 2)), (2, .int x2), (4, .int x4)]) dX8_spanOfTaps_90 rfl (by decide) (fun _ => rfl) h (fun v4 h => ?_)
          refine dl_iload_n (pc := 91) C 3 dX8_spanOfTaps_91 rfl rfl ?_
          refine dl_iconst (pc := 92) C 1 dX8_spanOfTaps_92 (by decide) ?_
          refine dl_iload_n (pc := 93) C 1 dX8_spanOfTaps_93 rfl rfl ?_
          refine dl_ishl (pc := 94) C dX8_spanOfTaps_94 ?_
          refine dl_iconst (pc := 95) C (-1) dX8_spanOfTaps_95 (by decide) ?_
          refine dl_ixor (pc := 96) C dX8_spanOfTaps_96 ?_
          refine dl_iand (pc := 97) C dX8_spanOfTaps_97 ?_
          refine dl_istore_n (pc := 98) C (fun v5 => [(2, .int v5), (3, .int v4), (1, .int v3), (0, .ref (ad 2)), (4, .int x4)]) dX8_spanOfTaps_98 rfl (by decide) (fun _ => rfl) h (fun v5 h => ?_)
          refine dl_iinc (pc := 99) C 4 (fun v6 => [(4, .int v6), (2, .int v5), (3, .int v4), (1, .int v3), (0, .ref (ad 2))]) dX8_spanOfTaps_99 rfl rfl (by decide) (fun _ => rfl) h (fun v6 h => ?_)
          refine dl_goto (pc := 102) C 52 dX8_spanOfTaps_102 (by decide) ?_
          refine dl_sub [4, 3, 1, 2, 0] rfl ?_
          exact ih _ _ _ _ _ h
set_option maxHeartbeats 4000000 in
set_option maxRecDepth 100000 in
theorem ccl8_spanOfTaps (l : Launch) (D : va_G) (cI cP cII : ClassId) (TY : dl_TY) (hTY : TY[0]? = some (cI, .int)) (N : Nat) (ad : Nat → Nat) (pr : Nat → Option Nat) (R : va_W) (g : dl_Sg) {r0 : Int32} {g0 : dl_Sg} (h : cl8_spanOfTaps N g  = some (r0, g0)) : dl_CtI l D TY cc_nw yX8_spanOfTaps wsX8_spanOfTaps { frames := 4, cells := 0, slots := 0, locals := 97 } 0 0 [.ref (ad 2)] (cc_w cI cP cII ad pr g ++ R) (fun r u => r = r0 ∧ u = cc_w cI cP cII ad pr g0 ++ R) := by
  refine dl_metI (ty := .int) [(0, .ref (ad 2))] (by decide) rfl (Nat.le_of_ble_eq_true rfl) rfl ?_
  intro p e s m args below meth c Q A C hQ
  unfold cl8_spanOfTaps at h
  refine dl_aload_n (pc := 0) C 0 dX8_spanOfTaps_0 rfl rfl ?_
  refine dl_get (pc := 1) C hin_X8_spanOfTaps_X8 2 cc_a2 rfl 0 (by decide) lk_X8_spanOfTaps_18 rfl rfl dX8_spanOfTaps_1 ?_
  refine dl_getN (pc := 4) C hin_X8_spanOfTaps_X2 1 cc_a1 rfl 12 (by decide) nk_RX8_38 rfl rfl dX8_spanOfTaps_4 ?_
  refine dl_if_ne (pc := 7) C 13 dX8_spanOfTaps_7 (by decide) h (fun q7 h => ?_) (fun q7 h => ?_)
  · refine dl_ldc (pc := 10) C (-1000000) (by decide +kernel) dX8_spanOfTaps_10 ?_
    exact hQ 12 _ _ _ ⟨(dl_r2 h).1, by rw [(dl_r2 h).2]⟩ (vp_nar_int _) dX8_spanOfTaps_12
  · refine dl_aload_n (pc := 13) C 0 dX8_spanOfTaps_13 rfl rfl ?_
    refine dl_get (pc := 14) C hin_X8_spanOfTaps_X8 2 cc_a2 rfl 2 (by decide) lk_X8_spanOfTaps_15 rfl rfl dX8_spanOfTaps_14 ?_
    refine dl_ldc (pc := 17) C 100000000 (by decide +kernel) dX8_spanOfTaps_17 ?_
    refine dl_sV0 (pc := 19) C (c_fill l D cI TY hTY cc_nw _ 16 (ad 19) 10 _ cc_a19 (by decide) _) (va_cwS 2 C.2.2.2.2.1 gX8_spanOfTaps_J7_fill_53178 rfl rfl rfl (by decide +kernel) ⟨Nat.le_of_ble_eq_true rfl, Nat.le_of_ble_eq_true rfl⟩) rfl rfl (Nat.le_of_ble_eq_true rfl) dX8_spanOfTaps_19 ⟨Nat.zero_le _, Nat.zero_le _⟩ (fun u hp => ?_)
    rw [hp, cc_z19]
    clear hp
    obtain ⟨g1, h, hg⟩ := dl_nm_some h
    rw [← hg]
    clear hg
    refine dl_aload_n (pc := 22) C 0 dX8_spanOfTaps_22 rfl rfl ?_
    refine dl_get (pc := 23) C hin_X8_spanOfTaps_X8 2 cc_a2 rfl 0 (by decide) lk_X8_spanOfTaps_18 rfl rfl dX8_spanOfTaps_23 ?_
    refine dl_getN (pc := 26) C hin_X8_spanOfTaps_X2 1 cc_a1 rfl 12 (by decide) nk_RX8_38 rfl rfl dX8_spanOfTaps_26 ?_
    obtain ⟨r2, h1, h⟩ := dl_bi_some h
    refine dl_sI0 (pc := 29) C (cjd_numberOfTrailingZeros l D TY cc_nw _ _ h1) (va_cwS 1 C.2.2.2.2.1 gX8_spanOfTaps_J6_numberOfTrailingZeros_0f7a4 rfl rfl rfl (by decide +kernel) ⟨Nat.le_of_ble_eq_true rfl, Nat.le_of_ble_eq_true rfl⟩) rfl rfl (Nat.le_of_ble_eq_true rfl) dX8_spanOfTaps_29 ⟨Nat.zero_le _, Nat.zero_le _⟩ (fun r u hp => ?_)
    obtain ⟨rfl, hu⟩ := hp
    rw [hu]
    clear hu
    refine dl_istore_n (pc := 32) C (fun v3 => [(1, .int v3), (0, .ref (ad 2))]) dX8_spanOfTaps_32 rfl (by decide) (fun _ => rfl) h (fun v3 h => ?_)
    refine dl_aload_n (pc := 33) C 1 dX8_spanOfTaps_33 rfl rfl ?_
    refine dl_get (pc := 34) C hin_X8_spanOfTaps_X8 2 cc_a2 rfl 0 (by decide) lk_X8_spanOfTaps_18 rfl rfl dX8_spanOfTaps_34 ?_
    refine dl_getN (pc := 37) C hin_X8_spanOfTaps_X2 1 cc_a1 rfl 12 (by decide) nk_RX8_38 rfl rfl dX8_spanOfTaps_37 ?_
    refine dl_iconst (pc := 40) C 1 dX8_spanOfTaps_40 (by decide) ?_
    refine dl_iload_n (pc := 41) C 0 dX8_spanOfTaps_41 rfl rfl ?_
    refine dl_ishl (pc := 42) C dX8_spanOfTaps_42 ?_
    refine dl_iconst (pc := 43) C (-1) dX8_spanOfTaps_43 (by decide) ?_
    refine dl_ixor (pc := 44) C dX8_spanOfTaps_44 ?_
    refine dl_iand (pc := 45) C dX8_spanOfTaps_45 ?_
    refine dl_istore_n (pc := 46) C (fun v4 => [(2, .int v4), (1, .int v3), (0, .ref (ad 2))]) dX8_spanOfTaps_46 rfl (by decide) (fun _ => rfl) h (fun v4 h => ?_)
    refine dl_iconst (pc := 47) C 0 dX8_spanOfTaps_47 (by decide) ?_
    refine dl_istore_n (pc := 48) C (fun v5 => [(3, .int v5), (2, .int v4), (1, .int v3), (0, .ref (ad 2))]) dX8_spanOfTaps_48 rfl (by decide) (fun _ => rfl) h (fun v5 h => ?_)
    refine dl_iconst (pc := 49) C 0 dX8_spanOfTaps_49 (by decide) ?_
    refine dl_istore (pc := 50) C (fun v6 => [(4, .int v6), (3, .int v5), (2, .int v4), (1, .int v3), (0, .ref (ad 2))]) dX8_spanOfTaps_50 (by decide) (fun _ => rfl) h (fun v6 h => ?_)
    refine dl_sub [4, 3, 2, 1, 0] rfl ?_
    exact cl8_spanOfTaps_t52 l D cI cP cII TY hTY N ad pr R C hQ N _ _ _ _ _ h
theorem hin_X7_isActive_X2 : ∀ w ∈ u_ws RX2 TX2 18, w ∈ wsX7_isActive := fun _ h => List.mem_cons_of_mem _ (List.mem_append_right _ h)
theorem hin_X7_isActive_X7 : ∀ w ∈ u_ws RX7 TX7 8, w ∈ wsX7_isActive := fun _ h => List.mem_cons_of_mem _ (List.mem_append_left _ (List.mem_append_right _ h))
theorem lk_X7_isActive_11 : Cond.fieldLink (yX7_isActive).cls 11 "DripLines$Walls" (TX7 1).2.1 (TX7 1).2.2.1 ∈ wsX7_isActive := by decide +kernel
theorem lk_X7_isActive_25 : Cond.fieldLink (yX7_isActive).cls 25 "DripLines$Walls" (TX7 0).2.1 (TX7 0).2.2.1 ∈ wsX7_isActive := by decide +kernel
theorem lk_X7_isActive_56 : Cond.fieldLink (yX7_isActive).cls 56 "DripLines$Walls" (TX7 5).2.1 (TX7 5).2.2.1 ∈ wsX7_isActive := by decide +kernel
set_option maxHeartbeats 4000000 in
set_option maxRecDepth 100000 in
theorem ccl7_isActive (l : Launch) (D : va_G) (cI cP cII : ClassId) (TY : dl_TY) (hTY : TY[0]? = some (cI, .int)) (ad : Nat → Nat) (pr : Nat → Option Nat) (R : va_W) (g : dl_Sg) (x1 : Int32) {r0 : Int32} (h : cl7_isActive g x1 = some r0) : dl_CtI l D TY cc_nw yX7_isActive wsX7_isActive { frames := 0, cells := 0, slots := 0, locals := 0 } 0 0 [.ref (ad 4), .int x1] (cc_w cI cP cII ad pr g ++ R) (fun r u => r = r0 ∧ u = cc_w cI cP cII ad pr g ++ R) := by
  refine dl_metI (ty := .boolean) [(0, .ref (ad 4)), (1, .int x1)] (by decide) rfl (Nat.le_of_ble_eq_true rfl) rfl ?_
  intro p e s m args below meth c Q A C hQ
  unfold cl7_isActive at h
  refine dl_aload_n (pc := 0) C 0 dX7_isActive_0 rfl rfl ?_
  refine dl_get (pc := 1) C hin_X7_isActive_X7 4 cc_a4 rfl 1 (by decide) lk_X7_isActive_11 rfl rfl dX7_isActive_1 ?_
  refine dl_iload_n (pc := 4) C 1 dX7_isActive_4 rfl rfl ?_
  obtain ⟨h0, h⟩ := dl_gd_some h
  refine dl_iald (pc := 5) C 19 0 cc_a22 hTY h0 dX7_isActive_5 ?_
  refine dl_istore_n (pc := 6) C (fun v1 => [(2, .int v1), (0, .ref (ad 4)), (1, .int x1)]) dX7_isActive_6 rfl (by decide) (fun _ => rfl) h (fun v1 h => ?_)
  refine dl_iload_n (pc := 7) C 0 dX7_isActive_7 rfl rfl ?_
  refine dl_aload_n (pc := 8) C 1 dX7_isActive_8 rfl rfl ?_
  refine dl_get (pc := 9) C hin_X7_isActive_X7 4 cc_a4 rfl 0 (by decide) lk_X7_isActive_25 rfl rfl dX7_isActive_9 ?_
  refine dl_getN (pc := 12) C hin_X7_isActive_X2 1 cc_a1 rfl 12 (by decide) nk_RX7_44 rfl rfl dX7_isActive_12 ?_
  refine dl_iand (pc := 15) C dX7_isActive_15 ?_
  refine dl_if_eq (pc := 16) C 32 dX7_isActive_16 (by decide) h (fun q3 h => ?_) (fun q3 h => ?_)
  · refine dl_iconst (pc := 32) C 0 dX7_isActive_32 (by decide) ?_
    exact hQ 33 _ _ _ ⟨Option.some.inj h, rfl⟩ rfl dX7_isActive_33
  · refine dl_iload_n (pc := 19) C 0 dX7_isActive_19 rfl rfl ?_
    refine dl_aload_n (pc := 20) C 1 dX7_isActive_20 rfl rfl ?_
    refine dl_get (pc := 21) C hin_X7_isActive_X7 4 cc_a4 rfl 5 (by decide) lk_X7_isActive_56 rfl rfl dX7_isActive_21 ?_
    refine dl_iand (pc := 24) C dX7_isActive_24 ?_
    refine dl_if_ne (pc := 25) C 32 dX7_isActive_25 (by decide) h (fun q2 h => ?_) (fun q2 h => ?_)
    · refine dl_iconst (pc := 28) C 1 dX7_isActive_28 (by decide) ?_
      refine dl_goto (pc := 29) C 33 dX7_isActive_29 (by decide) ?_
      exact hQ 33 _ _ _ ⟨Option.some.inj h, rfl⟩ rfl dX7_isActive_33
    · refine dl_iconst (pc := 32) C 0 dX7_isActive_32 (by decide) ?_
      exact hQ 33 _ _ _ ⟨Option.some.inj h, rfl⟩ rfl dX7_isActive_33
theorem hin_X7_someActive_X2 : ∀ w ∈ u_ws RX2 TX2 18, w ∈ wsX7_someActive := fun _ h => List.mem_cons_of_mem _ (List.mem_append_right _ h)
theorem hin_X7_someActive_X7 : ∀ w ∈ u_ws RX7 TX7 8, w ∈ wsX7_someActive := fun _ h => List.mem_cons_of_mem _ (List.mem_append_left _ (List.mem_append_right _ h))
theorem lk_X7_someActive_18 : Cond.fieldLink (yX7_someActive).cls 18 "DripLines$Walls" (TX7 3).2.1 (TX7 3).2.2.1 ∈ wsX7_someActive := by decide +kernel
theorem lk_X7_someActive_25 : Cond.fieldLink (yX7_someActive).cls 25 "DripLines$Walls" (TX7 0).2.1 (TX7 0).2.2.1 ∈ wsX7_someActive := by decide +kernel
set_option maxHeartbeats 4000000 in
set_option maxRecDepth 100000 in
theorem cl7_someActive_t2 {p : Program} {e : Env} {s : State} {m : MethodId} {args : Array Value} {below : List Frame} {meth : Method} {c : Code} {Q : State → Prop} {A : Nat → Prop} (l : Launch) (D : va_G) (cI cP cII : ClassId) (TY : dl_TY) (hTY : TY[0]? = some (cI, .int)) (N : Nat) (ad : Nat → Nat) (pr : Nat → Option Nat) (R : va_W) (g : dl_Sg) {r0 : Int32} (C : dl_Cx p s m args c A D TY cc_nw cX7_someActive 2 yX7_someActive.cls wsX7_someActive) (hQ : dl_RtI p l e (headSpec wsX7_someActive { frames := 1, cells := 0, slots := 0, locals := 22 }).room s m args below meth c Q A D cX7_someActive 2 0 0 .boolean (fun r u => r = r0 ∧ u = cc_w cI cP cII ad pr g ++ R)) : ∀ (n : Nat) (x1 : Int32), cl7_someActive_b2 N g n x1 = some r0 → dl_At p l e (headSpec wsX7_someActive { frames := 1, cells := 0, slots := 0, locals := 22 }).room s m args below meth c Q A D 2 0 0 2 [(0, .ref (ad 4)), (1, .int x1)] [] (cc_w cI cP cII ad pr g ++ R) := by
  intro n
  induction n with
  | zero => exact fun _ h => absurd (show (none : Option Int32) = some _ from h) (by intro q; cases q)
  | succ n ih =>
    intro x1 h
    rw [cl7_someActive_b2] at h
    refine dl_iload_n (pc := 2) C 1 dX7_someActive_2 rfl rfl ?_
    refine dl_aload_n (pc := 3) C 0 dX7_someActive_3 rfl rfl ?_
    refine dl_get (pc := 4) C hin_X7_someActive_X7 4 cc_a4 rfl 0 (by decide) lk_X7_someActive_25 rfl rfl dX7_someActive_4 ?_
    refine dl_getN (pc := 7) C hin_X7_someActive_X2 1 cc_a1 rfl 10 (by decide) nk_RX7_69 rfl rfl dX7_someActive_7 ?_
    refine dl_icmp_ge (pc := 10) C 34 dX7_someActive_10 (by decide) h (fun q4 h => ?_) (fun q4 h => ?_)
    · refine dl_iconst (pc := 34) C 0 dX7_someActive_34 (by decide) ?_
      exact hQ 35 _ _ _ ⟨Option.some.inj h, rfl⟩ rfl dX7_someActive_35
    · refine dl_aload_n (pc := 13) C 0 dX7_someActive_13 rfl rfl ?_
      refine dl_aload_n (pc := 14) C 0 dX7_someActive_14 rfl rfl ?_
      refine dl_get (pc := 15) C hin_X7_someActive_X7 4 cc_a4 rfl 3 (by decide) lk_X7_someActive_18 rfl rfl dX7_someActive_15 ?_
      refine dl_iload_n (pc := 18) C 1 dX7_someActive_18 rfl rfl ?_
      obtain ⟨h0, h⟩ := dl_gd_some h
      refine dl_iald (pc := 19) C 21 0 cc_a24 hTY h0 dX7_someActive_19 ?_
      obtain ⟨r1, h1, h⟩ := dl_bi_some h
      refine dl_vI0 (pc := 20) C (ccl7_isActive l D cI cP cII TY hTY ad pr R _ _ h1) (cwV 1 C.2.2.2.2.1 gX7_someActive_X7_isActive rfl rfl rfl (by decide +kernel) ⟨Nat.le_of_ble_eq_true rfl, Nat.le_of_ble_eq_true rfl⟩) 4 7 cc_a4 rfl rfl rfl (Nat.le_of_ble_eq_true rfl) dX7_someActive_20 ⟨Nat.zero_le _, Nat.zero_le _⟩ (fun r u hp => ?_)
      obtain ⟨rfl, rfl⟩ := hp
      refine dl_if_eq (pc := 23) C 28 dX7_someActive_23 (by decide) h (fun q3 h => ?_) (fun q3 h => ?_)
      · refine dl_iinc (pc := 28) C 1 (fun v2 => [(1, .int v2), (0, .ref (ad 4))]) dX7_someActive_28 rfl rfl (by decide) (fun _ => rfl) h (fun v2 h => ?_)
        refine dl_goto (pc := 31) C 2 dX7_someActive_31 (by decide) ?_
        refine dl_sub [1, 0] rfl ?_
        exact ih _ h
      · refine dl_iconst (pc := 26) C 1 dX7_someActive_26 (by decide) ?_
        exact hQ 27 _ _ _ ⟨Option.some.inj h, rfl⟩ rfl dX7_someActive_27
set_option maxHeartbeats 4000000 in
set_option maxRecDepth 100000 in
theorem ccl7_someActive (l : Launch) (D : va_G) (cI cP cII : ClassId) (TY : dl_TY) (hTY : TY[0]? = some (cI, .int)) (N : Nat) (ad : Nat → Nat) (pr : Nat → Option Nat) (R : va_W) (g : dl_Sg) {r0 : Int32} (h : cl7_someActive N g  = some r0) : dl_CtI l D TY cc_nw yX7_someActive wsX7_someActive { frames := 1, cells := 0, slots := 0, locals := 22 } 0 0 [.ref (ad 4)] (cc_w cI cP cII ad pr g ++ R) (fun r u => r = r0 ∧ u = cc_w cI cP cII ad pr g ++ R) := by
  refine dl_metI (ty := .boolean) [(0, .ref (ad 4))] (by decide) rfl (Nat.le_of_ble_eq_true rfl) rfl ?_
  intro p e s m args below meth c Q A C hQ
  unfold cl7_someActive at h
  refine dl_iconst (pc := 0) C 0 dX7_someActive_0 (by decide) ?_
  refine dl_istore_n (pc := 1) C (fun v1 => [(1, .int v1), (0, .ref (ad 4))]) dX7_someActive_1 rfl (by decide) (fun _ => rfl) h (fun v1 h => ?_)
  refine dl_sub [1, 0] rfl ?_
  exact cl7_someActive_t2 l D cI cP cII TY hTY N ad pr R g C hQ N _ h
theorem hin_X7_activeSidesOf_X2 : ∀ w ∈ u_ws RX2 TX2 18, w ∈ wsX7_activeSidesOf := fun _ h => List.mem_cons_of_mem _ (List.mem_append_right _ h)
theorem hin_X7_activeSidesOf_X7 : ∀ w ∈ u_ws RX7 TX7 8, w ∈ wsX7_activeSidesOf := fun _ h => List.mem_cons_of_mem _ (List.mem_append_left _ (List.mem_append_right _ h))
theorem lk_X7_activeSidesOf_18 : Cond.fieldLink (yX7_activeSidesOf).cls 18 "DripLines$Walls" (TX7 3).2.1 (TX7 3).2.2.1 ∈ wsX7_activeSidesOf := by decide +kernel
theorem lk_X7_activeSidesOf_25 : Cond.fieldLink (yX7_activeSidesOf).cls 25 "DripLines$Walls" (TX7 0).2.1 (TX7 0).2.2.1 ∈ wsX7_activeSidesOf := by decide +kernel
set_option maxHeartbeats 4000000 in
set_option maxRecDepth 100000 in
theorem cl7_activeSidesOf_t61 {p : Program} {e : Env} {s : State} {m : MethodId} {args : Array Value} {below : List Frame} {meth : Method} {c : Code} {Q : State → Prop} {A : Nat → Prop} (l : Launch) (D : va_G) (cI cP cII : ClassId) (TY : dl_TY) (hTY : TY[0]? = some (cI, .int)) (ad : Nat → Nat) (pr : Nat → Option Nat) (R : va_W) (g : dl_Sg) {r0 : Int32} (C : dl_Cx p s m args c A D TY cc_nw cX7_activeSidesOf 4 yX7_activeSidesOf.cls wsX7_activeSidesOf) (hQ : dl_RtI p l e (headSpec wsX7_activeSidesOf { frames := 2, cells := 0, slots := 0, locals := 42 }).room s m args below meth c Q A D cX7_activeSidesOf 4 0 0 .int (fun r u => r = r0 ∧ u = cc_w cI cP cII ad pr g ++ R)) (x3 : Int32) (y0 : Int32) (h : cl7_activeSidesOf_b61 g x3 y0 = some r0) : dl_At p l e (headSpec wsX7_activeSidesOf { frames := 2, cells := 0, slots := 0, locals := 42 }).room s m args below meth c Q A D 4 0 0 61 [(0, .ref (ad 4)), (3, .int x3)] [.int y0] (cc_w cI cP cII ad pr g ++ R) := by
  unfold cl7_activeSidesOf_b61 at h
  refine dl_aload_n (pc := 61) C 0 dX7_activeSidesOf_61 rfl rfl ?_
  refine dl_iload_n (pc := 62) C 1 dX7_activeSidesOf_62 rfl rfl ?_
  obtain ⟨r1, h1, h⟩ := dl_bi_some h
  refine dl_vI0 (pc := 63) C (ccl7_isActive l D cI cP cII TY hTY ad pr R _ _ h1) (cwV 1 C.2.2.2.2.1 gX7_activeSidesOf_X7_isActive rfl rfl rfl (by decide +kernel) ⟨Nat.le_of_ble_eq_true rfl, Nat.le_of_ble_eq_true rfl⟩) 4 7 cc_a4 rfl rfl rfl (Nat.le_of_ble_eq_true rfl) dX7_activeSidesOf_63 ⟨Nat.zero_le _, Nat.zero_le _⟩ (fun r u hp => ?_)
  obtain ⟨rfl, rfl⟩ := hp
  refine dl_if_eq (pc := 66) C 73 dX7_activeSidesOf_66 (by decide) h (fun q2 h => ?_) (fun q2 h => ?_)
  · refine dl_iconst (pc := 73) C 0 dX7_activeSidesOf_73 (by decide) ?_
    refine dl_iadd (pc := 74) C dX7_activeSidesOf_74 ?_
    exact hQ 75 _ _ _ ⟨Option.some.inj h, rfl⟩ (vp_nar_int _) dX7_activeSidesOf_75
  · refine dl_iconst (pc := 69) C 1 dX7_activeSidesOf_69 (by decide) ?_
    refine dl_goto (pc := 70) C 74 dX7_activeSidesOf_70 (by decide) ?_
    refine dl_iadd (pc := 74) C dX7_activeSidesOf_74 ?_
    exact hQ 75 _ _ _ ⟨Option.some.inj h, rfl⟩ (vp_nar_int _) dX7_activeSidesOf_75
set_option maxHeartbeats 4000000 in
set_option maxRecDepth 100000 in
theorem ccl7_activeSidesOf (l : Launch) (D : va_G) (cI cP cII : ClassId) (TY : dl_TY) (hTY : TY[0]? = some (cI, .int)) (ad : Nat → Nat) (pr : Nat → Option Nat) (R : va_W) (g : dl_Sg) (x1 : Int32) {r0 : Int32} (h : cl7_activeSidesOf g x1 = some r0) : dl_CtI l D TY cc_nw yX7_activeSidesOf wsX7_activeSidesOf { frames := 2, cells := 0, slots := 0, locals := 42 } 0 0 [.ref (ad 4), .int x1] (cc_w cI cP cII ad pr g ++ R) (fun r u => r = r0 ∧ u = cc_w cI cP cII ad pr g ++ R) := by
  refine dl_metI (ty := .int) [(0, .ref (ad 4)), (1, .int x1)] (by decide) rfl (Nat.le_of_ble_eq_true rfl) rfl ?_
  intro p e s m args below meth c Q A C hQ
  unfold cl7_activeSidesOf at h
  refine dl_aload_n (pc := 0) C 0 dX7_activeSidesOf_0 rfl rfl ?_
  refine dl_get (pc := 1) C hin_X7_activeSidesOf_X7 4 cc_a4 rfl 3 (by decide) lk_X7_activeSidesOf_18 rfl rfl dX7_activeSidesOf_1 ?_
  refine dl_aload_n (pc := 4) C 0 dX7_activeSidesOf_4 rfl rfl ?_
  refine dl_get (pc := 5) C hin_X7_activeSidesOf_X7 4 cc_a4 rfl 0 (by decide) lk_X7_activeSidesOf_25 rfl rfl dX7_activeSidesOf_5 ?_
  refine dl_getN (pc := 8) C hin_X7_activeSidesOf_X2 1 cc_a1 rfl 4 (by decide) nk_RX7_94 rfl rfl dX7_activeSidesOf_8 ?_
  refine dl_iload_n (pc := 11) C 1 dX7_activeSidesOf_11 rfl rfl ?_
  obtain ⟨h0, h⟩ := dl_gd_some h
  refine dl_iald (pc := 12) C 10 0 cc_a13 hTY h0 dX7_activeSidesOf_12 ?_
  obtain ⟨h0, h⟩ := dl_gd_some h
  refine dl_iald (pc := 13) C 21 0 cc_a24 hTY h0 dX7_activeSidesOf_13 ?_
  refine dl_istore_n (pc := 14) C (fun v1 => [(2, .int v1), (0, .ref (ad 4)), (1, .int x1)]) dX7_activeSidesOf_14 rfl (by decide) (fun _ => rfl) h (fun v1 h => ?_)
  refine dl_aload_n (pc := 15) C 1 dX7_activeSidesOf_15 rfl rfl ?_
  refine dl_get (pc := 16) C hin_X7_activeSidesOf_X7 4 cc_a4 rfl 3 (by decide) lk_X7_activeSidesOf_18 rfl rfl dX7_activeSidesOf_16 ?_
  refine dl_aload_n (pc := 19) C 1 dX7_activeSidesOf_19 rfl rfl ?_
  refine dl_get (pc := 20) C hin_X7_activeSidesOf_X7 4 cc_a4 rfl 0 (by decide) lk_X7_activeSidesOf_25 rfl rfl dX7_activeSidesOf_20 ?_
  refine dl_getN (pc := 23) C hin_X7_activeSidesOf_X2 1 cc_a1 rfl 5 (by decide) nk_RX7_97 rfl rfl dX7_activeSidesOf_23 ?_
  refine dl_iload_n (pc := 26) C 2 dX7_activeSidesOf_26 rfl rfl ?_
  obtain ⟨h0, h⟩ := dl_gd_some h
  refine dl_iald (pc := 27) C 11 0 cc_a14 hTY h0 dX7_activeSidesOf_27 ?_
  obtain ⟨h0, h⟩ := dl_gd_some h
  refine dl_iald (pc := 28) C 21 0 cc_a24 hTY h0 dX7_activeSidesOf_28 ?_
  refine dl_istore_n (pc := 29) C (fun v2 => [(3, .int v2), (2, .int v1), (0, .ref (ad 4)), (1, .int x1)]) dX7_activeSidesOf_29 rfl (by decide) (fun _ => rfl) h (fun v2 h => ?_)
  refine dl_aload_n (pc := 30) C 2 dX7_activeSidesOf_30 rfl rfl ?_
  refine dl_get (pc := 31) C hin_X7_activeSidesOf_X7 4 cc_a4 rfl 0 (by decide) lk_X7_activeSidesOf_25 rfl rfl dX7_activeSidesOf_31 ?_
  refine dl_iload_n (pc := 34) C 3 dX7_activeSidesOf_34 rfl rfl ?_
  obtain ⟨r3, h1, h⟩ := dl_bi_some h
  refine dl_vI0 (pc := 35) C (ccl2_isThere l D cI cP cII TY hTY ad pr R _ _ h1) (cwV 1 C.2.2.2.2.1 gX7_activeSidesOf_X2_isThere rfl rfl rfl (by decide +kernel) ⟨Nat.le_of_ble_eq_true rfl, Nat.le_of_ble_eq_true rfl⟩) 1 2 cc_a1 rfl rfl rfl (Nat.le_of_ble_eq_true rfl) dX7_activeSidesOf_35 ⟨Nat.zero_le _, Nat.zero_le _⟩ (fun r u hp => ?_)
  obtain ⟨rfl, rfl⟩ := hp
  refine dl_if_eq (pc := 38) C 46 dX7_activeSidesOf_38 (by decide) h (fun q7 h => ?_) (fun q7 h => ?_)
  · refine dl_iconst (pc := 46) C 0 dX7_activeSidesOf_46 (by decide) ?_
    exact hQ 47 _ _ _ ⟨Option.some.inj h, rfl⟩ (vp_nar_int _) dX7_activeSidesOf_47
  · refine dl_iload_n (pc := 41) C 1 dX7_activeSidesOf_41 rfl rfl ?_
    refine dl_iload_n (pc := 42) C 0 dX7_activeSidesOf_42 rfl rfl ?_
    refine dl_icmp_ne (pc := 43) C 48 dX7_activeSidesOf_43 (by decide) h (fun q6 h => ?_) (fun q6 h => ?_)
    · refine dl_iconst (pc := 46) C 0 dX7_activeSidesOf_46 (by decide) ?_
      exact hQ 47 _ _ _ ⟨Option.some.inj h, rfl⟩ (vp_nar_int _) dX7_activeSidesOf_47
    · refine dl_aload_n (pc := 48) C 2 dX7_activeSidesOf_48 rfl rfl ?_
      refine dl_iload_n (pc := 49) C 1 dX7_activeSidesOf_49 rfl rfl ?_
      obtain ⟨r4, h1, h⟩ := dl_bi_some h
      refine dl_vI0 (pc := 50) C (ccl7_isActive l D cI cP cII TY hTY ad pr R _ _ h1) (cwV 1 C.2.2.2.2.1 gX7_activeSidesOf_X7_isActive rfl rfl rfl (by decide +kernel) ⟨Nat.le_of_ble_eq_true rfl, Nat.le_of_ble_eq_true rfl⟩) 4 7 cc_a4 rfl rfl rfl (Nat.le_of_ble_eq_true rfl) dX7_activeSidesOf_50 ⟨Nat.zero_le _, Nat.zero_le _⟩ (fun r u hp => ?_)
      obtain ⟨rfl, rfl⟩ := hp
      refine dl_if_eq (pc := 53) C 60 dX7_activeSidesOf_53 (by decide) h (fun q5 h => ?_) (fun q5 h => ?_)
      · refine dl_iconst (pc := 60) C 0 dX7_activeSidesOf_60 (by decide) ?_
        refine dl_sub [2, 0] rfl ?_
        exact cl7_activeSidesOf_t61 l D cI cP cII TY hTY ad pr R g C hQ  _ _ h
      · refine dl_iconst (pc := 56) C 1 dX7_activeSidesOf_56 (by decide) ?_
        refine dl_goto (pc := 57) C 61 dX7_activeSidesOf_57 (by decide) ?_
        refine dl_sub [2, 0] rfl ?_
        exact cl7_activeSidesOf_t61 l D cI cP cII TY hTY ad pr R g C hQ  _ _ h
theorem hin_X7_roomOf_X2 : ∀ w ∈ u_ws RX2 TX2 18, w ∈ wsX7_roomOf := fun _ h => List.mem_cons_of_mem _ (List.mem_append_right _ h)
theorem hin_X7_roomOf_X7 : ∀ w ∈ u_ws RX7 TX7 8, w ∈ wsX7_roomOf := fun _ h => List.mem_cons_of_mem _ (List.mem_append_left _ (List.mem_append_right _ h))
theorem lk_X7_roomOf_11 : Cond.fieldLink (yX7_roomOf).cls 11 "DripLines$Walls" (TX7 1).2.1 (TX7 1).2.2.1 ∈ wsX7_roomOf := by decide +kernel
theorem lk_X7_roomOf_15 : Cond.fieldLink (yX7_roomOf).cls 15 "DripLines$Walls" (TX7 2).2.1 (TX7 2).2.2.1 ∈ wsX7_roomOf := by decide +kernel
theorem lk_X7_roomOf_25 : Cond.fieldLink (yX7_roomOf).cls 25 "DripLines$Walls" (TX7 0).2.1 (TX7 0).2.2.1 ∈ wsX7_roomOf := by decide +kernel
theorem lk_X7_roomOf_35 : Cond.fieldLink (yX7_roomOf).cls 35 "DripLines$Walls" (TX7 4).2.1 (TX7 4).2.2.1 ∈ wsX7_roomOf := by decide +kernel
set_option maxHeartbeats 4000000 in
set_option maxRecDepth 100000 in
theorem cl7_roomOf_t56 {p : Program} {e : Env} {s : State} {m : MethodId} {args : Array Value} {below : List Frame} {meth : Method} {c : Code} {Q : State → Prop} {A : Nat → Prop} (l : Launch) (D : va_G) (cI cP cII : ClassId) (TY : dl_TY) (hTY : TY[0]? = some (cI, .int)) (N : Nat) (ad : Nat → Nat) (pr : Nat → Option Nat) (R : va_W) (g : dl_Sg) {r0 : Int32} (C : dl_Cx p s m args c A D TY cc_nw cX7_roomOf 4 yX7_roomOf.cls wsX7_roomOf) (hQ : dl_RtI p l e (headSpec wsX7_roomOf { frames := 1, cells := 0, slots := 0, locals := 20 }).room s m args below meth c Q A D cX7_roomOf 4 0 0 .int (fun r u => r = r0 ∧ u = cc_w cI cP cII ad pr g ++ R)) {k16 : Int32 → Int32 → Int32 → Option Int32} (hk16 : ∀ (x1 : Int32) (x2 : Int32) (x3 : Int32), k16 x1 x2 x3 = some r0 → dl_At p l e (headSpec wsX7_roomOf { frames := 1, cells := 0, slots := 0, locals := 20 }).room s m args below meth c Q A D 4 0 0 16 [(0, .ref (ad 4)), (1, .int x1), (2, .int x2), (3, .int x3)] [] (cc_w cI cP cII ad pr g ++ R)) (x1 : Int32) (x2 : Int32) (x3 : Int32) (h : cl7_roomOf_b56 N g k16 x1 x2 x3 = some r0) : dl_At p l e (headSpec wsX7_roomOf { frames := 1, cells := 0, slots := 0, locals := 20 }).room s m args below meth c Q A D 4 0 0 56 [(0, .ref (ad 4)), (1, .int x1), (2, .int x2), (3, .int x3)] [] (cc_w cI cP cII ad pr g ++ R) := by
  unfold cl7_roomOf_b56 at h
  refine dl_iinc (pc := 56) C 3 (fun v1 => [(3, .int v1), (0, .ref (ad 4)), (1, .int x1), (2, .int x2)]) dX7_roomOf_56 rfl rfl (by decide) (fun _ => rfl) h (fun v1 h => ?_)
  refine dl_goto (pc := 59) C 16 dX7_roomOf_59 (by decide) ?_
  refine dl_sub [1, 2, 3, 0] rfl ?_
  exact hk16 _ _ _ h
set_option maxHeartbeats 4000000 in
set_option maxRecDepth 100000 in
theorem cl7_roomOf_t16 {p : Program} {e : Env} {s : State} {m : MethodId} {args : Array Value} {below : List Frame} {meth : Method} {c : Code} {Q : State → Prop} {A : Nat → Prop} (l : Launch) (D : va_G) (cI cP cII : ClassId) (TY : dl_TY) (hTY : TY[0]? = some (cI, .int)) (N : Nat) (ad : Nat → Nat) (pr : Nat → Option Nat) (R : va_W) (g : dl_Sg) {r0 : Int32} (C : dl_Cx p s m args c A D TY cc_nw cX7_roomOf 4 yX7_roomOf.cls wsX7_roomOf) (hQ : dl_RtI p l e (headSpec wsX7_roomOf { frames := 1, cells := 0, slots := 0, locals := 20 }).room s m args below meth c Q A D cX7_roomOf 4 0 0 .int (fun r u => r = r0 ∧ u = cc_w cI cP cII ad pr g ++ R)) : ∀ (n : Nat) (x1 : Int32) (x2 : Int32) (x3 : Int32), cl7_roomOf_b16 N g n x1 x2 x3 = some r0 → dl_At p l e (headSpec wsX7_roomOf { frames := 1, cells := 0, slots := 0, locals := 20 }).room s m args below meth c Q A D 4 0 0 16 [(0, .ref (ad 4)), (1, .int x1), (2, .int x2), (3, .int x3)] [] (cc_w cI cP cII ad pr g ++ R) := by
  intro n
  induction n with
  | zero => exact fun _ _ _ h => absurd (show (none : Option Int32) = some _ from h) (by intro q; cases q)
  | succ n ih =>
    intro x1 x2 x3 h
    rw [cl7_roomOf_b16] at h
    refine dl_iload_n (pc := 16) C 3 dX7_roomOf_16 rfl rfl ?_
    refine dl_aload_n (pc := 17) C 0 dX7_roomOf_17 rfl rfl ?_
    refine dl_get (pc := 18) C hin_X7_roomOf_X7 4 cc_a4 rfl 4 (by decide) lk_X7_roomOf_35 rfl rfl dX7_roomOf_18 ?_
    refine dl_icmp_ge (pc := 21) C 62 dX7_roomOf_21 (by decide) h (fun q4 h => ?_) (fun q4 h => ?_)
    · refine dl_iload_n (pc := 62) C 2 dX7_roomOf_62 rfl rfl ?_
      exact hQ 63 _ _ _ ⟨Option.some.inj h, rfl⟩ (vp_nar_int _) dX7_roomOf_63
    · refine dl_aload_n (pc := 24) C 0 dX7_roomOf_24 rfl rfl ?_
      refine dl_get (pc := 25) C hin_X7_roomOf_X7 4 cc_a4 rfl 1 (by decide) lk_X7_roomOf_11 rfl rfl dX7_roomOf_25 ?_
      refine dl_iload_n (pc := 28) C 3 dX7_roomOf_28 rfl rfl ?_
      obtain ⟨h0, h⟩ := dl_gd_some h
      refine dl_iald (pc := 29) C 19 0 cc_a22 hTY h0 dX7_roomOf_29 ?_
      refine dl_aload_n (pc := 30) C 0 dX7_roomOf_30 rfl rfl ?_
      refine dl_get (pc := 31) C hin_X7_roomOf_X7 4 cc_a4 rfl 0 (by decide) lk_X7_roomOf_25 rfl rfl dX7_roomOf_31 ?_
      refine dl_getN (pc := 34) C hin_X7_roomOf_X2 1 cc_a1 rfl 7 (by decide) nk_RX7_114 rfl rfl dX7_roomOf_34 ?_
      refine dl_iload_n (pc := 37) C 1 dX7_roomOf_37 rfl rfl ?_
      obtain ⟨h0, h⟩ := dl_gd_some h
      refine dl_iald (pc := 38) C 13 0 cc_a16 hTY h0 dX7_roomOf_38 ?_
      refine dl_iand (pc := 39) C dX7_roomOf_39 ?_
      obtain ⟨r1, h1, h⟩ := dl_bi_some h
      refine dl_sI0 (pc := 40) C (cjd_bitCount l D TY cc_nw _ _ h1) (va_cwS 1 C.2.2.2.2.1 gX7_roomOf_J6_bitCount_0f7a4 rfl rfl rfl (by decide +kernel) ⟨Nat.le_of_ble_eq_true rfl, Nat.le_of_ble_eq_true rfl⟩) rfl rfl (Nat.le_of_ble_eq_true rfl) dX7_roomOf_40 ⟨Nat.zero_le _, Nat.zero_le _⟩ (fun r u hp => ?_)
      obtain ⟨rfl, hu⟩ := hp
      rw [hu]
      clear hu
      refine dl_iconst (pc := 43) C 1 dX7_roomOf_43 (by decide) ?_
      refine dl_icmp_ne (pc := 44) C 56 dX7_roomOf_44 (by decide) h (fun q3 h => ?_) (fun q3 h => ?_)
      · refine dl_iload_n (pc := 47) C 2 dX7_roomOf_47 rfl rfl ?_
        refine dl_aload_n (pc := 48) C 0 dX7_roomOf_48 rfl rfl ?_
        refine dl_get (pc := 49) C hin_X7_roomOf_X7 4 cc_a4 rfl 2 (by decide) lk_X7_roomOf_15 rfl rfl dX7_roomOf_49 ?_
        refine dl_iload_n (pc := 52) C 3 dX7_roomOf_52 rfl rfl ?_
        obtain ⟨h0, h⟩ := dl_gd_some h
        refine dl_iald (pc := 53) C 20 0 cc_a23 hTY h0 dX7_roomOf_53 ?_
        refine dl_isub (pc := 54) C dX7_roomOf_54 ?_
        refine dl_istore_n (pc := 55) C (fun v2 => [(2, .int v2), (0, .ref (ad 4)), (1, .int x1), (3, .int x3)]) dX7_roomOf_55 rfl (by decide) (fun _ => rfl) h (fun v2 h => ?_)
        refine dl_sub [1, 2, 0, 3] rfl ?_
        exact cl7_roomOf_t56 l D cI cP cII TY hTY N ad pr R g C hQ ih  _ _ _ h
      · refine dl_sub [0, 1, 2, 3] rfl ?_
        exact cl7_roomOf_t56 l D cI cP cII TY hTY N ad pr R g C hQ ih  _ _ _ h
set_option maxHeartbeats 4000000 in
set_option maxRecDepth 100000 in
theorem ccl7_roomOf (l : Launch) (D : va_G) (cI cP cII : ClassId) (TY : dl_TY) (hTY : TY[0]? = some (cI, .int)) (N : Nat) (ad : Nat → Nat) (pr : Nat → Option Nat) (R : va_W) (g : dl_Sg) (x1 : Int32) {r0 : Int32} (h : cl7_roomOf N g x1 = some r0) : dl_CtI l D TY cc_nw yX7_roomOf wsX7_roomOf { frames := 1, cells := 0, slots := 0, locals := 20 } 0 0 [.ref (ad 4), .int x1] (cc_w cI cP cII ad pr g ++ R) (fun r u => r = r0 ∧ u = cc_w cI cP cII ad pr g ++ R) := by
  refine dl_metI (ty := .int) [(0, .ref (ad 4)), (1, .int x1)] (by decide) rfl (Nat.le_of_ble_eq_true rfl) rfl ?_
  intro p e s m args below meth c Q A C hQ
  unfold cl7_roomOf at h
  refine dl_sipush (pc := 0) C 1024 dX7_roomOf_0 (by decide) ?_
  refine dl_aload_n (pc := 3) C 0 dX7_roomOf_3 rfl rfl ?_
  refine dl_get (pc := 4) C hin_X7_roomOf_X7 4 cc_a4 rfl 0 (by decide) lk_X7_roomOf_25 rfl rfl dX7_roomOf_4 ?_
  refine dl_getN (pc := 7) C hin_X7_roomOf_X2 1 cc_a1 rfl 6 (by decide) nk_RX7_111 rfl rfl dX7_roomOf_7 ?_
  refine dl_iload_n (pc := 10) C 1 dX7_roomOf_10 rfl rfl ?_
  obtain ⟨h0, h⟩ := dl_gd_some h
  refine dl_iald (pc := 11) C 12 0 cc_a15 hTY h0 dX7_roomOf_11 ?_
  refine dl_imul (pc := 12) C dX7_roomOf_12 ?_
  refine dl_istore_n (pc := 13) C (fun v1 => [(2, .int v1), (0, .ref (ad 4)), (1, .int x1)]) dX7_roomOf_13 rfl (by decide) (fun _ => rfl) h (fun v1 h => ?_)
  refine dl_iconst (pc := 14) C 0 dX7_roomOf_14 (by decide) ?_
  refine dl_istore_n (pc := 15) C (fun v2 => [(3, .int v2), (2, .int v1), (0, .ref (ad 4)), (1, .int x1)]) dX7_roomOf_15 rfl (by decide) (fun _ => rfl) h (fun v2 h => ?_)
  refine dl_sub [2, 3, 1, 0] rfl ?_
  exact cl7_roomOf_t16 l D cI cP cII TY hTY N ad pr R g C hQ N _ _ _ h
theorem hin_X7_addPart_X2 : ∀ w ∈ u_ws RX2 TX2 18, w ∈ wsX7_addPart := fun _ h => List.mem_cons_of_mem _ (List.mem_append_right _ h)
theorem hin_X7_addPart_X7 : ∀ w ∈ u_ws RX7 TX7 8, w ∈ wsX7_addPart := fun _ h => List.mem_cons_of_mem _ (List.mem_append_left _ (List.mem_append_right _ h))
theorem lk_X7_addPart_11 : Cond.fieldLink (yX7_addPart).cls 11 "DripLines$Walls" (TX7 1).2.1 (TX7 1).2.2.1 ∈ wsX7_addPart := by decide +kernel
theorem lk_X7_addPart_15 : Cond.fieldLink (yX7_addPart).cls 15 "DripLines$Walls" (TX7 2).2.1 (TX7 2).2.2.1 ∈ wsX7_addPart := by decide +kernel
theorem lk_X7_addPart_18 : Cond.fieldLink (yX7_addPart).cls 18 "DripLines$Walls" (TX7 3).2.1 (TX7 3).2.2.1 ∈ wsX7_addPart := by decide +kernel
theorem lk_X7_addPart_25 : Cond.fieldLink (yX7_addPart).cls 25 "DripLines$Walls" (TX7 0).2.1 (TX7 0).2.2.1 ∈ wsX7_addPart := by decide +kernel
theorem lk_X7_addPart_35 : Cond.fieldLink (yX7_addPart).cls 35 "DripLines$Walls" (TX7 4).2.1 (TX7 4).2.2.1 ∈ wsX7_addPart := by decide +kernel
set_option maxHeartbeats 4000000 in
set_option maxRecDepth 100000 in
theorem cl7_addPart_t62 {p : Program} {e : Env} {s : State} {m : MethodId} {args : Array Value} {below : List Frame} {meth : Method} {c : Code} {Q : State → Prop} {A : Nat → Prop} (l : Launch) (D : va_G) (cI cP cII : ClassId) (TY : dl_TY) (hTY : TY[0]? = some (cI, .int)) (N : Nat) (ad : Nat → Nat) (pr : Nat → Option Nat) (R : va_W) {g0 : dl_Sg} (C : dl_Cx p s m args c A D TY cc_nw cX7_addPart 3 yX7_addPart.cls wsX7_addPart) (hQ : dl_RtV p l e (headSpec wsX7_addPart { frames := 1, cells := 0, slots := 0, locals := 21 }).room s m args below meth c Q A D cX7_addPart 3 0 0 (fun u => u = cc_w cI cP cII ad pr g0 ++ R)) {k32 : Int32 → Int32 → dl_Sg → Option dl_Sg} (hk32 : ∀ (x1 : Int32) (x2 : Int32) (g : dl_Sg), k32 x1 x2 g = some g0 → dl_At p l e (headSpec wsX7_addPart { frames := 1, cells := 0, slots := 0, locals := 21 }).room s m args below meth c Q A D 3 0 0 32 [(0, .ref (ad 4)), (1, .int x1), (2, .int x2)] [] (cc_w cI cP cII ad pr g ++ R)) (x1 : Int32) (x2 : Int32) (g : dl_Sg) (h : cl7_addPart_b62 N k32 x1 x2 g = some g0) : dl_At p l e (headSpec wsX7_addPart { frames := 1, cells := 0, slots := 0, locals := 21 }).room s m args below meth c Q A D 3 0 0 62 [(0, .ref (ad 4)), (1, .int x1), (2, .int x2)] [] (cc_w cI cP cII ad pr g ++ R) := by
  unfold cl7_addPart_b62 at h
  refine dl_iinc (pc := 62) C 2 (fun v1 => [(2, .int v1), (0, .ref (ad 4)), (1, .int x1)]) dX7_addPart_62 rfl rfl (by decide) (fun _ => rfl) h (fun v1 h => ?_)
  refine dl_goto (pc := 65) C 32 dX7_addPart_65 (by decide) ?_
  refine dl_sub [1, 2, 0] rfl ?_
  exact hk32 _ _ _ h
set_option maxHeartbeats 4000000 in
set_option maxRecDepth 100000 in
theorem cl7_addPart_t32 {p : Program} {e : Env} {s : State} {m : MethodId} {args : Array Value} {below : List Frame} {meth : Method} {c : Code} {Q : State → Prop} {A : Nat → Prop} (l : Launch) (D : va_G) (cI cP cII : ClassId) (TY : dl_TY) (hTY : TY[0]? = some (cI, .int)) (N : Nat) (ad : Nat → Nat) (pr : Nat → Option Nat) (R : va_W) {g0 : dl_Sg} (C : dl_Cx p s m args c A D TY cc_nw cX7_addPart 3 yX7_addPart.cls wsX7_addPart) (hQ : dl_RtV p l e (headSpec wsX7_addPart { frames := 1, cells := 0, slots := 0, locals := 21 }).room s m args below meth c Q A D cX7_addPart 3 0 0 (fun u => u = cc_w cI cP cII ad pr g0 ++ R)) : ∀ (n : Nat) (x1 : Int32) (x2 : Int32) (g : dl_Sg), cl7_addPart_b32 N n x1 x2 g = some g0 → dl_At p l e (headSpec wsX7_addPart { frames := 1, cells := 0, slots := 0, locals := 21 }).room s m args below meth c Q A D 3 0 0 32 [(0, .ref (ad 4)), (1, .int x1), (2, .int x2)] [] (cc_w cI cP cII ad pr g ++ R) := by
  intro n
  induction n with
  | zero => exact fun _ _ _ h => absurd (show (none : Option dl_Sg) = some _ from h) (by intro q; cases q)
  | succ n ih =>
    intro x1 x2 g h
    rw [cl7_addPart_b32] at h
    refine dl_iload_n (pc := 32) C 2 dX7_addPart_32 rfl rfl ?_
    refine dl_aload_n (pc := 33) C 0 dX7_addPart_33 rfl rfl ?_
    refine dl_get (pc := 34) C hin_X7_addPart_X7 4 cc_a4 rfl 0 (by decide) lk_X7_addPart_25 rfl rfl dX7_addPart_34 ?_
    refine dl_getN (pc := 37) C hin_X7_addPart_X2 1 cc_a1 rfl 10 (by decide) nk_RX7_69 rfl rfl dX7_addPart_37 ?_
    refine dl_icmp_ge (pc := 40) C 68 dX7_addPart_40 (by decide) h (fun q5 h => ?_) (fun q5 h => ?_)
    · refine dl_aload_n (pc := 68) C 0 dX7_addPart_68 rfl rfl ?_
      refine dl_dup (pc := 69) C dX7_addPart_69 rfl ?_
      refine dl_get (pc := 70) C hin_X7_addPart_X7 4 cc_a4 rfl 4 (by decide) lk_X7_addPart_35 rfl rfl dX7_addPart_70 ?_
      refine dl_iconst (pc := 73) C 1 dX7_addPart_73 (by decide) ?_
      refine dl_iadd (pc := 74) C dX7_addPart_74 ?_
      refine dl_put (pc := 75) C hin_X7_addPart_X7 tyX7 tyX7_ok nmX7 4 cc_a4 rfl 4 (by decide) lk_X7_addPart_35 rfl rfl (ty := .int) rfl (vp_nar_int _) rfl (Nat.le_of_ble_eq_true rfl) dX7_addPart_75 cc_p4_4 ?_
      obtain ⟨g1, h, hg⟩ := dl_nm_some h
      rw [← hg]
      clear hg
      exact hQ 78 _ _ (by rw [Option.some.inj h]) dX7_addPart_78
    · refine dl_iload_n (pc := 43) C 1 dX7_addPart_43 rfl rfl ?_
      refine dl_iload_n (pc := 44) C 2 dX7_addPart_44 rfl rfl ?_
      obtain ⟨r2, h1, h⟩ := dl_bi_some h
      refine dl_sIN0 (n := 2) (pc := 45) C (ccl11_bitAt l D TY cc_nw _ _ _ h1) ggX7_addPart_X11_bitAt rfl rfl rfl nk_RX7_76 (by decide +kernel) (by decide +kernel) (by decide +kernel) ⟨Nat.le_of_ble_eq_true rfl, Nat.le_of_ble_eq_true rfl⟩ rfl rfl (Nat.le_of_ble_eq_true rfl) dX7_addPart_45 ⟨Nat.zero_le _, Nat.zero_le _⟩ (fun r u hp => ?_)
      obtain ⟨rfl, hu⟩ := hp
      rw [hu]
      clear hu
      refine dl_iconst (pc := 48) C 1 dX7_addPart_48 (by decide) ?_
      refine dl_icmp_ne (pc := 49) C 62 dX7_addPart_49 (by decide) h (fun q4 h => ?_) (fun q4 h => ?_)
      · refine dl_aload_n (pc := 52) C 0 dX7_addPart_52 rfl rfl ?_
        refine dl_get (pc := 53) C hin_X7_addPart_X7 4 cc_a4 rfl 3 (by decide) lk_X7_addPart_18 rfl rfl dX7_addPart_53 ?_
        refine dl_iload_n (pc := 56) C 2 dX7_addPart_56 rfl rfl ?_
        refine dl_aload_n (pc := 57) C 0 dX7_addPart_57 rfl rfl ?_
        refine dl_get (pc := 58) C hin_X7_addPart_X7 4 cc_a4 rfl 4 (by decide) lk_X7_addPart_35 rfl rfl dX7_addPart_58 ?_
        obtain ⟨h0, h⟩ := dl_gd_some h
        refine dl_iast (pc := 61) C 21 0 cc_a24 hTY h0 dX7_addPart_61 cc_s24 ?_
        obtain ⟨g3, h, hg⟩ := dl_nm_some h
        rw [← hg]
        clear hg
        refine dl_sub [0, 1, 2] rfl ?_
        exact cl7_addPart_t62 l D cI cP cII TY hTY N ad pr R C hQ ih  _ _ _ h
      · refine dl_sub [0, 1, 2] rfl ?_
        exact cl7_addPart_t62 l D cI cP cII TY hTY N ad pr R C hQ ih  _ _ _ h
set_option maxHeartbeats 4000000 in
set_option maxRecDepth 100000 in
theorem ccl7_addPart (l : Launch) (D : va_G) (cI cP cII : ClassId) (TY : dl_TY) (hTY : TY[0]? = some (cI, .int)) (N : Nat) (ad : Nat → Nat) (pr : Nat → Option Nat) (R : va_W) (g : dl_Sg) (x1 : Int32) {g0 : dl_Sg} (h : cl7_addPart N g x1 = some g0) : dl_CtV l D TY cc_nw yX7_addPart wsX7_addPart { frames := 1, cells := 0, slots := 0, locals := 21 } 0 0 [.ref (ad 4), .int x1] (cc_w cI cP cII ad pr g ++ R) (fun u => u = cc_w cI cP cII ad pr g0 ++ R) := by
  refine dl_metV [(0, .ref (ad 4)), (1, .int x1)] (by decide) rfl (Nat.le_of_ble_eq_true rfl) rfl ?_
  intro p e s m args below meth c Q A C hQ
  unfold cl7_addPart at h
  refine dl_aload_n (pc := 0) C 0 dX7_addPart_0 rfl rfl ?_
  refine dl_get (pc := 1) C hin_X7_addPart_X7 4 cc_a4 rfl 4 (by decide) lk_X7_addPart_35 rfl rfl dX7_addPart_1 ?_
  refine dl_bipush (pc := 4) C 20 dX7_addPart_4 (by decide) ?_
  refine dl_icmp_lt (pc := 6) C 10 dX7_addPart_6 (by decide) h (fun q4 h => ?_) (fun q4 h => ?_)
  · refine dl_aload_n (pc := 10) C 0 dX7_addPart_10 rfl rfl ?_
    refine dl_get (pc := 11) C hin_X7_addPart_X7 4 cc_a4 rfl 1 (by decide) lk_X7_addPart_11 rfl rfl dX7_addPart_11 ?_
    refine dl_aload_n (pc := 14) C 0 dX7_addPart_14 rfl rfl ?_
    refine dl_get (pc := 15) C hin_X7_addPart_X7 4 cc_a4 rfl 4 (by decide) lk_X7_addPart_35 rfl rfl dX7_addPart_15 ?_
    refine dl_iload_n (pc := 18) C 1 dX7_addPart_18 rfl rfl ?_
    obtain ⟨h0, h⟩ := dl_gd_some h
    refine dl_iast (pc := 19) C 19 0 cc_a22 hTY h0 dX7_addPart_19 cc_s22 ?_
    obtain ⟨g1, h, hg⟩ := dl_nm_some h
    rw [← hg]
    clear hg
    refine dl_aload_n (pc := 20) C 0 dX7_addPart_20 rfl rfl ?_
    refine dl_get (pc := 21) C hin_X7_addPart_X7 4 cc_a4 rfl 2 (by decide) lk_X7_addPart_15 rfl rfl dX7_addPart_21 ?_
    refine dl_aload_n (pc := 24) C 0 dX7_addPart_24 rfl rfl ?_
    refine dl_get (pc := 25) C hin_X7_addPart_X7 4 cc_a4 rfl 4 (by decide) lk_X7_addPart_35 rfl rfl dX7_addPart_25 ?_
    refine dl_iconst (pc := 28) C 0 dX7_addPart_28 (by decide) ?_
    obtain ⟨h0, h⟩ := dl_gd_some h
    refine dl_iast (pc := 29) C 20 0 cc_a23 hTY h0 dX7_addPart_29 cc_s23 ?_
    obtain ⟨g2, h, hg⟩ := dl_nm_some h
    rw [← hg]
    clear hg
    refine dl_iconst (pc := 30) C 0 dX7_addPart_30 (by decide) ?_
    refine dl_istore_n (pc := 31) C (fun v3 => [(2, .int v3), (0, .ref (ad 4)), (1, .int x1)]) dX7_addPart_31 rfl (by decide) (fun _ => rfl) h (fun v3 h => ?_)
    refine dl_sub [1, 2, 0] rfl ?_
    exact cl7_addPart_t32 l D cI cP cII TY hTY N ad pr R C hQ N _ _ _ h
  · exact hQ 9 _ _ (by rw [Option.some.inj h]) dX7_addPart_9
theorem hin_X7_startParts_X2 : ∀ w ∈ u_ws RX2 TX2 18, w ∈ wsX7_startParts := fun _ h => List.mem_cons_of_mem _ (List.mem_append_right _ h)
theorem hin_X7_startParts_X7 : ∀ w ∈ u_ws RX7 TX7 8, w ∈ wsX7_startParts := fun _ h => List.mem_cons_of_mem _ (List.mem_append_left _ (List.mem_append_right _ h))
theorem lk_X7_startParts_25 : Cond.fieldLink (yX7_startParts).cls 25 "DripLines$Walls" (TX7 0).2.1 (TX7 0).2.2.1 ∈ wsX7_startParts := by decide +kernel
theorem lk_X7_startParts_35 : Cond.fieldLink (yX7_startParts).cls 35 "DripLines$Walls" (TX7 4).2.1 (TX7 4).2.2.1 ∈ wsX7_startParts := by decide +kernel
set_option maxHeartbeats 4000000 in
set_option maxRecDepth 100000 in
theorem cl7_startParts_t7 {p : Program} {e : Env} {s : State} {m : MethodId} {args : Array Value} {below : List Frame} {meth : Method} {c : Code} {Q : State → Prop} {A : Nat → Prop} (l : Launch) (D : va_G) (cI cP cII : ClassId) (TY : dl_TY) (hTY : TY[0]? = some (cI, .int)) (N : Nat) (ad : Nat → Nat) (pr : Nat → Option Nat) (R : va_W) {g0 : dl_Sg} (C : dl_Cx p s m args c A D TY cc_nw cX7_startParts 2 yX7_startParts.cls wsX7_startParts) (hQ : dl_RtV p l e (headSpec wsX7_startParts { frames := 2, cells := 0, slots := 0, locals := 43 }).room s m args below meth c Q A D cX7_startParts 2 0 0 (fun u => u = cc_w cI cP cII ad pr g0 ++ R)) : ∀ (n : Nat) (x1 : Int32) (g : dl_Sg), cl7_startParts_b7 N n x1 g = some g0 → dl_At p l e (headSpec wsX7_startParts { frames := 2, cells := 0, slots := 0, locals := 43 }).room s m args below meth c Q A D 2 0 0 7 [(0, .ref (ad 4)), (1, .int x1)] [] (cc_w cI cP cII ad pr g ++ R) := by
  intro n
  induction n with
  | zero => exact fun _ _ h => absurd (show (none : Option dl_Sg) = some _ from h) (by intro q; cases q)
  | succ n ih =>
    intro x1 g h
    rw [cl7_startParts_b7] at h
    refine dl_iload_n (pc := 7) C 1 dX7_startParts_7 rfl rfl ?_
    refine dl_aload_n (pc := 8) C 0 dX7_startParts_8 rfl rfl ?_
    refine dl_get (pc := 9) C hin_X7_startParts_X7 4 cc_a4 rfl 0 (by decide) lk_X7_startParts_25 rfl rfl dX7_startParts_9 ?_
    refine dl_getN (pc := 12) C hin_X7_startParts_X2 1 cc_a1 rfl 10 (by decide) nk_RX7_69 rfl rfl dX7_startParts_12 ?_
    refine dl_icmp_ge (pc := 15) C 31 dX7_startParts_15 (by decide) h (fun q3 h => ?_) (fun q3 h => ?_)
    · exact hQ 31 _ _ (by rw [Option.some.inj h]) dX7_startParts_31
    · refine dl_aload_n (pc := 18) C 0 dX7_startParts_18 rfl rfl ?_
      refine dl_iconst (pc := 19) C 1 dX7_startParts_19 (by decide) ?_
      refine dl_iload_n (pc := 20) C 1 dX7_startParts_20 rfl rfl ?_
      refine dl_ishl (pc := 21) C dX7_startParts_21 ?_
      obtain ⟨g1, h1, h⟩ := dl_bi_some h
      refine dl_vV0 (pc := 22) C (ccl7_addPart l D cI cP cII TY hTY N ad pr R _ _ h1) (cwV 1 C.2.2.2.2.1 gX7_startParts_X7_addPart rfl rfl rfl (by decide +kernel) ⟨Nat.le_of_ble_eq_true rfl, Nat.le_of_ble_eq_true rfl⟩) 4 7 cc_a4 rfl rfl rfl (Nat.le_of_ble_eq_true rfl) dX7_startParts_22 ⟨Nat.zero_le _, Nat.zero_le _⟩ (fun u hp => ?_)
      subst hp
      refine dl_iinc (pc := 25) C 1 (fun v2 => [(1, .int v2), (0, .ref (ad 4))]) dX7_startParts_25 rfl rfl (by decide) (fun _ => rfl) h (fun v2 h => ?_)
      refine dl_goto (pc := 28) C 7 dX7_startParts_28 (by decide) ?_
      refine dl_sub [1, 0] rfl ?_
      exact ih _ _ h
set_option maxHeartbeats 4000000 in
set_option maxRecDepth 100000 in
theorem ccl7_startParts (l : Launch) (D : va_G) (cI cP cII : ClassId) (TY : dl_TY) (hTY : TY[0]? = some (cI, .int)) (N : Nat) (ad : Nat → Nat) (pr : Nat → Option Nat) (R : va_W) (g : dl_Sg) {g0 : dl_Sg} (h : cl7_startParts N g  = some g0) : dl_CtV l D TY cc_nw yX7_startParts wsX7_startParts { frames := 2, cells := 0, slots := 0, locals := 43 } 0 0 [.ref (ad 4)] (cc_w cI cP cII ad pr g ++ R) (fun u => u = cc_w cI cP cII ad pr g0 ++ R) := by
  refine dl_metV [(0, .ref (ad 4))] (by decide) rfl (Nat.le_of_ble_eq_true rfl) rfl ?_
  intro p e s m args below meth c Q A C hQ
  unfold cl7_startParts at h
  refine dl_aload_n (pc := 0) C 0 dX7_startParts_0 rfl rfl ?_
  refine dl_iconst (pc := 1) C 0 dX7_startParts_1 (by decide) ?_
  refine dl_put (pc := 2) C hin_X7_startParts_X7 tyX7 tyX7_ok nmX7 4 cc_a4 rfl 4 (by decide) lk_X7_startParts_35 rfl rfl (ty := .int) rfl (vp_nar_int _) rfl (Nat.le_of_ble_eq_true rfl) dX7_startParts_2 cc_p4_4 ?_
  obtain ⟨g1, h, hg⟩ := dl_nm_some h
  rw [← hg]
  clear hg
  refine dl_iconst (pc := 5) C 0 dX7_startParts_5 (by decide) ?_
  refine dl_istore_n (pc := 6) C (fun v2 => [(1, .int v2), (0, .ref (ad 4))]) dX7_startParts_6 rfl (by decide) (fun _ => rfl) h (fun v2 h => ?_)
  refine dl_sub [1, 0] rfl ?_
  exact cl7_startParts_t7 l D cI cP cII TY hTY N ad pr R C hQ N _ _ h
theorem hin_X7_growActive_X7 : ∀ w ∈ u_ws RX7 TX7 8, w ∈ wsX7_growActive := fun _ h => List.mem_cons_of_mem _ (List.mem_append_left _ (List.mem_append_right _ h))
theorem lk_X7_growActive_11 : Cond.fieldLink (yX7_growActive).cls 11 "DripLines$Walls" (TX7 1).2.1 (TX7 1).2.2.1 ∈ wsX7_growActive := by decide +kernel
theorem lk_X7_growActive_15 : Cond.fieldLink (yX7_growActive).cls 15 "DripLines$Walls" (TX7 2).2.1 (TX7 2).2.2.1 ∈ wsX7_growActive := by decide +kernel
theorem lk_X7_growActive_18 : Cond.fieldLink (yX7_growActive).cls 18 "DripLines$Walls" (TX7 3).2.1 (TX7 3).2.2.1 ∈ wsX7_growActive := by decide +kernel
theorem lk_X7_growActive_35 : Cond.fieldLink (yX7_growActive).cls 35 "DripLines$Walls" (TX7 4).2.1 (TX7 4).2.2.1 ∈ wsX7_growActive := by decide +kernel
set_option maxHeartbeats 4000000 in
set_option maxRecDepth 100000 in
theorem cl7_growActive_t56 {p : Program} {e : Env} {s : State} {m : MethodId} {args : Array Value} {below : List Frame} {meth : Method} {c : Code} {Q : State → Prop} {A : Nat → Prop} (l : Launch) (D : va_G) (cI cP cII : ClassId) (TY : dl_TY) (hTY : TY[0]? = some (cI, .int)) (N : Nat) (ad : Nat → Nat) (pr : Nat → Option Nat) (R : va_W) {g0 : dl_Sg} (C : dl_Cx p s m args c A D TY cc_nw cX7_growActive 4 yX7_growActive.cls wsX7_growActive) (hQ : dl_RtV p l e (headSpec wsX7_growActive { frames := 1, cells := 0, slots := 0, locals := 22 }).room s m args below meth c Q A D cX7_growActive 4 0 0 (fun u => u = cc_w cI cP cII ad pr g0 ++ R)) {k2 : Int32 → Int32 → dl_Sg → Option dl_Sg} (hk2 : ∀ (x1 : Int32) (x2 : Int32) (g : dl_Sg), k2 x1 x2 g = some g0 → dl_At p l e (headSpec wsX7_growActive { frames := 1, cells := 0, slots := 0, locals := 22 }).room s m args below meth c Q A D 4 0 0 2 [(0, .ref (ad 4)), (1, .int x1), (2, .int x2)] [] (cc_w cI cP cII ad pr g ++ R)) (x1 : Int32) (x2 : Int32) (g : dl_Sg) (h : cl7_growActive_b56 N k2 x1 x2 g = some g0) : dl_At p l e (headSpec wsX7_growActive { frames := 1, cells := 0, slots := 0, locals := 22 }).room s m args below meth c Q A D 4 0 0 56 [(0, .ref (ad 4)), (1, .int x1), (2, .int x2)] [] (cc_w cI cP cII ad pr g ++ R) := by
  unfold cl7_growActive_b56 at h
  refine dl_iinc (pc := 56) C 2 (fun v1 => [(2, .int v1), (0, .ref (ad 4)), (1, .int x1)]) dX7_growActive_56 rfl rfl (by decide) (fun _ => rfl) h (fun v1 h => ?_)
  refine dl_goto (pc := 59) C 2 dX7_growActive_59 (by decide) ?_
  refine dl_sub [1, 2, 0] rfl ?_
  exact hk2 _ _ _ h
set_option maxHeartbeats 4000000 in
set_option maxRecDepth 100000 in
theorem cl7_growActive_t33 {p : Program} {e : Env} {s : State} {m : MethodId} {args : Array Value} {below : List Frame} {meth : Method} {c : Code} {Q : State → Prop} {A : Nat → Prop} (l : Launch) (D : va_G) (cI cP cII : ClassId) (TY : dl_TY) (hTY : TY[0]? = some (cI, .int)) (N : Nat) (ad : Nat → Nat) (pr : Nat → Option Nat) (R : va_W) {g0 : dl_Sg} (C : dl_Cx p s m args c A D TY cc_nw cX7_growActive 4 yX7_growActive.cls wsX7_growActive) (hQ : dl_RtV p l e (headSpec wsX7_growActive { frames := 1, cells := 0, slots := 0, locals := 22 }).room s m args below meth c Q A D cX7_growActive 4 0 0 (fun u => u = cc_w cI cP cII ad pr g0 ++ R)) {k2 : Int32 → Int32 → dl_Sg → Option dl_Sg} (hk2 : ∀ (x1 : Int32) (x2 : Int32) (g : dl_Sg), k2 x1 x2 g = some g0 → dl_At p l e (headSpec wsX7_growActive { frames := 1, cells := 0, slots := 0, locals := 22 }).room s m args below meth c Q A D 4 0 0 2 [(0, .ref (ad 4)), (1, .int x1), (2, .int x2)] [] (cc_w cI cP cII ad pr g ++ R)) (x1 : Int32) (x2 : Int32) (y0 : Int32) (g : dl_Sg) (h : cl7_growActive_b33 N k2 x1 x2 y0 g = some g0) : dl_At p l e (headSpec wsX7_growActive { frames := 1, cells := 0, slots := 0, locals := 22 }).room s m args below meth c Q A D 4 0 0 33 [(0, .ref (ad 4)), (1, .int x1), (2, .int x2)] [.int y0] (cc_w cI cP cII ad pr g ++ R) := by
  unfold cl7_growActive_b33 at h
  refine dl_istore_n (pc := 33) C (fun v1 => [(3, .int v1), (0, .ref (ad 4)), (1, .int x1), (2, .int x2)]) dX7_growActive_33 rfl (by decide) (fun _ => rfl) h (fun v1 h => ?_)
  refine dl_iload_n (pc := 34) C 0 dX7_growActive_34 rfl rfl ?_
  refine dl_if_eq (pc := 35) C 56 dX7_growActive_35 (by decide) h (fun q5 h => ?_) (fun q5 h => ?_)
  · refine dl_sub [1, 2, 3] rfl ?_
    exact cl7_growActive_t56 l D cI cP cII TY hTY N ad pr R C hQ hk2  _ _ _ h
  · refine dl_aload_n (pc := 38) C 1 dX7_growActive_38 rfl rfl ?_
    refine dl_iload_n (pc := 39) C 3 dX7_growActive_39 rfl rfl ?_
    obtain ⟨r2, h1, h⟩ := dl_bi_some h
    refine dl_vI0 (pc := 40) C (ccl7_isActive l D cI cP cII TY hTY ad pr R _ _ h1) (cwV 1 C.2.2.2.2.1 gX7_growActive_X7_isActive rfl rfl rfl (by decide +kernel) ⟨Nat.le_of_ble_eq_true rfl, Nat.le_of_ble_eq_true rfl⟩) 4 7 cc_a4 rfl rfl rfl (Nat.le_of_ble_eq_true rfl) dX7_growActive_40 ⟨Nat.zero_le _, Nat.zero_le _⟩ (fun r u hp => ?_)
    obtain ⟨rfl, rfl⟩ := hp
    refine dl_if_eq (pc := 43) C 56 dX7_growActive_43 (by decide) h (fun q4 h => ?_) (fun q4 h => ?_)
    · refine dl_sub [1, 2, 3] rfl ?_
      exact cl7_growActive_t56 l D cI cP cII TY hTY N ad pr R C hQ hk2  _ _ _ h
    · refine dl_aload_n (pc := 46) C 1 dX7_growActive_46 rfl rfl ?_
      refine dl_get (pc := 47) C hin_X7_growActive_X7 4 cc_a4 rfl 2 (by decide) lk_X7_growActive_15 rfl rfl dX7_growActive_47 ?_
      refine dl_iload_n (pc := 50) C 3 dX7_growActive_50 rfl rfl ?_
      refine dl_dup2 (pc := 51) C dX7_growActive_51 rfl rfl ?_
      obtain ⟨h0, h⟩ := dl_gd_some h
      refine dl_iald (pc := 52) C 20 0 cc_a23 hTY h0 dX7_growActive_52 ?_
      refine dl_iload_n (pc := 53) C 2 dX7_growActive_53 rfl rfl ?_
      refine dl_iadd (pc := 54) C dX7_growActive_54 ?_
      obtain ⟨h0, h⟩ := dl_gd_some h
      refine dl_iast (pc := 55) C 20 0 cc_a23 hTY h0 dX7_growActive_55 cc_s23 ?_
      obtain ⟨g3, h, hg⟩ := dl_nm_some h
      rw [← hg]
      clear hg
      refine dl_sub [1, 2, 3] rfl ?_
      exact cl7_growActive_t56 l D cI cP cII TY hTY N ad pr R C hQ hk2  _ _ _ h
set_option maxHeartbeats 4000000 in
set_option maxRecDepth 100000 in
theorem cl7_growActive_t2 {p : Program} {e : Env} {s : State} {m : MethodId} {args : Array Value} {below : List Frame} {meth : Method} {c : Code} {Q : State → Prop} {A : Nat → Prop} (l : Launch) (D : va_G) (cI cP cII : ClassId) (TY : dl_TY) (hTY : TY[0]? = some (cI, .int)) (N : Nat) (ad : Nat → Nat) (pr : Nat → Option Nat) (R : va_W) {g0 : dl_Sg} (C : dl_Cx p s m args c A D TY cc_nw cX7_growActive 4 yX7_growActive.cls wsX7_growActive) (hQ : dl_RtV p l e (headSpec wsX7_growActive { frames := 1, cells := 0, slots := 0, locals := 22 }).room s m args below meth c Q A D cX7_growActive 4 0 0 (fun u => u = cc_w cI cP cII ad pr g0 ++ R)) : ∀ (n : Nat) (x1 : Int32) (x2 : Int32) (g : dl_Sg), cl7_growActive_b2 N n x1 x2 g = some g0 → dl_At p l e (headSpec wsX7_growActive { frames := 1, cells := 0, slots := 0, locals := 22 }).room s m args below meth c Q A D 4 0 0 2 [(0, .ref (ad 4)), (1, .int x1), (2, .int x2)] [] (cc_w cI cP cII ad pr g ++ R) := by
  intro n
  induction n with
  | zero => exact fun _ _ _ h => absurd (show (none : Option dl_Sg) = some _ from h) (by intro q; cases q)
  | succ n ih =>
    intro x1 x2 g h
    rw [cl7_growActive_b2] at h
    refine dl_iload_n (pc := 2) C 2 dX7_growActive_2 rfl rfl ?_
    refine dl_aload_n (pc := 3) C 0 dX7_growActive_3 rfl rfl ?_
    refine dl_get (pc := 4) C hin_X7_growActive_X7 4 cc_a4 rfl 4 (by decide) lk_X7_growActive_35 rfl rfl dX7_growActive_4 ?_
    refine dl_icmp_ge (pc := 7) C 62 dX7_growActive_7 (by decide) h (fun q3 h => ?_) (fun q3 h => ?_)
    · exact hQ 62 _ _ (by rw [Option.some.inj h]) dX7_growActive_62
    · refine dl_aload_n (pc := 10) C 0 dX7_growActive_10 rfl rfl ?_
      refine dl_get (pc := 11) C hin_X7_growActive_X7 4 cc_a4 rfl 3 (by decide) lk_X7_growActive_18 rfl rfl dX7_growActive_11 ?_
      refine dl_aload_n (pc := 14) C 0 dX7_growActive_14 rfl rfl ?_
      refine dl_get (pc := 15) C hin_X7_growActive_X7 4 cc_a4 rfl 1 (by decide) lk_X7_growActive_11 rfl rfl dX7_growActive_15 ?_
      refine dl_iload_n (pc := 18) C 2 dX7_growActive_18 rfl rfl ?_
      obtain ⟨h0, h⟩ := dl_gd_some h
      refine dl_iald (pc := 19) C 19 0 cc_a22 hTY h0 dX7_growActive_19 ?_
      obtain ⟨r1, h1, h⟩ := dl_bi_some h
      refine dl_sI0 (pc := 20) C (cjd_numberOfTrailingZeros l D TY cc_nw _ _ h1) (va_cwS 1 C.2.2.2.2.1 gX7_growActive_J6_numberOfTrailingZeros_0f7a4 rfl rfl rfl (by decide +kernel) ⟨Nat.le_of_ble_eq_true rfl, Nat.le_of_ble_eq_true rfl⟩) rfl rfl (Nat.le_of_ble_eq_true rfl) dX7_growActive_20 ⟨Nat.zero_le _, Nat.zero_le _⟩ (fun r u hp => ?_)
      obtain ⟨rfl, hu⟩ := hp
      rw [hu]
      clear hu
      obtain ⟨h0, h⟩ := dl_gd_some h
      refine dl_iald (pc := 23) C 21 0 cc_a24 hTY h0 dX7_growActive_23 ?_
      refine dl_iload_n (pc := 24) C 2 dX7_growActive_24 rfl rfl ?_
      refine dl_icmp_ne (pc := 25) C 32 dX7_growActive_25 (by decide) h (fun q2 h => ?_) (fun q2 h => ?_)
      · refine dl_iconst (pc := 28) C 1 dX7_growActive_28 (by decide) ?_
        refine dl_goto (pc := 29) C 33 dX7_growActive_29 (by decide) ?_
        refine dl_sub [0, 1, 2] rfl ?_
        exact cl7_growActive_t33 l D cI cP cII TY hTY N ad pr R C hQ ih  _ _ _ _ h
      · refine dl_iconst (pc := 32) C 0 dX7_growActive_32 (by decide) ?_
        refine dl_sub [0, 1, 2] rfl ?_
        exact cl7_growActive_t33 l D cI cP cII TY hTY N ad pr R C hQ ih  _ _ _ _ h
set_option maxHeartbeats 4000000 in
set_option maxRecDepth 100000 in
theorem ccl7_growActive (l : Launch) (D : va_G) (cI cP cII : ClassId) (TY : dl_TY) (hTY : TY[0]? = some (cI, .int)) (N : Nat) (ad : Nat → Nat) (pr : Nat → Option Nat) (R : va_W) (g : dl_Sg) (x1 : Int32) {g0 : dl_Sg} (h : cl7_growActive N g x1 = some g0) : dl_CtV l D TY cc_nw yX7_growActive wsX7_growActive { frames := 1, cells := 0, slots := 0, locals := 22 } 0 0 [.ref (ad 4), .int x1] (cc_w cI cP cII ad pr g ++ R) (fun u => u = cc_w cI cP cII ad pr g0 ++ R) := by
  refine dl_metV [(0, .ref (ad 4)), (1, .int x1)] (by decide) rfl (Nat.le_of_ble_eq_true rfl) rfl ?_
  intro p e s m args below meth c Q A C hQ
  unfold cl7_growActive at h
  refine dl_iconst (pc := 0) C 0 dX7_growActive_0 (by decide) ?_
  refine dl_istore_n (pc := 1) C (fun v1 => [(2, .int v1), (0, .ref (ad 4)), (1, .int x1)]) dX7_growActive_1 rfl (by decide) (fun _ => rfl) h (fun v1 h => ?_)
  refine dl_sub [1, 2, 0] rfl ?_
  exact cl7_growActive_t2 l D cI cP cII TY hTY N ad pr R C hQ N _ _ _ h
theorem hin_X7_goOn_X2 : ∀ w ∈ u_ws RX2 TX2 18, w ∈ wsX7_goOn := fun _ h => List.mem_cons_of_mem _ (List.mem_append_right _ h)
theorem hin_X7_goOn_X7 : ∀ w ∈ u_ws RX7 TX7 8, w ∈ wsX7_goOn := fun _ h => List.mem_cons_of_mem _ (List.mem_append_left _ (List.mem_append_right _ h))
theorem lk_X7_goOn_11 : Cond.fieldLink (yX7_goOn).cls 11 "DripLines$Walls" (TX7 1).2.1 (TX7 1).2.2.1 ∈ wsX7_goOn := by decide +kernel
theorem lk_X7_goOn_18 : Cond.fieldLink (yX7_goOn).cls 18 "DripLines$Walls" (TX7 3).2.1 (TX7 3).2.2.1 ∈ wsX7_goOn := by decide +kernel
theorem lk_X7_goOn_25 : Cond.fieldLink (yX7_goOn).cls 25 "DripLines$Walls" (TX7 0).2.1 (TX7 0).2.2.1 ∈ wsX7_goOn := by decide +kernel
theorem lk_X7_goOn_32 : Cond.fieldLink (yX7_goOn).cls 32 "DripLines$Walls" (TX7 6).2.1 (TX7 6).2.2.1 ∈ wsX7_goOn := by decide +kernel
set_option maxHeartbeats 4000000 in
set_option maxRecDepth 100000 in
theorem cl7_goOn_t92 {p : Program} {e : Env} {s : State} {m : MethodId} {args : Array Value} {below : List Frame} {meth : Method} {c : Code} {Q : State → Prop} {A : Nat → Prop} (l : Launch) (D : va_G) (cI cP cII : ClassId) (TY : dl_TY) (hTY : TY[0]? = some (cI, .int)) (N : Nat) (ad : Nat → Nat) (pr : Nat → Option Nat) (R : va_W) {g0 : dl_Sg} (C : dl_Cx p s m args c A D TY cc_nw cX7_goOn 5 yX7_goOn.cls wsX7_goOn) (hQ : dl_RtV p l e (headSpec wsX7_goOn { frames := 3, cells := 0, slots := 0, locals := 65 }).room s m args below meth c Q A D cX7_goOn 5 0 0 (fun u => u = cc_w cI cP cII ad pr g0 ++ R)) {k5 : Int32 → Int32 → dl_Sg → Option dl_Sg} (hk5 : ∀ (x1 : Int32) (x2 : Int32) (g : dl_Sg), k5 x1 x2 g = some g0 → dl_At p l e (headSpec wsX7_goOn { frames := 3, cells := 0, slots := 0, locals := 65 }).room s m args below meth c Q A D 5 0 0 5 [(0, .ref (ad 4)), (1, .int x1), (2, .int x2)] [] (cc_w cI cP cII ad pr g ++ R)) (x1 : Int32) (x2 : Int32) (g : dl_Sg) (h : cl7_goOn_b92 N k5 x1 x2 g = some g0) : dl_At p l e (headSpec wsX7_goOn { frames := 3, cells := 0, slots := 0, locals := 65 }).room s m args below meth c Q A D 5 0 0 92 [(0, .ref (ad 4)), (1, .int x1), (2, .int x2)] [] (cc_w cI cP cII ad pr g ++ R) := by
  unfold cl7_goOn_b92 at h
  refine dl_iinc (pc := 92) C 2 (fun v1 => [(2, .int v1), (0, .ref (ad 4)), (1, .int x1)]) dX7_goOn_92 rfl rfl (by decide) (fun _ => rfl) h (fun v1 h => ?_)
  refine dl_goto (pc := 95) C 5 dX7_goOn_95 (by decide) ?_
  refine dl_sub [1, 2, 0] rfl ?_
  exact hk5 _ _ _ h
set_option maxHeartbeats 4000000 in
set_option maxRecDepth 100000 in
theorem cl7_goOn_t5 {p : Program} {e : Env} {s : State} {m : MethodId} {args : Array Value} {below : List Frame} {meth : Method} {c : Code} {Q : State → Prop} {A : Nat → Prop} (l : Launch) (D : va_G) (cI cP cII : ClassId) (TY : dl_TY) (hTY : TY[0]? = some (cI, .int)) (N : Nat) (ad : Nat → Nat) (pr : Nat → Option Nat) (R : va_W) {g0 : dl_Sg} (C : dl_Cx p s m args c A D TY cc_nw cX7_goOn 5 yX7_goOn.cls wsX7_goOn) (hQ : dl_RtV p l e (headSpec wsX7_goOn { frames := 3, cells := 0, slots := 0, locals := 65 }).room s m args below meth c Q A D cX7_goOn 5 0 0 (fun u => u = cc_w cI cP cII ad pr g0 ++ R)) : ∀ (n : Nat) (x1 : Int32) (x2 : Int32) (g : dl_Sg), cl7_goOn_b5 N n x1 x2 g = some g0 → dl_At p l e (headSpec wsX7_goOn { frames := 3, cells := 0, slots := 0, locals := 65 }).room s m args below meth c Q A D 5 0 0 5 [(0, .ref (ad 4)), (1, .int x1), (2, .int x2)] [] (cc_w cI cP cII ad pr g ++ R) := by
  intro n
  induction n with
  | zero => exact fun _ _ _ h => absurd (show (none : Option dl_Sg) = some _ from h) (by intro q; cases q)
  | succ n ih =>
    intro x1 x2 g h
    rw [cl7_goOn_b5] at h
    refine dl_iload_n (pc := 5) C 2 dX7_goOn_5 rfl rfl ?_
    refine dl_aload_n (pc := 6) C 0 dX7_goOn_6 rfl rfl ?_
    refine dl_get (pc := 7) C hin_X7_goOn_X7 4 cc_a4 rfl 0 (by decide) lk_X7_goOn_25 rfl rfl dX7_goOn_7 ?_
    refine dl_getN (pc := 10) C hin_X7_goOn_X2 1 cc_a1 rfl 11 (by decide) nk_RX7_85 rfl rfl dX7_goOn_10 ?_
    refine dl_icmp_ge (pc := 13) C 98 dX7_goOn_13 (by decide) h (fun q12 h => ?_) (fun q12 h => ?_)
    · refine dl_iload_n (pc := 98) C 1 dX7_goOn_98 rfl rfl ?_
      refine dl_ldc (pc := 99) C 100000000 (by decide +kernel) dX7_goOn_99 ?_
      refine dl_icmp_ne (pc := 101) C 113 dX7_goOn_101 (by decide) h (fun q3 h => ?_) (fun q3 h => ?_)
      · refine dl_aload_n (pc := 104) C 0 dX7_goOn_104 rfl rfl ?_
        refine dl_bipush (pc := 105) C (-2) dX7_goOn_105 (by decide) ?_
        refine dl_put (pc := 107) C hin_X7_goOn_X7 tyX7 tyX7_ok nmX7 4 cc_a4 rfl 6 (by decide) lk_X7_goOn_32 rfl rfl (ty := .int) rfl (vp_nar_int _) rfl (Nat.le_of_ble_eq_true rfl) dX7_goOn_107 cc_p4_6 ?_
        obtain ⟨g1, h, hg⟩ := dl_nm_some h
        rw [← hg]
        clear hg
        refine dl_goto (pc := 110) C 118 dX7_goOn_110 (by decide) ?_
        exact hQ 118 _ _ (by rw [Option.some.inj h]) dX7_goOn_118
      · refine dl_aload_n (pc := 113) C 0 dX7_goOn_113 rfl rfl ?_
        refine dl_iload_n (pc := 114) C 1 dX7_goOn_114 rfl rfl ?_
        obtain ⟨g2, h1, h⟩ := dl_bi_some h
        refine dl_vV0 (pc := 115) C (ccl7_growActive l D cI cP cII TY hTY N ad pr R _ _ h1) (cwV 1 C.2.2.2.2.1 gX7_goOn_X7_growActive rfl rfl rfl (by decide +kernel) ⟨Nat.le_of_ble_eq_true rfl, Nat.le_of_ble_eq_true rfl⟩) 4 7 cc_a4 rfl rfl rfl (Nat.le_of_ble_eq_true rfl) dX7_goOn_115 ⟨Nat.zero_le _, Nat.zero_le _⟩ (fun u hp => ?_)
        subst hp
        exact hQ 118 _ _ (by rw [Option.some.inj h]) dX7_goOn_118
    · refine dl_aload_n (pc := 16) C 0 dX7_goOn_16 rfl rfl ?_
      refine dl_iload_n (pc := 17) C 2 dX7_goOn_17 rfl rfl ?_
      obtain ⟨r4, h1, h⟩ := dl_bi_some h
      refine dl_vI0 (pc := 18) C (ccl7_activeSidesOf l D cI cP cII TY hTY ad pr R _ _ h1) (cwV 1 C.2.2.2.2.1 gX7_goOn_X7_activeSidesOf rfl rfl rfl (by decide +kernel) ⟨Nat.le_of_ble_eq_true rfl, Nat.le_of_ble_eq_true rfl⟩) 4 7 cc_a4 rfl rfl rfl (Nat.le_of_ble_eq_true rfl) dX7_goOn_18 ⟨Nat.zero_le _, Nat.zero_le _⟩ (fun r u hp => ?_)
      obtain ⟨rfl, rfl⟩ := hp
      refine dl_istore_n (pc := 21) C (fun v5 => [(3, .int v5), (0, .ref (ad 4)), (1, .int x1), (2, .int x2)]) dX7_goOn_21 rfl (by decide) (fun _ => rfl) h (fun v5 h => ?_)
      refine dl_iload_n (pc := 22) C 0 dX7_goOn_22 rfl rfl ?_
      refine dl_if_le (pc := 23) C 92 dX7_goOn_23 (by decide) h (fun q11 h => ?_) (fun q11 h => ?_)
      · refine dl_sub [1, 2, 3] rfl ?_
        exact cl7_goOn_t92 l D cI cP cII TY hTY N ad pr R C hQ ih  _ _ _ h
      · refine dl_aload_n (pc := 26) C 1 dX7_goOn_26 rfl rfl ?_
        refine dl_iload_n (pc := 27) C 3 dX7_goOn_27 rfl rfl ?_
        obtain ⟨r6, h1, h⟩ := dl_bi_some h
        refine dl_vI0 (pc := 28) C (ccl7_roomOf l D cI cP cII TY hTY N ad pr R _ _ h1) (cwV 1 C.2.2.2.2.1 gX7_goOn_X7_roomOf rfl rfl rfl (by decide +kernel) ⟨Nat.le_of_ble_eq_true rfl, Nat.le_of_ble_eq_true rfl⟩) 4 7 cc_a4 rfl rfl rfl (Nat.le_of_ble_eq_true rfl) dX7_goOn_28 ⟨Nat.zero_le _, Nat.zero_le _⟩ (fun r u hp => ?_)
        obtain ⟨rfl, rfl⟩ := hp
        refine dl_istore (pc := 31) C (fun v7 => [(4, .int v7), (3, .int v5), (0, .ref (ad 4)), (1, .int x1), (2, .int x2)]) dX7_goOn_31 (by decide) (fun _ => rfl) h (fun v7 h => ?_)
        refine dl_iload (pc := 33) C 0 dX7_goOn_33 rfl ?_
        refine dl_iload_n (pc := 35) C 1 dX7_goOn_35 rfl rfl ?_
        refine dl_icmp_ge (pc := 36) C 83 dX7_goOn_36 (by decide) h (fun q10 h => ?_) (fun q10 h => ?_)
        · refine dl_iload_n (pc := 83) C 3 dX7_goOn_83 rfl rfl ?_
          refine dl_iload (pc := 84) C 0 dX7_goOn_84 rfl ?_
          refine dl_iload_n (pc := 86) C 1 dX7_goOn_86 rfl rfl ?_
          obtain ⟨h0, h⟩ := dl_gd_some h
          refine dl_idiv (pc := 87) C dX7_goOn_87 h0 ?_
          refine dl_mmin (pc := 88) C (by decide +kernel) (by decide +kernel) (by decide +kernel) (by decide +kernel) (Nat.le_of_ble_eq_true rfl) (Nat.le_of_ble_eq_true rfl) ⟨Nat.zero_le _, Nat.zero_le _⟩ dX7_goOn_88 ?_
          refine dl_istore_n (pc := 91) C (fun v8 => [(1, .int v8), (4, .int v7), (3, .int v5), (0, .ref (ad 4)), (2, .int x2)]) dX7_goOn_91 rfl (by decide) (fun _ => rfl) h (fun v8 h => ?_)
          refine dl_sub [3, 0, 4] rfl ?_
          exact cl7_goOn_t92 l D cI cP cII TY hTY N ad pr R C hQ ih  _ _ _ h
        · refine dl_aload_n (pc := 39) C 2 dX7_goOn_39 rfl rfl ?_
          refine dl_aload_n (pc := 40) C 2 dX7_goOn_40 rfl rfl ?_
          refine dl_get (pc := 41) C hin_X7_goOn_X7 4 cc_a4 rfl 1 (by decide) lk_X7_goOn_11 rfl rfl dX7_goOn_41 ?_
          refine dl_aload_n (pc := 44) C 2 dX7_goOn_44 rfl rfl ?_
          refine dl_get (pc := 45) C hin_X7_goOn_X7 4 cc_a4 rfl 3 (by decide) lk_X7_goOn_18 rfl rfl dX7_goOn_45 ?_
          refine dl_aload_n (pc := 48) C 2 dX7_goOn_48 rfl rfl ?_
          refine dl_get (pc := 49) C hin_X7_goOn_X7 4 cc_a4 rfl 0 (by decide) lk_X7_goOn_25 rfl rfl dX7_goOn_49 ?_
          refine dl_getN (pc := 52) C hin_X7_goOn_X2 1 cc_a1 rfl 4 (by decide) nk_RX7_94 rfl rfl dX7_goOn_52 ?_
          refine dl_iload_n (pc := 55) C 4 dX7_goOn_55 rfl rfl ?_
          obtain ⟨h0, h⟩ := dl_gd_some h
          refine dl_iald (pc := 56) C 10 0 cc_a13 hTY h0 dX7_goOn_56 ?_
          obtain ⟨h0, h⟩ := dl_gd_some h
          refine dl_iald (pc := 57) C 21 0 cc_a24 hTY h0 dX7_goOn_57 ?_
          obtain ⟨h0, h⟩ := dl_gd_some h
          refine dl_iald (pc := 58) C 19 0 cc_a22 hTY h0 dX7_goOn_58 ?_
          refine dl_aload_n (pc := 59) C 2 dX7_goOn_59 rfl rfl ?_
          refine dl_get (pc := 60) C hin_X7_goOn_X7 4 cc_a4 rfl 1 (by decide) lk_X7_goOn_11 rfl rfl dX7_goOn_60 ?_
          refine dl_aload_n (pc := 63) C 2 dX7_goOn_63 rfl rfl ?_
          refine dl_get (pc := 64) C hin_X7_goOn_X7 4 cc_a4 rfl 3 (by decide) lk_X7_goOn_18 rfl rfl dX7_goOn_64 ?_
          refine dl_aload_n (pc := 67) C 2 dX7_goOn_67 rfl rfl ?_
          refine dl_get (pc := 68) C hin_X7_goOn_X7 4 cc_a4 rfl 0 (by decide) lk_X7_goOn_25 rfl rfl dX7_goOn_68 ?_
          refine dl_getN (pc := 71) C hin_X7_goOn_X2 1 cc_a1 rfl 5 (by decide) nk_RX7_97 rfl rfl dX7_goOn_71 ?_
          refine dl_iload_n (pc := 74) C 4 dX7_goOn_74 rfl rfl ?_
          obtain ⟨h0, h⟩ := dl_gd_some h
          refine dl_iald (pc := 75) C 11 0 cc_a14 hTY h0 dX7_goOn_75 ?_
          obtain ⟨h0, h⟩ := dl_gd_some h
          refine dl_iald (pc := 76) C 21 0 cc_a24 hTY h0 dX7_goOn_76 ?_
          obtain ⟨h0, h⟩ := dl_gd_some h
          refine dl_iald (pc := 77) C 19 0 cc_a22 hTY h0 dX7_goOn_77 ?_
          refine dl_ior (pc := 78) C dX7_goOn_78 ?_
          obtain ⟨g9, h1, h⟩ := dl_bi_some h
          refine dl_vV0 (pc := 79) C (ccl7_addPart l D cI cP cII TY hTY N ad pr R _ _ h1) (cwV 1 C.2.2.2.2.1 gX7_goOn_X7_addPart rfl rfl rfl (by decide +kernel) ⟨Nat.le_of_ble_eq_true rfl, Nat.le_of_ble_eq_true rfl⟩) 4 7 cc_a4 rfl rfl rfl (Nat.le_of_ble_eq_true rfl) dX7_goOn_79 ⟨Nat.zero_le _, Nat.zero_le _⟩ (fun u hp => ?_)
          subst hp
          exact hQ 82 _ _ (by rw [Option.some.inj h]) dX7_goOn_82
set_option maxHeartbeats 4000000 in
set_option maxRecDepth 100000 in
theorem ccl7_goOn (l : Launch) (D : va_G) (cI cP cII : ClassId) (TY : dl_TY) (hTY : TY[0]? = some (cI, .int)) (N : Nat) (ad : Nat → Nat) (pr : Nat → Option Nat) (R : va_W) (g : dl_Sg) {g0 : dl_Sg} (h : cl7_goOn N g  = some g0) : dl_CtV l D TY cc_nw yX7_goOn wsX7_goOn { frames := 3, cells := 0, slots := 0, locals := 65 } 0 0 [.ref (ad 4)] (cc_w cI cP cII ad pr g ++ R) (fun u => u = cc_w cI cP cII ad pr g0 ++ R) := by
  refine dl_metV [(0, .ref (ad 4))] (by decide) rfl (Nat.le_of_ble_eq_true rfl) rfl ?_
  intro p e s m args below meth c Q A C hQ
  unfold cl7_goOn at h
  refine dl_ldc (pc := 0) C 100000000 (by decide +kernel) dX7_goOn_0 ?_
  refine dl_istore_n (pc := 2) C (fun v1 => [(1, .int v1), (0, .ref (ad 4))]) dX7_goOn_2 rfl (by decide) (fun _ => rfl) h (fun v1 h => ?_)
  refine dl_iconst (pc := 3) C 0 dX7_goOn_3 (by decide) ?_
  refine dl_istore_n (pc := 4) C (fun v2 => [(2, .int v2), (1, .int v1), (0, .ref (ad 4))]) dX7_goOn_4 rfl (by decide) (fun _ => rfl) h (fun v2 h => ?_)
  refine dl_sub [2, 1, 0] rfl ?_
  exact cl7_goOn_t5 l D cI cP cII TY hTY N ad pr R C hQ N _ _ _ h
theorem hin_X7_refresh_X2 : ∀ w ∈ u_ws RX2 TX2 18, w ∈ wsX7_refresh := fun _ h => List.mem_cons_of_mem _ (List.mem_append_right _ h)
theorem hin_X7_refresh_X7 : ∀ w ∈ u_ws RX7 TX7 8, w ∈ wsX7_refresh := fun _ h => List.mem_cons_of_mem _ (List.mem_append_left _ (List.mem_append_right _ h))
theorem lk_X7_refresh_21 : Cond.fieldLink (yX7_refresh).cls 21 "DripLines$Walls" (TX7 7).2.1 (TX7 7).2.2.1 ∈ wsX7_refresh := by decide +kernel
theorem lk_X7_refresh_25 : Cond.fieldLink (yX7_refresh).cls 25 "DripLines$Walls" (TX7 0).2.1 (TX7 0).2.2.1 ∈ wsX7_refresh := by decide +kernel
theorem lk_X7_refresh_32 : Cond.fieldLink (yX7_refresh).cls 32 "DripLines$Walls" (TX7 6).2.1 (TX7 6).2.2.1 ∈ wsX7_refresh := by decide +kernel
theorem lk_X7_refresh_56 : Cond.fieldLink (yX7_refresh).cls 56 "DripLines$Walls" (TX7 5).2.1 (TX7 5).2.2.1 ∈ wsX7_refresh := by decide +kernel
set_option maxHeartbeats 4000000 in
set_option maxRecDepth 100000 in
theorem cl7_refresh_t90 {p : Program} {e : Env} {s : State} {m : MethodId} {args : Array Value} {below : List Frame} {meth : Method} {c : Code} {Q : State → Prop} {A : Nat → Prop} (l : Launch) (D : va_G) (cI cP cII : ClassId) (TY : dl_TY) (hTY : TY[0]? = some (cI, .int)) (N : Nat) (ad : Nat → Nat) (pr : Nat → Option Nat) (R : va_W) {g0 : dl_Sg} (C : dl_Cx p s m args c A D TY cc_nw cX7_refresh 2 yX7_refresh.cls wsX7_refresh) (hQ : dl_RtV p l e (headSpec wsX7_refresh { frames := 4, cells := 0, slots := 0, locals := 89 }).room s m args below meth c Q A D cX7_refresh 2 0 0 (fun u => u = cc_w cI cP cII ad pr g0 ++ R)) : ∀ (n : Nat) (x1 : Int32) (g : dl_Sg), cl7_refresh_b90 N n x1 g = some g0 → dl_At p l e (headSpec wsX7_refresh { frames := 4, cells := 0, slots := 0, locals := 89 }).room s m args below meth c Q A D 2 0 0 90 [(0, .ref (ad 4)), (1, .int x1)] [] (cc_w cI cP cII ad pr g ++ R) := by
  intro n
  induction n with
  | zero => exact fun _ _ h => absurd (show (none : Option dl_Sg) = some _ from h) (by intro q; cases q)
  | succ n ih =>
    intro x1 g h
    rw [cl7_refresh_b90] at h
    refine dl_iload_n (pc := 90) C 1 dX7_refresh_90 rfl rfl ?_
    refine dl_bipush (pc := 91) C 40 dX7_refresh_91 (by decide) ?_
    refine dl_icmp_ge (pc := 93) C 120 dX7_refresh_93 (by decide) h (fun q6 h => ?_) (fun q6 h => ?_)
    · exact hQ 120 _ _ (by rw [Option.some.inj h]) dX7_refresh_120
    · refine dl_aload_n (pc := 96) C 0 dX7_refresh_96 rfl rfl ?_
      refine dl_get (pc := 97) C hin_X7_refresh_X7 4 cc_a4 rfl 6 (by decide) lk_X7_refresh_32 rfl rfl dX7_refresh_97 ?_
      refine dl_if_ne (pc := 100) C 120 dX7_refresh_100 (by decide) h (fun q5 h => ?_) (fun q5 h => ?_)
      · refine dl_aload_n (pc := 103) C 0 dX7_refresh_103 rfl rfl ?_
        obtain ⟨r1, h1, h⟩ := dl_bi_some h
        refine dl_vI0 (pc := 104) C (ccl7_someActive l D cI cP cII TY hTY N ad pr R _ h1) (cwV 0 C.2.2.2.2.1 gX7_refresh_X7_someActive rfl rfl rfl (by decide +kernel) ⟨Nat.le_of_ble_eq_true rfl, Nat.le_of_ble_eq_true rfl⟩) 4 7 cc_a4 rfl rfl rfl (Nat.le_of_ble_eq_true rfl) dX7_refresh_104 ⟨Nat.zero_le _, Nat.zero_le _⟩ (fun r u hp => ?_)
        obtain ⟨rfl, rfl⟩ := hp
        refine dl_if_eq (pc := 107) C 120 dX7_refresh_107 (by decide) h (fun q4 h => ?_) (fun q4 h => ?_)
        · exact hQ 120 _ _ (by rw [Option.some.inj h]) dX7_refresh_120
        · refine dl_aload_n (pc := 110) C 0 dX7_refresh_110 rfl rfl ?_
          obtain ⟨g2, h1, h⟩ := dl_bi_some h
          refine dl_vV0 (pc := 111) C (ccl7_goOn l D cI cP cII TY hTY N ad pr R _ h1) (cwV 0 C.2.2.2.2.1 gX7_refresh_X7_goOn rfl rfl rfl (by decide +kernel) ⟨Nat.le_of_ble_eq_true rfl, Nat.le_of_ble_eq_true rfl⟩) 4 7 cc_a4 rfl rfl rfl (Nat.le_of_ble_eq_true rfl) dX7_refresh_111 ⟨Nat.zero_le _, Nat.zero_le _⟩ (fun u hp => ?_)
          subst hp
          refine dl_iinc (pc := 114) C 1 (fun v3 => [(1, .int v3), (0, .ref (ad 4))]) dX7_refresh_114 rfl rfl (by decide) (fun _ => rfl) h (fun v3 h => ?_)
          refine dl_goto (pc := 117) C 90 dX7_refresh_117 (by decide) ?_
          refine dl_sub [1, 0] rfl ?_
          exact ih _ _ h
      · exact hQ 120 _ _ (by rw [Option.some.inj h]) dX7_refresh_120
set_option maxHeartbeats 4000000 in
set_option maxRecDepth 100000 in
theorem cl7_refresh_t76 {p : Program} {e : Env} {s : State} {m : MethodId} {args : Array Value} {below : List Frame} {meth : Method} {c : Code} {Q : State → Prop} {A : Nat → Prop} (l : Launch) (D : va_G) (cI cP cII : ClassId) (TY : dl_TY) (hTY : TY[0]? = some (cI, .int)) (N : Nat) (ad : Nat → Nat) (pr : Nat → Option Nat) (R : va_W) {g0 : dl_Sg} (C : dl_Cx p s m args c A D TY cc_nw cX7_refresh 2 yX7_refresh.cls wsX7_refresh) (hQ : dl_RtV p l e (headSpec wsX7_refresh { frames := 4, cells := 0, slots := 0, locals := 89 }).room s m args below meth c Q A D cX7_refresh 2 0 0 (fun u => u = cc_w cI cP cII ad pr g0 ++ R)) (y1 : Int32) (g : dl_Sg) (h : cl7_refresh_b76 N y1 g = some g0) : dl_At p l e (headSpec wsX7_refresh { frames := 4, cells := 0, slots := 0, locals := 89 }).room s m args below meth c Q A D 2 0 0 76 [(0, .ref (ad 4))] [.int y1, .ref (ad 4)] (cc_w cI cP cII ad pr g ++ R) := by
  unfold cl7_refresh_b76 at h
  refine dl_put (pc := 76) C hin_X7_refresh_X7 tyX7 tyX7_ok nmX7 4 cc_a4 rfl 5 (by decide) lk_X7_refresh_56 rfl rfl (ty := .int) rfl (vp_nar_int _) rfl (Nat.le_of_ble_eq_true rfl) dX7_refresh_76 cc_p4_5 ?_
  obtain ⟨g1, h, hg⟩ := dl_nm_some h
  rw [← hg]
  clear hg
  refine dl_aload_n (pc := 79) C 0 dX7_refresh_79 rfl rfl ?_
  obtain ⟨g2, h1, h⟩ := dl_bi_some h
  refine dl_vV0 (pc := 80) C (ccl7_startParts l D cI cP cII TY hTY N ad pr R _ h1) (cwV 0 C.2.2.2.2.1 gX7_refresh_X7_startParts rfl rfl rfl (by decide +kernel) ⟨Nat.le_of_ble_eq_true rfl, Nat.le_of_ble_eq_true rfl⟩) 4 7 cc_a4 rfl rfl rfl (Nat.le_of_ble_eq_true rfl) dX7_refresh_80 ⟨Nat.zero_le _, Nat.zero_le _⟩ (fun u hp => ?_)
  subst hp
  refine dl_aload_n (pc := 83) C 0 dX7_refresh_83 rfl rfl ?_
  refine dl_iconst (pc := 84) C 0 dX7_refresh_84 (by decide) ?_
  refine dl_put (pc := 85) C hin_X7_refresh_X7 tyX7 tyX7_ok nmX7 4 cc_a4 rfl 6 (by decide) lk_X7_refresh_32 rfl rfl (ty := .int) rfl (vp_nar_int _) rfl (Nat.le_of_ble_eq_true rfl) dX7_refresh_85 cc_p4_6 ?_
  obtain ⟨g3, h, hg⟩ := dl_nm_some h
  rw [← hg]
  clear hg
  refine dl_iconst (pc := 88) C 0 dX7_refresh_88 (by decide) ?_
  refine dl_istore_n (pc := 89) C (fun v4 => [(1, .int v4), (0, .ref (ad 4))]) dX7_refresh_89 rfl (by decide) (fun _ => rfl) h (fun v4 h => ?_)
  refine dl_sub [1, 0] rfl ?_
  exact cl7_refresh_t90 l D cI cP cII TY hTY N ad pr R C hQ N _ _ h
set_option maxHeartbeats 4000000 in
set_option maxRecDepth 100000 in
theorem ccl7_refresh (l : Launch) (D : va_G) (cI cP cII : ClassId) (TY : dl_TY) (hTY : TY[0]? = some (cI, .int)) (N : Nat) (ad : Nat → Nat) (pr : Nat → Option Nat) (R : va_W) (g : dl_Sg) {g0 : dl_Sg} (h : cl7_refresh N g  = some g0) : dl_CtV l D TY cc_nw yX7_refresh wsX7_refresh { frames := 4, cells := 0, slots := 0, locals := 89 } 0 0 [.ref (ad 4)] (cc_w cI cP cII ad pr g ++ R) (fun u => u = cc_w cI cP cII ad pr g0 ++ R) := by
  refine dl_metV [(0, .ref (ad 4))] (by decide) rfl (Nat.le_of_ble_eq_true rfl) rfl ?_
  intro p e s m args below meth c Q A C hQ
  unfold cl7_refresh at h
  refine dl_aload_n (pc := 0) C 0 dX7_refresh_0 rfl rfl ?_
  refine dl_get (pc := 1) C hin_X7_refresh_X7 4 cc_a4 rfl 7 (by decide) lk_X7_refresh_21 rfl rfl dX7_refresh_1 ?_
  refine dl_aload_n (pc := 4) C 0 dX7_refresh_4 rfl rfl ?_
  refine dl_get (pc := 5) C hin_X7_refresh_X7 4 cc_a4 rfl 0 (by decide) lk_X7_refresh_25 rfl rfl dX7_refresh_5 ?_
  refine dl_getN (pc := 8) C hin_X7_refresh_X2 1 cc_a1 rfl 17 (by decide) nk_RX7_39 rfl rfl dX7_refresh_8 ?_
  refine dl_icmp_ne (pc := 11) C 15 dX7_refresh_11 (by decide) h (fun q6 h => ?_) (fun q6 h => ?_)
  · exact hQ 14 _ _ (by rw [Option.some.inj h]) dX7_refresh_14
  · refine dl_aload_n (pc := 15) C 0 dX7_refresh_15 rfl rfl ?_
    refine dl_aload_n (pc := 16) C 0 dX7_refresh_16 rfl rfl ?_
    refine dl_get (pc := 17) C hin_X7_refresh_X7 4 cc_a4 rfl 0 (by decide) lk_X7_refresh_25 rfl rfl dX7_refresh_17 ?_
    refine dl_getN (pc := 20) C hin_X7_refresh_X2 1 cc_a1 rfl 17 (by decide) nk_RX7_39 rfl rfl dX7_refresh_20 ?_
    refine dl_put (pc := 23) C hin_X7_refresh_X7 tyX7 tyX7_ok nmX7 4 cc_a4 rfl 7 (by decide) lk_X7_refresh_21 rfl rfl (ty := .int) rfl (vp_nar_int _) rfl (Nat.le_of_ble_eq_true rfl) dX7_refresh_23 cc_p4_7 ?_
    obtain ⟨g1, h, hg⟩ := dl_nm_some h
    rw [← hg]
    clear hg
    refine dl_aload_n (pc := 26) C 0 dX7_refresh_26 rfl rfl ?_
    refine dl_get (pc := 27) C hin_X7_refresh_X7 4 cc_a4 rfl 0 (by decide) lk_X7_refresh_25 rfl rfl dX7_refresh_27 ?_
    refine dl_getN (pc := 30) C hin_X7_refresh_X2 1 cc_a1 rfl 12 (by decide) nk_RX7_44 rfl rfl dX7_refresh_30 ?_
    refine dl_if_ne (pc := 33) C 42 dX7_refresh_33 (by decide) h (fun q5 h => ?_) (fun q5 h => ?_)
    · refine dl_aload_n (pc := 36) C 0 dX7_refresh_36 rfl rfl ?_
      refine dl_iconst (pc := 37) C (-1) dX7_refresh_37 (by decide) ?_
      refine dl_put (pc := 38) C hin_X7_refresh_X7 tyX7 tyX7_ok nmX7 4 cc_a4 rfl 6 (by decide) lk_X7_refresh_32 rfl rfl (ty := .int) rfl (vp_nar_int _) rfl (Nat.le_of_ble_eq_true rfl) dX7_refresh_38 cc_p4_6 ?_
      obtain ⟨g2, h, hg⟩ := dl_nm_some h
      rw [← hg]
      clear hg
      exact hQ 41 _ _ (by rw [Option.some.inj h]) dX7_refresh_41
    · refine dl_aload_n (pc := 42) C 0 dX7_refresh_42 rfl rfl ?_
      refine dl_aload_n (pc := 43) C 0 dX7_refresh_43 rfl rfl ?_
      refine dl_get (pc := 44) C hin_X7_refresh_X7 4 cc_a4 rfl 0 (by decide) lk_X7_refresh_25 rfl rfl dX7_refresh_44 ?_
      refine dl_getN (pc := 47) C hin_X7_refresh_X2 1 cc_a1 rfl 13 (by decide) nk_RX7_47 rfl rfl dX7_refresh_47 ?_
      refine dl_iconst (pc := 50) C (-1) dX7_refresh_50 (by decide) ?_
      refine dl_icmp_ne (pc := 51) C 67 dX7_refresh_51 (by decide) h (fun q4 h => ?_) (fun q4 h => ?_)
      · refine dl_aload_n (pc := 54) C 0 dX7_refresh_54 rfl rfl ?_
        refine dl_get (pc := 55) C hin_X7_refresh_X7 4 cc_a4 rfl 0 (by decide) lk_X7_refresh_25 rfl rfl dX7_refresh_55 ?_
        refine dl_getN (pc := 58) C hin_X7_refresh_X2 1 cc_a1 rfl 12 (by decide) nk_RX7_44 rfl rfl dX7_refresh_58 ?_
        obtain ⟨r3, h1, h⟩ := dl_bi_some h
        refine dl_sI0 (pc := 61) C (cjd_lowestOneBit l D TY cc_nw _ _ h1) (va_cwS 1 C.2.2.2.2.1 gX7_refresh_J6_lowestOneBit_0f7a4 rfl rfl rfl (by decide +kernel) ⟨Nat.le_of_ble_eq_true rfl, Nat.le_of_ble_eq_true rfl⟩) rfl rfl (Nat.le_of_ble_eq_true rfl) dX7_refresh_61 ⟨Nat.zero_le _, Nat.zero_le _⟩ (fun r u hp => ?_)
        obtain ⟨rfl, hu⟩ := hp
        rw [hu]
        clear hu
        refine dl_goto (pc := 64) C 76 dX7_refresh_64 (by decide) ?_
        refine dl_sub [0] rfl ?_
        exact cl7_refresh_t76 l D cI cP cII TY hTY N ad pr R C hQ  _ _ h
      · refine dl_iconst (pc := 67) C 1 dX7_refresh_67 (by decide) ?_
        refine dl_aload_n (pc := 68) C 0 dX7_refresh_68 rfl rfl ?_
        refine dl_get (pc := 69) C hin_X7_refresh_X7 4 cc_a4 rfl 0 (by decide) lk_X7_refresh_25 rfl rfl dX7_refresh_69 ?_
        refine dl_getN (pc := 72) C hin_X7_refresh_X2 1 cc_a1 rfl 13 (by decide) nk_RX7_47 rfl rfl dX7_refresh_72 ?_
        refine dl_ishl (pc := 75) C dX7_refresh_75 ?_
        refine dl_sub [0] rfl ?_
        exact cl7_refresh_t76 l D cI cP cII TY hTY N ad pr R C hQ  _ _ h
