theorem hin_X7_howMany_X7 : ∀ w ∈ u_ws RX7 TX7 8, w ∈ wsX7_howMany := fun _ h => List.mem_cons_of_mem _ (List.mem_append_left _ (List.mem_append_right _ h))
theorem lk_X7_howMany_15 : Cond.fieldLink (yX7_howMany).cls 15 "DripLines$Walls" (TX7 2).2.1 (TX7 2).2.2.1 ∈ wsX7_howMany := by decide +kernel
theorem lk_X7_howMany_32 : Cond.fieldLink (yX7_howMany).cls 32 "DripLines$Walls" (TX7 6).2.1 (TX7 6).2.2.1 ∈ wsX7_howMany := by decide +kernel
theorem lk_X7_howMany_35 : Cond.fieldLink (yX7_howMany).cls 35 "DripLines$Walls" (TX7 4).2.1 (TX7 4).2.2.1 ∈ wsX7_howMany := by decide +kernel
set_option maxHeartbeats 4000000 in
set_option maxRecDepth 100000 in
theorem cl7_howMany_t40 {p : Program} {e : Env} {s : State} {m : MethodId} {args : Array Value} {below : List Frame} {meth : Method} {c : Code} {Q : State → Prop} {A : Nat → Prop} (l : Launch) (D : va_G) (cI cP cII : ClassId) (TY : dl_TY) (hTY : TY[0]? = some (cI, .int)) (N : Nat) (ad : Nat → Nat) (pr : Nat → Option Nat) (R : va_W) {r0 : Int32} {g0 : dl_Sg} (C : dl_Cx p s m args c A D TY cc_nw cX7_howMany 3 yX7_howMany.cls wsX7_howMany) (hQ : dl_RtI p l e (headSpec wsX7_howMany { frames := 5, cells := 0, slots := 0, locals := 110 }).room s m args below meth c Q A D cX7_howMany 3 0 0 .int (fun r u => r = r0 ∧ u = cc_w cI cP cII ad pr g0 ++ R)) {k20 : Int32 → Int32 → dl_Sg → Option (Int32 × dl_Sg)} (hk20 : ∀ (x1 : Int32) (x2 : Int32) (g : dl_Sg), k20 x1 x2 g = some (r0, g0) → dl_At p l e (headSpec wsX7_howMany { frames := 5, cells := 0, slots := 0, locals := 110 }).room s m args below meth c Q A D 3 0 0 20 [(0, .ref (ad 4)), (1, .int x1), (2, .int x2)] [] (cc_w cI cP cII ad pr g ++ R)) (x1 : Int32) (x2 : Int32) (g : dl_Sg) (h : cl7_howMany_b40 N k20 x1 x2 g = some (r0, g0)) : dl_At p l e (headSpec wsX7_howMany { frames := 5, cells := 0, slots := 0, locals := 110 }).room s m args below meth c Q A D 3 0 0 40 [(0, .ref (ad 4)), (1, .int x1), (2, .int x2)] [] (cc_w cI cP cII ad pr g ++ R) := by
  unfold cl7_howMany_b40 at h
  refine dl_iinc (pc := 40) C 2 (fun v1 => [(2, .int v1), (0, .ref (ad 4)), (1, .int x1)]) dX7_howMany_40 rfl rfl (by decide) (fun _ => rfl) h (fun v1 h => ?_)
  refine dl_goto (pc := 43) C 20 dX7_howMany_43 (by decide) ?_
  refine dl_sub [1, 2, 0] rfl ?_
  exact hk20 _ _ _ h
set_option maxHeartbeats 4000000 in
set_option maxRecDepth 100000 in
theorem cl7_howMany_t20 {p : Program} {e : Env} {s : State} {m : MethodId} {args : Array Value} {below : List Frame} {meth : Method} {c : Code} {Q : State → Prop} {A : Nat → Prop} (l : Launch) (D : va_G) (cI cP cII : ClassId) (TY : dl_TY) (hTY : TY[0]? = some (cI, .int)) (N : Nat) (ad : Nat → Nat) (pr : Nat → Option Nat) (R : va_W) {r0 : Int32} {g0 : dl_Sg} (C : dl_Cx p s m args c A D TY cc_nw cX7_howMany 3 yX7_howMany.cls wsX7_howMany) (hQ : dl_RtI p l e (headSpec wsX7_howMany { frames := 5, cells := 0, slots := 0, locals := 110 }).room s m args below meth c Q A D cX7_howMany 3 0 0 .int (fun r u => r = r0 ∧ u = cc_w cI cP cII ad pr g0 ++ R)) : ∀ (n : Nat) (x1 : Int32) (x2 : Int32) (g : dl_Sg), cl7_howMany_b20 N n x1 x2 g = some (r0, g0) → dl_At p l e (headSpec wsX7_howMany { frames := 5, cells := 0, slots := 0, locals := 110 }).room s m args below meth c Q A D 3 0 0 20 [(0, .ref (ad 4)), (1, .int x1), (2, .int x2)] [] (cc_w cI cP cII ad pr g ++ R) := by
  intro n
  induction n with
  | zero => exact fun _ _ _ h => absurd (show (none : Option (Int32 × dl_Sg)) = some _ from h) (by intro q; cases q)
  | succ n ih =>
    intro x1 x2 g h
    rw [cl7_howMany_b20] at h
    refine dl_iload_n (pc := 20) C 2 dX7_howMany_20 rfl rfl ?_
    refine dl_aload_n (pc := 21) C 0 dX7_howMany_21 rfl rfl ?_
    refine dl_get (pc := 22) C hin_X7_howMany_X7 4 cc_a4 rfl 4 (by decide) lk_X7_howMany_35 rfl rfl dX7_howMany_22 ?_
    refine dl_icmp_ge (pc := 25) C 46 dX7_howMany_25 (by decide) h (fun q3 h => ?_) (fun q3 h => ?_)
    · refine dl_iload_n (pc := 46) C 1 dX7_howMany_46 rfl rfl ?_
      exact hQ 47 _ _ _ ⟨(dl_r2 h).1, by rw [(dl_r2 h).2]⟩ (vp_nar_int _) dX7_howMany_47
    · refine dl_aload_n (pc := 28) C 0 dX7_howMany_28 rfl rfl ?_
      refine dl_get (pc := 29) C hin_X7_howMany_X7 4 cc_a4 rfl 2 (by decide) lk_X7_howMany_15 rfl rfl dX7_howMany_29 ?_
      refine dl_iload_n (pc := 32) C 2 dX7_howMany_32 rfl rfl ?_
      obtain ⟨h0, h⟩ := dl_gd_some h
      refine dl_iald (pc := 33) C 20 0 cc_a23 hTY h0 dX7_howMany_33 ?_
      refine dl_if_le (pc := 34) C 40 dX7_howMany_34 (by decide) h (fun q2 h => ?_) (fun q2 h => ?_)
      · refine dl_sub [0, 1, 2] rfl ?_
        exact cl7_howMany_t40 l D cI cP cII TY hTY N ad pr R C hQ ih  _ _ _ h
      · refine dl_iinc (pc := 37) C 1 (fun v1 => [(1, .int v1), (0, .ref (ad 4)), (2, .int x2)]) dX7_howMany_37 rfl rfl (by decide) (fun _ => rfl) h (fun v1 h => ?_)
        refine dl_sub [1, 0, 2] rfl ?_
        exact cl7_howMany_t40 l D cI cP cII TY hTY N ad pr R C hQ ih  _ _ _ h
set_option maxHeartbeats 4000000 in
set_option maxRecDepth 100000 in
theorem ccl7_howMany (l : Launch) (D : va_G) (cI cP cII : ClassId) (TY : dl_TY) (hTY : TY[0]? = some (cI, .int)) (N : Nat) (ad : Nat → Nat) (pr : Nat → Option Nat) (R : va_W) (g : dl_Sg) {r0 : Int32} {g0 : dl_Sg} (h : cl7_howMany N g  = some (r0, g0)) : dl_CtI l D TY cc_nw yX7_howMany wsX7_howMany { frames := 5, cells := 0, slots := 0, locals := 110 } 0 0 [.ref (ad 4)] (cc_w cI cP cII ad pr g ++ R) (fun r u => r = r0 ∧ u = cc_w cI cP cII ad pr g0 ++ R) := by
  refine dl_metI (ty := .int) [(0, .ref (ad 4))] (by decide) rfl (Nat.le_of_ble_eq_true rfl) rfl ?_
  intro p e s m args below meth c Q A C hQ
  unfold cl7_howMany at h
  refine dl_aload_n (pc := 0) C 0 dX7_howMany_0 rfl rfl ?_
  obtain ⟨g1, h1, h⟩ := dl_bi_some h
  refine dl_vV0 (pc := 1) C (ccl7_refresh l D cI cP cII TY hTY N ad pr R _ h1) (cwV 0 C.2.2.2.2.1 gX7_howMany_X7_refresh rfl rfl rfl (by decide +kernel) ⟨Nat.le_of_ble_eq_true rfl, Nat.le_of_ble_eq_true rfl⟩) 4 7 cc_a4 rfl rfl rfl (Nat.le_of_ble_eq_true rfl) dX7_howMany_1 ⟨Nat.zero_le _, Nat.zero_le _⟩ (fun u hp => ?_)
  subst hp
  refine dl_aload_n (pc := 4) C 0 dX7_howMany_4 rfl rfl ?_
  refine dl_get (pc := 5) C hin_X7_howMany_X7 4 cc_a4 rfl 6 (by decide) lk_X7_howMany_32 rfl rfl dX7_howMany_5 ?_
  refine dl_if_eq (pc := 8) C 16 dX7_howMany_8 (by decide) h (fun q4 h => ?_) (fun q4 h => ?_)
  · refine dl_iconst (pc := 16) C 0 dX7_howMany_16 (by decide) ?_
    refine dl_istore_n (pc := 17) C (fun v2 => [(1, .int v2), (0, .ref (ad 4))]) dX7_howMany_17 rfl (by decide) (fun _ => rfl) h (fun v2 h => ?_)
    refine dl_iconst (pc := 18) C 0 dX7_howMany_18 (by decide) ?_
    refine dl_istore_n (pc := 19) C (fun v3 => [(2, .int v3), (1, .int v2), (0, .ref (ad 4))]) dX7_howMany_19 rfl (by decide) (fun _ => rfl) h (fun v3 h => ?_)
    refine dl_sub [2, 1, 0] rfl ?_
    exact cl7_howMany_t20 l D cI cP cII TY hTY N ad pr R C hQ N _ _ _ h
  · refine dl_aload_n (pc := 11) C 0 dX7_howMany_11 rfl rfl ?_
    refine dl_get (pc := 12) C hin_X7_howMany_X7 4 cc_a4 rfl 6 (by decide) lk_X7_howMany_32 rfl rfl dX7_howMany_12 ?_
    exact hQ 15 _ _ _ ⟨(dl_r2 h).1, by rw [(dl_r2 h).2]⟩ (vp_nar_int _) dX7_howMany_15
theorem hin_X7_toldOf_X7 : ∀ w ∈ u_ws RX7 TX7 8, w ∈ wsX7_toldOf := fun _ h => List.mem_cons_of_mem _ (List.mem_append_left _ (List.mem_append_right _ h))
theorem lk_X7_toldOf_11 : Cond.fieldLink (yX7_toldOf).cls 11 "DripLines$Walls" (TX7 1).2.1 (TX7 1).2.2.1 ∈ wsX7_toldOf := by decide +kernel
theorem lk_X7_toldOf_15 : Cond.fieldLink (yX7_toldOf).cls 15 "DripLines$Walls" (TX7 2).2.1 (TX7 2).2.2.1 ∈ wsX7_toldOf := by decide +kernel
theorem lk_X7_toldOf_32 : Cond.fieldLink (yX7_toldOf).cls 32 "DripLines$Walls" (TX7 6).2.1 (TX7 6).2.2.1 ∈ wsX7_toldOf := by decide +kernel
theorem lk_X7_toldOf_35 : Cond.fieldLink (yX7_toldOf).cls 35 "DripLines$Walls" (TX7 4).2.1 (TX7 4).2.2.1 ∈ wsX7_toldOf := by decide +kernel
set_option maxHeartbeats 4000000 in
set_option maxRecDepth 100000 in
theorem cl7_toldOf_t76 {p : Program} {e : Env} {s : State} {m : MethodId} {args : Array Value} {below : List Frame} {meth : Method} {c : Code} {Q : State → Prop} {A : Nat → Prop} (l : Launch) (D : va_G) (cI cP cII : ClassId) (TY : dl_TY) (hTY : TY[0]? = some (cI, .int)) (N : Nat) (ad : Nat → Nat) (pr : Nat → Option Nat) (R : va_W) {r0 : Int32} {g0 : dl_Sg} (C : dl_Cx p s m args c A D TY cc_nw cX7_toldOf 5 yX7_toldOf.cls wsX7_toldOf) (hQ : dl_RtI p l e (headSpec wsX7_toldOf { frames := 5, cells := 0, slots := 0, locals := 110 }).room s m args below meth c Q A D cX7_toldOf 5 0 0 .int (fun r u => r = r0 ∧ u = cc_w cI cP cII ad pr g0 ++ R)) {k27 : Int32 → Int32 → Int32 → Int32 → dl_Sg → Option (Int32 × dl_Sg)} (hk27 : ∀ (x1 : Int32) (x2 : Int32) (x3 : Int32) (x4 : Int32) (g : dl_Sg), k27 x1 x2 x3 x4 g = some (r0, g0) → dl_At p l e (headSpec wsX7_toldOf { frames := 5, cells := 0, slots := 0, locals := 110 }).room s m args below meth c Q A D 5 0 0 27 [(0, .ref (ad 4)), (1, .int x1), (2, .int x2), (3, .int x3), (4, .int x4)] [] (cc_w cI cP cII ad pr g ++ R)) (x1 : Int32) (x2 : Int32) (x3 : Int32) (x4 : Int32) (g : dl_Sg) (h : cl7_toldOf_b76 N k27 x1 x2 x3 x4 g = some (r0, g0)) : dl_At p l e (headSpec wsX7_toldOf { frames := 5, cells := 0, slots := 0, locals := 110 }).room s m args below meth c Q A D 5 0 0 76 [(0, .ref (ad 4)), (1, .int x1), (2, .int x2), (3, .int x3), (4, .int x4)] [] (cc_w cI cP cII ad pr g ++ R) := by
  unfold cl7_toldOf_b76 at h
  refine dl_iinc (pc := 76) C 4 (fun v1 => [(4, .int v1), (0, .ref (ad 4)), (1, .int x1), (2, .int x2), (3, .int x3)]) dX7_toldOf_76 rfl rfl (by decide) (fun _ => rfl) h (fun v1 h => ?_)
  refine dl_goto (pc := 79) C 27 dX7_toldOf_79 (by decide) ?_
  refine dl_sub [1, 2, 3, 4, 0] rfl ?_
  exact hk27 _ _ _ _ _ h
set_option maxHeartbeats 4000000 in
set_option maxRecDepth 100000 in
theorem cl7_toldOf_t27 {p : Program} {e : Env} {s : State} {m : MethodId} {args : Array Value} {below : List Frame} {meth : Method} {c : Code} {Q : State → Prop} {A : Nat → Prop} (l : Launch) (D : va_G) (cI cP cII : ClassId) (TY : dl_TY) (hTY : TY[0]? = some (cI, .int)) (N : Nat) (ad : Nat → Nat) (pr : Nat → Option Nat) (R : va_W) {r0 : Int32} {g0 : dl_Sg} (C : dl_Cx p s m args c A D TY cc_nw cX7_toldOf 5 yX7_toldOf.cls wsX7_toldOf) (hQ : dl_RtI p l e (headSpec wsX7_toldOf { frames := 5, cells := 0, slots := 0, locals := 110 }).room s m args below meth c Q A D cX7_toldOf 5 0 0 .int (fun r u => r = r0 ∧ u = cc_w cI cP cII ad pr g0 ++ R)) : ∀ (n : Nat) (x1 : Int32) (x2 : Int32) (x3 : Int32) (x4 : Int32) (g : dl_Sg), cl7_toldOf_b27 N n x1 x2 x3 x4 g = some (r0, g0) → dl_At p l e (headSpec wsX7_toldOf { frames := 5, cells := 0, slots := 0, locals := 110 }).room s m args below meth c Q A D 5 0 0 27 [(0, .ref (ad 4)), (1, .int x1), (2, .int x2), (3, .int x3), (4, .int x4)] [] (cc_w cI cP cII ad pr g ++ R) := by
  intro n
  induction n with
  | zero => exact fun _ _ _ _ _ h => absurd (show (none : Option (Int32 × dl_Sg)) = some _ from h) (by intro q; cases q)
  | succ n ih =>
    intro x1 x2 x3 x4 g h
    rw [cl7_toldOf_b27] at h
    refine dl_iload (pc := 27) C 4 dX7_toldOf_27 rfl ?_
    refine dl_aload_n (pc := 29) C 0 dX7_toldOf_29 rfl rfl ?_
    refine dl_get (pc := 30) C hin_X7_toldOf_X7 4 cc_a4 rfl 4 (by decide) lk_X7_toldOf_35 rfl rfl dX7_toldOf_30 ?_
    refine dl_icmp_ge (pc := 33) C 82 dX7_toldOf_33 (by decide) h (fun q5 h => ?_) (fun q5 h => ?_)
    · refine dl_iconst (pc := 82) C (-1) dX7_toldOf_82 (by decide) ?_
      exact hQ 83 _ _ _ ⟨(dl_r2 h).1, by rw [(dl_r2 h).2]⟩ (vp_nar_int _) dX7_toldOf_83
    · refine dl_aload_n (pc := 36) C 0 dX7_toldOf_36 rfl rfl ?_
      refine dl_get (pc := 37) C hin_X7_toldOf_X7 4 cc_a4 rfl 2 (by decide) lk_X7_toldOf_15 rfl rfl dX7_toldOf_37 ?_
      refine dl_iload (pc := 40) C 4 dX7_toldOf_40 rfl ?_
      obtain ⟨h0, h⟩ := dl_gd_some h
      refine dl_iald (pc := 42) C 20 0 cc_a23 hTY h0 dX7_toldOf_42 ?_
      refine dl_if_le (pc := 43) C 76 dX7_toldOf_43 (by decide) h (fun q4 h => ?_) (fun q4 h => ?_)
      · refine dl_sub [0, 1, 2, 3, 4] rfl ?_
        exact cl7_toldOf_t76 l D cI cP cII TY hTY N ad pr R C hQ ih  _ _ _ _ _ h
      · refine dl_iload_n (pc := 46) C 3 dX7_toldOf_46 rfl rfl ?_
        refine dl_iload_n (pc := 47) C 1 dX7_toldOf_47 rfl rfl ?_
        refine dl_icmp_ne (pc := 48) C 73 dX7_toldOf_48 (by decide) h (fun q3 h => ?_) (fun q3 h => ?_)
        · refine dl_iload_n (pc := 51) C 2 dX7_toldOf_51 rfl rfl ?_
          refine dl_if_ne (pc := 52) C 65 dX7_toldOf_52 (by decide) h (fun q1 h => ?_) (fun q1 h => ?_)
          · refine dl_aload_n (pc := 55) C 0 dX7_toldOf_55 rfl rfl ?_
            refine dl_get (pc := 56) C hin_X7_toldOf_X7 4 cc_a4 rfl 1 (by decide) lk_X7_toldOf_11 rfl rfl dX7_toldOf_56 ?_
            refine dl_iload (pc := 59) C 4 dX7_toldOf_59 rfl ?_
            obtain ⟨h0, h⟩ := dl_gd_some h
            refine dl_iald (pc := 61) C 19 0 cc_a22 hTY h0 dX7_toldOf_61 ?_
            refine dl_goto (pc := 62) C 72 dX7_toldOf_62 (by decide) ?_
            exact hQ 72 _ _ _ ⟨(dl_r2 h).1, by rw [(dl_r2 h).2]⟩ (vp_nar_int _) dX7_toldOf_72
          · refine dl_aload_n (pc := 65) C 0 dX7_toldOf_65 rfl rfl ?_
            refine dl_get (pc := 66) C hin_X7_toldOf_X7 4 cc_a4 rfl 2 (by decide) lk_X7_toldOf_15 rfl rfl dX7_toldOf_66 ?_
            refine dl_iload (pc := 69) C 4 dX7_toldOf_69 rfl ?_
            obtain ⟨h0, h⟩ := dl_gd_some h
            refine dl_iald (pc := 71) C 20 0 cc_a23 hTY h0 dX7_toldOf_71 ?_
            exact hQ 72 _ _ _ ⟨(dl_r2 h).1, by rw [(dl_r2 h).2]⟩ (vp_nar_int _) dX7_toldOf_72
        · refine dl_iinc (pc := 73) C 3 (fun v2 => [(3, .int v2), (0, .ref (ad 4)), (1, .int x1), (2, .int x2), (4, .int x4)]) dX7_toldOf_73 rfl rfl (by decide) (fun _ => rfl) h (fun v2 h => ?_)
          refine dl_sub [1, 2, 3, 0, 4] rfl ?_
          exact cl7_toldOf_t76 l D cI cP cII TY hTY N ad pr R C hQ ih  _ _ _ _ _ h
set_option maxHeartbeats 4000000 in
set_option maxRecDepth 100000 in
theorem ccl7_toldOf (l : Launch) (D : va_G) (cI cP cII : ClassId) (TY : dl_TY) (hTY : TY[0]? = some (cI, .int)) (N : Nat) (ad : Nat → Nat) (pr : Nat → Option Nat) (R : va_W) (g : dl_Sg) (x1 : Int32) (x2 : Int32) {r0 : Int32} {g0 : dl_Sg} (h : cl7_toldOf N g x1 x2 = some (r0, g0)) : dl_CtI l D TY cc_nw yX7_toldOf wsX7_toldOf { frames := 5, cells := 0, slots := 0, locals := 110 } 0 0 [.ref (ad 4), .int x1, .int x2] (cc_w cI cP cII ad pr g ++ R) (fun r u => r = r0 ∧ u = cc_w cI cP cII ad pr g0 ++ R) := by
  refine dl_metI (ty := .int) [(0, .ref (ad 4)), (1, .int x1), (2, .int x2)] (by decide) rfl (Nat.le_of_ble_eq_true rfl) rfl ?_
  intro p e s m args below meth c Q A C hQ
  unfold cl7_toldOf at h
  refine dl_aload_n (pc := 0) C 0 dX7_toldOf_0 rfl rfl ?_
  obtain ⟨g1, h1, h⟩ := dl_bi_some h
  refine dl_vV0 (pc := 1) C (ccl7_refresh l D cI cP cII TY hTY N ad pr R _ h1) (cwV 0 C.2.2.2.2.1 gX7_toldOf_X7_refresh rfl rfl rfl (by decide +kernel) ⟨Nat.le_of_ble_eq_true rfl, Nat.le_of_ble_eq_true rfl⟩) 4 7 cc_a4 rfl rfl rfl (Nat.le_of_ble_eq_true rfl) dX7_toldOf_1 ⟨Nat.zero_le _, Nat.zero_le _⟩ (fun u hp => ?_)
  subst hp
  refine dl_aload_n (pc := 4) C 0 dX7_toldOf_4 rfl rfl ?_
  refine dl_get (pc := 5) C hin_X7_toldOf_X7 4 cc_a4 rfl 6 (by decide) lk_X7_toldOf_32 rfl rfl dX7_toldOf_5 ?_
  refine dl_if_ne (pc := 8) C 20 dX7_toldOf_8 (by decide) h (fun q6 h => ?_) (fun q6 h => ?_)
  · refine dl_iload_n (pc := 11) C 2 dX7_toldOf_11 rfl rfl ?_
    refine dl_if_lt (pc := 12) C 20 dX7_toldOf_12 (by decide) h (fun q5 h => ?_) (fun q5 h => ?_)
    · refine dl_iconst (pc := 20) C (-1) dX7_toldOf_20 (by decide) ?_
      exact hQ 21 _ _ _ ⟨(dl_r2 h).1, by rw [(dl_r2 h).2]⟩ (vp_nar_int _) dX7_toldOf_21
    · refine dl_iload_n (pc := 15) C 2 dX7_toldOf_15 rfl rfl ?_
      refine dl_iconst (pc := 16) C 1 dX7_toldOf_16 (by decide) ?_
      refine dl_icmp_le (pc := 17) C 22 dX7_toldOf_17 (by decide) h (fun q4 h => ?_) (fun q4 h => ?_)
      · refine dl_iconst (pc := 22) C 0 dX7_toldOf_22 (by decide) ?_
        refine dl_istore_n (pc := 23) C (fun v2 => [(3, .int v2), (0, .ref (ad 4)), (1, .int x1), (2, .int x2)]) dX7_toldOf_23 rfl (by decide) (fun _ => rfl) h (fun v2 h => ?_)
        refine dl_iconst (pc := 24) C 0 dX7_toldOf_24 (by decide) ?_
        refine dl_istore (pc := 25) C (fun v3 => [(4, .int v3), (3, .int v2), (0, .ref (ad 4)), (1, .int x1), (2, .int x2)]) dX7_toldOf_25 (by decide) (fun _ => rfl) h (fun v3 h => ?_)
        refine dl_sub [2, 3, 4, 1, 0] rfl ?_
        exact cl7_toldOf_t27 l D cI cP cII TY hTY N ad pr R C hQ N _ _ _ _ _ h
      · refine dl_iconst (pc := 20) C (-1) dX7_toldOf_20 (by decide) ?_
        exact hQ 21 _ _ _ ⟨(dl_r2 h).1, by rw [(dl_r2 h).2]⟩ (vp_nar_int _) dX7_toldOf_21
  · refine dl_iconst (pc := 20) C (-1) dX7_toldOf_20 (by decide) ?_
    exact hQ 21 _ _ _ ⟨(dl_r2 h).1, by rw [(dl_r2 h).2]⟩ (vp_nar_int _) dX7_toldOf_21
theorem hin_X7_sumOfShares_X7 : ∀ w ∈ u_ws RX7 TX7 8, w ∈ wsX7_sumOfShares := fun _ h => List.mem_cons_of_mem _ (List.mem_append_left _ (List.mem_append_right _ h))
theorem lk_X7_sumOfShares_15 : Cond.fieldLink (yX7_sumOfShares).cls 15 "DripLines$Walls" (TX7 2).2.1 (TX7 2).2.2.1 ∈ wsX7_sumOfShares := by decide +kernel
theorem lk_X7_sumOfShares_32 : Cond.fieldLink (yX7_sumOfShares).cls 32 "DripLines$Walls" (TX7 6).2.1 (TX7 6).2.2.1 ∈ wsX7_sumOfShares := by decide +kernel
theorem lk_X7_sumOfShares_35 : Cond.fieldLink (yX7_sumOfShares).cls 35 "DripLines$Walls" (TX7 4).2.1 (TX7 4).2.2.1 ∈ wsX7_sumOfShares := by decide +kernel
set_option maxHeartbeats 4000000 in
set_option maxRecDepth 100000 in
theorem cl7_sumOfShares_t18 {p : Program} {e : Env} {s : State} {m : MethodId} {args : Array Value} {below : List Frame} {meth : Method} {c : Code} {Q : State → Prop} {A : Nat → Prop} (l : Launch) (D : va_G) (cI cP cII : ClassId) (TY : dl_TY) (hTY : TY[0]? = some (cI, .int)) (N : Nat) (ad : Nat → Nat) (pr : Nat → Option Nat) (R : va_W) {r0 : Int32} {g0 : dl_Sg} (C : dl_Cx p s m args c A D TY cc_nw cX7_sumOfShares 3 yX7_sumOfShares.cls wsX7_sumOfShares) (hQ : dl_RtI p l e (headSpec wsX7_sumOfShares { frames := 5, cells := 0, slots := 0, locals := 110 }).room s m args below meth c Q A D cX7_sumOfShares 3 0 0 .int (fun r u => r = r0 ∧ u = cc_w cI cP cII ad pr g0 ++ R)) : ∀ (n : Nat) (x1 : Int32) (x2 : Int32) (g : dl_Sg), cl7_sumOfShares_b18 N n x1 x2 g = some (r0, g0) → dl_At p l e (headSpec wsX7_sumOfShares { frames := 5, cells := 0, slots := 0, locals := 110 }).room s m args below meth c Q A D 3 0 0 18 [(0, .ref (ad 4)), (1, .int x1), (2, .int x2)] [] (cc_w cI cP cII ad pr g ++ R) := by
  intro n
  induction n with
  | zero => exact fun _ _ _ h => absurd (show (none : Option (Int32 × dl_Sg)) = some _ from h) (by intro q; cases q)
  | succ n ih =>
    intro x1 x2 g h
    rw [cl7_sumOfShares_b18] at h
    refine dl_iload_n (pc := 18) C 2 dX7_sumOfShares_18 rfl rfl ?_
    refine dl_aload_n (pc := 19) C 0 dX7_sumOfShares_19 rfl rfl ?_
    refine dl_get (pc := 20) C hin_X7_sumOfShares_X7 4 cc_a4 rfl 4 (by decide) lk_X7_sumOfShares_35 rfl rfl dX7_sumOfShares_20 ?_
    refine dl_icmp_ge (pc := 23) C 41 dX7_sumOfShares_23 (by decide) h (fun q3 h => ?_) (fun q3 h => ?_)
    · refine dl_iload_n (pc := 41) C 1 dX7_sumOfShares_41 rfl rfl ?_
      exact hQ 42 _ _ _ ⟨(dl_r2 h).1, by rw [(dl_r2 h).2]⟩ (vp_nar_int _) dX7_sumOfShares_42
    · refine dl_iload_n (pc := 26) C 1 dX7_sumOfShares_26 rfl rfl ?_
      refine dl_aload_n (pc := 27) C 0 dX7_sumOfShares_27 rfl rfl ?_
      refine dl_get (pc := 28) C hin_X7_sumOfShares_X7 4 cc_a4 rfl 2 (by decide) lk_X7_sumOfShares_15 rfl rfl dX7_sumOfShares_28 ?_
      refine dl_iload_n (pc := 31) C 2 dX7_sumOfShares_31 rfl rfl ?_
      obtain ⟨h0, h⟩ := dl_gd_some h
      refine dl_iald (pc := 32) C 20 0 cc_a23 hTY h0 dX7_sumOfShares_32 ?_
      refine dl_iadd (pc := 33) C dX7_sumOfShares_33 ?_
      refine dl_istore_n (pc := 34) C (fun v1 => [(1, .int v1), (0, .ref (ad 4)), (2, .int x2)]) dX7_sumOfShares_34 rfl (by decide) (fun _ => rfl) h (fun v1 h => ?_)
      refine dl_iinc (pc := 35) C 2 (fun v2 => [(2, .int v2), (1, .int v1), (0, .ref (ad 4))]) dX7_sumOfShares_35 rfl rfl (by decide) (fun _ => rfl) h (fun v2 h => ?_)
      refine dl_goto (pc := 38) C 18 dX7_sumOfShares_38 (by decide) ?_
      refine dl_sub [2, 1, 0] rfl ?_
      exact ih _ _ _ h
set_option maxHeartbeats 4000000 in
set_option maxRecDepth 100000 in
theorem ccl7_sumOfShares (l : Launch) (D : va_G) (cI cP cII : ClassId) (TY : dl_TY) (hTY : TY[0]? = some (cI, .int)) (N : Nat) (ad : Nat → Nat) (pr : Nat → Option Nat) (R : va_W) (g : dl_Sg) {r0 : Int32} {g0 : dl_Sg} (h : cl7_sumOfShares N g  = some (r0, g0)) : dl_CtI l D TY cc_nw yX7_sumOfShares wsX7_sumOfShares { frames := 5, cells := 0, slots := 0, locals := 110 } 0 0 [.ref (ad 4)] (cc_w cI cP cII ad pr g ++ R) (fun r u => r = r0 ∧ u = cc_w cI cP cII ad pr g0 ++ R) := by
  refine dl_metI (ty := .int) [(0, .ref (ad 4))] (by decide) rfl (Nat.le_of_ble_eq_true rfl) rfl ?_
  intro p e s m args below meth c Q A C hQ
  unfold cl7_sumOfShares at h
  refine dl_aload_n (pc := 0) C 0 dX7_sumOfShares_0 rfl rfl ?_
  obtain ⟨g1, h1, h⟩ := dl_bi_some h
  refine dl_vV0 (pc := 1) C (ccl7_refresh l D cI cP cII TY hTY N ad pr R _ h1) (cwV 0 C.2.2.2.2.1 gX7_sumOfShares_X7_refresh rfl rfl rfl (by decide +kernel) ⟨Nat.le_of_ble_eq_true rfl, Nat.le_of_ble_eq_true rfl⟩) 4 7 cc_a4 rfl rfl rfl (Nat.le_of_ble_eq_true rfl) dX7_sumOfShares_1 ⟨Nat.zero_le _, Nat.zero_le _⟩ (fun u hp => ?_)
  subst hp
  refine dl_aload_n (pc := 4) C 0 dX7_sumOfShares_4 rfl rfl ?_
  refine dl_get (pc := 5) C hin_X7_sumOfShares_X7 4 cc_a4 rfl 6 (by decide) lk_X7_sumOfShares_32 rfl rfl dX7_sumOfShares_5 ?_
  refine dl_if_eq (pc := 8) C 14 dX7_sumOfShares_8 (by decide) h (fun q4 h => ?_) (fun q4 h => ?_)
  · refine dl_iconst (pc := 14) C 0 dX7_sumOfShares_14 (by decide) ?_
    refine dl_istore_n (pc := 15) C (fun v2 => [(1, .int v2), (0, .ref (ad 4))]) dX7_sumOfShares_15 rfl (by decide) (fun _ => rfl) h (fun v2 h => ?_)
    refine dl_iconst (pc := 16) C 0 dX7_sumOfShares_16 (by decide) ?_
    refine dl_istore_n (pc := 17) C (fun v3 => [(2, .int v3), (1, .int v2), (0, .ref (ad 4))]) dX7_sumOfShares_17 rfl (by decide) (fun _ => rfl) h (fun v3 h => ?_)
    refine dl_sub [2, 1, 0] rfl ?_
    exact cl7_sumOfShares_t18 l D cI cP cII TY hTY N ad pr R C hQ N _ _ _ h
  · refine dl_ldc (pc := 11) C (-1000000) (by decide +kernel) dX7_sumOfShares_11 ?_
    exact hQ 13 _ _ _ ⟨(dl_r2 h).1, by rw [(dl_r2 h).2]⟩ (vp_nar_int _) dX7_sumOfShares_13
theorem hin_X6_joinGroups_X2 : ∀ w ∈ u_ws RX2 TX2 18, w ∈ wsX6_joinGroups := fun _ h => List.mem_cons_of_mem _ (List.mem_append_right _ h)
theorem hin_X6_joinGroups_X6 : ∀ w ∈ u_ws RX6 TX6 9, w ∈ wsX6_joinGroups := fun _ h => List.mem_cons_of_mem _ (List.mem_append_left _ (List.mem_append_right _ h))
theorem lk_X6_joinGroups_9 : Cond.fieldLink (yX6_joinGroups).cls 9 "DripLines$Trees" (TX6 1).2.1 (TX6 1).2.2.1 ∈ wsX6_joinGroups := by decide +kernel
theorem lk_X6_joinGroups_25 : Cond.fieldLink (yX6_joinGroups).cls 25 "DripLines$Trees" (TX6 0).2.1 (TX6 0).2.2.1 ∈ wsX6_joinGroups := by decide +kernel
set_option maxHeartbeats 4000000 in
set_option maxRecDepth 100000 in
theorem cl6_joinGroups_t29 {p : Program} {e : Env} {s : State} {m : MethodId} {args : Array Value} {below : List Frame} {meth : Method} {c : Code} {Q : State → Prop} {A : Nat → Prop} (l : Launch) (D : va_G) (cI cP cII : ClassId) (TY : dl_TY) (hTY : TY[0]? = some (cI, .int)) (N : Nat) (ad : Nat → Nat) (pr : Nat → Option Nat) (R : va_W) {g0 : dl_Sg} (C : dl_Cx p s m args c A D TY cc_nw cX6_joinGroups 3 yX6_joinGroups.cls wsX6_joinGroups) (hQ : dl_RtV p l e (headSpec wsX6_joinGroups { frames := 1, cells := 0, slots := 0, locals := 21 }).room s m args below meth c Q A D cX6_joinGroups 3 0 0 (fun u => u = cc_w cI cP cII ad pr g0 ++ R)) {k2 : Int32 → Int32 → dl_Sg → Option dl_Sg} (hk2 : ∀ (x1 : Int32) (x2 : Int32) (g : dl_Sg), k2 x1 x2 g = some g0 → dl_At p l e (headSpec wsX6_joinGroups { frames := 1, cells := 0, slots := 0, locals := 21 }).room s m args below meth c Q A D 3 0 0 2 [(0, .ref (ad 3)), (1, .int x1), (2, .int x2)] [] (cc_w cI cP cII ad pr g ++ R)) (x1 : Int32) (x2 : Int32) (g : dl_Sg) (h : cl6_joinGroups_b29 N k2 x1 x2 g = some g0) : dl_At p l e (headSpec wsX6_joinGroups { frames := 1, cells := 0, slots := 0, locals := 21 }).room s m args below meth c Q A D 3 0 0 29 [(0, .ref (ad 3)), (1, .int x1), (2, .int x2)] [] (cc_w cI cP cII ad pr g ++ R) := by
  unfold cl6_joinGroups_b29 at h
  refine dl_iinc (pc := 29) C 2 (fun v1 => [(2, .int v1), (0, .ref (ad 3)), (1, .int x1)]) dX6_joinGroups_29 rfl rfl (by decide) (fun _ => rfl) h (fun v1 h => ?_)
  refine dl_goto (pc := 32) C 2 dX6_joinGroups_32 (by decide) ?_
  refine dl_sub [1, 2, 0] rfl ?_
  exact hk2 _ _ _ h
set_option maxHeartbeats 4000000 in
set_option maxRecDepth 100000 in
theorem cl6_joinGroups_t2 {p : Program} {e : Env} {s : State} {m : MethodId} {args : Array Value} {below : List Frame} {meth : Method} {c : Code} {Q : State → Prop} {A : Nat → Prop} (l : Launch) (D : va_G) (cI cP cII : ClassId) (TY : dl_TY) (hTY : TY[0]? = some (cI, .int)) (N : Nat) (ad : Nat → Nat) (pr : Nat → Option Nat) (R : va_W) {g0 : dl_Sg} (C : dl_Cx p s m args c A D TY cc_nw cX6_joinGroups 3 yX6_joinGroups.cls wsX6_joinGroups) (hQ : dl_RtV p l e (headSpec wsX6_joinGroups { frames := 1, cells := 0, slots := 0, locals := 21 }).room s m args below meth c Q A D cX6_joinGroups 3 0 0 (fun u => u = cc_w cI cP cII ad pr g0 ++ R)) : ∀ (n : Nat) (x1 : Int32) (x2 : Int32) (g : dl_Sg), cl6_joinGroups_b2 N n x1 x2 g = some g0 → dl_At p l e (headSpec wsX6_joinGroups { frames := 1, cells := 0, slots := 0, locals := 21 }).room s m args below meth c Q A D 3 0 0 2 [(0, .ref (ad 3)), (1, .int x1), (2, .int x2)] [] (cc_w cI cP cII ad pr g ++ R) := by
  intro n
  induction n with
  | zero => exact fun _ _ _ h => absurd (show (none : Option dl_Sg) = some _ from h) (by intro q; cases q)
  | succ n ih =>
    intro x1 x2 g h
    rw [cl6_joinGroups_b2] at h
    refine dl_iload_n (pc := 2) C 2 dX6_joinGroups_2 rfl rfl ?_
    refine dl_aload_n (pc := 3) C 0 dX6_joinGroups_3 rfl rfl ?_
    refine dl_get (pc := 4) C hin_X6_joinGroups_X6 3 cc_a3 rfl 0 (by decide) lk_X6_joinGroups_25 rfl rfl dX6_joinGroups_4 ?_
    refine dl_getN (pc := 7) C hin_X6_joinGroups_X2 1 cc_a1 rfl 10 (by decide) nk_RX6_29 rfl rfl dX6_joinGroups_7 ?_
    refine dl_icmp_ge (pc := 10) C 35 dX6_joinGroups_10 (by decide) h (fun q4 h => ?_) (fun q4 h => ?_)
    · exact hQ 35 _ _ (by rw [Option.some.inj h]) dX6_joinGroups_35
    · refine dl_iload_n (pc := 13) C 1 dX6_joinGroups_13 rfl rfl ?_
      refine dl_iload_n (pc := 14) C 2 dX6_joinGroups_14 rfl rfl ?_
      obtain ⟨r1, h1, h⟩ := dl_bi_some h
      refine dl_sIN0 (n := 2) (pc := 15) C (ccl11_bitAt l D TY cc_nw _ _ _ h1) ggX6_joinGroups_X11_bitAt rfl rfl rfl nk_RX6_37 (by decide +kernel) (by decide +kernel) (by decide +kernel) ⟨Nat.le_of_ble_eq_true rfl, Nat.le_of_ble_eq_true rfl⟩ rfl rfl (Nat.le_of_ble_eq_true rfl) dX6_joinGroups_15 ⟨Nat.zero_le _, Nat.zero_le _⟩ (fun r u hp => ?_)
      obtain ⟨rfl, hu⟩ := hp
      rw [hu]
      clear hu
      refine dl_iconst (pc := 18) C 1 dX6_joinGroups_18 (by decide) ?_
      refine dl_icmp_ne (pc := 19) C 29 dX6_joinGroups_19 (by decide) h (fun q3 h => ?_) (fun q3 h => ?_)
      · refine dl_aload_n (pc := 22) C 0 dX6_joinGroups_22 rfl rfl ?_
        refine dl_get (pc := 23) C hin_X6_joinGroups_X6 3 cc_a3 rfl 1 (by decide) lk_X6_joinGroups_9 rfl rfl dX6_joinGroups_23 ?_
        refine dl_iload_n (pc := 26) C 2 dX6_joinGroups_26 rfl rfl ?_
        refine dl_iload_n (pc := 27) C 1 dX6_joinGroups_27 rfl rfl ?_
        obtain ⟨h0, h⟩ := dl_gd_some h
        refine dl_iast (pc := 28) C 17 0 cc_a20 hTY h0 dX6_joinGroups_28 cc_s20 ?_
        obtain ⟨g2, h, hg⟩ := dl_nm_some h
        rw [← hg]
        clear hg
        refine dl_sub [0, 1, 2] rfl ?_
        exact cl6_joinGroups_t29 l D cI cP cII TY hTY N ad pr R C hQ ih  _ _ _ h
      · refine dl_sub [0, 1, 2] rfl ?_
        exact cl6_joinGroups_t29 l D cI cP cII TY hTY N ad pr R C hQ ih  _ _ _ h
set_option maxHeartbeats 4000000 in
set_option maxRecDepth 100000 in
theorem ccl6_joinGroups (l : Launch) (D : va_G) (cI cP cII : ClassId) (TY : dl_TY) (hTY : TY[0]? = some (cI, .int)) (N : Nat) (ad : Nat → Nat) (pr : Nat → Option Nat) (R : va_W) (g : dl_Sg) (x1 : Int32) {g0 : dl_Sg} (h : cl6_joinGroups N g x1 = some g0) : dl_CtV l D TY cc_nw yX6_joinGroups wsX6_joinGroups { frames := 1, cells := 0, slots := 0, locals := 21 } 0 0 [.ref (ad 3), .int x1] (cc_w cI cP cII ad pr g ++ R) (fun u => u = cc_w cI cP cII ad pr g0 ++ R) := by
  refine dl_metV [(0, .ref (ad 3)), (1, .int x1)] (by decide) rfl (Nat.le_of_ble_eq_true rfl) rfl ?_
  intro p e s m args below meth c Q A C hQ
  unfold cl6_joinGroups at h
  refine dl_iconst (pc := 0) C 0 dX6_joinGroups_0 (by decide) ?_
  refine dl_istore_n (pc := 1) C (fun v1 => [(2, .int v1), (0, .ref (ad 3)), (1, .int x1)]) dX6_joinGroups_1 rfl (by decide) (fun _ => rfl) h (fun v1 h => ?_)
  refine dl_sub [1, 2, 0] rfl ?_
  exact cl6_joinGroups_t2 l D cI cP cII TY hTY N ad pr R C hQ N _ _ _ h
theorem hin_X6_endsOf_X2 : ∀ w ∈ u_ws RX2 TX2 18, w ∈ wsX6_endsOf := fun _ h => List.mem_cons_of_mem _ (List.mem_append_right _ h)
theorem hin_X6_endsOf_X6 : ∀ w ∈ u_ws RX6 TX6 9, w ∈ wsX6_endsOf := fun _ h => List.mem_cons_of_mem _ (List.mem_append_left _ (List.mem_append_right _ h))
theorem lk_X6_endsOf_25 : Cond.fieldLink (yX6_endsOf).cls 25 "DripLines$Trees" (TX6 0).2.1 (TX6 0).2.2.1 ∈ wsX6_endsOf := by decide +kernel
set_option maxHeartbeats 4000000 in
set_option maxRecDepth 100000 in
theorem cl6_endsOf_t36 {p : Program} {e : Env} {s : State} {m : MethodId} {args : Array Value} {below : List Frame} {meth : Method} {c : Code} {Q : State → Prop} {A : Nat → Prop} (l : Launch) (D : va_G) (cI cP cII : ClassId) (TY : dl_TY) (hTY : TY[0]? = some (cI, .int)) (N : Nat) (ad : Nat → Nat) (pr : Nat → Option Nat) (R : va_W) (g : dl_Sg) {r0 : Int32} (C : dl_Cx p s m args c A D TY cc_nw cX6_endsOf 4 yX6_endsOf.cls wsX6_endsOf) (hQ : dl_RtI p l e (headSpec wsX6_endsOf { frames := 1, cells := 0, slots := 0, locals := 21 }).room s m args below meth c Q A D cX6_endsOf 4 0 0 .int (fun r u => r = r0 ∧ u = cc_w cI cP cII ad pr g ++ R)) {k4 : Int32 → Int32 → Int32 → Option Int32} (hk4 : ∀ (x1 : Int32) (x2 : Int32) (x3 : Int32), k4 x1 x2 x3 = some r0 → dl_At p l e (headSpec wsX6_endsOf { frames := 1, cells := 0, slots := 0, locals := 21 }).room s m args below meth c Q A D 4 0 0 4 [(0, .ref (ad 3)), (1, .int x1), (2, .int x2), (3, .int x3)] [] (cc_w cI cP cII ad pr g ++ R)) (x1 : Int32) (x2 : Int32) (x3 : Int32) (h : cl6_endsOf_b36 N g k4 x1 x2 x3 = some r0) : dl_At p l e (headSpec wsX6_endsOf { frames := 1, cells := 0, slots := 0, locals := 21 }).room s m args below meth c Q A D 4 0 0 36 [(0, .ref (ad 3)), (1, .int x1), (2, .int x2), (3, .int x3)] [] (cc_w cI cP cII ad pr g ++ R) := by
  unfold cl6_endsOf_b36 at h
  refine dl_iinc (pc := 36) C 3 (fun v1 => [(3, .int v1), (0, .ref (ad 3)), (1, .int x1), (2, .int x2)]) dX6_endsOf_36 rfl rfl (by decide) (fun _ => rfl) h (fun v1 h => ?_)
  refine dl_goto (pc := 39) C 4 dX6_endsOf_39 (by decide) ?_
  refine dl_sub [1, 2, 3, 0] rfl ?_
  exact hk4 _ _ _ h
set_option maxHeartbeats 4000000 in
set_option maxRecDepth 100000 in
theorem cl6_endsOf_t4 {p : Program} {e : Env} {s : State} {m : MethodId} {args : Array Value} {below : List Frame} {meth : Method} {c : Code} {Q : State → Prop} {A : Nat → Prop} (l : Launch) (D : va_G) (cI cP cII : ClassId) (TY : dl_TY) (hTY : TY[0]? = some (cI, .int)) (N : Nat) (ad : Nat → Nat) (pr : Nat → Option Nat) (R : va_W) (g : dl_Sg) {r0 : Int32} (C : dl_Cx p s m args c A D TY cc_nw cX6_endsOf 4 yX6_endsOf.cls wsX6_endsOf) (hQ : dl_RtI p l e (headSpec wsX6_endsOf { frames := 1, cells := 0, slots := 0, locals := 21 }).room s m args below meth c Q A D cX6_endsOf 4 0 0 .int (fun r u => r = r0 ∧ u = cc_w cI cP cII ad pr g ++ R)) : ∀ (n : Nat) (x1 : Int32) (x2 : Int32) (x3 : Int32), cl6_endsOf_b4 N g n x1 x2 x3 = some r0 → dl_At p l e (headSpec wsX6_endsOf { frames := 1, cells := 0, slots := 0, locals := 21 }).room s m args below meth c Q A D 4 0 0 4 [(0, .ref (ad 3)), (1, .int x1), (2, .int x2), (3, .int x3)] [] (cc_w cI cP cII ad pr g ++ R) := by
  intro n
  induction n with
  | zero => exact fun _ _ _ h => absurd (show (none : Option Int32) = some _ from h) (by intro q; cases q)
  | succ n ih =>
    intro x1 x2 x3 h
    rw [cl6_endsOf_b4] at h
    refine dl_iload_n (pc := 4) C 3 dX6_endsOf_4 rfl rfl ?_
    refine dl_aload_n (pc := 5) C 0 dX6_endsOf_5 rfl rfl ?_
    refine dl_get (pc := 6) C hin_X6_endsOf_X6 3 cc_a3 rfl 0 (by decide) lk_X6_endsOf_25 rfl rfl dX6_endsOf_6 ?_
    refine dl_getN (pc := 9) C hin_X6_endsOf_X2 1 cc_a1 rfl 11 (by decide) nk_RX6_34 rfl rfl dX6_endsOf_9 ?_
    refine dl_icmp_ge (pc := 12) C 42 dX6_endsOf_12 (by decide) h (fun q4 h => ?_) (fun q4 h => ?_)
    · refine dl_iload_n (pc := 42) C 2 dX6_endsOf_42 rfl rfl ?_
      exact hQ 43 _ _ _ ⟨Option.some.inj h, rfl⟩ (vp_nar_int _) dX6_endsOf_43
    · refine dl_iload_n (pc := 15) C 1 dX6_endsOf_15 rfl rfl ?_
      refine dl_iload_n (pc := 16) C 3 dX6_endsOf_16 rfl rfl ?_
      obtain ⟨r1, h1, h⟩ := dl_bi_some h
      refine dl_sIN0 (n := 2) (pc := 17) C (ccl11_bitAt l D TY cc_nw _ _ _ h1) ggX6_endsOf_X11_bitAt rfl rfl rfl nk_RX6_37 (by decide +kernel) (by decide +kernel) (by decide +kernel) ⟨Nat.le_of_ble_eq_true rfl, Nat.le_of_ble_eq_true rfl⟩ rfl rfl (Nat.le_of_ble_eq_true rfl) dX6_endsOf_17 ⟨Nat.zero_le _, Nat.zero_le _⟩ (fun r u hp => ?_)
      obtain ⟨rfl, hu⟩ := hp
      rw [hu]
      clear hu
      refine dl_iconst (pc := 20) C 1 dX6_endsOf_20 (by decide) ?_
      refine dl_icmp_ne (pc := 21) C 36 dX6_endsOf_21 (by decide) h (fun q3 h => ?_) (fun q3 h => ?_)
      · refine dl_iload_n (pc := 24) C 2 dX6_endsOf_24 rfl rfl ?_
        refine dl_aload_n (pc := 25) C 0 dX6_endsOf_25 rfl rfl ?_
        refine dl_get (pc := 26) C hin_X6_endsOf_X6 3 cc_a3 rfl 0 (by decide) lk_X6_endsOf_25 rfl rfl dX6_endsOf_26 ?_
        refine dl_getN (pc := 29) C hin_X6_endsOf_X2 1 cc_a1 rfl 7 (by decide) nk_RX6_61 rfl rfl dX6_endsOf_29 ?_
        refine dl_iload_n (pc := 32) C 3 dX6_endsOf_32 rfl rfl ?_
        obtain ⟨h0, h⟩ := dl_gd_some h
        refine dl_iald (pc := 33) C 13 0 cc_a16 hTY h0 dX6_endsOf_33 ?_
        refine dl_ior (pc := 34) C dX6_endsOf_34 ?_
        refine dl_istore_n (pc := 35) C (fun v2 => [(2, .int v2), (0, .ref (ad 3)), (1, .int x1), (3, .int x3)]) dX6_endsOf_35 rfl (by decide) (fun _ => rfl) h (fun v2 h => ?_)
        refine dl_sub [1, 2, 0, 3] rfl ?_
        exact cl6_endsOf_t36 l D cI cP cII TY hTY N ad pr R g C hQ ih  _ _ _ h
      · refine dl_sub [0, 1, 2, 3] rfl ?_
        exact cl6_endsOf_t36 l D cI cP cII TY hTY N ad pr R g C hQ ih  _ _ _ h
set_option maxHeartbeats 4000000 in
set_option maxRecDepth 100000 in
theorem ccl6_endsOf (l : Launch) (D : va_G) (cI cP cII : ClassId) (TY : dl_TY) (hTY : TY[0]? = some (cI, .int)) (N : Nat) (ad : Nat → Nat) (pr : Nat → Option Nat) (R : va_W) (g : dl_Sg) (x1 : Int32) {r0 : Int32} (h : cl6_endsOf N g x1 = some r0) : dl_CtI l D TY cc_nw yX6_endsOf wsX6_endsOf { frames := 1, cells := 0, slots := 0, locals := 21 } 0 0 [.ref (ad 3), .int x1] (cc_w cI cP cII ad pr g ++ R) (fun r u => r = r0 ∧ u = cc_w cI cP cII ad pr g ++ R) := by
  refine dl_metI (ty := .int) [(0, .ref (ad 3)), (1, .int x1)] (by decide) rfl (Nat.le_of_ble_eq_true rfl) rfl ?_
  intro p e s m args below meth c Q A C hQ
  unfold cl6_endsOf at h
  refine dl_iconst (pc := 0) C 0 dX6_endsOf_0 (by decide) ?_
  refine dl_istore_n (pc := 1) C (fun v1 => [(2, .int v1), (0, .ref (ad 3)), (1, .int x1)]) dX6_endsOf_1 rfl (by decide) (fun _ => rfl) h (fun v1 h => ?_)
  refine dl_iconst (pc := 2) C 0 dX6_endsOf_2 (by decide) ?_
  refine dl_istore_n (pc := 3) C (fun v2 => [(3, .int v2), (2, .int v1), (0, .ref (ad 3)), (1, .int x1)]) dX6_endsOf_3 rfl (by decide) (fun _ => rfl) h (fun v2 h => ?_)
  refine dl_sub [2, 3, 1, 0] rfl ?_
  exact cl6_endsOf_t4 l D cI cP cII TY hTY N ad pr R g C hQ N _ _ _ h
theorem hin_X6_placesOf_X2 : ∀ w ∈ u_ws RX2 TX2 18, w ∈ wsX6_placesOf := fun _ h => List.mem_cons_of_mem _ (List.mem_append_right _ h)
theorem hin_X6_placesOf_X6 : ∀ w ∈ u_ws RX6 TX6 9, w ∈ wsX6_placesOf := fun _ h => List.mem_cons_of_mem _ (List.mem_append_left _ (List.mem_append_right _ h))
theorem lk_X6_placesOf_25 : Cond.fieldLink (yX6_placesOf).cls 25 "DripLines$Trees" (TX6 0).2.1 (TX6 0).2.2.1 ∈ wsX6_placesOf := by decide +kernel
set_option maxHeartbeats 4000000 in
set_option maxRecDepth 100000 in
theorem cl6_placesOf_t23 {p : Program} {e : Env} {s : State} {m : MethodId} {args : Array Value} {below : List Frame} {meth : Method} {c : Code} {Q : State → Prop} {A : Nat → Prop} (l : Launch) (D : va_G) (cI cP cII : ClassId) (TY : dl_TY) (hTY : TY[0]? = some (cI, .int)) (ad : Nat → Nat) (pr : Nat → Option Nat) (R : va_W) (g : dl_Sg) {r0 : Int32} (C : dl_Cx p s m args c A D TY cc_nw cX6_placesOf 4 yX6_placesOf.cls wsX6_placesOf) (hQ : dl_RtI p l e (headSpec wsX6_placesOf { frames := 1, cells := 0, slots := 0, locals := 20 }).room s m args below meth c Q A D cX6_placesOf 4 0 0 .int (fun r u => r = r0 ∧ u = cc_w cI cP cII ad pr g ++ R)) (x2 : Int32) (y0 : Int32) (h : cl6_placesOf_b23 g x2 y0 = some r0) : dl_At p l e (headSpec wsX6_placesOf { frames := 1, cells := 0, slots := 0, locals := 20 }).room s m args below meth c Q A D 4 0 0 23 [(0, .ref (ad 3)), (2, .int x2)] [.int y0] (cc_w cI cP cII ad pr g ++ R) := by
  unfold cl6_placesOf_b23 at h
  refine dl_istore_n (pc := 23) C (fun v1 => [(3, .int v1), (0, .ref (ad 3)), (2, .int x2)]) dX6_placesOf_23 rfl (by decide) (fun _ => rfl) h (fun v1 h => ?_)
  refine dl_iload_n (pc := 24) C 0 dX6_placesOf_24 rfl rfl ?_
  refine dl_if_eq (pc := 25) C 38 dX6_placesOf_25 (by decide) h (fun q2 h => ?_) (fun q2 h => ?_)
  · refine dl_iload_n (pc := 38) C 2 dX6_placesOf_38 rfl rfl ?_
    exact hQ 39 _ _ _ ⟨Option.some.inj h, rfl⟩ (vp_nar_int _) dX6_placesOf_39
  · refine dl_aload_n (pc := 28) C 1 dX6_placesOf_28 rfl rfl ?_
    refine dl_get (pc := 29) C hin_X6_placesOf_X6 3 cc_a3 rfl 0 (by decide) lk_X6_placesOf_25 rfl rfl dX6_placesOf_29 ?_
    refine dl_getN (pc := 32) C hin_X6_placesOf_X2 1 cc_a1 rfl 12 (by decide) nk_RX6_55 rfl rfl dX6_placesOf_32 ?_
    refine dl_goto (pc := 35) C 39 dX6_placesOf_35 (by decide) ?_
    exact hQ 39 _ _ _ ⟨Option.some.inj h, rfl⟩ (vp_nar_int _) dX6_placesOf_39
set_option maxHeartbeats 4000000 in
set_option maxRecDepth 100000 in
theorem cl6_placesOf_t22 {p : Program} {e : Env} {s : State} {m : MethodId} {args : Array Value} {below : List Frame} {meth : Method} {c : Code} {Q : State → Prop} {A : Nat → Prop} (l : Launch) (D : va_G) (cI cP cII : ClassId) (TY : dl_TY) (hTY : TY[0]? = some (cI, .int)) (ad : Nat → Nat) (pr : Nat → Option Nat) (R : va_W) (g : dl_Sg) {r0 : Int32} (C : dl_Cx p s m args c A D TY cc_nw cX6_placesOf 4 yX6_placesOf.cls wsX6_placesOf) (hQ : dl_RtI p l e (headSpec wsX6_placesOf { frames := 1, cells := 0, slots := 0, locals := 20 }).room s m args below meth c Q A D cX6_placesOf 4 0 0 .int (fun r u => r = r0 ∧ u = cc_w cI cP cII ad pr g ++ R)) (x2 : Int32) (h : cl6_placesOf_b22 g x2 = some r0) : dl_At p l e (headSpec wsX6_placesOf { frames := 1, cells := 0, slots := 0, locals := 20 }).room s m args below meth c Q A D 4 0 0 22 [(0, .ref (ad 3)), (2, .int x2)] [] (cc_w cI cP cII ad pr g ++ R) := by
  unfold cl6_placesOf_b22 at h
  refine dl_iconst (pc := 22) C 0 dX6_placesOf_22 (by decide) ?_
  refine dl_sub [0, 1] rfl ?_
  exact cl6_placesOf_t23 l D cI cP cII TY hTY ad pr R g C hQ  _ _ h
set_option maxHeartbeats 4000000 in
set_option maxRecDepth 100000 in
theorem ccl6_placesOf (l : Launch) (D : va_G) (cI cP cII : ClassId) (TY : dl_TY) (hTY : TY[0]? = some (cI, .int)) (ad : Nat → Nat) (pr : Nat → Option Nat) (R : va_W) (g : dl_Sg) (x1 : Int32) (x2 : Int32) {r0 : Int32} (h : cl6_placesOf g x1 x2 = some r0) : dl_CtI l D TY cc_nw yX6_placesOf wsX6_placesOf { frames := 1, cells := 0, slots := 0, locals := 20 } 0 0 [.ref (ad 3), .int x1, .int x2] (cc_w cI cP cII ad pr g ++ R) (fun r u => r = r0 ∧ u = cc_w cI cP cII ad pr g ++ R) := by
  refine dl_metI (ty := .int) [(0, .ref (ad 3)), (1, .int x1), (2, .int x2)] (by decide) rfl (Nat.le_of_ble_eq_true rfl) rfl ?_
  intro p e s m args below meth c Q A C hQ
  unfold cl6_placesOf at h
  refine dl_iload_n (pc := 0) C 1 dX6_placesOf_0 rfl rfl ?_
  refine dl_if_ne (pc := 1) C 22 dX6_placesOf_1 (by decide) h (fun q3 h => ?_) (fun q3 h => ?_)
  · refine dl_aload_n (pc := 4) C 0 dX6_placesOf_4 rfl rfl ?_
    refine dl_get (pc := 5) C hin_X6_placesOf_X6 3 cc_a3 rfl 0 (by decide) lk_X6_placesOf_25 rfl rfl dX6_placesOf_5 ?_
    refine dl_getN (pc := 8) C hin_X6_placesOf_X2 1 cc_a1 rfl 12 (by decide) nk_RX6_55 rfl rfl dX6_placesOf_8 ?_
    obtain ⟨r1, h1, h⟩ := dl_bi_some h
    refine dl_sI0 (pc := 11) C (cjd_bitCount l D TY cc_nw _ _ h1) (va_cwS 1 C.2.2.2.2.1 gX6_placesOf_J6_bitCount_0f7a4 rfl rfl rfl (by decide +kernel) ⟨Nat.le_of_ble_eq_true rfl, Nat.le_of_ble_eq_true rfl⟩) rfl rfl (Nat.le_of_ble_eq_true rfl) dX6_placesOf_11 ⟨Nat.zero_le _, Nat.zero_le _⟩ (fun r u hp => ?_)
    obtain ⟨rfl, hu⟩ := hp
    rw [hu]
    clear hu
    refine dl_iconst (pc := 14) C 1 dX6_placesOf_14 (by decide) ?_
    refine dl_icmp_ne (pc := 15) C 22 dX6_placesOf_15 (by decide) h (fun q2 h => ?_) (fun q2 h => ?_)
    · refine dl_iconst (pc := 18) C 1 dX6_placesOf_18 (by decide) ?_
      refine dl_goto (pc := 19) C 23 dX6_placesOf_19 (by decide) ?_
      refine dl_sub [0, 2] rfl ?_
      exact cl6_placesOf_t23 l D cI cP cII TY hTY ad pr R g C hQ  _ _ h
    · refine dl_sub [0, 2] rfl ?_
      exact cl6_placesOf_t22 l D cI cP cII TY hTY ad pr R g C hQ  _ h
  · refine dl_sub [0, 2] rfl ?_
    exact cl6_placesOf_t22 l D cI cP cII TY hTY ad pr R g C hQ  _ h
theorem hin_X6_flawOf_X2 : ∀ w ∈ u_ws RX2 TX2 18, w ∈ wsX6_flawOf := fun _ h => List.mem_cons_of_mem _ (List.mem_append_right _ h)
theorem hin_X6_flawOf_X6 : ∀ w ∈ u_ws RX6 TX6 9, w ∈ wsX6_flawOf := fun _ h => List.mem_cons_of_mem _ (List.mem_append_left _ (List.mem_append_right _ h))
theorem lk_X6_flawOf_9 : Cond.fieldLink (yX6_flawOf).cls 9 "DripLines$Trees" (TX6 1).2.1 (TX6 1).2.2.1 ∈ wsX6_flawOf := by decide +kernel
theorem lk_X6_flawOf_25 : Cond.fieldLink (yX6_flawOf).cls 25 "DripLines$Trees" (TX6 0).2.1 (TX6 0).2.2.1 ∈ wsX6_flawOf := by decide +kernel
set_option maxHeartbeats 4000000 in
set_option maxRecDepth 100000 in
theorem cl6_flawOf_t161 {p : Program} {e : Env} {s : State} {m : MethodId} {args : Array Value} {below : List Frame} {meth : Method} {c : Code} {Q : State → Prop} {A : Nat → Prop} (l : Launch) (D : va_G) (cI cP cII : ClassId) (TY : dl_TY) (hTY : TY[0]? = some (cI, .int)) (N : Nat) (ad : Nat → Nat) (pr : Nat → Option Nat) (R : va_W) {r0 : Int32} {g0 : dl_Sg} (C : dl_Cx p s m args c A D TY cc_nw cX6_flawOf 6 yX6_flawOf.cls wsX6_flawOf) (hQ : dl_RtI p l e (headSpec wsX6_flawOf { frames := 2, cells := 0, slots := 0, locals := 44 }).room s m args below meth c Q A D cX6_flawOf 6 0 0 .int (fun r u => r = r0 ∧ u = cc_w cI cP cII ad pr g0 ++ R)) (y0 : Int32) (g : dl_Sg) (h : cl6_flawOf_b161 N y0 g = some (r0, g0)) : dl_At p l e (headSpec wsX6_flawOf { frames := 2, cells := 0, slots := 0, locals := 44 }).room s m args below meth c Q A D 6 0 0 161 [(0, .ref (ad 3))] [.int y0] (cc_w cI cP cII ad pr g ++ R) := by
  unfold cl6_flawOf_b161 at h
  refine dl_istore (pc := 161) C (fun v1 => [(4, .int v1), (0, .ref (ad 3))]) dX6_flawOf_161 (by decide) (fun _ => rfl) h (fun v1 h => ?_)
  refine dl_iload (pc := 163) C 0 dX6_flawOf_163 rfl ?_
  refine dl_if_eq (pc := 165) C 172 dX6_flawOf_165 (by decide) h (fun q2 h => ?_) (fun q2 h => ?_)
  · refine dl_iconst (pc := 172) C 3 dX6_flawOf_172 (by decide) ?_
    exact hQ 173 _ _ _ ⟨(dl_r2 h).1, by rw [(dl_r2 h).2]⟩ (vp_nar_int _) dX6_flawOf_173
  · refine dl_iconst (pc := 168) C 0 dX6_flawOf_168 (by decide) ?_
    refine dl_goto (pc := 169) C 173 dX6_flawOf_169 (by decide) ?_
    exact hQ 173 _ _ _ ⟨(dl_r2 h).1, by rw [(dl_r2 h).2]⟩ (vp_nar_int _) dX6_flawOf_173
set_option maxHeartbeats 4000000 in
set_option maxRecDepth 100000 in
theorem cl6_flawOf_t160 {p : Program} {e : Env} {s : State} {m : MethodId} {args : Array Value} {below : List Frame} {meth : Method} {c : Code} {Q : State → Prop} {A : Nat → Prop} (l : Launch) (D : va_G) (cI cP cII : ClassId) (TY : dl_TY) (hTY : TY[0]? = some (cI, .int)) (N : Nat) (ad : Nat → Nat) (pr : Nat → Option Nat) (R : va_W) {r0 : Int32} {g0 : dl_Sg} (C : dl_Cx p s m args c A D TY cc_nw cX6_flawOf 6 yX6_flawOf.cls wsX6_flawOf) (hQ : dl_RtI p l e (headSpec wsX6_flawOf { frames := 2, cells := 0, slots := 0, locals := 44 }).room s m args below meth c Q A D cX6_flawOf 6 0 0 .int (fun r u => r = r0 ∧ u = cc_w cI cP cII ad pr g0 ++ R)) (g : dl_Sg) (h : cl6_flawOf_b160 N  g = some (r0, g0)) : dl_At p l e (headSpec wsX6_flawOf { frames := 2, cells := 0, slots := 0, locals := 44 }).room s m args below meth c Q A D 6 0 0 160 [(0, .ref (ad 3))] [] (cc_w cI cP cII ad pr g ++ R) := by
  unfold cl6_flawOf_b160 at h
  refine dl_iconst (pc := 160) C 0 dX6_flawOf_160 (by decide) ?_
  refine dl_sub [0] rfl ?_
  exact cl6_flawOf_t161 l D cI cP cII TY hTY N ad pr R C hQ  _ _ h
set_option maxHeartbeats 4000000 in
set_option maxRecDepth 100000 in
theorem cl6_flawOf_t127 {p : Program} {e : Env} {s : State} {m : MethodId} {args : Array Value} {below : List Frame} {meth : Method} {c : Code} {Q : State → Prop} {A : Nat → Prop} (l : Launch) (D : va_G) (cI cP cII : ClassId) (TY : dl_TY) (hTY : TY[0]? = some (cI, .int)) (N : Nat) (ad : Nat → Nat) (pr : Nat → Option Nat) (R : va_W) {r0 : Int32} {g0 : dl_Sg} (C : dl_Cx p s m args c A D TY cc_nw cX6_flawOf 6 yX6_flawOf.cls wsX6_flawOf) (hQ : dl_RtI p l e (headSpec wsX6_flawOf { frames := 2, cells := 0, slots := 0, locals := 44 }).room s m args below meth c Q A D cX6_flawOf 6 0 0 .int (fun r u => r = r0 ∧ u = cc_w cI cP cII ad pr g0 ++ R)) (x1 : Int32) (x3 : Int32) (g : dl_Sg) (h : cl6_flawOf_b127 N x1 x3 g = some (r0, g0)) : dl_At p l e (headSpec wsX6_flawOf { frames := 2, cells := 0, slots := 0, locals := 44 }).room s m args below meth c Q A D 6 0 0 127 [(0, .ref (ad 3)), (1, .int x1), (3, .int x3)] [] (cc_w cI cP cII ad pr g ++ R) := by
  unfold cl6_flawOf_b127 at h
  refine dl_aload_n (pc := 127) C 0 dX6_flawOf_127 rfl rfl ?_
  refine dl_get (pc := 128) C hin_X6_flawOf_X6 3 cc_a3 rfl 0 (by decide) lk_X6_flawOf_25 rfl rfl dX6_flawOf_128 ?_
  refine dl_getN (pc := 131) C hin_X6_flawOf_X2 1 cc_a1 rfl 12 (by decide) nk_RX6_55 rfl rfl dX6_flawOf_131 ?_
  refine dl_if_eq (pc := 134) C 160 dX6_flawOf_134 (by decide) h (fun q3 h => ?_) (fun q3 h => ?_)
  · refine dl_sub [0] rfl ?_
    exact cl6_flawOf_t160 l D cI cP cII TY hTY N ad pr R C hQ  _ h
  · refine dl_aload_n (pc := 137) C 0 dX6_flawOf_137 rfl rfl ?_
    refine dl_get (pc := 138) C hin_X6_flawOf_X6 3 cc_a3 rfl 0 (by decide) lk_X6_flawOf_25 rfl rfl dX6_flawOf_138 ?_
    refine dl_getN (pc := 141) C hin_X6_flawOf_X2 1 cc_a1 rfl 12 (by decide) nk_RX6_55 rfl rfl dX6_flawOf_141 ?_
    refine dl_aload_n (pc := 144) C 0 dX6_flawOf_144 rfl rfl ?_
    refine dl_iload_n (pc := 145) C 1 dX6_flawOf_145 rfl rfl ?_
    refine dl_iload_n (pc := 146) C 2 dX6_flawOf_146 rfl rfl ?_
    obtain ⟨r1, h1, h⟩ := dl_bi_some h
    refine dl_vI0 (pc := 147) C (ccl6_placesOf l D cI cP cII TY hTY ad pr R _ _ _ h1) (cwV 2 C.2.2.2.2.1 gX6_flawOf_X6_placesOf rfl rfl rfl (by decide +kernel) ⟨Nat.le_of_ble_eq_true rfl, Nat.le_of_ble_eq_true rfl⟩) 3 6 cc_a3 rfl rfl rfl (Nat.le_of_ble_eq_true rfl) dX6_flawOf_147 ⟨Nat.zero_le _, Nat.zero_le _⟩ (fun r u hp => ?_)
    obtain ⟨rfl, rfl⟩ := hp
    refine dl_iconst (pc := 150) C (-1) dX6_flawOf_150 (by decide) ?_
    refine dl_ixor (pc := 151) C dX6_flawOf_151 ?_
    refine dl_iand (pc := 152) C dX6_flawOf_152 ?_
    refine dl_if_ne (pc := 153) C 160 dX6_flawOf_153 (by decide) h (fun q2 h => ?_) (fun q2 h => ?_)
    · refine dl_iconst (pc := 156) C 1 dX6_flawOf_156 (by decide) ?_
      refine dl_goto (pc := 157) C 161 dX6_flawOf_157 (by decide) ?_
      refine dl_sub [0] rfl ?_
      exact cl6_flawOf_t161 l D cI cP cII TY hTY N ad pr R C hQ  _ _ h
    · refine dl_sub [0] rfl ?_
      exact cl6_flawOf_t160 l D cI cP cII TY hTY N ad pr R C hQ  _ h
set_option maxHeartbeats 4000000 in
set_option maxRecDepth 100000 in
theorem cl6_flawOf_t104 {p : Program} {e : Env} {s : State} {m : MethodId} {args : Array Value} {below : List Frame} {meth : Method} {c : Code} {Q : State → Prop} {A : Nat → Prop} (l : Launch) (D : va_G) (cI cP cII : ClassId) (TY : dl_TY) (hTY : TY[0]? = some (cI, .int)) (N : Nat) (ad : Nat → Nat) (pr : Nat → Option Nat) (R : va_W) {r0 : Int32} {g0 : dl_Sg} (C : dl_Cx p s m args c A D TY cc_nw cX6_flawOf 6 yX6_flawOf.cls wsX6_flawOf) (hQ : dl_RtI p l e (headSpec wsX6_flawOf { frames := 2, cells := 0, slots := 0, locals := 44 }).room s m args below meth c Q A D cX6_flawOf 6 0 0 .int (fun r u => r = r0 ∧ u = cc_w cI cP cII ad pr g0 ++ R)) {k32 : Int32 → Int32 → Int32 → dl_Sg → Option (Int32 × dl_Sg)} (hk32 : ∀ (x1 : Int32) (x2 : Int32) (x3 : Int32) (g : dl_Sg), k32 x1 x2 x3 g = some (r0, g0) → dl_At p l e (headSpec wsX6_flawOf { frames := 2, cells := 0, slots := 0, locals := 44 }).room s m args below meth c Q A D 6 0 0 32 [(0, .ref (ad 3)), (1, .int x1), (2, .int x2), (3, .int x3)] [] (cc_w cI cP cII ad pr g ++ R)) (x1 : Int32) (x2 : Int32) (x3 : Int32) (g : dl_Sg) (h : cl6_flawOf_b104 N k32 x1 x2 x3 g = some (r0, g0)) : dl_At p l e (headSpec wsX6_flawOf { frames := 2, cells := 0, slots := 0, locals := 44 }).room s m args below meth c Q A D 6 0 0 104 [(0, .ref (ad 3)), (1, .int x1), (2, .int x2), (3, .int x3)] [] (cc_w cI cP cII ad pr g ++ R) := by
  unfold cl6_flawOf_b104 at h
  refine dl_iinc (pc := 104) C 3 (fun v1 => [(3, .int v1), (0, .ref (ad 3)), (1, .int x1), (2, .int x2)]) dX6_flawOf_104 rfl rfl (by decide) (fun _ => rfl) h (fun v1 h => ?_)
  refine dl_goto (pc := 107) C 32 dX6_flawOf_107 (by decide) ?_
  refine dl_sub [1, 2, 3, 0] rfl ?_
  exact hk32 _ _ _ _ h
set_option maxHeartbeats 4000000 in
set_option maxRecDepth 100000 in
theorem cl6_flawOf_t32 {p : Program} {e : Env} {s : State} {m : MethodId} {args : Array Value} {below : List Frame} {meth : Method} {c : Code} {Q : State → Prop} {A : Nat → Prop} (l : Launch) (D : va_G) (cI cP cII : ClassId) (TY : dl_TY) (hTY : TY[0]? = some (cI, .int)) (N : Nat) (ad : Nat → Nat) (pr : Nat → Option Nat) (R : va_W) {r0 : Int32} {g0 : dl_Sg} (C : dl_Cx p s m args c A D TY cc_nw cX6_flawOf 6 yX6_flawOf.cls wsX6_flawOf) (hQ : dl_RtI p l e (headSpec wsX6_flawOf { frames := 2, cells := 0, slots := 0, locals := 44 }).room s m args below meth c Q A D cX6_flawOf 6 0 0 .int (fun r u => r = r0 ∧ u = cc_w cI cP cII ad pr g0 ++ R)) : ∀ (n : Nat) (x1 : Int32) (x2 : Int32) (x3 : Int32) (g : dl_Sg), cl6_flawOf_b32 N n x1 x2 x3 g = some (r0, g0) → dl_At p l e (headSpec wsX6_flawOf { frames := 2, cells := 0, slots := 0, locals := 44 }).room s m args below meth c Q A D 6 0 0 32 [(0, .ref (ad 3)), (1, .int x1), (2, .int x2), (3, .int x3)] [] (cc_w cI cP cII ad pr g ++ R) := by
  intro n
  induction n with
  | zero => exact fun _ _ _ _ h => absurd (show (none : Option (Int32 × dl_Sg)) = some _ from h) (by intro q; cases q)
  | succ n ih =>
    intro x1 x2 x3 g h
    rw [cl6_flawOf_b32] at h
    refine dl_iload_n (pc := 32) C 3 dX6_flawOf_32 rfl rfl ?_
    refine dl_aload_n (pc := 33) C 0 dX6_flawOf_33 rfl rfl ?_
    refine dl_get (pc := 34) C hin_X6_flawOf_X6 3 cc_a3 rfl 0 (by decide) lk_X6_flawOf_25 rfl rfl dX6_flawOf_34 ?_
    refine dl_getN (pc := 37) C hin_X6_flawOf_X2 1 cc_a1 rfl 11 (by decide) nk_RX6_34 rfl rfl dX6_flawOf_37 ?_
    refine dl_icmp_ge (pc := 40) C 110 dX6_flawOf_40 (by decide) h (fun q12 h => ?_) (fun q12 h => ?_)
    · refine dl_aload_n (pc := 110) C 0 dX6_flawOf_110 rfl rfl ?_
      refine dl_iload_n (pc := 111) C 1 dX6_flawOf_111 rfl rfl ?_
      obtain ⟨r1, h1, h⟩ := dl_bi_some h
      refine dl_vI0 (pc := 112) C (ccl6_endsOf l D cI cP cII TY hTY N ad pr R _ _ h1) (cwV 1 C.2.2.2.2.1 gX6_flawOf_X6_endsOf rfl rfl rfl (by decide +kernel) ⟨Nat.le_of_ble_eq_true rfl, Nat.le_of_ble_eq_true rfl⟩) 3 6 cc_a3 rfl rfl rfl (Nat.le_of_ble_eq_true rfl) dX6_flawOf_112 ⟨Nat.zero_le _, Nat.zero_le _⟩ (fun r u hp => ?_)
      obtain ⟨rfl, rfl⟩ := hp
      refine dl_istore_n (pc := 115) C (fun v2 => [(3, .int v2), (0, .ref (ad 3)), (1, .int x1), (2, .int x2)]) dX6_flawOf_115 rfl (by decide) (fun _ => rfl) h (fun v2 h => ?_)
      refine dl_iload_n (pc := 116) C 2 dX6_flawOf_116 rfl rfl ?_
      refine dl_if_eq (pc := 117) C 127 dX6_flawOf_117 (by decide) h (fun q4 h => ?_) (fun q4 h => ?_)
      · refine dl_sub [1, 2, 0] rfl ?_
        exact cl6_flawOf_t127 l D cI cP cII TY hTY N ad pr R C hQ  _ _ _ h
      · refine dl_iload_n (pc := 120) C 3 dX6_flawOf_120 rfl rfl ?_
        refine dl_iload_n (pc := 121) C 0 dX6_flawOf_121 rfl rfl ?_
        refine dl_icmp_eq (pc := 122) C 127 dX6_flawOf_122 (by decide) h (fun q3 h => ?_) (fun q3 h => ?_)
        · refine dl_sub [1, 2, 0] rfl ?_
          exact cl6_flawOf_t127 l D cI cP cII TY hTY N ad pr R C hQ  _ _ _ h
        · refine dl_iconst (pc := 125) C 2 dX6_flawOf_125 (by decide) ?_
          exact hQ 126 _ _ _ ⟨(dl_r2 h).1, by rw [(dl_r2 h).2]⟩ (vp_nar_int _) dX6_flawOf_126
    · refine dl_iload_n (pc := 43) C 1 dX6_flawOf_43 rfl rfl ?_
      refine dl_iload_n (pc := 44) C 3 dX6_flawOf_44 rfl rfl ?_
      obtain ⟨r5, h1, h⟩ := dl_bi_some h
      refine dl_sIN0 (n := 2) (pc := 45) C (ccl11_bitAt l D TY cc_nw _ _ _ h1) ggX6_flawOf_X11_bitAt rfl rfl rfl nk_RX6_37 (by decide +kernel) (by decide +kernel) (by decide +kernel) ⟨Nat.le_of_ble_eq_true rfl, Nat.le_of_ble_eq_true rfl⟩ rfl rfl (Nat.le_of_ble_eq_true rfl) dX6_flawOf_45 ⟨Nat.zero_le _, Nat.zero_le _⟩ (fun r u hp => ?_)
      obtain ⟨rfl, hu⟩ := hp
      rw [hu]
      clear hu
      refine dl_iconst (pc := 48) C 1 dX6_flawOf_48 (by decide) ?_
      refine dl_icmp_ne (pc := 49) C 104 dX6_flawOf_49 (by decide) h (fun q11 h => ?_) (fun q11 h => ?_)
      · refine dl_aload_n (pc := 52) C 0 dX6_flawOf_52 rfl rfl ?_
        refine dl_get (pc := 53) C hin_X6_flawOf_X6 3 cc_a3 rfl 1 (by decide) lk_X6_flawOf_9 rfl rfl dX6_flawOf_53 ?_
        refine dl_aload_n (pc := 56) C 0 dX6_flawOf_56 rfl rfl ?_
        refine dl_get (pc := 57) C hin_X6_flawOf_X6 3 cc_a3 rfl 0 (by decide) lk_X6_flawOf_25 rfl rfl dX6_flawOf_57 ?_
        refine dl_getN (pc := 60) C hin_X6_flawOf_X2 1 cc_a1 rfl 4 (by decide) nk_RX6_41 rfl rfl dX6_flawOf_60 ?_
        refine dl_iload_n (pc := 63) C 3 dX6_flawOf_63 rfl rfl ?_
        obtain ⟨h0, h⟩ := dl_gd_some h
        refine dl_iald (pc := 64) C 10 0 cc_a13 hTY h0 dX6_flawOf_64 ?_
        obtain ⟨h0, h⟩ := dl_gd_some h
        refine dl_iald (pc := 65) C 17 0 cc_a20 hTY h0 dX6_flawOf_65 ?_
        refine dl_istore (pc := 66) C (fun v6 => [(4, .int v6), (0, .ref (ad 3)), (1, .int x1), (2, .int x2), (3, .int x3)]) dX6_flawOf_66 (by decide) (fun _ => rfl) h (fun v6 h => ?_)
        refine dl_aload_n (pc := 68) C 1 dX6_flawOf_68 rfl rfl ?_
        refine dl_get (pc := 69) C hin_X6_flawOf_X6 3 cc_a3 rfl 1 (by decide) lk_X6_flawOf_9 rfl rfl dX6_flawOf_69 ?_
        refine dl_aload_n (pc := 72) C 1 dX6_flawOf_72 rfl rfl ?_
        refine dl_get (pc := 73) C hin_X6_flawOf_X6 3 cc_a3 rfl 0 (by decide) lk_X6_flawOf_25 rfl rfl dX6_flawOf_73 ?_
        refine dl_getN (pc := 76) C hin_X6_flawOf_X2 1 cc_a1 rfl 5 (by decide) nk_RX6_44 rfl rfl dX6_flawOf_76 ?_
        refine dl_iload_n (pc := 79) C 4 dX6_flawOf_79 rfl rfl ?_
        obtain ⟨h0, h⟩ := dl_gd_some h
        refine dl_iald (pc := 80) C 11 0 cc_a14 hTY h0 dX6_flawOf_80 ?_
        obtain ⟨h0, h⟩ := dl_gd_some h
        refine dl_iald (pc := 81) C 17 0 cc_a20 hTY h0 dX6_flawOf_81 ?_
        refine dl_istore (pc := 82) C (fun v7 => [(5, .int v7), (4, .int v6), (0, .ref (ad 3)), (1, .int x1), (2, .int x2), (3, .int x3)]) dX6_flawOf_82 (by decide) (fun _ => rfl) h (fun v7 h => ?_)
        refine dl_iload (pc := 84) C 1 dX6_flawOf_84 rfl ?_
        refine dl_iload (pc := 86) C 0 dX6_flawOf_86 rfl ?_
        refine dl_icmp_ne (pc := 88) C 93 dX6_flawOf_88 (by decide) h (fun q10 h => ?_) (fun q10 h => ?_)
        · refine dl_iconst (pc := 91) C 1 dX6_flawOf_91 (by decide) ?_
          exact hQ 92 _ _ _ ⟨(dl_r2 h).1, by rw [(dl_r2 h).2]⟩ (vp_nar_int _) dX6_flawOf_92
        · refine dl_iload (pc := 93) C 1 dX6_flawOf_93 rfl ?_
          refine dl_iload (pc := 95) C 0 dX6_flawOf_95 rfl ?_
          refine dl_ior (pc := 97) C dX6_flawOf_97 ?_
          refine dl_istore_n (pc := 98) C (fun v8 => [(2, .int v8), (5, .int v7), (4, .int v6), (0, .ref (ad 3)), (1, .int x1), (3, .int x3)]) dX6_flawOf_98 rfl (by decide) (fun _ => rfl) h (fun v8 h => ?_)
          refine dl_aload_n (pc := 99) C 3 dX6_flawOf_99 rfl rfl ?_
          refine dl_iload_n (pc := 100) C 0 dX6_flawOf_100 rfl rfl ?_
          obtain ⟨g9, h1, h⟩ := dl_bi_some h
          refine dl_vV0 (pc := 101) C (ccl6_joinGroups l D cI cP cII TY hTY N ad pr R _ _ h1) (cwV 1 C.2.2.2.2.1 gX6_flawOf_X6_joinGroups rfl rfl rfl (by decide +kernel) ⟨Nat.le_of_ble_eq_true rfl, Nat.le_of_ble_eq_true rfl⟩) 3 6 cc_a3 rfl rfl rfl (Nat.le_of_ble_eq_true rfl) dX6_flawOf_101 ⟨Nat.zero_le _, Nat.zero_le _⟩ (fun u hp => ?_)
          subst hp
          refine dl_sub [3, 4, 0, 5] rfl ?_
          exact cl6_flawOf_t104 l D cI cP cII TY hTY N ad pr R C hQ ih  _ _ _ _ h
      · refine dl_sub [0, 1, 2, 3] rfl ?_
        exact cl6_flawOf_t104 l D cI cP cII TY hTY N ad pr R C hQ ih  _ _ _ _ h
set_option maxHeartbeats 4000000 in
set_option maxRecDepth 100000 in
theorem cl6_flawOf_t2 {p : Program} {e : Env} {s : State} {m : MethodId} {args : Array Value} {below : List Frame} {meth : Method} {c : Code} {Q : State → Prop} {A : Nat → Prop} (l : Launch) (D : va_G) (cI cP cII : ClassId) (TY : dl_TY) (hTY : TY[0]? = some (cI, .int)) (N : Nat) (ad : Nat → Nat) (pr : Nat → Option Nat) (R : va_W) {r0 : Int32} {g0 : dl_Sg} (C : dl_Cx p s m args c A D TY cc_nw cX6_flawOf 6 yX6_flawOf.cls wsX6_flawOf) (hQ : dl_RtI p l e (headSpec wsX6_flawOf { frames := 2, cells := 0, slots := 0, locals := 44 }).room s m args below meth c Q A D cX6_flawOf 6 0 0 .int (fun r u => r = r0 ∧ u = cc_w cI cP cII ad pr g0 ++ R)) : ∀ (n : Nat) (x1 : Int32) (x2 : Int32) (g : dl_Sg), cl6_flawOf_b2 N n x1 x2 g = some (r0, g0) → dl_At p l e (headSpec wsX6_flawOf { frames := 2, cells := 0, slots := 0, locals := 44 }).room s m args below meth c Q A D 6 0 0 2 [(0, .ref (ad 3)), (1, .int x1), (2, .int x2)] [] (cc_w cI cP cII ad pr g ++ R) := by
  intro n
  induction n with
  | zero => exact fun _ _ _ h => absurd (show (none : Option (Int32 × dl_Sg)) = some _ from h) (by intro q; cases q)
  | succ n ih =>
    intro x1 x2 g h
    rw [cl6_flawOf_b2] at h
    refine dl_iload_n (pc := 2) C 2 dX6_flawOf_2 rfl rfl ?_
    refine dl_aload_n (pc := 3) C 0 dX6_flawOf_3 rfl rfl ?_
    refine dl_get (pc := 4) C hin_X6_flawOf_X6 3 cc_a3 rfl 0 (by decide) lk_X6_flawOf_25 rfl rfl dX6_flawOf_4 ?_
    refine dl_getN (pc := 7) C hin_X6_flawOf_X2 1 cc_a1 rfl 10 (by decide) nk_RX6_29 rfl rfl dX6_flawOf_7 ?_
    refine dl_icmp_ge (pc := 10) C 28 dX6_flawOf_10 (by decide) h (fun q5 h => ?_) (fun q5 h => ?_)
    · refine dl_iconst (pc := 28) C 0 dX6_flawOf_28 (by decide) ?_
      refine dl_istore_n (pc := 29) C (fun v1 => [(2, .int v1), (0, .ref (ad 3)), (1, .int x1)]) dX6_flawOf_29 rfl (by decide) (fun _ => rfl) h (fun v1 h => ?_)
      refine dl_iconst (pc := 30) C 0 dX6_flawOf_30 (by decide) ?_
      refine dl_istore_n (pc := 31) C (fun v2 => [(3, .int v2), (2, .int v1), (0, .ref (ad 3)), (1, .int x1)]) dX6_flawOf_31 rfl (by decide) (fun _ => rfl) h (fun v2 h => ?_)
      refine dl_sub [2, 3, 1, 0] rfl ?_
      exact cl6_flawOf_t32 l D cI cP cII TY hTY N ad pr R C hQ N _ _ _ _ h
    · refine dl_aload_n (pc := 13) C 0 dX6_flawOf_13 rfl rfl ?_
      refine dl_get (pc := 14) C hin_X6_flawOf_X6 3 cc_a3 rfl 1 (by decide) lk_X6_flawOf_9 rfl rfl dX6_flawOf_14 ?_
      refine dl_iload_n (pc := 17) C 2 dX6_flawOf_17 rfl rfl ?_
      refine dl_iconst (pc := 18) C 1 dX6_flawOf_18 (by decide) ?_
      refine dl_iload_n (pc := 19) C 2 dX6_flawOf_19 rfl rfl ?_
      refine dl_ishl (pc := 20) C dX6_flawOf_20 ?_
      obtain ⟨h0, h⟩ := dl_gd_some h
      refine dl_iast (pc := 21) C 17 0 cc_a20 hTY h0 dX6_flawOf_21 cc_s20 ?_
      obtain ⟨g3, h, hg⟩ := dl_nm_some h
      rw [← hg]
      clear hg
      refine dl_iinc (pc := 22) C 2 (fun v4 => [(2, .int v4), (0, .ref (ad 3)), (1, .int x1)]) dX6_flawOf_22 rfl rfl (by decide) (fun _ => rfl) h (fun v4 h => ?_)
      refine dl_goto (pc := 25) C 2 dX6_flawOf_25 (by decide) ?_
      refine dl_sub [1, 2, 0] rfl ?_
      exact ih _ _ _ h
set_option maxHeartbeats 4000000 in
set_option maxRecDepth 100000 in
theorem ccl6_flawOf (l : Launch) (D : va_G) (cI cP cII : ClassId) (TY : dl_TY) (hTY : TY[0]? = some (cI, .int)) (N : Nat) (ad : Nat → Nat) (pr : Nat → Option Nat) (R : va_W) (g : dl_Sg) (x1 : Int32) {r0 : Int32} {g0 : dl_Sg} (h : cl6_flawOf N g x1 = some (r0, g0)) : dl_CtI l D TY cc_nw yX6_flawOf wsX6_flawOf { frames := 2, cells := 0, slots := 0, locals := 44 } 0 0 [.ref (ad 3), .int x1] (cc_w cI cP cII ad pr g ++ R) (fun r u => r = r0 ∧ u = cc_w cI cP cII ad pr g0 ++ R) := by
  refine dl_metI (ty := .int) [(0, .ref (ad 3)), (1, .int x1)] (by decide) rfl (Nat.le_of_ble_eq_true rfl) rfl ?_
  intro p e s m args below meth c Q A C hQ
  unfold cl6_flawOf at h
  refine dl_iconst (pc := 0) C 0 dX6_flawOf_0 (by decide) ?_
  refine dl_istore_n (pc := 1) C (fun v1 => [(2, .int v1), (0, .ref (ad 3)), (1, .int x1)]) dX6_flawOf_1 rfl (by decide) (fun _ => rfl) h (fun v1 h => ?_)
  refine dl_sub [1, 2, 0] rfl ?_
  exact cl6_flawOf_t2 l D cI cP cII TY hTY N ad pr R C hQ N _ _ _ h
theorem hin_X6_tagOf_X2 : ∀ w ∈ u_ws RX2 TX2 18, w ∈ wsX6_tagOf := fun _ h => List.mem_cons_of_mem _ (List.mem_append_right _ h)
theorem hin_X6_tagOf_X6 : ∀ w ∈ u_ws RX6 TX6 9, w ∈ wsX6_tagOf := fun _ h => List.mem_cons_of_mem _ (List.mem_append_left _ (List.mem_append_right _ h))
theorem lk_X6_tagOf_25 : Cond.fieldLink (yX6_tagOf).cls 25 "DripLines$Trees" (TX6 0).2.1 (TX6 0).2.2.1 ∈ wsX6_tagOf := by decide +kernel
set_option maxHeartbeats 4000000 in
set_option maxRecDepth 100000 in
theorem cl6_tagOf_t52 {p : Program} {e : Env} {s : State} {m : MethodId} {args : Array Value} {below : List Frame} {meth : Method} {c : Code} {Q : State → Prop} {A : Nat → Prop} (l : Launch) (D : va_G) (cI cP cII : ClassId) (TY : dl_TY) (hTY : TY[0]? = some (cI, .int)) (N : Nat) (ad : Nat → Nat) (pr : Nat → Option Nat) (R : va_W) (g : dl_Sg) {r0 : Int32} (C : dl_Cx p s m args c A D TY cc_nw cX6_tagOf 5 yX6_tagOf.cls wsX6_tagOf) (hQ : dl_RtI p l e (headSpec wsX6_tagOf { frames := 2, cells := 0, slots := 0, locals := 44 }).room s m args below meth c Q A D cX6_tagOf 5 0 0 .int (fun r u => r = r0 ∧ u = cc_w cI cP cII ad pr g ++ R)) : ∀ (n : Nat) (x2 : Int32) (x3 : Int32) (x4 : Int32), cl6_tagOf_b52 N g n x2 x3 x4 = some r0 → dl_At p l e (headSpec wsX6_tagOf { frames := 2, cells := 0, slots := 0, locals := 44 }).room s m args below meth c Q A D 5 0 0 52 [(0, .ref (ad 3)), (2, .int x2), (3, .int x3), (4, .int x4)] [] (cc_w cI cP cII ad pr g ++ R) := by
  intro n
  induction n with
  | zero => exact fun _ _ _ h => absurd (show (none : Option Int32) = some _ from h) (by intro q; cases q)
  | succ n ih =>
    intro x2 x3 x4 h
    rw [cl6_tagOf_b52] at h
    refine dl_iload (pc := 52) C 3 dX6_tagOf_52 rfl ?_
    refine dl_aload_n (pc := 54) C 0 dX6_tagOf_54 rfl rfl ?_
    refine dl_get (pc := 55) C hin_X6_tagOf_X6 3 cc_a3 rfl 0 (by decide) lk_X6_tagOf_25 rfl rfl dX6_tagOf_55 ?_
    refine dl_getN (pc := 58) C hin_X6_tagOf_X2 1 cc_a1 rfl 10 (by decide) nk_RX6_29 rfl rfl dX6_tagOf_58 ?_
    refine dl_icmp_ge (pc := 61) C 101 dX6_tagOf_61 (by decide) h (fun q4 h => ?_) (fun q4 h => ?_)
    · refine dl_iload_n (pc := 101) C 2 dX6_tagOf_101 rfl rfl ?_
      exact hQ 102 _ _ _ ⟨Option.some.inj h, rfl⟩ (vp_nar_int _) dX6_tagOf_102
    · refine dl_iload_n (pc := 64) C 2 dX6_tagOf_64 rfl rfl ?_
      refine dl_iload_n (pc := 65) C 1 dX6_tagOf_65 rfl rfl ?_
      refine dl_iload (pc := 66) C 3 dX6_tagOf_66 rfl ?_
      obtain ⟨r1, h1, h⟩ := dl_bi_some h
      refine dl_sIN0 (n := 2) (pc := 68) C (ccl11_bitAt l D TY cc_nw _ _ _ h1) ggX6_tagOf_X11_bitAt rfl rfl rfl nk_RX6_37 (by decide +kernel) (by decide +kernel) (by decide +kernel) ⟨Nat.le_of_ble_eq_true rfl, Nat.le_of_ble_eq_true rfl⟩ rfl rfl (Nat.le_of_ble_eq_true rfl) dX6_tagOf_68 ⟨Nat.zero_le _, Nat.zero_le _⟩ (fun r u hp => ?_)
      obtain ⟨rfl, hu⟩ := hp
      rw [hu]
      clear hu
      refine dl_aload_n (pc := 71) C 0 dX6_tagOf_71 rfl rfl ?_
      refine dl_get (pc := 72) C hin_X6_tagOf_X6 3 cc_a3 rfl 0 (by decide) lk_X6_tagOf_25 rfl rfl dX6_tagOf_72 ?_
      refine dl_getN (pc := 75) C hin_X6_tagOf_X2 1 cc_a1 rfl 1 (by decide) nk_RX6_72 rfl rfl dX6_tagOf_75 ?_
      refine dl_iload (pc := 78) C 3 dX6_tagOf_78 rfl ?_
      obtain ⟨h0, h⟩ := dl_gd_some h
      refine dl_iald (pc := 80) C 7 0 cc_a10 hTY h0 dX6_tagOf_80 ?_
      refine dl_aload_n (pc := 81) C 0 dX6_tagOf_81 rfl rfl ?_
      refine dl_get (pc := 82) C hin_X6_tagOf_X6 3 cc_a3 rfl 0 (by decide) lk_X6_tagOf_25 rfl rfl dX6_tagOf_82 ?_
      refine dl_getN (pc := 85) C hin_X6_tagOf_X2 1 cc_a1 rfl 2 (by decide) nk_RX6_75 rfl rfl dX6_tagOf_85 ?_
      refine dl_iload (pc := 88) C 3 dX6_tagOf_88 rfl ?_
      obtain ⟨h0, h⟩ := dl_gd_some h
      refine dl_iald (pc := 90) C 8 0 cc_a11 hTY h0 dX6_tagOf_90 ?_
      refine dl_isub (pc := 91) C dX6_tagOf_91 ?_
      refine dl_imul (pc := 92) C dX6_tagOf_92 ?_
      refine dl_iadd (pc := 93) C dX6_tagOf_93 ?_
      refine dl_istore_n (pc := 94) C (fun v2 => [(3, .int v2), (0, .ref (ad 3)), (2, .int x2), (4, .int x4)]) dX6_tagOf_94 rfl (by decide) (fun _ => rfl) h (fun v2 h => ?_)
      refine dl_iinc (pc := 95) C 3 (fun v3 => [(4, .int v3), (3, .int v2), (0, .ref (ad 3)), (2, .int x2)]) dX6_tagOf_95 rfl rfl (by decide) (fun _ => rfl) h (fun v3 h => ?_)
      refine dl_goto (pc := 98) C 52 dX6_tagOf_98 (by decide) ?_
      refine dl_sub [2, 3, 1, 0] rfl ?_
      exact ih _ _ _ h
set_option maxHeartbeats 4000000 in
set_option maxRecDepth 100000 in
theorem cl6_tagOf_t11 {p : Program} {e : Env} {s : State} {m : MethodId} {args : Array Value} {below : List Frame} {meth : Method} {c : Code} {Q : State → Prop} {A : Nat → Prop} (l : Launch) (D : va_G) (cI cP cII : ClassId) (TY : dl_TY) (hTY : TY[0]? = some (cI, .int)) (N : Nat) (ad : Nat → Nat) (pr : Nat → Option Nat) (R : va_W) (g : dl_Sg) {r0 : Int32} (C : dl_Cx p s m args c A D TY cc_nw cX6_tagOf 5 yX6_tagOf.cls wsX6_tagOf) (hQ : dl_RtI p l e (headSpec wsX6_tagOf { frames := 2, cells := 0, slots := 0, locals := 44 }).room s m args below meth c Q A D cX6_tagOf 5 0 0 .int (fun r u => r = r0 ∧ u = cc_w cI cP cII ad pr g ++ R)) : ∀ (n : Nat) (x1 : Int32) (x2 : Int32) (x3 : Int32) (x4 : Int32), cl6_tagOf_b11 N g n x1 x2 x3 x4 = some r0 → dl_At p l e (headSpec wsX6_tagOf { frames := 2, cells := 0, slots := 0, locals := 44 }).room s m args below meth c Q A D 5 0 0 11 [(0, .ref (ad 3)), (1, .int x1), (2, .int x2), (3, .int x3), (4, .int x4)] [] (cc_w cI cP cII ad pr g ++ R) := by
  intro n
  induction n with
  | zero => exact fun _ _ _ _ h => absurd (show (none : Option Int32) = some _ from h) (by intro q; cases q)
  | succ n ih =>
    intro x1 x2 x3 x4 h
    rw [cl6_tagOf_b11] at h
    refine dl_iload (pc := 11) C 4 dX6_tagOf_11 rfl ?_
    refine dl_aload_n (pc := 13) C 0 dX6_tagOf_13 rfl rfl ?_
    refine dl_get (pc := 14) C hin_X6_tagOf_X6 3 cc_a3 rfl 0 (by decide) lk_X6_tagOf_25 rfl rfl dX6_tagOf_14 ?_
    refine dl_getN (pc := 17) C hin_X6_tagOf_X2 1 cc_a1 rfl 11 (by decide) nk_RX6_34 rfl rfl dX6_tagOf_17 ?_
    refine dl_icmp_ge (pc := 20) C 49 dX6_tagOf_20 (by decide) h (fun q5 h => ?_) (fun q5 h => ?_)
    · refine dl_iconst (pc := 49) C 0 dX6_tagOf_49 (by decide) ?_
      refine dl_istore (pc := 50) C (fun v1 => [(4, .int v1), (0, .ref (ad 3)), (1, .int x1), (2, .int x2), (3, .int x3)]) dX6_tagOf_50 (by decide) (fun _ => rfl) h (fun v1 h => ?_)
      refine dl_sub [1, 3, 4, 0] rfl ?_
      exact cl6_tagOf_t52 l D cI cP cII TY hTY N ad pr R g C hQ N _ _ _ h
    · refine dl_iload_n (pc := 23) C 3 dX6_tagOf_23 rfl rfl ?_
      refine dl_iload_n (pc := 24) C 1 dX6_tagOf_24 rfl rfl ?_
      refine dl_iload (pc := 25) C 4 dX6_tagOf_25 rfl ?_
      obtain ⟨r2, h1, h⟩ := dl_bi_some h
      refine dl_sIN0 (n := 2) (pc := 27) C (ccl11_bitAt l D TY cc_nw _ _ _ h1) ggX6_tagOf_X11_bitAt rfl rfl rfl nk_RX6_37 (by decide +kernel) (by decide +kernel) (by decide +kernel) ⟨Nat.le_of_ble_eq_true rfl, Nat.le_of_ble_eq_true rfl⟩ rfl rfl (Nat.le_of_ble_eq_true rfl) dX6_tagOf_27 ⟨Nat.zero_le _, Nat.zero_le _⟩ (fun r u hp => ?_)
      obtain ⟨rfl, hu⟩ := hp
      rw [hu]
      clear hu
      refine dl_aload_n (pc := 30) C 0 dX6_tagOf_30 rfl rfl ?_
      refine dl_get (pc := 31) C hin_X6_tagOf_X6 3 cc_a3 rfl 0 (by decide) lk_X6_tagOf_25 rfl rfl dX6_tagOf_31 ?_
      refine dl_getN (pc := 34) C hin_X6_tagOf_X2 1 cc_a1 rfl 6 (by decide) nk_RX6_69 rfl rfl dX6_tagOf_34 ?_
      refine dl_iload (pc := 37) C 4 dX6_tagOf_37 rfl ?_
      obtain ⟨h0, h⟩ := dl_gd_some h
      refine dl_iald (pc := 39) C 12 0 cc_a15 hTY h0 dX6_tagOf_39 ?_
      refine dl_imul (pc := 40) C dX6_tagOf_40 ?_
      refine dl_iadd (pc := 41) C dX6_tagOf_41 ?_
      refine dl_istore_n (pc := 42) C (fun v3 => [(3, .int v3), (0, .ref (ad 3)), (1, .int x1), (2, .int x2), (4, .int x4)]) dX6_tagOf_42 rfl (by decide) (fun _ => rfl) h (fun v3 h => ?_)
      refine dl_iinc (pc := 43) C 4 (fun v4 => [(4, .int v4), (3, .int v3), (0, .ref (ad 3)), (1, .int x1), (2, .int x2)]) dX6_tagOf_43 rfl rfl (by decide) (fun _ => rfl) h (fun v4 h => ?_)
      refine dl_goto (pc := 46) C 11 dX6_tagOf_46 (by decide) ?_
      refine dl_sub [2, 3, 4, 1, 0] rfl ?_
      exact ih _ _ _ _ h
set_option maxHeartbeats 4000000 in
set_option maxRecDepth 100000 in
theorem ccl6_tagOf (l : Launch) (D : va_G) (cI cP cII : ClassId) (TY : dl_TY) (hTY : TY[0]? = some (cI, .int)) (N : Nat) (ad : Nat → Nat) (pr : Nat → Option Nat) (R : va_W) (g : dl_Sg) (x1 : Int32) {r0 : Int32} (h : cl6_tagOf N g x1 = some r0) : dl_CtI l D TY cc_nw yX6_tagOf wsX6_tagOf { frames := 2, cells := 0, slots := 0, locals := 44 } 0 0 [.ref (ad 3), .int x1] (cc_w cI cP cII ad pr g ++ R) (fun r u => r = r0 ∧ u = cc_w cI cP cII ad pr g ++ R) := by
  refine dl_metI (ty := .int) [(0, .ref (ad 3)), (1, .int x1)] (by decide) rfl (Nat.le_of_ble_eq_true rfl) rfl ?_
  intro p e s m args below meth c Q A C hQ
  unfold cl6_tagOf at h
  refine dl_aload_n (pc := 0) C 0 dX6_tagOf_0 rfl rfl ?_
  refine dl_iload_n (pc := 1) C 1 dX6_tagOf_1 rfl rfl ?_
  obtain ⟨r1, h1, h⟩ := dl_bi_some h
  refine dl_vI0 (pc := 2) C (ccl6_endsOf l D cI cP cII TY hTY N ad pr R _ _ h1) (cwV 1 C.2.2.2.2.1 gX6_tagOf_X6_endsOf rfl rfl rfl (by decide +kernel) ⟨Nat.le_of_ble_eq_true rfl, Nat.le_of_ble_eq_true rfl⟩) 3 6 cc_a3 rfl rfl rfl (Nat.le_of_ble_eq_true rfl) dX6_tagOf_2 ⟨Nat.zero_le _, Nat.zero_le _⟩ (fun r u hp => ?_)
  obtain ⟨rfl, rfl⟩ := hp
  refine dl_istore_n (pc := 5) C (fun v2 => [(2, .int v2), (0, .ref (ad 3)), (1, .int x1)]) dX6_tagOf_5 rfl (by decide) (fun _ => rfl) h (fun v2 h => ?_)
  refine dl_iconst (pc := 6) C 0 dX6_tagOf_6 (by decide) ?_
  refine dl_istore_n (pc := 7) C (fun v3 => [(3, .int v3), (2, .int v2), (0, .ref (ad 3)), (1, .int x1)]) dX6_tagOf_7 rfl (by decide) (fun _ => rfl) h (fun v3 h => ?_)
  refine dl_iconst (pc := 8) C 0 dX6_tagOf_8 (by decide) ?_
  refine dl_istore (pc := 9) C (fun v4 => [(4, .int v4), (3, .int v3), (2, .int v2), (0, .ref (ad 3)), (1, .int x1)]) dX6_tagOf_9 (by decide) (fun _ => rfl) h (fun v4 h => ?_)
  refine dl_sub [3, 4, 2, 1, 0] rfl ?_
  exact cl6_tagOf_t11 l D cI cP cII TY hTY N ad pr R g C hQ N _ _ _ _ h
theorem hin_X6_spareStreetOf_X2 : ∀ w ∈ u_ws RX2 TX2 18, w ∈ wsX6_spareStreetOf := fun _ h => List.mem_cons_of_mem _ (List.mem_append_right _ h)
theorem hin_X6_spareStreetOf_X6 : ∀ w ∈ u_ws RX6 TX6 9, w ∈ wsX6_spareStreetOf := fun _ h => List.mem_cons_of_mem _ (List.mem_append_left _ (List.mem_append_right _ h))
theorem lk_X6_spareStreetOf_25 : Cond.fieldLink (yX6_spareStreetOf).cls 25 "DripLines$Trees" (TX6 0).2.1 (TX6 0).2.2.1 ∈ wsX6_spareStreetOf := by decide +kernel
set_option maxHeartbeats 4000000 in
set_option maxRecDepth 100000 in
theorem cl6_spareStreetOf_t85 {p : Program} {e : Env} {s : State} {m : MethodId} {args : Array Value} {below : List Frame} {meth : Method} {c : Code} {Q : State → Prop} {A : Nat → Prop} (l : Launch) (D : va_G) (cI cP cII : ClassId) (TY : dl_TY) (hTY : TY[0]? = some (cI, .int)) (N : Nat) (ad : Nat → Nat) (pr : Nat → Option Nat) (R : va_W) (g : dl_Sg) {r0 : Int32} (C : dl_Cx p s m args c A D TY cc_nw cX6_spareStreetOf 5 yX6_spareStreetOf.cls wsX6_spareStreetOf) (hQ : dl_RtI p l e (headSpec wsX6_spareStreetOf { frames := 2, cells := 0, slots := 0, locals := 42 }).room s m args below meth c Q A D cX6_spareStreetOf 5 0 0 .int (fun r u => r = r0 ∧ u = cc_w cI cP cII ad pr g ++ R)) {k2 : Int32 → Int32 → Option Int32} (hk2 : ∀ (x1 : Int32) (x2 : Int32), k2 x1 x2 = some r0 → dl_At p l e (headSpec wsX6_spareStreetOf { frames := 2, cells := 0, slots := 0, locals := 42 }).room s m args below meth c Q A D 5 0 0 2 [(0, .ref (ad 3)), (1, .int x1), (2, .int x2)] [] (cc_w cI cP cII ad pr g ++ R)) (x1 : Int32) (x2 : Int32) (h : cl6_spareStreetOf_b85 N g k2 x1 x2 = some r0) : dl_At p l e (headSpec wsX6_spareStreetOf { frames := 2, cells := 0, slots := 0, locals := 42 }).room s m args below meth c Q A D 5 0 0 85 [(0, .ref (ad 3)), (1, .int x1), (2, .int x2)] [] (cc_w cI cP cII ad pr g ++ R) := by
  unfold cl6_spareStreetOf_b85 at h
  refine dl_iinc (pc := 85) C 2 (fun v1 => [(2, .int v1), (0, .ref (ad 3)), (1, .int x1)]) dX6_spareStreetOf_85 rfl rfl (by decide) (fun _ => rfl) h (fun v1 h => ?_)
  refine dl_goto (pc := 88) C 2 dX6_spareStreetOf_88 (by decide) ?_
  refine dl_sub [1, 2, 0] rfl ?_
  exact hk2 _ _ h
set_option maxHeartbeats 4000000 in
set_option maxRecDepth 100000 in
theorem cl6_spareStreetOf_t2 {p : Program} {e : Env} {s : State} {m : MethodId} {args : Array Value} {below : List Frame} {meth : Method} {c : Code} {Q : State → Prop} {A : Nat → Prop} (l : Launch) (D : va_G) (cI cP cII : ClassId) (TY : dl_TY) (hTY : TY[0]? = some (cI, .int)) (N : Nat) (ad : Nat → Nat) (pr : Nat → Option Nat) (R : va_W) (g : dl_Sg) {r0 : Int32} (C : dl_Cx p s m args c A D TY cc_nw cX6_spareStreetOf 5 yX6_spareStreetOf.cls wsX6_spareStreetOf) (hQ : dl_RtI p l e (headSpec wsX6_spareStreetOf { frames := 2, cells := 0, slots := 0, locals := 42 }).room s m args below meth c Q A D cX6_spareStreetOf 5 0 0 .int (fun r u => r = r0 ∧ u = cc_w cI cP cII ad pr g ++ R)) : ∀ (n : Nat) (x1 : Int32) (x2 : Int32), cl6_spareStreetOf_b2 N g n x1 x2 = some r0 → dl_At p l e (headSpec wsX6_spareStreetOf { frames := 2, cells := 0, slots := 0, locals := 42 }).room s m args below meth c Q A D 5 0 0 2 [(0, .ref (ad 3)), (1, .int x1), (2, .int x2)] [] (cc_w cI cP cII ad pr g ++ R) := by
  intro n
  induction n with
  | zero => exact fun _ _ h => absurd (show (none : Option Int32) = some _ from h) (by intro q; cases q)
  | succ n ih =>
    intro x1 x2 h
    rw [cl6_spareStreetOf_b2] at h
    refine dl_iload_n (pc := 2) C 2 dX6_spareStreetOf_2 rfl rfl ?_
    refine dl_aload_n (pc := 3) C 0 dX6_spareStreetOf_3 rfl rfl ?_
    refine dl_get (pc := 4) C hin_X6_spareStreetOf_X6 3 cc_a3 rfl 0 (by decide) lk_X6_spareStreetOf_25 rfl rfl dX6_spareStreetOf_4 ?_
    refine dl_getN (pc := 7) C hin_X6_spareStreetOf_X2 1 cc_a1 rfl 10 (by decide) nk_RX6_29 rfl rfl dX6_spareStreetOf_7 ?_
    refine dl_icmp_ge (pc := 10) C 91 dX6_spareStreetOf_10 (by decide) h (fun q9 h => ?_) (fun q9 h => ?_)
    · refine dl_iconst (pc := 91) C (-1) dX6_spareStreetOf_91 (by decide) ?_
      exact hQ 92 _ _ _ ⟨Option.some.inj h, rfl⟩ (vp_nar_int _) dX6_spareStreetOf_92
    · refine dl_aload_n (pc := 13) C 0 dX6_spareStreetOf_13 rfl rfl ?_
      refine dl_get (pc := 14) C hin_X6_spareStreetOf_X6 3 cc_a3 rfl 0 (by decide) lk_X6_spareStreetOf_25 rfl rfl dX6_spareStreetOf_14 ?_
      refine dl_getN (pc := 17) C hin_X6_spareStreetOf_X2 1 cc_a1 rfl 3 (by decide) nk_RX6_81 rfl rfl dX6_spareStreetOf_17 ?_
      refine dl_iload_n (pc := 20) C 2 dX6_spareStreetOf_20 rfl rfl ?_
      obtain ⟨h0, h⟩ := dl_gd_some h
      refine dl_iald (pc := 21) C 9 0 cc_a12 hTY h0 dX6_spareStreetOf_21 ?_
      refine dl_iload_n (pc := 22) C 1 dX6_spareStreetOf_22 rfl rfl ?_
      refine dl_iand (pc := 23) C dX6_spareStreetOf_23 ?_
      refine dl_istore_n (pc := 24) C (fun v1 => [(3, .int v1), (0, .ref (ad 3)), (1, .int x1), (2, .int x2)]) dX6_spareStreetOf_24 rfl (by decide) (fun _ => rfl) h (fun v1 h => ?_)
      refine dl_aload_n (pc := 25) C 1 dX6_spareStreetOf_25 rfl rfl ?_
      refine dl_get (pc := 26) C hin_X6_spareStreetOf_X6 3 cc_a3 rfl 0 (by decide) lk_X6_spareStreetOf_25 rfl rfl dX6_spareStreetOf_26 ?_
      refine dl_iload_n (pc := 29) C 3 dX6_spareStreetOf_29 rfl rfl ?_
      obtain ⟨r2, h1, h⟩ := dl_bi_some h
      refine dl_vI0 (pc := 30) C (ccl2_isTap l D cI cP cII TY hTY ad pr R _ _ h1) (cwV 1 C.2.2.2.2.1 gX6_spareStreetOf_X2_isTap rfl rfl rfl (by decide +kernel) ⟨Nat.le_of_ble_eq_true rfl, Nat.le_of_ble_eq_true rfl⟩) 1 2 cc_a1 rfl rfl rfl (Nat.le_of_ble_eq_true rfl) dX6_spareStreetOf_30 ⟨Nat.zero_le _, Nat.zero_le _⟩ (fun r u hp => ?_)
      obtain ⟨rfl, rfl⟩ := hp
      refine dl_if_ne (pc := 33) C 85 dX6_spareStreetOf_33 (by decide) h (fun q8 h => ?_) (fun q8 h => ?_)
      · refine dl_iload_n (pc := 36) C 0 dX6_spareStreetOf_36 rfl rfl ?_
        obtain ⟨r3, h1, h⟩ := dl_bi_some h
        refine dl_sI0 (pc := 37) C (cjd_bitCount l D TY cc_nw _ _ h1) (va_cwS 1 C.2.2.2.2.1 gX6_spareStreetOf_J6_bitCount_0f7a4 rfl rfl rfl (by decide +kernel) ⟨Nat.le_of_ble_eq_true rfl, Nat.le_of_ble_eq_true rfl⟩) rfl rfl (Nat.le_of_ble_eq_true rfl) dX6_spareStreetOf_37 ⟨Nat.zero_le _, Nat.zero_le _⟩ (fun r u hp => ?_)
        obtain ⟨rfl, hu⟩ := hp
        rw [hu]
        clear hu
        refine dl_iconst (pc := 40) C 1 dX6_spareStreetOf_40 (by decide) ?_
        refine dl_icmp_ne (pc := 41) C 85 dX6_spareStreetOf_41 (by decide) h (fun q7 h => ?_) (fun q7 h => ?_)
        · refine dl_iload_n (pc := 44) C 0 dX6_spareStreetOf_44 rfl rfl ?_
          obtain ⟨r4, h1, h⟩ := dl_bi_some h
          refine dl_sI0 (pc := 45) C (cjd_numberOfTrailingZeros l D TY cc_nw _ _ h1) (va_cwS 1 C.2.2.2.2.1 gX6_spareStreetOf_J6_numberOfTrailingZeros_0f7a4 rfl rfl rfl (by decide +kernel) ⟨Nat.le_of_ble_eq_true rfl, Nat.le_of_ble_eq_true rfl⟩) rfl rfl (Nat.le_of_ble_eq_true rfl) dX6_spareStreetOf_45 ⟨Nat.zero_le _, Nat.zero_le _⟩ (fun r u hp => ?_)
          obtain ⟨rfl, hu⟩ := hp
          rw [hu]
          clear hu
          refine dl_istore (pc := 48) C (fun v5 => [(4, .int v5), (3, .int v1), (0, .ref (ad 3)), (1, .int x1), (2, .int x2)]) dX6_spareStreetOf_48 (by decide) (fun _ => rfl) h (fun v5 h => ?_)
          refine dl_aload_n (pc := 50) C 2 dX6_spareStreetOf_50 rfl rfl ?_
          refine dl_get (pc := 51) C hin_X6_spareStreetOf_X6 3 cc_a3 rfl 0 (by decide) lk_X6_spareStreetOf_25 rfl rfl dX6_spareStreetOf_51 ?_
          refine dl_getN (pc := 54) C hin_X6_spareStreetOf_X2 1 cc_a1 rfl 6 (by decide) nk_RX6_69 rfl rfl dX6_spareStreetOf_54 ?_
          refine dl_iload (pc := 57) C 0 dX6_spareStreetOf_57 rfl ?_
          obtain ⟨h0, h⟩ := dl_gd_some h
          refine dl_iald (pc := 59) C 12 0 cc_a15 hTY h0 dX6_spareStreetOf_59 ?_
          refine dl_aload_n (pc := 60) C 2 dX6_spareStreetOf_60 rfl rfl ?_
          refine dl_get (pc := 61) C hin_X6_spareStreetOf_X6 3 cc_a3 rfl 0 (by decide) lk_X6_spareStreetOf_25 rfl rfl dX6_spareStreetOf_61 ?_
          refine dl_getN (pc := 64) C hin_X6_spareStreetOf_X2 1 cc_a1 rfl 1 (by decide) nk_RX6_72 rfl rfl dX6_spareStreetOf_64 ?_
          refine dl_iload_n (pc := 67) C 4 dX6_spareStreetOf_67 rfl rfl ?_
          obtain ⟨h0, h⟩ := dl_gd_some h
          refine dl_iald (pc := 68) C 7 0 cc_a10 hTY h0 dX6_spareStreetOf_68 ?_
          refine dl_iadd (pc := 69) C dX6_spareStreetOf_69 ?_
          refine dl_aload_n (pc := 70) C 2 dX6_spareStreetOf_70 rfl rfl ?_
          refine dl_get (pc := 71) C hin_X6_spareStreetOf_X6 3 cc_a3 rfl 0 (by decide) lk_X6_spareStreetOf_25 rfl rfl dX6_spareStreetOf_71 ?_
          refine dl_getN (pc := 74) C hin_X6_spareStreetOf_X2 1 cc_a1 rfl 2 (by decide) nk_RX6_75 rfl rfl dX6_spareStreetOf_74 ?_
          refine dl_iload_n (pc := 77) C 4 dX6_spareStreetOf_77 rfl rfl ?_
          obtain ⟨h0, h⟩ := dl_gd_some h
          refine dl_iald (pc := 78) C 8 0 cc_a11 hTY h0 dX6_spareStreetOf_78 ?_
          refine dl_icmp_lt (pc := 79) C 85 dX6_spareStreetOf_79 (by decide) h (fun q6 h => ?_) (fun q6 h => ?_)
          · refine dl_sub [2, 3, 4] rfl ?_
            exact cl6_spareStreetOf_t85 l D cI cP cII TY hTY N ad pr R g C hQ ih  _ _ h
          · refine dl_iload (pc := 82) C 0 dX6_spareStreetOf_82 rfl ?_
            exact hQ 84 _ _ _ ⟨Option.some.inj h, rfl⟩ (vp_nar_int _) dX6_spareStreetOf_84
        · refine dl_sub [1, 2, 3] rfl ?_
          exact cl6_spareStreetOf_t85 l D cI cP cII TY hTY N ad pr R g C hQ ih  _ _ h
      · refine dl_sub [1, 2, 3] rfl ?_
        exact cl6_spareStreetOf_t85 l D cI cP cII TY hTY N ad pr R g C hQ ih  _ _ h
set_option maxHeartbeats 4000000 in
set_option maxRecDepth 100000 in
theorem ccl6_spareStreetOf (l : Launch) (D : va_G) (cI cP cII : ClassId) (TY : dl_TY) (hTY : TY[0]? = some (cI, .int)) (N : Nat) (ad : Nat → Nat) (pr : Nat → Option Nat) (R : va_W) (g : dl_Sg) (x1 : Int32) {r0 : Int32} (h : cl6_spareStreetOf N g x1 = some r0) : dl_CtI l D TY cc_nw yX6_spareStreetOf wsX6_spareStreetOf { frames := 2, cells := 0, slots := 0, locals := 42 } 0 0 [.ref (ad 3), .int x1] (cc_w cI cP cII ad pr g ++ R) (fun r u => r = r0 ∧ u = cc_w cI cP cII ad pr g ++ R) := by
  refine dl_metI (ty := .int) [(0, .ref (ad 3)), (1, .int x1)] (by decide) rfl (Nat.le_of_ble_eq_true rfl) rfl ?_
  intro p e s m args below meth c Q A C hQ
  unfold cl6_spareStreetOf at h
  refine dl_iconst (pc := 0) C 0 dX6_spareStreetOf_0 (by decide) ?_
  refine dl_istore_n (pc := 1) C (fun v1 => [(2, .int v1), (0, .ref (ad 3)), (1, .int x1)]) dX6_spareStreetOf_1 rfl (by decide) (fun _ => rfl) h (fun v1 h => ?_)
  refine dl_sub [1, 2, 0] rfl ?_
  exact cl6_spareStreetOf_t2 l D cI cP cII TY hTY N ad pr R g C hQ N _ _ h
set_option maxHeartbeats 4000000 in
set_option maxRecDepth 100000 in
theorem cl6_trimmed_t4 {p : Program} {e : Env} {s : State} {m : MethodId} {args : Array Value} {below : List Frame} {meth : Method} {c : Code} {Q : State → Prop} {A : Nat → Prop} (l : Launch) (D : va_G) (cI cP cII : ClassId) (TY : dl_TY) (hTY : TY[0]? = some (cI, .int)) (N : Nat) (ad : Nat → Nat) (pr : Nat → Option Nat) (R : va_W) (g : dl_Sg) {r0 : Int32} (C : dl_Cx p s m args c A D TY cc_nw cX6_trimmed 5 yX6_trimmed.cls wsX6_trimmed) (hQ : dl_RtI p l e (headSpec wsX6_trimmed { frames := 3, cells := 0, slots := 0, locals := 66 }).room s m args below meth c Q A D cX6_trimmed 5 0 0 .int (fun r u => r = r0 ∧ u = cc_w cI cP cII ad pr g ++ R)) : ∀ (n : Nat) (x2 : Int32) (x3 : Int32), cl6_trimmed_b4 N g n x2 x3 = some r0 → dl_At p l e (headSpec wsX6_trimmed { frames := 3, cells := 0, slots := 0, locals := 66 }).room s m args below meth c Q A D 5 0 0 4 [(0, .ref (ad 3)), (2, .int x2), (3, .int x3)] [] (cc_w cI cP cII ad pr g ++ R) := by
  intro n
  induction n with
  | zero => exact fun _ _ h => absurd (show (none : Option Int32) = some _ from h) (by intro q; cases q)
  | succ n ih =>
    intro x2 x3 h
    rw [cl6_trimmed_b4] at h
    refine dl_iload_n (pc := 4) C 2 dX6_trimmed_4 rfl rfl ?_
    refine dl_bipush (pc := 5) C 16 dX6_trimmed_5 (by decide) ?_
    refine dl_icmp_ge (pc := 7) C 40 dX6_trimmed_7 (by decide) h (fun q6 h => ?_) (fun q6 h => ?_)
    · refine dl_iload_n (pc := 40) C 1 dX6_trimmed_40 rfl rfl ?_
      exact hQ 41 _ _ _ ⟨Option.some.inj h, rfl⟩ (vp_nar_int _) dX6_trimmed_41
    · refine dl_aload_n (pc := 10) C 0 dX6_trimmed_10 rfl rfl ?_
      refine dl_iload_n (pc := 11) C 1 dX6_trimmed_11 rfl rfl ?_
      obtain ⟨r1, h1, h⟩ := dl_bi_some h
      refine dl_vI0 (pc := 12) C (ccl6_spareStreetOf l D cI cP cII TY hTY N ad pr R _ _ h1) (cwV 1 C.2.2.2.2.1 gX6_trimmed_X6_spareStreetOf rfl rfl rfl (by decide +kernel) ⟨Nat.le_of_ble_eq_true rfl, Nat.le_of_ble_eq_true rfl⟩) 3 6 cc_a3 rfl rfl rfl (Nat.le_of_ble_eq_true rfl) dX6_trimmed_12 ⟨Nat.zero_le _, Nat.zero_le _⟩ (fun r u hp => ?_)
      obtain ⟨rfl, rfl⟩ := hp
      refine dl_istore (pc := 15) C (fun v2 => [(4, .int v2), (0, .ref (ad 3)), (2, .int x2), (3, .int x3)]) dX6_trimmed_15 (by decide) (fun _ => rfl) h (fun v2 h => ?_)
      refine dl_iload (pc := 17) C 0 dX6_trimmed_17 rfl ?_
      refine dl_iconst (pc := 19) C (-1) dX6_trimmed_19 (by decide) ?_
      refine dl_icmp_ne (pc := 20) C 25 dX6_trimmed_20 (by decide) h (fun q5 h => ?_) (fun q5 h => ?_)
      · refine dl_iload_n (pc := 23) C 2 dX6_trimmed_23 rfl rfl ?_
        exact hQ 24 _ _ _ ⟨Option.some.inj h, rfl⟩ (vp_nar_int _) dX6_trimmed_24
      · refine dl_iload_n (pc := 25) C 2 dX6_trimmed_25 rfl rfl ?_
        refine dl_iconst (pc := 26) C 1 dX6_trimmed_26 (by decide) ?_
        refine dl_iload (pc := 27) C 0 dX6_trimmed_27 rfl ?_
        refine dl_ishl (pc := 29) C dX6_trimmed_29 ?_
        refine dl_iconst (pc := 30) C (-1) dX6_trimmed_30 (by decide) ?_
        refine dl_ixor (pc := 31) C dX6_trimmed_31 ?_
        refine dl_iand (pc := 32) C dX6_trimmed_32 ?_
        refine dl_istore_n (pc := 33) C (fun v3 => [(2, .int v3), (4, .int v2), (0, .ref (ad 3)), (3, .int x3)]) dX6_trimmed_33 rfl (by decide) (fun _ => rfl) h (fun v3 h => ?_)
        refine dl_iinc (pc := 34) C 3 (fun v4 => [(3, .int v4), (2, .int v3), (4, .int v2), (0, .ref (ad 3))]) dX6_trimmed_34 rfl rfl (by decide) (fun _ => rfl) h (fun v4 h => ?_)
        refine dl_goto (pc := 37) C 4 dX6_trimmed_37 (by decide) ?_
        refine dl_sub [3, 1, 0] rfl ?_
        exact ih _ _ h
set_option maxHeartbeats 4000000 in
set_option maxRecDepth 100000 in
theorem ccl6_trimmed (l : Launch) (D : va_G) (cI cP cII : ClassId) (TY : dl_TY) (hTY : TY[0]? = some (cI, .int)) (N : Nat) (ad : Nat → Nat) (pr : Nat → Option Nat) (R : va_W) (g : dl_Sg) (x1 : Int32) {r0 : Int32} (h : cl6_trimmed N g x1 = some r0) : dl_CtI l D TY cc_nw yX6_trimmed wsX6_trimmed { frames := 3, cells := 0, slots := 0, locals := 66 } 0 0 [.ref (ad 3), .int x1] (cc_w cI cP cII ad pr g ++ R) (fun r u => r = r0 ∧ u = cc_w cI cP cII ad pr g ++ R) := by
  refine dl_metI (ty := .int) [(0, .ref (ad 3)), (1, .int x1)] (by decide) rfl (Nat.le_of_ble_eq_true rfl) rfl ?_
  intro p e s m args below meth c Q A C hQ
  unfold cl6_trimmed at h
  refine dl_iload_n (pc := 0) C 1 dX6_trimmed_0 rfl rfl ?_
  refine dl_istore_n (pc := 1) C (fun v1 => [(2, .int v1), (0, .ref (ad 3)), (1, .int x1)]) dX6_trimmed_1 rfl (by decide) (fun _ => rfl) h (fun v1 h => ?_)
  refine dl_iconst (pc := 2) C 0 dX6_trimmed_2 (by decide) ?_
  refine dl_istore_n (pc := 3) C (fun v2 => [(3, .int v2), (2, .int v1), (0, .ref (ad 3)), (1, .int x1)]) dX6_trimmed_3 rfl (by decide) (fun _ => rfl) h (fun v2 h => ?_)
  refine dl_sub [2, 1, 0] rfl ?_
  exact cl6_trimmed_t4 l D cI cP cII TY hTY N ad pr R g C hQ N _ _ h
theorem hin_X6_swapped_X2 : ∀ w ∈ u_ws RX2 TX2 18, w ∈ wsX6_swapped := fun _ h => List.mem_cons_of_mem _ (List.mem_append_right _ h)
theorem hin_X6_swapped_X6 : ∀ w ∈ u_ws RX6 TX6 9, w ∈ wsX6_swapped := fun _ h => List.mem_cons_of_mem _ (List.mem_append_left _ (List.mem_append_right _ h))
theorem lk_X6_swapped_25 : Cond.fieldLink (yX6_swapped).cls 25 "DripLines$Trees" (TX6 0).2.1 (TX6 0).2.2.1 ∈ wsX6_swapped := by decide +kernel
set_option maxHeartbeats 4000000 in
set_option maxRecDepth 100000 in
theorem cl6_swapped_t105 {p : Program} {e : Env} {s : State} {m : MethodId} {args : Array Value} {below : List Frame} {meth : Method} {c : Code} {Q : State → Prop} {A : Nat → Prop} (l : Launch) (D : va_G) (cI cP cII : ClassId) (TY : dl_TY) (hTY : TY[0]? = some (cI, .int)) (N : Nat) (ad : Nat → Nat) (pr : Nat → Option Nat) (R : va_W) {r0 : Int32} {g0 : dl_Sg} (C : dl_Cx p s m args c A D TY cc_nw cX6_swapped 6 yX6_swapped.cls wsX6_swapped) (hQ : dl_RtI p l e (headSpec wsX6_swapped { frames := 3, cells := 0, slots := 0, locals := 69 }).room s m args below meth c Q A D cX6_swapped 6 0 0 .int (fun r u => r = r0 ∧ u = cc_w cI cP cII ad pr g0 ++ R)) {k8 : Int32 → Int32 → Int32 → dl_Sg → Option (Int32 × dl_Sg)} (hk8 : ∀ (x1 : Int32) (x2 : Int32) (x3 : Int32) (g : dl_Sg), k8 x1 x2 x3 g = some (r0, g0) → dl_At p l e (headSpec wsX6_swapped { frames := 3, cells := 0, slots := 0, locals := 69 }).room s m args below meth c Q A D 6 0 0 8 [(0, .ref (ad 3)), (1, .int x1), (2, .int x2), (3, .int x3)] [] (cc_w cI cP cII ad pr g ++ R)) (x1 : Int32) (x2 : Int32) (x3 : Int32) (g : dl_Sg) (h : cl6_swapped_b105 N k8 x1 x2 x3 g = some (r0, g0)) : dl_At p l e (headSpec wsX6_swapped { frames := 3, cells := 0, slots := 0, locals := 69 }).room s m args below meth c Q A D 6 0 0 105 [(0, .ref (ad 3)), (1, .int x1), (2, .int x2), (3, .int x3)] [] (cc_w cI cP cII ad pr g ++ R) := by
  unfold cl6_swapped_b105 at h
  refine dl_iinc (pc := 105) C 3 (fun v1 => [(3, .int v1), (0, .ref (ad 3)), (1, .int x1), (2, .int x2)]) dX6_swapped_105 rfl rfl (by decide) (fun _ => rfl) h (fun v1 h => ?_)
  refine dl_goto (pc := 108) C 8 dX6_swapped_108 (by decide) ?_
  refine dl_sub [1, 2, 3, 0] rfl ?_
  exact hk8 _ _ _ _ h
set_option maxHeartbeats 4000000 in
set_option maxRecDepth 100000 in
theorem cl6_swapped_t99 {p : Program} {e : Env} {s : State} {m : MethodId} {args : Array Value} {below : List Frame} {meth : Method} {c : Code} {Q : State → Prop} {A : Nat → Prop} (l : Launch) (D : va_G) (cI cP cII : ClassId) (TY : dl_TY) (hTY : TY[0]? = some (cI, .int)) (N : Nat) (ad : Nat → Nat) (pr : Nat → Option Nat) (R : va_W) {r0 : Int32} {g0 : dl_Sg} (C : dl_Cx p s m args c A D TY cc_nw cX6_swapped 6 yX6_swapped.cls wsX6_swapped) (hQ : dl_RtI p l e (headSpec wsX6_swapped { frames := 3, cells := 0, slots := 0, locals := 69 }).room s m args below meth c Q A D cX6_swapped 6 0 0 .int (fun r u => r = r0 ∧ u = cc_w cI cP cII ad pr g0 ++ R)) {k8 : Int32 → Int32 → Int32 → dl_Sg → Option (Int32 × dl_Sg)} (hk8 : ∀ (x1 : Int32) (x2 : Int32) (x3 : Int32) (g : dl_Sg), k8 x1 x2 x3 g = some (r0, g0) → dl_At p l e (headSpec wsX6_swapped { frames := 3, cells := 0, slots := 0, locals := 69 }).room s m args below meth c Q A D 6 0 0 8 [(0, .ref (ad 3)), (1, .int x1), (2, .int x2), (3, .int x3)] [] (cc_w cI cP cII ad pr g ++ R)) {k41 : Int32 → Int32 → Int32 → Int32 → dl_Sg → Option (Int32 × dl_Sg)} (hk41 : ∀ (x1 : Int32) (x2 : Int32) (x3 : Int32) (x4 : Int32) (g : dl_Sg), k41 x1 x2 x3 x4 g = some (r0, g0) → dl_At p l e (headSpec wsX6_swapped { frames := 3, cells := 0, slots := 0, locals := 69 }).room s m args below meth c Q A D 6 0 0 41 [(0, .ref (ad 3)), (1, .int x1), (2, .int x2), (3, .int x3), (4, .int x4)] [] (cc_w cI cP cII ad pr g ++ R)) (x1 : Int32) (x2 : Int32) (x3 : Int32) (x4 : Int32) (g : dl_Sg) (h : cl6_swapped_b99 N k8 k41 x1 x2 x3 x4 g = some (r0, g0)) : dl_At p l e (headSpec wsX6_swapped { frames := 3, cells := 0, slots := 0, locals := 69 }).room s m args below meth c Q A D 6 0 0 99 [(0, .ref (ad 3)), (1, .int x1), (2, .int x2), (3, .int x3), (4, .int x4)] [] (cc_w cI cP cII ad pr g ++ R) := by
  unfold cl6_swapped_b99 at h
  refine dl_iinc (pc := 99) C 4 (fun v1 => [(4, .int v1), (0, .ref (ad 3)), (1, .int x1), (2, .int x2), (3, .int x3)]) dX6_swapped_99 rfl rfl (by decide) (fun _ => rfl) h (fun v1 h => ?_)
  refine dl_goto (pc := 102) C 41 dX6_swapped_102 (by decide) ?_
  refine dl_sub [1, 2, 3, 4, 0] rfl ?_
  exact hk41 _ _ _ _ _ h
set_option maxHeartbeats 4000000 in
set_option maxRecDepth 100000 in
theorem cl6_swapped_t41 {p : Program} {e : Env} {s : State} {m : MethodId} {args : Array Value} {below : List Frame} {meth : Method} {c : Code} {Q : State → Prop} {A : Nat → Prop} (l : Launch) (D : va_G) (cI cP cII : ClassId) (TY : dl_TY) (hTY : TY[0]? = some (cI, .int)) (N : Nat) (ad : Nat → Nat) (pr : Nat → Option Nat) (R : va_W) {r0 : Int32} {g0 : dl_Sg} (C : dl_Cx p s m args c A D TY cc_nw cX6_swapped 6 yX6_swapped.cls wsX6_swapped) (hQ : dl_RtI p l e (headSpec wsX6_swapped { frames := 3, cells := 0, slots := 0, locals := 69 }).room s m args below meth c Q A D cX6_swapped 6 0 0 .int (fun r u => r = r0 ∧ u = cc_w cI cP cII ad pr g0 ++ R)) {k8 : Int32 → Int32 → Int32 → dl_Sg → Option (Int32 × dl_Sg)} (hk8 : ∀ (x1 : Int32) (x2 : Int32) (x3 : Int32) (g : dl_Sg), k8 x1 x2 x3 g = some (r0, g0) → dl_At p l e (headSpec wsX6_swapped { frames := 3, cells := 0, slots := 0, locals := 69 }).room s m args below meth c Q A D 6 0 0 8 [(0, .ref (ad 3)), (1, .int x1), (2, .int x2), (3, .int x3)] [] (cc_w cI cP cII ad pr g ++ R)) : ∀ (n : Nat) (x1 : Int32) (x2 : Int32) (x3 : Int32) (x4 : Int32) (g : dl_Sg), cl6_swapped_b41 N k8 n x1 x2 x3 x4 g = some (r0, g0) → dl_At p l e (headSpec wsX6_swapped { frames := 3, cells := 0, slots := 0, locals := 69 }).room s m args below meth c Q A D 6 0 0 41 [(0, .ref (ad 3)), (1, .int x1), (2, .int x2), (3, .int x3), (4, .int x4)] [] (cc_w cI cP cII ad pr g ++ R) := by
  intro n
  induction n with
  | zero => exact fun _ _ _ _ _ h => absurd (show (none : Option (Int32 × dl_Sg)) = some _ from h) (by intro q; cases q)
  | succ n ih =>
    intro x1 x2 x3 x4 g h
    rw [cl6_swapped_b41] at h
    refine dl_iload (pc := 41) C 4 dX6_swapped_41 rfl ?_
    refine dl_aload_n (pc := 43) C 0 dX6_swapped_43 rfl rfl ?_
    refine dl_get (pc := 44) C hin_X6_swapped_X6 3 cc_a3 rfl 0 (by decide) lk_X6_swapped_25 rfl rfl dX6_swapped_44 ?_
    refine dl_getN (pc := 47) C hin_X6_swapped_X2 1 cc_a1 rfl 11 (by decide) nk_RX6_34 rfl rfl dX6_swapped_47 ?_
    refine dl_icmp_ge (pc := 50) C 105 dX6_swapped_50 (by decide) h (fun q9 h => ?_) (fun q9 h => ?_)
    · refine dl_sub [0, 1, 2, 3] rfl ?_
      exact cl6_swapped_t105 l D cI cP cII TY hTY N ad pr R C hQ hk8  _ _ _ _ h
    · refine dl_iload_n (pc := 53) C 1 dX6_swapped_53 rfl rfl ?_
      refine dl_iconst (pc := 54) C 1 dX6_swapped_54 (by decide) ?_
      refine dl_iload (pc := 55) C 4 dX6_swapped_55 rfl ?_
      refine dl_ishl (pc := 57) C dX6_swapped_57 ?_
      refine dl_iconst (pc := 58) C (-1) dX6_swapped_58 (by decide) ?_
      refine dl_ixor (pc := 59) C dX6_swapped_59 ?_
      refine dl_iand (pc := 60) C dX6_swapped_60 ?_
      refine dl_iconst (pc := 61) C 1 dX6_swapped_61 (by decide) ?_
      refine dl_iload_n (pc := 62) C 3 dX6_swapped_62 rfl rfl ?_
      refine dl_ishl (pc := 63) C dX6_swapped_63 ?_
      refine dl_ior (pc := 64) C dX6_swapped_64 ?_
      refine dl_istore (pc := 65) C (fun v1 => [(5, .int v1), (0, .ref (ad 3)), (1, .int x1), (2, .int x2), (3, .int x3), (4, .int x4)]) dX6_swapped_65 (by decide) (fun _ => rfl) h (fun v1 h => ?_)
      refine dl_iload_n (pc := 67) C 2 dX6_swapped_67 rfl rfl ?_
      refine dl_iload (pc := 68) C 5 dX6_swapped_68 rfl ?_
      obtain ⟨r2, h1, h⟩ := dl_bi_some h
      refine dl_sIN0 (n := 2) (pc := 70) C (ccl11_bitAt l D TY cc_nw _ _ _ h1) ggX6_swapped_X11_bitAt rfl rfl rfl nk_RX6_37 (by decide +kernel) (by decide +kernel) (by decide +kernel) ⟨Nat.le_of_ble_eq_true rfl, Nat.le_of_ble_eq_true rfl⟩ rfl rfl (Nat.le_of_ble_eq_true rfl) dX6_swapped_70 ⟨Nat.zero_le _, Nat.zero_le _⟩ (fun r u hp => ?_)
      obtain ⟨rfl, hu⟩ := hp
      rw [hu]
      clear hu
      refine dl_iconst (pc := 73) C 1 dX6_swapped_73 (by decide) ?_
      refine dl_icmp_ne (pc := 74) C 99 dX6_swapped_74 (by decide) h (fun q8 h => ?_) (fun q8 h => ?_)
      · refine dl_aload_n (pc := 77) C 1 dX6_swapped_77 rfl rfl ?_
        refine dl_iload (pc := 78) C 0 dX6_swapped_78 rfl ?_
        obtain ⟨r3, h1, h⟩ := dl_bi_some h
        refine dl_vI0 (pc := 80) C (ccl6_tagOf l D cI cP cII TY hTY N ad pr R _ _ h1) (cwV 1 C.2.2.2.2.1 gX6_swapped_X6_tagOf rfl rfl rfl (by decide +kernel) ⟨Nat.le_of_ble_eq_true rfl, Nat.le_of_ble_eq_true rfl⟩) 3 6 cc_a3 rfl rfl rfl (Nat.le_of_ble_eq_true rfl) dX6_swapped_80 ⟨Nat.zero_le _, Nat.zero_le _⟩ (fun r u hp => ?_)
        obtain ⟨rfl, rfl⟩ := hp
        refine dl_iload_n (pc := 83) C 3 dX6_swapped_83 rfl rfl ?_
        refine dl_icmp_ge (pc := 84) C 99 dX6_swapped_84 (by decide) h (fun q7 h => ?_) (fun q7 h => ?_)
        · refine dl_sub [1, 2, 3, 4, 5] rfl ?_
          exact cl6_swapped_t99 l D cI cP cII TY hTY N ad pr R C hQ hk8 ih  _ _ _ _ _ h
        · refine dl_aload_n (pc := 87) C 1 dX6_swapped_87 rfl rfl ?_
          refine dl_iload (pc := 88) C 0 dX6_swapped_88 rfl ?_
          obtain ⟨r4, g5, h1, h⟩ := dl_b2_some h
          refine dl_vI0 (pc := 90) C (ccl6_flawOf l D cI cP cII TY hTY N ad pr R _ _ h1) (cwV 1 C.2.2.2.2.1 gX6_swapped_X6_flawOf rfl rfl rfl (by decide +kernel) ⟨Nat.le_of_ble_eq_true rfl, Nat.le_of_ble_eq_true rfl⟩) 3 6 cc_a3 rfl rfl rfl (Nat.le_of_ble_eq_true rfl) dX6_swapped_90 ⟨Nat.zero_le _, Nat.zero_le _⟩ (fun r u hp => ?_)
          obtain ⟨rfl, rfl⟩ := hp
          refine dl_if_ne (pc := 93) C 99 dX6_swapped_93 (by decide) h (fun q6 h => ?_) (fun q6 h => ?_)
          · refine dl_iload (pc := 96) C 0 dX6_swapped_96 rfl ?_
            exact hQ 98 _ _ _ ⟨(dl_r2 h).1, by rw [(dl_r2 h).2]⟩ (vp_nar_int _) dX6_swapped_98
          · refine dl_sub [1, 2, 3, 4, 5] rfl ?_
            exact cl6_swapped_t99 l D cI cP cII TY hTY N ad pr R C hQ hk8 ih  _ _ _ _ _ h
      · refine dl_sub [1, 2, 3, 4, 5] rfl ?_
        exact cl6_swapped_t99 l D cI cP cII TY hTY N ad pr R C hQ hk8 ih  _ _ _ _ _ h
set_option maxHeartbeats 4000000 in
set_option maxRecDepth 100000 in
theorem cl6_swapped_t8 {p : Program} {e : Env} {s : State} {m : MethodId} {args : Array Value} {below : List Frame} {meth : Method} {c : Code} {Q : State → Prop} {A : Nat → Prop} (l : Launch) (D : va_G) (cI cP cII : ClassId) (TY : dl_TY) (hTY : TY[0]? = some (cI, .int)) (N : Nat) (ad : Nat → Nat) (pr : Nat → Option Nat) (R : va_W) {r0 : Int32} {g0 : dl_Sg} (C : dl_Cx p s m args c A D TY cc_nw cX6_swapped 6 yX6_swapped.cls wsX6_swapped) (hQ : dl_RtI p l e (headSpec wsX6_swapped { frames := 3, cells := 0, slots := 0, locals := 69 }).room s m args below meth c Q A D cX6_swapped 6 0 0 .int (fun r u => r = r0 ∧ u = cc_w cI cP cII ad pr g0 ++ R)) : ∀ (n : Nat) (x1 : Int32) (x2 : Int32) (x3 : Int32) (g : dl_Sg), cl6_swapped_b8 N n x1 x2 x3 g = some (r0, g0) → dl_At p l e (headSpec wsX6_swapped { frames := 3, cells := 0, slots := 0, locals := 69 }).room s m args below meth c Q A D 6 0 0 8 [(0, .ref (ad 3)), (1, .int x1), (2, .int x2), (3, .int x3)] [] (cc_w cI cP cII ad pr g ++ R) := by
  intro n
  induction n with
  | zero => exact fun _ _ _ _ h => absurd (show (none : Option (Int32 × dl_Sg)) = some _ from h) (by intro q; cases q)
  | succ n ih =>
    intro x1 x2 x3 g h
    rw [cl6_swapped_b8] at h
    refine dl_iload_n (pc := 8) C 3 dX6_swapped_8 rfl rfl ?_
    refine dl_aload_n (pc := 9) C 0 dX6_swapped_9 rfl rfl ?_
    refine dl_get (pc := 10) C hin_X6_swapped_X6 3 cc_a3 rfl 0 (by decide) lk_X6_swapped_25 rfl rfl dX6_swapped_10 ?_
    refine dl_getN (pc := 13) C hin_X6_swapped_X2 1 cc_a1 rfl 11 (by decide) nk_RX6_34 rfl rfl dX6_swapped_13 ?_
    refine dl_icmp_ge (pc := 16) C 111 dX6_swapped_16 (by decide) h (fun q6 h => ?_) (fun q6 h => ?_)
    · refine dl_iload_n (pc := 111) C 1 dX6_swapped_111 rfl rfl ?_
      exact hQ 112 _ _ _ ⟨(dl_r2 h).1, by rw [(dl_r2 h).2]⟩ (vp_nar_int _) dX6_swapped_112
    · refine dl_aload_n (pc := 19) C 0 dX6_swapped_19 rfl rfl ?_
      refine dl_get (pc := 20) C hin_X6_swapped_X6 3 cc_a3 rfl 0 (by decide) lk_X6_swapped_25 rfl rfl dX6_swapped_20 ?_
      refine dl_iload_n (pc := 23) C 3 dX6_swapped_23 rfl rfl ?_
      obtain ⟨r1, h1, h⟩ := dl_bi_some h
      refine dl_vI0 (pc := 24) C (ccl2_isThere l D cI cP cII TY hTY ad pr R _ _ h1) (cwV 1 C.2.2.2.2.1 gX6_swapped_X2_isThere rfl rfl rfl (by decide +kernel) ⟨Nat.le_of_ble_eq_true rfl, Nat.le_of_ble_eq_true rfl⟩) 1 2 cc_a1 rfl rfl rfl (Nat.le_of_ble_eq_true rfl) dX6_swapped_24 ⟨Nat.zero_le _, Nat.zero_le _⟩ (fun r u hp => ?_)
      obtain ⟨rfl, rfl⟩ := hp
      refine dl_if_eq (pc := 27) C 105 dX6_swapped_27 (by decide) h (fun q5 h => ?_) (fun q5 h => ?_)
      · refine dl_sub [0, 1, 2, 3] rfl ?_
        exact cl6_swapped_t105 l D cI cP cII TY hTY N ad pr R C hQ ih  _ _ _ _ h
      · refine dl_iload_n (pc := 30) C 1 dX6_swapped_30 rfl rfl ?_
        refine dl_iload_n (pc := 31) C 3 dX6_swapped_31 rfl rfl ?_
        obtain ⟨r2, h1, h⟩ := dl_bi_some h
        refine dl_sIN0 (n := 2) (pc := 32) C (ccl11_bitAt l D TY cc_nw _ _ _ h1) ggX6_swapped_X11_bitAt rfl rfl rfl nk_RX6_37 (by decide +kernel) (by decide +kernel) (by decide +kernel) ⟨Nat.le_of_ble_eq_true rfl, Nat.le_of_ble_eq_true rfl⟩ rfl rfl (Nat.le_of_ble_eq_true rfl) dX6_swapped_32 ⟨Nat.zero_le _, Nat.zero_le _⟩ (fun r u hp => ?_)
        obtain ⟨rfl, hu⟩ := hp
        rw [hu]
        clear hu
        refine dl_if_ne (pc := 35) C 105 dX6_swapped_35 (by decide) h (fun q4 h => ?_) (fun q4 h => ?_)
        · refine dl_iconst (pc := 38) C 0 dX6_swapped_38 (by decide) ?_
          refine dl_istore (pc := 39) C (fun v3 => [(4, .int v3), (0, .ref (ad 3)), (1, .int x1), (2, .int x2), (3, .int x3)]) dX6_swapped_39 (by decide) (fun _ => rfl) h (fun v3 h => ?_)
          refine dl_sub [1, 2, 3, 4, 0] rfl ?_
          exact cl6_swapped_t41 l D cI cP cII TY hTY N ad pr R C hQ ih N _ _ _ _ _ h
        · refine dl_sub [0, 1, 2, 3] rfl ?_
          exact cl6_swapped_t105 l D cI cP cII TY hTY N ad pr R C hQ ih  _ _ _ _ h
set_option maxHeartbeats 4000000 in
set_option maxRecDepth 100000 in
theorem ccl6_swapped (l : Launch) (D : va_G) (cI cP cII : ClassId) (TY : dl_TY) (hTY : TY[0]? = some (cI, .int)) (N : Nat) (ad : Nat → Nat) (pr : Nat → Option Nat) (R : va_W) (g : dl_Sg) (x1 : Int32) {r0 : Int32} {g0 : dl_Sg} (h : cl6_swapped N g x1 = some (r0, g0)) : dl_CtI l D TY cc_nw yX6_swapped wsX6_swapped { frames := 3, cells := 0, slots := 0, locals := 69 } 0 0 [.ref (ad 3), .int x1] (cc_w cI cP cII ad pr g ++ R) (fun r u => r = r0 ∧ u = cc_w cI cP cII ad pr g0 ++ R) := by
  refine dl_metI (ty := .int) [(0, .ref (ad 3)), (1, .int x1)] (by decide) rfl (Nat.le_of_ble_eq_true rfl) rfl ?_
  intro p e s m args below meth c Q A C hQ
  unfold cl6_swapped at h
  refine dl_aload_n (pc := 0) C 0 dX6_swapped_0 rfl rfl ?_
  refine dl_iload_n (pc := 1) C 1 dX6_swapped_1 rfl rfl ?_
  obtain ⟨r1, h1, h⟩ := dl_bi_some h
  refine dl_vI0 (pc := 2) C (ccl6_tagOf l D cI cP cII TY hTY N ad pr R _ _ h1) (cwV 1 C.2.2.2.2.1 gX6_swapped_X6_tagOf rfl rfl rfl (by decide +kernel) ⟨Nat.le_of_ble_eq_true rfl, Nat.le_of_ble_eq_true rfl⟩) 3 6 cc_a3 rfl rfl rfl (Nat.le_of_ble_eq_true rfl) dX6_swapped_2 ⟨Nat.zero_le _, Nat.zero_le _⟩ (fun r u hp => ?_)
  obtain ⟨rfl, rfl⟩ := hp
  refine dl_istore_n (pc := 5) C (fun v2 => [(2, .int v2), (0, .ref (ad 3)), (1, .int x1)]) dX6_swapped_5 rfl (by decide) (fun _ => rfl) h (fun v2 h => ?_)
  refine dl_iconst (pc := 6) C 0 dX6_swapped_6 (by decide) ?_
  refine dl_istore_n (pc := 7) C (fun v3 => [(3, .int v3), (2, .int v2), (0, .ref (ad 3)), (1, .int x1)]) dX6_swapped_7 rfl (by decide) (fun _ => rfl) h (fun v3 h => ?_)
  refine dl_sub [2, 3, 1, 0] rfl ?_
  exact cl6_swapped_t8 l D cI cP cII TY hTY N ad pr R C hQ N _ _ _ _ h
