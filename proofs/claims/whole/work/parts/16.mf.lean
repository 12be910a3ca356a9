theorem hin_X12_trace_X12 : ∀ w ∈ u_ws RX12 TX12 32, w ∈ wsX12_trace := fun _ h => List.mem_cons_of_mem _ (List.mem_append_right _ h)
theorem lk_X12_trace_37 : Cond.fieldLink (yX12_trace).cls 37 "DripLinesModel" (TX12 15).2.1 (TX12 15).2.2.1 ∈ wsX12_trace := by decide +kernel
theorem lk_X12_trace_135 : Cond.fieldLink (yX12_trace).cls 135 "DripLinesModel" (TX12 16).2.1 (TX12 16).2.2.1 ∈ wsX12_trace := by decide +kernel
set_option maxHeartbeats 4000000 in
set_option maxRecDepth 100000 in
theorem mo_trace_t20 {p : Program} {e : Env} {s : State} {m : MethodId} {args : Array Value} {below : List Frame} {meth : Method} {c : Code} {Q : State → Prop} {A : Nat → Prop} (l : Launch) (D : va_G) (cI : ClassId) (TY : dl_TY) (hTY : TY[0]? = some (cI, .int)) (nw : List Cond) (ad : Nat → Nat) (R : va_W) (g : dl_Sg) {r0 : Int32} (C : dl_Cx p s m args c A D TY nw cX12_trace 2 yX12_trace.cls wsX12_trace) (hQ : dl_RtI p l e (headSpec wsX12_trace { frames := 1, cells := 0, slots := 0, locals := 22 }).room s m args below meth c Q A D cX12_trace 2 0 0 .int (fun r u => r = r0 ∧ u = mm_w cI ad g ++ R)) (x1 : Int32) (y0 : Int32) (y1 : Int32) (y2 : Int32) (h : mo_trace_b20 g x1 y0 y1 y2 = some r0) : dl_At p l e (headSpec wsX12_trace { frames := 1, cells := 0, slots := 0, locals := 22 }).room s m args below meth c Q A D 2 0 0 20 [(0, .ref (ad 0)), (1, .int x1)] [.int y2, .int y1, .int y0] (mm_w cI ad g ++ R) := by
  unfold mo_trace_b20 at h
  refine dl_iconst (pc := 20) C 1 dX12_trace_20 (by decide) ?_
  refine dl_isub (pc := 21) C dX12_trace_21 ?_
  obtain ⟨r1, h1, h⟩ := dl_bi_some h
  refine dl_sI0 (pc := 22) C (cmo_in l D TY nw _ _ _ _ h1) (va_cwS 3 C.2.2.2.2.1 gX12_trace_X12_in rfl rfl rfl (by decide +kernel) ⟨Nat.le_of_ble_eq_true rfl, Nat.le_of_ble_eq_true rfl⟩) rfl rfl (Nat.le_of_ble_eq_true rfl) dX12_trace_22 ⟨Nat.zero_le _, Nat.zero_le _⟩ (fun r u hp => ?_)
  obtain ⟨rfl, hu⟩ := hp
  rw [hu]
  clear hu
  refine dl_if_eq (pc := 25) C 37 dX12_trace_25 (by decide) h (fun q2 h => ?_) (fun q2 h => ?_)
  · refine dl_iconst (pc := 37) C (-1) dX12_trace_37 (by decide) ?_
    exact hQ 38 _ _ _ ⟨Option.some.inj h, rfl⟩ (vp_nar_int _) dX12_trace_38
  · refine dl_aload_n (pc := 28) C 0 dX12_trace_28 rfl rfl ?_
    refine dl_get (pc := 29) C hin_X12_trace_X12 0 mm_a0 rfl 15 (by decide) lk_X12_trace_37 rfl rfl dX12_trace_29 ?_
    refine dl_iload_n (pc := 32) C 1 dX12_trace_32 rfl rfl ?_
    obtain ⟨h0, h⟩ := dl_gd_some h
    refine dl_iald (pc := 33) C 10 0 mm_a15 hTY h0 dX12_trace_33 ?_
    refine dl_goto (pc := 34) C 38 dX12_trace_34 (by decide) ?_
    exact hQ 38 _ _ _ ⟨Option.some.inj h, rfl⟩ (vp_nar_int _) dX12_trace_38
set_option maxHeartbeats 4000000 in
set_option maxRecDepth 100000 in
theorem cmo_trace (l : Launch) (D : va_G) (cI : ClassId) (TY : dl_TY) (hTY : TY[0]? = some (cI, .int)) (nw : List Cond) (ad : Nat → Nat) (R : va_W) (g : dl_Sg) (x1 : Int32) {r0 : Int32} (h : mo_trace g x1 = some r0) : dl_CtI l D TY nw yX12_trace wsX12_trace { frames := 1, cells := 0, slots := 0, locals := 22 } 0 0 [.ref (ad 0), .int x1] (mm_w cI ad g ++ R) (fun r u => r = r0 ∧ u = mm_w cI ad g ++ R) := by
  refine dl_metI (ty := .int) [(0, .ref (ad 0)), (1, .int x1)] (by decide) rfl (Nat.le_of_ble_eq_true rfl) rfl ?_
  intro p e s m args below meth c Q A C hQ
  unfold mo_trace at h
  refine dl_iload_n (pc := 0) C 1 dX12_trace_0 rfl rfl ?_
  refine dl_iconst (pc := 1) C 0 dX12_trace_1 (by decide) ?_
  refine dl_aload_n (pc := 2) C 0 dX12_trace_2 rfl rfl ?_
  refine dl_get (pc := 3) C hin_X12_trace_X12 0 mm_a0 rfl 16 (by decide) lk_X12_trace_135 rfl rfl dX12_trace_3 ?_
  refine dl_bipush (pc := 6) C 50 dX12_trace_6 (by decide) ?_
  refine dl_icmp_ge (pc := 8) C 18 dX12_trace_8 (by decide) h (fun q1 h => ?_) (fun q1 h => ?_)
  · refine dl_bipush (pc := 18) C 50 dX12_trace_18 (by decide) ?_
    refine dl_sub [0, 1] rfl ?_
    exact mo_trace_t20 l D cI TY hTY nw ad R g C hQ  _ _ _ _ h
  · refine dl_aload_n (pc := 11) C 0 dX12_trace_11 rfl rfl ?_
    refine dl_get (pc := 12) C hin_X12_trace_X12 0 mm_a0 rfl 16 (by decide) lk_X12_trace_135 rfl rfl dX12_trace_12 ?_
    refine dl_goto (pc := 15) C 20 dX12_trace_15 (by decide) ?_
    refine dl_sub [0, 1] rfl ?_
    exact mo_trace_t20 l D cI TY hTY nw ad R g C hQ  _ _ _ _ h
theorem hin_X12_map_X12 : ∀ w ∈ u_ws RX12 TX12 32, w ∈ wsX12_map := fun _ h => List.mem_cons_of_mem _ (List.mem_append_right _ h)
theorem lk_X12_map_28 : Cond.fieldLink (yX12_map).cls 28 "DripLinesModel" (TX12 11).2.1 (TX12 11).2.2.1 ∈ wsX12_map := by decide +kernel
theorem lk_X12_map_31 : Cond.fieldLink (yX12_map).cls 31 "DripLinesModel" (TX12 12).2.1 (TX12 12).2.2.1 ∈ wsX12_map := by decide +kernel
theorem lk_X12_map_34 : Cond.fieldLink (yX12_map).cls 34 "DripLinesModel" (TX12 13).2.1 (TX12 13).2.2.1 ∈ wsX12_map := by decide +kernel
set_option maxHeartbeats 4000000 in
set_option maxRecDepth 100000 in
theorem mo_map_t65 {p : Program} {e : Env} {s : State} {m : MethodId} {args : Array Value} {below : List Frame} {meth : Method} {c : Code} {Q : State → Prop} {A : Nat → Prop} (l : Launch) (D : va_G) (cI : ClassId) (TY : dl_TY) (hTY : TY[0]? = some (cI, .int)) (nw : List Cond) (N : Nat) (ad : Nat → Nat) (R : va_W) {r0 : Int32} {g0 : dl_Sg} (C : dl_Cx p s m args c A D TY nw cX12_map 5 yX12_map.cls wsX12_map) (hQ : dl_RtI p l e (headSpec wsX12_map { frames := 1, cells := 0, slots := 0, locals := 22 }).room s m args below meth c Q A D cX12_map 5 0 0 .int (fun r u => r = r0 ∧ u = mm_w cI ad g0 ++ R)) : ∀ (n : Nat) (x1 : Int32) (x4 : Int32) (g : dl_Sg), mo_map_b65 N n x1 x4 g = some (r0, g0) → dl_At p l e (headSpec wsX12_map { frames := 1, cells := 0, slots := 0, locals := 22 }).room s m args below meth c Q A D 5 0 0 65 [(0, .ref (ad 0)), (1, .int x1), (4, .int x4)] [] (mm_w cI ad g ++ R) := by
  intro n
  induction n with
  | zero => exact fun _ _ _ h => absurd (show (none : Option (Int32 × dl_Sg)) = some _ from h) (by intro q; cases q)
  | succ n ih =>
    intro x1 x4 g h
    rw [mo_map_b65] at h
    refine dl_iload (pc := 65) C 2 dX12_map_65 rfl ?_
    refine dl_bipush (pc := 67) C 20 dX12_map_67 (by decide) ?_
    refine dl_icmp_ge (pc := 69) C 91 dX12_map_69 (by decide) h (fun q5 h => ?_) (fun q5 h => ?_)
    · refine dl_aload_n (pc := 91) C 0 dX12_map_91 rfl rfl ?_
      refine dl_iconst (pc := 92) C 1 dX12_map_92 (by decide) ?_
      obtain ⟨r1, g2, h1, h⟩ := dl_b2_some h
      refine dl_vI0 (pc := 93) C (cmo_done l D cI TY hTY nw ad R _ _ h1) (cwV 1 C.2.2.2.2.1 gX12_map_X12_done rfl rfl rfl (by decide +kernel) ⟨Nat.le_of_ble_eq_true rfl, Nat.le_of_ble_eq_true rfl⟩) 0 12 mm_a0 rfl rfl rfl (Nat.le_of_ble_eq_true rfl) dX12_map_93 ⟨Nat.zero_le _, Nat.zero_le _⟩ (fun r u hp => ?_)
      obtain ⟨rfl, rfl⟩ := hp
      exact hQ 96 _ _ _ ⟨(dl_r2 h).1, by rw [(dl_r2 h).2]⟩ (vp_nar_int _) dX12_map_96
    · refine dl_aload_n (pc := 72) C 0 dX12_map_72 rfl rfl ?_
      refine dl_get (pc := 73) C hin_X12_map_X12 0 mm_a0 rfl 13 (by decide) lk_X12_map_34 rfl rfl dX12_map_73 ?_
      refine dl_bipush (pc := 76) C 20 dX12_map_76 (by decide) ?_
      refine dl_iload_n (pc := 78) C 1 dX12_map_78 rfl rfl ?_
      refine dl_imul (pc := 79) C dX12_map_79 ?_
      refine dl_iload (pc := 80) C 2 dX12_map_80 rfl ?_
      refine dl_iadd (pc := 82) C dX12_map_82 ?_
      refine dl_iconst (pc := 83) C 0 dX12_map_83 (by decide) ?_
      obtain ⟨h0, h⟩ := dl_gd_some h
      refine dl_iast (pc := 84) C 9 0 mm_a13 hTY h0 dX12_map_84 mm_s13 ?_
      obtain ⟨g3, h, hg⟩ := dl_nm_some h
      rw [← hg]
      clear hg
      refine dl_iinc (pc := 85) C 2 (fun v4 => [(4, .int v4), (0, .ref (ad 0)), (1, .int x1)]) dX12_map_85 rfl rfl (by decide) (fun _ => rfl) h (fun v4 h => ?_)
      refine dl_goto (pc := 88) C 65 dX12_map_88 (by decide) ?_
      refine dl_sub [1, 2, 0] rfl ?_
      exact ih _ _ _ h
set_option maxHeartbeats 4000000 in
set_option maxRecDepth 100000 in
theorem mo_map_t61 {p : Program} {e : Env} {s : State} {m : MethodId} {args : Array Value} {below : List Frame} {meth : Method} {c : Code} {Q : State → Prop} {A : Nat → Prop} (l : Launch) (D : va_G) (cI : ClassId) (TY : dl_TY) (hTY : TY[0]? = some (cI, .int)) (nw : List Cond) (N : Nat) (ad : Nat → Nat) (R : va_W) {r0 : Int32} {g0 : dl_Sg} (C : dl_Cx p s m args c A D TY nw cX12_map 5 yX12_map.cls wsX12_map) (hQ : dl_RtI p l e (headSpec wsX12_map { frames := 1, cells := 0, slots := 0, locals := 22 }).room s m args below meth c Q A D cX12_map 5 0 0 .int (fun r u => r = r0 ∧ u = mm_w cI ad g0 ++ R)) (x1 : Int32) (y1 : Int32) (y2 : Int32) (g : dl_Sg) (h : mo_map_b61 N x1 y1 y2 g = some (r0, g0)) : dl_At p l e (headSpec wsX12_map { frames := 1, cells := 0, slots := 0, locals := 22 }).room s m args below meth c Q A D 5 0 0 61 [(0, .ref (ad 0)), (1, .int x1)] [.int y2, .int y1, .ref (ad 12)] (mm_w cI ad g ++ R) := by
  unfold mo_map_b61 at h
  obtain ⟨h0, h⟩ := dl_gd_some h
  refine dl_iast (pc := 61) C 8 0 mm_a12 hTY h0 dX12_map_61 mm_s12 ?_
  obtain ⟨g1, h, hg⟩ := dl_nm_some h
  rw [← hg]
  clear hg
  refine dl_iconst (pc := 62) C 0 dX12_map_62 (by decide) ?_
  refine dl_istore (pc := 63) C (fun v2 => [(4, .int v2), (0, .ref (ad 0)), (1, .int x1)]) dX12_map_63 (by decide) (fun _ => rfl) h (fun v2 h => ?_)
  refine dl_sub [1, 2, 0] rfl ?_
  exact mo_map_t65 l D cI TY hTY nw N ad R C hQ N _ _ _ h
set_option maxHeartbeats 4000000 in
set_option maxRecDepth 100000 in
theorem mo_map_t39 {p : Program} {e : Env} {s : State} {m : MethodId} {args : Array Value} {below : List Frame} {meth : Method} {c : Code} {Q : State → Prop} {A : Nat → Prop} (l : Launch) (D : va_G) (cI : ClassId) (TY : dl_TY) (hTY : TY[0]? = some (cI, .int)) (nw : List Cond) (N : Nat) (ad : Nat → Nat) (R : va_W) {r0 : Int32} {g0 : dl_Sg} (C : dl_Cx p s m args c A D TY nw cX12_map 5 yX12_map.cls wsX12_map) (hQ : dl_RtI p l e (headSpec wsX12_map { frames := 1, cells := 0, slots := 0, locals := 22 }).room s m args below meth c Q A D cX12_map 5 0 0 .int (fun r u => r = r0 ∧ u = mm_w cI ad g0 ++ R)) (x1 : Int32) (x2 : Int32) (x3 : Int32) (g : dl_Sg) (h : mo_map_b39 N x1 x2 x3 g = some (r0, g0)) : dl_At p l e (headSpec wsX12_map { frames := 1, cells := 0, slots := 0, locals := 22 }).room s m args below meth c Q A D 5 0 0 39 [(0, .ref (ad 0)), (1, .int x1), (2, .int x2), (3, .int x3)] [] (mm_w cI ad g ++ R) := by
  unfold mo_map_b39 at h
  refine dl_aload_n (pc := 39) C 0 dX12_map_39 rfl rfl ?_
  refine dl_get (pc := 40) C hin_X12_map_X12 0 mm_a0 rfl 11 (by decide) lk_X12_map_28 rfl rfl dX12_map_40 ?_
  refine dl_iload_n (pc := 43) C 1 dX12_map_43 rfl rfl ?_
  refine dl_iload_n (pc := 44) C 2 dX12_map_44 rfl rfl ?_
  obtain ⟨h0, h⟩ := dl_gd_some h
  refine dl_iast (pc := 45) C 7 0 mm_a11 hTY h0 dX12_map_45 mm_s11 ?_
  obtain ⟨g1, h, hg⟩ := dl_nm_some h
  rw [← hg]
  clear hg
  refine dl_aload_n (pc := 46) C 0 dX12_map_46 rfl rfl ?_
  refine dl_get (pc := 47) C hin_X12_map_X12 0 mm_a0 rfl 12 (by decide) lk_X12_map_31 rfl rfl dX12_map_47 ?_
  refine dl_iload_n (pc := 50) C 1 dX12_map_50 rfl rfl ?_
  refine dl_iload_n (pc := 51) C 2 dX12_map_51 rfl rfl ?_
  refine dl_iconst (pc := 52) C (-1) dX12_map_52 (by decide) ?_
  refine dl_icmp_ne (pc := 53) C 60 dX12_map_53 (by decide) h (fun q2 h => ?_) (fun q2 h => ?_)
  · refine dl_iconst (pc := 56) C 0 dX12_map_56 (by decide) ?_
    refine dl_goto (pc := 57) C 61 dX12_map_57 (by decide) ?_
    refine dl_sub [0, 1] rfl ?_
    exact mo_map_t61 l D cI TY hTY nw N ad R C hQ  _ _ _ _ h
  · refine dl_iload_n (pc := 60) C 3 dX12_map_60 rfl rfl ?_
    refine dl_sub [0, 1] rfl ?_
    exact mo_map_t61 l D cI TY hTY nw N ad R C hQ  _ _ _ _ h
set_option maxHeartbeats 4000000 in
set_option maxRecDepth 100000 in
theorem mo_map_t33 {p : Program} {e : Env} {s : State} {m : MethodId} {args : Array Value} {below : List Frame} {meth : Method} {c : Code} {Q : State → Prop} {A : Nat → Prop} (l : Launch) (D : va_G) (cI : ClassId) (TY : dl_TY) (hTY : TY[0]? = some (cI, .int)) (nw : List Cond) (N : Nat) (ad : Nat → Nat) (R : va_W) {r0 : Int32} {g0 : dl_Sg} (C : dl_Cx p s m args c A D TY nw cX12_map 5 yX12_map.cls wsX12_map) (hQ : dl_RtI p l e (headSpec wsX12_map { frames := 1, cells := 0, slots := 0, locals := 22 }).room s m args below meth c Q A D cX12_map 5 0 0 .int (fun r u => r = r0 ∧ u = mm_w cI ad g0 ++ R)) (g : dl_Sg) (h : mo_map_b33 N  g = some (r0, g0)) : dl_At p l e (headSpec wsX12_map { frames := 1, cells := 0, slots := 0, locals := 22 }).room s m args below meth c Q A D 5 0 0 33 [(0, .ref (ad 0))] [] (mm_w cI ad g ++ R) := by
  unfold mo_map_b33 at h
  refine dl_aload_n (pc := 33) C 0 dX12_map_33 rfl rfl ?_
  refine dl_iconst (pc := 34) C 1 dX12_map_34 (by decide) ?_
  obtain ⟨r1, g2, h1, h⟩ := dl_b2_some h
  refine dl_vI0 (pc := 35) C (cmo_refused l D cI TY hTY nw ad R _ _ h1) (cwV 1 C.2.2.2.2.1 gX12_map_X12_refused rfl rfl rfl (by decide +kernel) ⟨Nat.le_of_ble_eq_true rfl, Nat.le_of_ble_eq_true rfl⟩) 0 12 mm_a0 rfl rfl rfl (Nat.le_of_ble_eq_true rfl) dX12_map_35 ⟨Nat.zero_le _, Nat.zero_le _⟩ (fun r u hp => ?_)
  obtain ⟨rfl, rfl⟩ := hp
  exact hQ 38 _ _ _ ⟨(dl_r2 h).1, by rw [(dl_r2 h).2]⟩ (vp_nar_int _) dX12_map_38
set_option maxHeartbeats 4000000 in
set_option maxRecDepth 100000 in
theorem cmo_map (l : Launch) (D : va_G) (cI : ClassId) (TY : dl_TY) (hTY : TY[0]? = some (cI, .int)) (nw : List Cond) (N : Nat) (ad : Nat → Nat) (R : va_W) (g : dl_Sg) (x1 : Int32) (x2 : Int32) (x3 : Int32) {r0 : Int32} {g0 : dl_Sg} (h : mo_map N g x1 x2 x3 = some (r0, g0)) : dl_CtI l D TY nw yX12_map wsX12_map { frames := 1, cells := 0, slots := 0, locals := 22 } 0 0 [.ref (ad 0), .int x1, .int x2, .int x3] (mm_w cI ad g ++ R) (fun r u => r = r0 ∧ u = mm_w cI ad g0 ++ R) := by
  refine dl_metI (ty := .int) [(0, .ref (ad 0)), (1, .int x1), (2, .int x2), (3, .int x3)] (by decide) rfl (Nat.le_of_ble_eq_true rfl) rfl ?_
  intro p e s m args below meth c Q A C hQ
  unfold mo_map at h
  refine dl_iload_n (pc := 0) C 1 dX12_map_0 rfl rfl ?_
  refine dl_iconst (pc := 1) C 0 dX12_map_1 (by decide) ?_
  refine dl_iconst (pc := 2) C 4 dX12_map_2 (by decide) ?_
  obtain ⟨r1, h1, h⟩ := dl_bi_some h
  refine dl_sI0 (pc := 3) C (cmo_in l D TY nw _ _ _ _ h1) (va_cwS 3 C.2.2.2.2.1 gX12_map_X12_in rfl rfl rfl (by decide +kernel) ⟨Nat.le_of_ble_eq_true rfl, Nat.le_of_ble_eq_true rfl⟩) rfl rfl (Nat.le_of_ble_eq_true rfl) dX12_map_3 ⟨Nat.zero_le _, Nat.zero_le _⟩ (fun r u hp => ?_)
  obtain ⟨rfl, hu⟩ := hp
  rw [hu]
  clear hu
  refine dl_if_eq (pc := 6) C 33 dX12_map_6 (by decide) h (fun q7 h => ?_) (fun q7 h => ?_)
  · refine dl_sub [0] rfl ?_
    exact mo_map_t33 l D cI TY hTY nw N ad R C hQ  _ h
  · refine dl_iload_n (pc := 9) C 2 dX12_map_9 rfl rfl ?_
    refine dl_iconst (pc := 10) C (-1) dX12_map_10 (by decide) ?_
    refine dl_iconst (pc := 11) C 2 dX12_map_11 (by decide) ?_
    obtain ⟨r2, h1, h⟩ := dl_bi_some h
    refine dl_sI0 (pc := 12) C (cmo_in l D TY nw _ _ _ _ h1) (va_cwS 3 C.2.2.2.2.1 gX12_map_X12_in rfl rfl rfl (by decide +kernel) ⟨Nat.le_of_ble_eq_true rfl, Nat.le_of_ble_eq_true rfl⟩) rfl rfl (Nat.le_of_ble_eq_true rfl) dX12_map_12 ⟨Nat.zero_le _, Nat.zero_le _⟩ (fun r u hp => ?_)
    obtain ⟨rfl, hu⟩ := hp
    rw [hu]
    clear hu
    refine dl_if_eq (pc := 15) C 33 dX12_map_15 (by decide) h (fun q6 h => ?_) (fun q6 h => ?_)
    · refine dl_sub [0] rfl ?_
      exact mo_map_t33 l D cI TY hTY nw N ad R C hQ  _ h
    · refine dl_iload_n (pc := 18) C 2 dX12_map_18 rfl rfl ?_
      refine dl_iconst (pc := 19) C (-1) dX12_map_19 (by decide) ?_
      refine dl_icmp_eq (pc := 20) C 39 dX12_map_20 (by decide) h (fun q5 h => ?_) (fun q5 h => ?_)
      · refine dl_sub [0, 1, 2, 3] rfl ?_
        exact mo_map_t39 l D cI TY hTY nw N ad R C hQ  _ _ _ _ h
      · refine dl_iload_n (pc := 23) C 3 dX12_map_23 rfl rfl ?_
        refine dl_iconst (pc := 24) C 0 dX12_map_24 (by decide) ?_
        refine dl_bipush (pc := 25) C 20 dX12_map_25 (by decide) ?_
        obtain ⟨r3, h1, h⟩ := dl_bi_some h
        refine dl_sI0 (pc := 27) C (cmo_in l D TY nw _ _ _ _ h1) (va_cwS 3 C.2.2.2.2.1 gX12_map_X12_in rfl rfl rfl (by decide +kernel) ⟨Nat.le_of_ble_eq_true rfl, Nat.le_of_ble_eq_true rfl⟩) rfl rfl (Nat.le_of_ble_eq_true rfl) dX12_map_27 ⟨Nat.zero_le _, Nat.zero_le _⟩ (fun r u hp => ?_)
        obtain ⟨rfl, hu⟩ := hp
        rw [hu]
        clear hu
        refine dl_if_ne (pc := 30) C 39 dX12_map_30 (by decide) h (fun q4 h => ?_) (fun q4 h => ?_)
        · refine dl_sub [0] rfl ?_
          exact mo_map_t33 l D cI TY hTY nw N ad R C hQ  _ h
        · refine dl_sub [0, 1, 2, 3] rfl ?_
          exact mo_map_t39 l D cI TY hTY nw N ad R C hQ  _ _ _ _ h
theorem hin_X12_cell_X12 : ∀ w ∈ u_ws RX12 TX12 32, w ∈ wsX12_cell := fun _ h => List.mem_cons_of_mem _ (List.mem_append_right _ h)
theorem lk_X12_cell_28 : Cond.fieldLink (yX12_cell).cls 28 "DripLinesModel" (TX12 11).2.1 (TX12 11).2.2.1 ∈ wsX12_cell := by decide +kernel
theorem lk_X12_cell_31 : Cond.fieldLink (yX12_cell).cls 31 "DripLinesModel" (TX12 12).2.1 (TX12 12).2.2.1 ∈ wsX12_cell := by decide +kernel
theorem lk_X12_cell_34 : Cond.fieldLink (yX12_cell).cls 34 "DripLinesModel" (TX12 13).2.1 (TX12 13).2.2.1 ∈ wsX12_cell := by decide +kernel
set_option maxHeartbeats 4000000 in
set_option maxRecDepth 100000 in
theorem mo_cell_t80 {p : Program} {e : Env} {s : State} {m : MethodId} {args : Array Value} {below : List Frame} {meth : Method} {c : Code} {Q : State → Prop} {A : Nat → Prop} (l : Launch) (D : va_G) (cI : ClassId) (TY : dl_TY) (hTY : TY[0]? = some (cI, .int)) (nw : List Cond) (ad : Nat → Nat) (R : va_W) {r0 : Int32} {g0 : dl_Sg} (C : dl_Cx p s m args c A D TY nw cX12_cell 4 yX12_cell.cls wsX12_cell) (hQ : dl_RtI p l e (headSpec wsX12_cell { frames := 1, cells := 0, slots := 0, locals := 22 }).room s m args below meth c Q A D cX12_cell 4 0 0 .int (fun r u => r = r0 ∧ u = mm_w cI ad g0 ++ R)) (y1 : Int32) (y2 : Int32) (g : dl_Sg) (h : mo_cell_b80 y1 y2 g = some (r0, g0)) : dl_At p l e (headSpec wsX12_cell { frames := 1, cells := 0, slots := 0, locals := 22 }).room s m args below meth c Q A D 4 0 0 80 [(0, .ref (ad 0))] [.int y2, .int y1, .ref (ad 13)] (mm_w cI ad g ++ R) := by
  unfold mo_cell_b80 at h
  obtain ⟨h0, h⟩ := dl_gd_some h
  refine dl_iast (pc := 80) C 9 0 mm_a13 hTY h0 dX12_cell_80 mm_s13 ?_
  obtain ⟨g1, h, hg⟩ := dl_nm_some h
  rw [← hg]
  clear hg
  refine dl_aload_n (pc := 81) C 0 dX12_cell_81 rfl rfl ?_
  refine dl_iconst (pc := 82) C 1 dX12_cell_82 (by decide) ?_
  obtain ⟨r2, g3, h1, h⟩ := dl_b2_some h
  refine dl_vI0 (pc := 83) C (cmo_done l D cI TY hTY nw ad R _ _ h1) (cwV 1 C.2.2.2.2.1 gX12_cell_X12_done rfl rfl rfl (by decide +kernel) ⟨Nat.le_of_ble_eq_true rfl, Nat.le_of_ble_eq_true rfl⟩) 0 12 mm_a0 rfl rfl rfl (Nat.le_of_ble_eq_true rfl) dX12_cell_83 ⟨Nat.zero_le _, Nat.zero_le _⟩ (fun r u hp => ?_)
  obtain ⟨rfl, rfl⟩ := hp
  exact hQ 86 _ _ _ ⟨(dl_r2 h).1, by rw [(dl_r2 h).2]⟩ (vp_nar_int _) dX12_cell_86
set_option maxHeartbeats 4000000 in
set_option maxRecDepth 100000 in
theorem cmo_cell (l : Launch) (D : va_G) (cI : ClassId) (TY : dl_TY) (hTY : TY[0]? = some (cI, .int)) (nw : List Cond) (ad : Nat → Nat) (R : va_W) (g : dl_Sg) (x1 : Int32) (x2 : Int32) (x3 : Int32) {r0 : Int32} {g0 : dl_Sg} (h : mo_cell g x1 x2 x3 = some (r0, g0)) : dl_CtI l D TY nw yX12_cell wsX12_cell { frames := 1, cells := 0, slots := 0, locals := 22 } 0 0 [.ref (ad 0), .int x1, .int x2, .int x3] (mm_w cI ad g ++ R) (fun r u => r = r0 ∧ u = mm_w cI ad g0 ++ R) := by
  refine dl_metI (ty := .int) [(0, .ref (ad 0)), (1, .int x1), (2, .int x2), (3, .int x3)] (by decide) rfl (Nat.le_of_ble_eq_true rfl) rfl ?_
  intro p e s m args below meth c Q A C hQ
  unfold mo_cell at h
  refine dl_iload_n (pc := 0) C 1 dX12_cell_0 rfl rfl ?_
  refine dl_iconst (pc := 1) C 0 dX12_cell_1 (by decide) ?_
  refine dl_iconst (pc := 2) C 4 dX12_cell_2 (by decide) ?_
  obtain ⟨r1, h1, h⟩ := dl_bi_some h
  refine dl_sI0 (pc := 3) C (cmo_in l D TY nw _ _ _ _ h1) (va_cwS 3 C.2.2.2.2.1 gX12_cell_X12_in rfl rfl rfl (by decide +kernel) ⟨Nat.le_of_ble_eq_true rfl, Nat.le_of_ble_eq_true rfl⟩) rfl rfl (Nat.le_of_ble_eq_true rfl) dX12_cell_3 ⟨Nat.zero_le _, Nat.zero_le _⟩ (fun r u hp => ?_)
  obtain ⟨rfl, hu⟩ := hp
  rw [hu]
  clear hu
  refine dl_if_ne (pc := 6) C 15 dX12_cell_6 (by decide) h (fun q12 h => ?_) (fun q12 h => ?_)
  · refine dl_aload_n (pc := 9) C 0 dX12_cell_9 rfl rfl ?_
    refine dl_iconst (pc := 10) C 1 dX12_cell_10 (by decide) ?_
    obtain ⟨r2, g3, h1, h⟩ := dl_b2_some h
    refine dl_vI0 (pc := 11) C (cmo_refused l D cI TY hTY nw ad R _ _ h1) (cwV 1 C.2.2.2.2.1 gX12_cell_X12_refused rfl rfl rfl (by decide +kernel) ⟨Nat.le_of_ble_eq_true rfl, Nat.le_of_ble_eq_true rfl⟩) 0 12 mm_a0 rfl rfl rfl (Nat.le_of_ble_eq_true rfl) dX12_cell_11 ⟨Nat.zero_le _, Nat.zero_le _⟩ (fun r u hp => ?_)
    obtain ⟨rfl, rfl⟩ := hp
    exact hQ 14 _ _ _ ⟨(dl_r2 h).1, by rw [(dl_r2 h).2]⟩ (vp_nar_int _) dX12_cell_14
  · refine dl_aload_n (pc := 15) C 0 dX12_cell_15 rfl rfl ?_
    refine dl_get (pc := 16) C hin_X12_cell_X12 0 mm_a0 rfl 11 (by decide) lk_X12_cell_28 rfl rfl dX12_cell_16 ?_
    refine dl_iload_n (pc := 19) C 1 dX12_cell_19 rfl rfl ?_
    obtain ⟨h0, h⟩ := dl_gd_some h
    refine dl_iald (pc := 20) C 7 0 mm_a11 hTY h0 dX12_cell_20 ?_
    refine dl_iconst (pc := 21) C (-1) dX12_cell_21 (by decide) ?_
    refine dl_icmp_ne (pc := 22) C 32 dX12_cell_22 (by decide) h (fun q11 h => ?_) (fun q11 h => ?_)
    · refine dl_aload_n (pc := 25) C 0 dX12_cell_25 rfl rfl ?_
      refine dl_bipush (pc := 26) C 10 dX12_cell_26 (by decide) ?_
      obtain ⟨r4, g5, h1, h⟩ := dl_b2_some h
      refine dl_vI0 (pc := 28) C (cmo_refused l D cI TY hTY nw ad R _ _ h1) (cwV 1 C.2.2.2.2.1 gX12_cell_X12_refused rfl rfl rfl (by decide +kernel) ⟨Nat.le_of_ble_eq_true rfl, Nat.le_of_ble_eq_true rfl⟩) 0 12 mm_a0 rfl rfl rfl (Nat.le_of_ble_eq_true rfl) dX12_cell_28 ⟨Nat.zero_le _, Nat.zero_le _⟩ (fun r u hp => ?_)
      obtain ⟨rfl, rfl⟩ := hp
      exact hQ 31 _ _ _ ⟨(dl_r2 h).1, by rw [(dl_r2 h).2]⟩ (vp_nar_int _) dX12_cell_31
    · refine dl_iload_n (pc := 32) C 2 dX12_cell_32 rfl rfl ?_
      refine dl_iconst (pc := 33) C 0 dX12_cell_33 (by decide) ?_
      refine dl_aload_n (pc := 34) C 0 dX12_cell_34 rfl rfl ?_
      refine dl_get (pc := 35) C hin_X12_cell_X12 0 mm_a0 rfl 12 (by decide) lk_X12_cell_31 rfl rfl dX12_cell_35 ?_
      refine dl_iload_n (pc := 38) C 1 dX12_cell_38 rfl rfl ?_
      obtain ⟨h0, h⟩ := dl_gd_some h
      refine dl_iald (pc := 39) C 8 0 mm_a12 hTY h0 dX12_cell_39 ?_
      refine dl_iconst (pc := 40) C 1 dX12_cell_40 (by decide) ?_
      refine dl_isub (pc := 41) C dX12_cell_41 ?_
      obtain ⟨r6, h1, h⟩ := dl_bi_some h
      refine dl_sI0 (pc := 42) C (cmo_in l D TY nw _ _ _ _ h1) (va_cwS 3 C.2.2.2.2.1 gX12_cell_X12_in rfl rfl rfl (by decide +kernel) ⟨Nat.le_of_ble_eq_true rfl, Nat.le_of_ble_eq_true rfl⟩) rfl rfl (Nat.le_of_ble_eq_true rfl) dX12_cell_42 ⟨Nat.zero_le _, Nat.zero_le _⟩ (fun r u hp => ?_)
      obtain ⟨rfl, hu⟩ := hp
      rw [hu]
      clear hu
      refine dl_if_ne (pc := 45) C 55 dX12_cell_45 (by decide) h (fun q10 h => ?_) (fun q10 h => ?_)
      · refine dl_aload_n (pc := 48) C 0 dX12_cell_48 rfl rfl ?_
        refine dl_bipush (pc := 49) C 12 dX12_cell_49 (by decide) ?_
        obtain ⟨r7, g8, h1, h⟩ := dl_b2_some h
        refine dl_vI0 (pc := 51) C (cmo_refused l D cI TY hTY nw ad R _ _ h1) (cwV 1 C.2.2.2.2.1 gX12_cell_X12_refused rfl rfl rfl (by decide +kernel) ⟨Nat.le_of_ble_eq_true rfl, Nat.le_of_ble_eq_true rfl⟩) 0 12 mm_a0 rfl rfl rfl (Nat.le_of_ble_eq_true rfl) dX12_cell_51 ⟨Nat.zero_le _, Nat.zero_le _⟩ (fun r u hp => ?_)
        obtain ⟨rfl, rfl⟩ := hp
        exact hQ 54 _ _ _ ⟨(dl_r2 h).1, by rw [(dl_r2 h).2]⟩ (vp_nar_int _) dX12_cell_54
      · refine dl_aload_n (pc := 55) C 0 dX12_cell_55 rfl rfl ?_
        refine dl_get (pc := 56) C hin_X12_cell_X12 0 mm_a0 rfl 13 (by decide) lk_X12_cell_34 rfl rfl dX12_cell_56 ?_
        refine dl_bipush (pc := 59) C 20 dX12_cell_59 (by decide) ?_
        refine dl_iload_n (pc := 61) C 1 dX12_cell_61 rfl rfl ?_
        refine dl_imul (pc := 62) C dX12_cell_62 ?_
        refine dl_iload_n (pc := 63) C 2 dX12_cell_63 rfl rfl ?_
        refine dl_iadd (pc := 64) C dX12_cell_64 ?_
        refine dl_aload_n (pc := 65) C 0 dX12_cell_65 rfl rfl ?_
        refine dl_get (pc := 66) C hin_X12_cell_X12 0 mm_a0 rfl 11 (by decide) lk_X12_cell_28 rfl rfl dX12_cell_66 ?_
        refine dl_iload_n (pc := 69) C 1 dX12_cell_69 rfl rfl ?_
        obtain ⟨h0, h⟩ := dl_gd_some h
        refine dl_iald (pc := 70) C 7 0 mm_a11 hTY h0 dX12_cell_70 ?_
        refine dl_if_ne (pc := 71) C 79 dX12_cell_71 (by decide) h (fun q9 h => ?_) (fun q9 h => ?_)
        · refine dl_iload_n (pc := 74) C 3 dX12_cell_74 rfl rfl ?_
          refine dl_i2b (pc := 75) C dX12_cell_75 ?_
          refine dl_goto (pc := 76) C 80 dX12_cell_76 (by decide) ?_
          refine dl_sub [0] rfl ?_
          exact mo_cell_t80 l D cI TY hTY nw ad R C hQ  _ _ _ h
        · refine dl_iload_n (pc := 79) C 3 dX12_cell_79 rfl rfl ?_
          refine dl_sub [0] rfl ?_
          exact mo_cell_t80 l D cI TY hTY nw ad R C hQ  _ _ _ h
theorem hin_X12_fromMap_X12 : ∀ w ∈ u_ws RX12 TX12 32, w ∈ wsX12_fromMap := fun _ h => List.mem_cons_of_mem _ (List.mem_append_right _ h)
theorem lk_X12_fromMap_28 : Cond.fieldLink (yX12_fromMap).cls 28 "DripLinesModel" (TX12 11).2.1 (TX12 11).2.2.1 ∈ wsX12_fromMap := by decide +kernel
theorem lk_X12_fromMap_31 : Cond.fieldLink (yX12_fromMap).cls 31 "DripLinesModel" (TX12 12).2.1 (TX12 12).2.2.1 ∈ wsX12_fromMap := by decide +kernel
theorem lk_X12_fromMap_34 : Cond.fieldLink (yX12_fromMap).cls 34 "DripLinesModel" (TX12 13).2.1 (TX12 13).2.2.1 ∈ wsX12_fromMap := by decide +kernel
theorem lk_X12_fromMap_76 : Cond.fieldLink (yX12_fromMap).cls 76 "DripLinesModel" (TX12 3).2.1 (TX12 3).2.2.1 ∈ wsX12_fromMap := by decide +kernel
set_option maxHeartbeats 4000000 in
set_option maxRecDepth 100000 in
theorem mo_fromMap_t89 {p : Program} {e : Env} {s : State} {m : MethodId} {args : Array Value} {below : List Frame} {meth : Method} {c : Code} {Q : State → Prop} {A : Nat → Prop} (l : Launch) (D : va_G) (cI : ClassId) (TY : dl_TY) (hTY : TY[0]? = some (cI, .int)) (nw : List Cond) (N : Nat) (ad : Nat → Nat) (R : va_W) {r0 : Int32} {g0 : dl_Sg} (C : dl_Cx p s m args c A D TY nw cX12_fromMap 5 yX12_fromMap.cls wsX12_fromMap) (hQ : dl_RtI p l e (headSpec wsX12_fromMap { frames := 3, cells := 0, slots := 0, locals := 66 }).room s m args below meth c Q A D cX12_fromMap 5 0 0 .int (fun r u => r = r0 ∧ u = mm_w cI ad g0 ++ R)) (g : dl_Sg) (h : mo_fromMap_b89 N  g = some (r0, g0)) : dl_At p l e (headSpec wsX12_fromMap { frames := 3, cells := 0, slots := 0, locals := 66 }).room s m args below meth c Q A D 5 0 0 89 [(0, .ref (ad 0))] [] (mm_w cI ad g ++ R) := by
  unfold mo_fromMap_b89 at h
  refine dl_aload_n (pc := 89) C 0 dX12_fromMap_89 rfl rfl ?_
  refine dl_bipush (pc := 90) C 12 dX12_fromMap_90 (by decide) ?_
  obtain ⟨r1, g2, h1, h⟩ := dl_b2_some h
  refine dl_vI0 (pc := 92) C (cmo_refused l D cI TY hTY nw ad R _ _ h1) (cwV 1 C.2.2.2.2.1 gX12_fromMap_X12_refused rfl rfl rfl (by decide +kernel) ⟨Nat.le_of_ble_eq_true rfl, Nat.le_of_ble_eq_true rfl⟩) 0 12 mm_a0 rfl rfl rfl (Nat.le_of_ble_eq_true rfl) dX12_fromMap_92 ⟨Nat.zero_le _, Nat.zero_le _⟩ (fun r u hp => ?_)
  obtain ⟨rfl, rfl⟩ := hp
  exact hQ 95 _ _ _ ⟨(dl_r2 h).1, by rw [(dl_r2 h).2]⟩ (vp_nar_int _) dX12_fromMap_95
set_option maxHeartbeats 4000000 in
set_option maxRecDepth 100000 in
theorem mo_fromMap_t18 {p : Program} {e : Env} {s : State} {m : MethodId} {args : Array Value} {below : List Frame} {meth : Method} {c : Code} {Q : State → Prop} {A : Nat → Prop} (l : Launch) (D : va_G) (cI : ClassId) (TY : dl_TY) (hTY : TY[0]? = some (cI, .int)) (nw : List Cond) (N : Nat) (ad : Nat → Nat) (R : va_W) {r0 : Int32} {g0 : dl_Sg} (C : dl_Cx p s m args c A D TY nw cX12_fromMap 5 yX12_fromMap.cls wsX12_fromMap) (hQ : dl_RtI p l e (headSpec wsX12_fromMap { frames := 3, cells := 0, slots := 0, locals := 66 }).room s m args below meth c Q A D cX12_fromMap 5 0 0 .int (fun r u => r = r0 ∧ u = mm_w cI ad g0 ++ R)) (g : dl_Sg) (h : mo_fromMap_b18 N  g = some (r0, g0)) : dl_At p l e (headSpec wsX12_fromMap { frames := 3, cells := 0, slots := 0, locals := 66 }).room s m args below meth c Q A D 5 0 0 18 [(0, .ref (ad 0))] [] (mm_w cI ad g ++ R) := by
  unfold mo_fromMap_b18 at h
  refine dl_aload_n (pc := 18) C 0 dX12_fromMap_18 rfl rfl ?_
  refine dl_iconst (pc := 19) C 1 dX12_fromMap_19 (by decide) ?_
  obtain ⟨r1, g2, h1, h⟩ := dl_b2_some h
  refine dl_vI0 (pc := 20) C (cmo_refused l D cI TY hTY nw ad R _ _ h1) (cwV 1 C.2.2.2.2.1 gX12_fromMap_X12_refused rfl rfl rfl (by decide +kernel) ⟨Nat.le_of_ble_eq_true rfl, Nat.le_of_ble_eq_true rfl⟩) 0 12 mm_a0 rfl rfl rfl (Nat.le_of_ble_eq_true rfl) dX12_fromMap_20 ⟨Nat.zero_le _, Nat.zero_le _⟩ (fun r u hp => ?_)
  obtain ⟨rfl, rfl⟩ := hp
  exact hQ 23 _ _ _ ⟨(dl_r2 h).1, by rw [(dl_r2 h).2]⟩ (vp_nar_int _) dX12_fromMap_23
set_option maxHeartbeats 4000000 in
set_option maxRecDepth 100000 in
theorem cmo_fromMap (l : Launch) (D : va_G) (cI : ClassId) (TY : dl_TY) (hTY : TY[0]? = some (cI, .int)) (nw : List Cond) (N : Nat) (ad : Nat → Nat) (R : va_W) (g : dl_Sg) (x1 : Int32) (x2 : Int32) (x3 : Int32) {r0 : Int32} {g0 : dl_Sg} (h : mo_fromMap N g x1 x2 x3 = some (r0, g0)) : dl_CtI l D TY nw yX12_fromMap wsX12_fromMap { frames := 3, cells := 0, slots := 0, locals := 66 } 0 0 [.ref (ad 0), .int x1, .int x2, .int x3] (mm_w cI ad g ++ R) (fun r u => r = r0 ∧ u = mm_w cI ad g0 ++ R) := by
  refine dl_metI (ty := .int) [(0, .ref (ad 0)), (1, .int x1), (2, .int x2), (3, .int x3)] (by decide) rfl (Nat.le_of_ble_eq_true rfl) rfl ?_
  intro p e s m args below meth c Q A C hQ
  unfold mo_fromMap at h
  refine dl_iload_n (pc := 0) C 1 dX12_fromMap_0 rfl rfl ?_
  refine dl_iconst (pc := 1) C 0 dX12_fromMap_1 (by decide) ?_
  refine dl_iconst (pc := 2) C 4 dX12_fromMap_2 (by decide) ?_
  obtain ⟨r1, h1, h⟩ := dl_bi_some h
  refine dl_sI0 (pc := 3) C (cmo_in l D TY nw _ _ _ _ h1) (va_cwS 3 C.2.2.2.2.1 gX12_fromMap_X12_in rfl rfl rfl (by decide +kernel) ⟨Nat.le_of_ble_eq_true rfl, Nat.le_of_ble_eq_true rfl⟩) rfl rfl (Nat.le_of_ble_eq_true rfl) dX12_fromMap_3 ⟨Nat.zero_le _, Nat.zero_le _⟩ (fun r u hp => ?_)
  obtain ⟨rfl, hu⟩ := hp
  rw [hu]
  clear hu
  refine dl_if_eq (pc := 6) C 18 dX12_fromMap_6 (by decide) h (fun q22 h => ?_) (fun q22 h => ?_)
  · refine dl_sub [0] rfl ?_
    exact mo_fromMap_t18 l D cI TY hTY nw N ad R C hQ  _ h
  · refine dl_iload_n (pc := 9) C 2 dX12_fromMap_9 rfl rfl ?_
    refine dl_iconst (pc := 10) C 0 dX12_fromMap_10 (by decide) ?_
    refine dl_iconst (pc := 11) C 2 dX12_fromMap_11 (by decide) ?_
    obtain ⟨r2, h1, h⟩ := dl_bi_some h
    refine dl_sI0 (pc := 12) C (cmo_in l D TY nw _ _ _ _ h1) (va_cwS 3 C.2.2.2.2.1 gX12_fromMap_X12_in rfl rfl rfl (by decide +kernel) ⟨Nat.le_of_ble_eq_true rfl, Nat.le_of_ble_eq_true rfl⟩) rfl rfl (Nat.le_of_ble_eq_true rfl) dX12_fromMap_12 ⟨Nat.zero_le _, Nat.zero_le _⟩ (fun r u hp => ?_)
    obtain ⟨rfl, hu⟩ := hp
    rw [hu]
    clear hu
    refine dl_if_ne (pc := 15) C 24 dX12_fromMap_15 (by decide) h (fun q21 h => ?_) (fun q21 h => ?_)
    · refine dl_sub [0] rfl ?_
      exact mo_fromMap_t18 l D cI TY hTY nw N ad R C hQ  _ h
    · refine dl_aload_n (pc := 24) C 0 dX12_fromMap_24 rfl rfl ?_
      refine dl_get (pc := 25) C hin_X12_fromMap_X12 0 mm_a0 rfl 3 (by decide) lk_X12_fromMap_76 rfl rfl dX12_fromMap_25 ?_
      refine dl_bipush (pc := 28) C 16 dX12_fromMap_28 (by decide) ?_
      refine dl_icmp_ne (pc := 30) C 39 dX12_fromMap_30 (by decide) h (fun q20 h => ?_) (fun q20 h => ?_)
      · refine dl_aload_n (pc := 33) C 0 dX12_fromMap_33 rfl rfl ?_
        refine dl_iconst (pc := 34) C 2 dX12_fromMap_34 (by decide) ?_
        obtain ⟨r3, g4, h1, h⟩ := dl_b2_some h
        refine dl_vI0 (pc := 35) C (cmo_refused l D cI TY hTY nw ad R _ _ h1) (cwV 1 C.2.2.2.2.1 gX12_fromMap_X12_refused rfl rfl rfl (by decide +kernel) ⟨Nat.le_of_ble_eq_true rfl, Nat.le_of_ble_eq_true rfl⟩) 0 12 mm_a0 rfl rfl rfl (Nat.le_of_ble_eq_true rfl) dX12_fromMap_35 ⟨Nat.zero_le _, Nat.zero_le _⟩ (fun r u hp => ?_)
        obtain ⟨rfl, rfl⟩ := hp
        exact hQ 38 _ _ _ ⟨(dl_r2 h).1, by rw [(dl_r2 h).2]⟩ (vp_nar_int _) dX12_fromMap_38
      · refine dl_aload_n (pc := 39) C 0 dX12_fromMap_39 rfl rfl ?_
        refine dl_get (pc := 40) C hin_X12_fromMap_X12 0 mm_a0 rfl 11 (by decide) lk_X12_fromMap_28 rfl rfl dX12_fromMap_40 ?_
        refine dl_iload_n (pc := 43) C 1 dX12_fromMap_43 rfl rfl ?_
        obtain ⟨h0, h⟩ := dl_gd_some h
        refine dl_iald (pc := 44) C 7 0 mm_a11 hTY h0 dX12_fromMap_44 ?_
        refine dl_iconst (pc := 45) C (-1) dX12_fromMap_45 (by decide) ?_
        refine dl_icmp_ne (pc := 46) C 56 dX12_fromMap_46 (by decide) h (fun q19 h => ?_) (fun q19 h => ?_)
        · refine dl_aload_n (pc := 49) C 0 dX12_fromMap_49 rfl rfl ?_
          refine dl_bipush (pc := 50) C 10 dX12_fromMap_50 (by decide) ?_
          obtain ⟨r5, g6, h1, h⟩ := dl_b2_some h
          refine dl_vI0 (pc := 52) C (cmo_refused l D cI TY hTY nw ad R _ _ h1) (cwV 1 C.2.2.2.2.1 gX12_fromMap_X12_refused rfl rfl rfl (by decide +kernel) ⟨Nat.le_of_ble_eq_true rfl, Nat.le_of_ble_eq_true rfl⟩) 0 12 mm_a0 rfl rfl rfl (Nat.le_of_ble_eq_true rfl) dX12_fromMap_52 ⟨Nat.zero_le _, Nat.zero_le _⟩ (fun r u hp => ?_)
          obtain ⟨rfl, rfl⟩ := hp
          exact hQ 55 _ _ _ ⟨(dl_r2 h).1, by rw [(dl_r2 h).2]⟩ (vp_nar_int _) dX12_fromMap_55
        · refine dl_aload_n (pc := 56) C 0 dX12_fromMap_56 rfl rfl ?_
          refine dl_get (pc := 57) C hin_X12_fromMap_X12 0 mm_a0 rfl 11 (by decide) lk_X12_fromMap_28 rfl rfl dX12_fromMap_57 ?_
          refine dl_iload_n (pc := 60) C 1 dX12_fromMap_60 rfl rfl ?_
          obtain ⟨h0, h⟩ := dl_gd_some h
          refine dl_iald (pc := 61) C 7 0 mm_a11 hTY h0 dX12_fromMap_61 ?_
          refine dl_iload_n (pc := 62) C 2 dX12_fromMap_62 rfl rfl ?_
          refine dl_icmp_eq (pc := 63) C 73 dX12_fromMap_63 (by decide) h (fun q18 h => ?_) (fun q18 h => ?_)
          · refine dl_iload_n (pc := 73) C 3 dX12_fromMap_73 rfl rfl ?_
            refine dl_if_lt (pc := 74) C 89 dX12_fromMap_74 (by decide) h (fun q15 h => ?_) (fun q15 h => ?_)
            · refine dl_sub [0] rfl ?_
              exact mo_fromMap_t89 l D cI TY hTY nw N ad R C hQ  _ h
            · refine dl_iload_n (pc := 77) C 3 dX12_fromMap_77 rfl rfl ?_
              refine dl_aload_n (pc := 78) C 0 dX12_fromMap_78 rfl rfl ?_
              refine dl_get (pc := 79) C hin_X12_fromMap_X12 0 mm_a0 rfl 12 (by decide) lk_X12_fromMap_31 rfl rfl dX12_fromMap_79 ?_
              refine dl_iload_n (pc := 82) C 1 dX12_fromMap_82 rfl rfl ?_
              obtain ⟨h0, h⟩ := dl_gd_some h
              refine dl_iald (pc := 83) C 8 0 mm_a12 hTY h0 dX12_fromMap_83 ?_
              refine dl_iconst (pc := 84) C 3 dX12_fromMap_84 (by decide) ?_
              refine dl_isub (pc := 85) C dX12_fromMap_85 ?_
              refine dl_icmp_le (pc := 86) C 96 dX12_fromMap_86 (by decide) h (fun q14 h => ?_) (fun q14 h => ?_)
              · refine dl_bipush (pc := 96) C 20 dX12_fromMap_96 (by decide) ?_
                refine dl_iload_n (pc := 98) C 1 dX12_fromMap_98 rfl rfl ?_
                refine dl_imul (pc := 99) C dX12_fromMap_99 ?_
                refine dl_iload_n (pc := 100) C 3 dX12_fromMap_100 rfl rfl ?_
                refine dl_iadd (pc := 101) C dX12_fromMap_101 ?_
                refine dl_istore (pc := 102) C (fun v7 => [(4, .int v7), (0, .ref (ad 0)), (1, .int x1), (2, .int x2), (3, .int x3)]) dX12_fromMap_102 (by decide) (fun _ => rfl) h (fun v7 h => ?_)
                refine dl_aload_n (pc := 104) C 1 dX12_fromMap_104 rfl rfl ?_
                refine dl_aload_n (pc := 105) C 1 dX12_fromMap_105 rfl rfl ?_
                refine dl_get (pc := 106) C hin_X12_fromMap_X12 0 mm_a0 rfl 13 (by decide) lk_X12_fromMap_34 rfl rfl dX12_fromMap_106 ?_
                refine dl_iload (pc := 109) C 0 dX12_fromMap_109 rfl ?_
                obtain ⟨h0, h⟩ := dl_gd_some h
                refine dl_iald (pc := 111) C 9 0 mm_a13 hTY h0 dX12_fromMap_111 ?_
                refine dl_aload_n (pc := 112) C 1 dX12_fromMap_112 rfl rfl ?_
                refine dl_get (pc := 113) C hin_X12_fromMap_X12 0 mm_a0 rfl 13 (by decide) lk_X12_fromMap_34 rfl rfl dX12_fromMap_113 ?_
                refine dl_iload (pc := 116) C 0 dX12_fromMap_116 rfl ?_
                refine dl_iconst (pc := 118) C 1 dX12_fromMap_118 (by decide) ?_
                refine dl_iadd (pc := 119) C dX12_fromMap_119 ?_
                obtain ⟨h0, h⟩ := dl_gd_some h
                refine dl_iald (pc := 120) C 9 0 mm_a13 hTY h0 dX12_fromMap_120 ?_
                refine dl_aload_n (pc := 121) C 1 dX12_fromMap_121 rfl rfl ?_
                refine dl_get (pc := 122) C hin_X12_fromMap_X12 0 mm_a0 rfl 13 (by decide) lk_X12_fromMap_34 rfl rfl dX12_fromMap_122 ?_
                refine dl_iload (pc := 125) C 0 dX12_fromMap_125 rfl ?_
                refine dl_iconst (pc := 127) C 2 dX12_fromMap_127 (by decide) ?_
                refine dl_iadd (pc := 128) C dX12_fromMap_128 ?_
                obtain ⟨h0, h⟩ := dl_gd_some h
                refine dl_iald (pc := 129) C 9 0 mm_a13 hTY h0 dX12_fromMap_129 ?_
                obtain ⟨r8, h1, h⟩ := dl_bi_some h
                refine dl_vI0 (pc := 130) C (cmo_isGood l D cI TY hTY nw ad R _ _ _ _ h1) (cwV 3 C.2.2.2.2.1 gX12_fromMap_X12_isGood rfl rfl rfl (by decide +kernel) ⟨Nat.le_of_ble_eq_true rfl, Nat.le_of_ble_eq_true rfl⟩) 0 12 mm_a0 rfl rfl rfl (Nat.le_of_ble_eq_true rfl) dX12_fromMap_130 ⟨Nat.zero_le _, Nat.zero_le _⟩ (fun r u hp => ?_)
                obtain ⟨rfl, rfl⟩ := hp
                refine dl_if_eq (pc := 133) C 168 dX12_fromMap_133 (by decide) h (fun q13 h => ?_) (fun q13 h => ?_)
                · refine dl_aload_n (pc := 168) C 1 dX12_fromMap_168 rfl rfl ?_
                  refine dl_iconst (pc := 169) C 3 dX12_fromMap_169 (by decide) ?_
                  obtain ⟨r9, g10, h1, h⟩ := dl_b2_some h
                  refine dl_vI0 (pc := 170) C (cmo_refused l D cI TY hTY nw ad R _ _ h1) (cwV 1 C.2.2.2.2.1 gX12_fromMap_X12_refused rfl rfl rfl (by decide +kernel) ⟨Nat.le_of_ble_eq_true rfl, Nat.le_of_ble_eq_true rfl⟩) 0 12 mm_a0 rfl rfl rfl (Nat.le_of_ble_eq_true rfl) dX12_fromMap_170 ⟨Nat.zero_le _, Nat.zero_le _⟩ (fun r u hp => ?_)
                  obtain ⟨rfl, rfl⟩ := hp
                  exact hQ 173 _ _ _ ⟨(dl_r2 h).1, by rw [(dl_r2 h).2]⟩ (vp_nar_int _) dX12_fromMap_173
                · refine dl_aload_n (pc := 136) C 1 dX12_fromMap_136 rfl rfl ?_
                  refine dl_aload_n (pc := 137) C 1 dX12_fromMap_137 rfl rfl ?_
                  refine dl_get (pc := 138) C hin_X12_fromMap_X12 0 mm_a0 rfl 13 (by decide) lk_X12_fromMap_34 rfl rfl dX12_fromMap_138 ?_
                  refine dl_iload (pc := 141) C 0 dX12_fromMap_141 rfl ?_
                  obtain ⟨h0, h⟩ := dl_gd_some h
                  refine dl_iald (pc := 143) C 9 0 mm_a13 hTY h0 dX12_fromMap_143 ?_
                  refine dl_aload_n (pc := 144) C 1 dX12_fromMap_144 rfl rfl ?_
                  refine dl_get (pc := 145) C hin_X12_fromMap_X12 0 mm_a0 rfl 13 (by decide) lk_X12_fromMap_34 rfl rfl dX12_fromMap_145 ?_
                  refine dl_iload (pc := 148) C 0 dX12_fromMap_148 rfl ?_
                  refine dl_iconst (pc := 150) C 1 dX12_fromMap_150 (by decide) ?_
                  refine dl_iadd (pc := 151) C dX12_fromMap_151 ?_
                  obtain ⟨h0, h⟩ := dl_gd_some h
                  refine dl_iald (pc := 152) C 9 0 mm_a13 hTY h0 dX12_fromMap_152 ?_
                  refine dl_aload_n (pc := 153) C 1 dX12_fromMap_153 rfl rfl ?_
                  refine dl_get (pc := 154) C hin_X12_fromMap_X12 0 mm_a0 rfl 13 (by decide) lk_X12_fromMap_34 rfl rfl dX12_fromMap_154 ?_
                  refine dl_iload (pc := 157) C 0 dX12_fromMap_157 rfl ?_
                  refine dl_iconst (pc := 159) C 2 dX12_fromMap_159 (by decide) ?_
                  refine dl_iadd (pc := 160) C dX12_fromMap_160 ?_
                  obtain ⟨h0, h⟩ := dl_gd_some h
                  refine dl_iald (pc := 161) C 9 0 mm_a13 hTY h0 dX12_fromMap_161 ?_
                  obtain ⟨r11, g12, h1, h⟩ := dl_b2_some h
                  refine dl_vI0 (pc := 162) C (cmo_made l D cI TY hTY nw N ad R _ _ _ _ h1) (cwV 3 C.2.2.2.2.1 gX12_fromMap_X12_made rfl rfl rfl (by decide +kernel) ⟨Nat.le_of_ble_eq_true rfl, Nat.le_of_ble_eq_true rfl⟩) 0 12 mm_a0 rfl rfl rfl (Nat.le_of_ble_eq_true rfl) dX12_fromMap_162 ⟨Nat.zero_le _, Nat.zero_le _⟩ (fun r u hp => ?_)
                  obtain ⟨rfl, rfl⟩ := hp
                  refine dl_goto (pc := 165) C 173 dX12_fromMap_165 (by decide) ?_
                  exact hQ 173 _ _ _ ⟨(dl_r2 h).1, by rw [(dl_r2 h).2]⟩ (vp_nar_int _) dX12_fromMap_173
              · refine dl_sub [0] rfl ?_
                exact mo_fromMap_t89 l D cI TY hTY nw N ad R C hQ  _ h
          · refine dl_aload_n (pc := 66) C 0 dX12_fromMap_66 rfl rfl ?_
            refine dl_bipush (pc := 67) C 11 dX12_fromMap_67 (by decide) ?_
            obtain ⟨r16, g17, h1, h⟩ := dl_b2_some h
            refine dl_vI0 (pc := 69) C (cmo_refused l D cI TY hTY nw ad R _ _ h1) (cwV 1 C.2.2.2.2.1 gX12_fromMap_X12_refused rfl rfl rfl (by decide +kernel) ⟨Nat.le_of_ble_eq_true rfl, Nat.le_of_ble_eq_true rfl⟩) 0 12 mm_a0 rfl rfl rfl (Nat.le_of_ble_eq_true rfl) dX12_fromMap_69 ⟨Nat.zero_le _, Nat.zero_le _⟩ (fun r u hp => ?_)
            obtain ⟨rfl, rfl⟩ := hp
            exact hQ 72 _ _ _ ⟨(dl_r2 h).1, by rw [(dl_r2 h).2]⟩ (vp_nar_int _) dX12_fromMap_72
set_option maxHeartbeats 4000000 in
set_option maxRecDepth 100000 in
theorem cmo_modulo (l : Launch) (D : va_G) (TY : dl_TY) (nw : List Cond) (R : va_W) (x0 : Int32) (x1 : Int32) {r0 : Int32} (h : mo_modulo x0 x1 = some r0) : dl_CtI l D TY nw yX12_modulo wsX12_modulo { frames := 0, cells := 0, slots := 0, locals := 0 } 0 0 [.int x0, .int x1] (R) (fun r u => r = r0 ∧ u = R) := by
  refine dl_metI (ty := .int) [(0, .int x0), (1, .int x1)] (by decide) rfl (Nat.le_of_ble_eq_true rfl) rfl ?_
  intro p e s m args below meth c Q A C hQ
  unfold mo_modulo at h
  refine dl_iload_n (pc := 0) C 0 dX12_modulo_0 rfl rfl ?_
  refine dl_iload_n (pc := 1) C 1 dX12_modulo_1 rfl rfl ?_
  obtain ⟨h0, h⟩ := dl_gd_some h
  refine dl_irem (pc := 2) C dX12_modulo_2 h0 ?_
  refine dl_iload_n (pc := 3) C 1 dX12_modulo_3 rfl rfl ?_
  refine dl_iadd (pc := 4) C dX12_modulo_4 ?_
  refine dl_iload_n (pc := 5) C 1 dX12_modulo_5 rfl rfl ?_
  obtain ⟨h0, h⟩ := dl_gd_some h
  refine dl_irem (pc := 6) C dX12_modulo_6 h0 ?_
  exact hQ 7 _ _ _ ⟨Option.some.inj h, rfl⟩ (vp_nar_int _) dX12_modulo_7
theorem hin_X12_placeTaken_X12 : ∀ w ∈ u_ws RX12 TX12 32, w ∈ wsX12_placeTaken := fun _ h => List.mem_cons_of_mem _ (List.mem_append_right _ h)
theorem lk_X12_placeTaken_7 : Cond.fieldLink (yX12_placeTaken).cls 7 "DripLinesModel" (TX12 1).2.1 (TX12 1).2.2.1 ∈ wsX12_placeTaken := by decide +kernel
set_option maxHeartbeats 4000000 in
set_option maxRecDepth 100000 in
theorem mo_placeTaken_t49 {p : Program} {e : Env} {s : State} {m : MethodId} {args : Array Value} {below : List Frame} {meth : Method} {c : Code} {Q : State → Prop} {A : Nat → Prop} (l : Launch) (D : va_G) (cI : ClassId) (TY : dl_TY) (hTY : TY[0]? = some (cI, .int)) (nw : List Cond) (ad : Nat → Nat) (R : va_W) {r0 : Int32} {g0 : dl_Sg} (C : dl_Cx p s m args c A D TY nw cX12_placeTaken 4 yX12_placeTaken.cls wsX12_placeTaken) (hQ : dl_RtI p l e (headSpec wsX12_placeTaken { frames := 2, cells := 0, slots := 0, locals := 43 }).room s m args below meth c Q A D cX12_placeTaken 4 0 0 .int (fun r u => r = r0 ∧ u = mm_w cI ad g0 ++ R)) (x1 : Int32) (y0 : Int32) (g : dl_Sg) (h : mo_placeTaken_b49 x1 y0 g = some (r0, g0)) : dl_At p l e (headSpec wsX12_placeTaken { frames := 2, cells := 0, slots := 0, locals := 43 }).room s m args below meth c Q A D 4 0 0 49 [(0, .ref (ad 0)), (1, .int x1)] [.int y0] (mm_w cI ad g ++ R) := by
  unfold mo_placeTaken_b49 at h
  refine dl_istore_n (pc := 49) C (fun v1 => [(3, .int v1), (0, .ref (ad 0)), (1, .int x1)]) dX12_placeTaken_49 rfl (by decide) (fun _ => rfl) h (fun v1 h => ?_)
  refine dl_iload_n (pc := 50) C 0 dX12_placeTaken_50 rfl rfl ?_
  refine dl_if_eq (pc := 51) C 67 dX12_placeTaken_51 (by decide) h (fun q6 h => ?_) (fun q6 h => ?_)
  · refine dl_aload_n (pc := 67) C 1 dX12_placeTaken_67 rfl rfl ?_
    refine dl_bipush (pc := 68) C 11 dX12_placeTaken_68 (by decide) ?_
    obtain ⟨r2, g3, h1, h⟩ := dl_b2_some h
    refine dl_vI0 (pc := 70) C (cmo_refused l D cI TY hTY nw ad R _ _ h1) (cwV 1 C.2.2.2.2.1 gX12_placeTaken_X12_refused rfl rfl rfl (by decide +kernel) ⟨Nat.le_of_ble_eq_true rfl, Nat.le_of_ble_eq_true rfl⟩) 0 12 mm_a0 rfl rfl rfl (Nat.le_of_ble_eq_true rfl) dX12_placeTaken_70 ⟨Nat.zero_le _, Nat.zero_le _⟩ (fun r u hp => ?_)
    obtain ⟨rfl, rfl⟩ := hp
    exact hQ 73 _ _ _ ⟨(dl_r2 h).1, by rw [(dl_r2 h).2]⟩ (vp_nar_int _) dX12_placeTaken_73
  · refine dl_aload_n (pc := 54) C 1 dX12_placeTaken_54 rfl rfl ?_
    refine dl_aload_n (pc := 55) C 1 dX12_placeTaken_55 rfl rfl ?_
    refine dl_get (pc := 56) C hin_X12_placeTaken_X12 0 mm_a0 rfl 1 (by decide) lk_X12_placeTaken_7 rfl rfl dX12_placeTaken_56 ?_
    refine dl_iload_n (pc := 59) C 2 dX12_placeTaken_59 rfl rfl ?_
    obtain ⟨h0, h⟩ := dl_gd_some h
    refine dl_iald (pc := 60) C 1 0 mm_a1 hTY h0 dX12_placeTaken_60 ?_
    obtain ⟨r4, g5, h1, h⟩ := dl_b2_some h
    refine dl_vI0 (pc := 61) C (cmo_done l D cI TY hTY nw ad R _ _ h1) (cwV 1 C.2.2.2.2.1 gX12_placeTaken_X12_done rfl rfl rfl (by decide +kernel) ⟨Nat.le_of_ble_eq_true rfl, Nat.le_of_ble_eq_true rfl⟩) 0 12 mm_a0 rfl rfl rfl (Nat.le_of_ble_eq_true rfl) dX12_placeTaken_61 ⟨Nat.zero_le _, Nat.zero_le _⟩ (fun r u hp => ?_)
    obtain ⟨rfl, rfl⟩ := hp
    refine dl_goto (pc := 64) C 73 dX12_placeTaken_64 (by decide) ?_
    exact hQ 73 _ _ _ ⟨(dl_r2 h).1, by rw [(dl_r2 h).2]⟩ (vp_nar_int _) dX12_placeTaken_73
set_option maxHeartbeats 4000000 in
set_option maxRecDepth 100000 in
theorem mo_placeTaken_t48 {p : Program} {e : Env} {s : State} {m : MethodId} {args : Array Value} {below : List Frame} {meth : Method} {c : Code} {Q : State → Prop} {A : Nat → Prop} (l : Launch) (D : va_G) (cI : ClassId) (TY : dl_TY) (hTY : TY[0]? = some (cI, .int)) (nw : List Cond) (ad : Nat → Nat) (R : va_W) {r0 : Int32} {g0 : dl_Sg} (C : dl_Cx p s m args c A D TY nw cX12_placeTaken 4 yX12_placeTaken.cls wsX12_placeTaken) (hQ : dl_RtI p l e (headSpec wsX12_placeTaken { frames := 2, cells := 0, slots := 0, locals := 43 }).room s m args below meth c Q A D cX12_placeTaken 4 0 0 .int (fun r u => r = r0 ∧ u = mm_w cI ad g0 ++ R)) (x1 : Int32) (g : dl_Sg) (h : mo_placeTaken_b48 x1 g = some (r0, g0)) : dl_At p l e (headSpec wsX12_placeTaken { frames := 2, cells := 0, slots := 0, locals := 43 }).room s m args below meth c Q A D 4 0 0 48 [(0, .ref (ad 0)), (1, .int x1)] [] (mm_w cI ad g ++ R) := by
  unfold mo_placeTaken_b48 at h
  refine dl_iconst (pc := 48) C 0 dX12_placeTaken_48 (by decide) ?_
  refine dl_sub [0, 1] rfl ?_
  exact mo_placeTaken_t49 l D cI TY hTY nw ad R C hQ  _ _ _ h
set_option maxHeartbeats 4000000 in
set_option maxRecDepth 100000 in
theorem mo_placeTaken_t44 {p : Program} {e : Env} {s : State} {m : MethodId} {args : Array Value} {below : List Frame} {meth : Method} {c : Code} {Q : State → Prop} {A : Nat → Prop} (l : Launch) (D : va_G) (cI : ClassId) (TY : dl_TY) (hTY : TY[0]? = some (cI, .int)) (nw : List Cond) (ad : Nat → Nat) (R : va_W) {r0 : Int32} {g0 : dl_Sg} (C : dl_Cx p s m args c A D TY nw cX12_placeTaken 4 yX12_placeTaken.cls wsX12_placeTaken) (hQ : dl_RtI p l e (headSpec wsX12_placeTaken { frames := 2, cells := 0, slots := 0, locals := 43 }).room s m args below meth c Q A D cX12_placeTaken 4 0 0 .int (fun r u => r = r0 ∧ u = mm_w cI ad g0 ++ R)) (x1 : Int32) (g : dl_Sg) (h : mo_placeTaken_b44 x1 g = some (r0, g0)) : dl_At p l e (headSpec wsX12_placeTaken { frames := 2, cells := 0, slots := 0, locals := 43 }).room s m args below meth c Q A D 4 0 0 44 [(0, .ref (ad 0)), (1, .int x1)] [] (mm_w cI ad g ++ R) := by
  unfold mo_placeTaken_b44 at h
  refine dl_iconst (pc := 44) C 1 dX12_placeTaken_44 (by decide) ?_
  refine dl_goto (pc := 45) C 49 dX12_placeTaken_45 (by decide) ?_
  refine dl_sub [0, 1] rfl ?_
  exact mo_placeTaken_t49 l D cI TY hTY nw ad R C hQ  _ _ _ h
set_option maxHeartbeats 4000000 in
set_option maxRecDepth 100000 in
theorem cmo_placeTaken (l : Launch) (D : va_G) (cI : ClassId) (TY : dl_TY) (hTY : TY[0]? = some (cI, .int)) (nw : List Cond) (ad : Nat → Nat) (R : va_W) (g : dl_Sg) (x1 : Int32) (x2 : Int32) {r0 : Int32} {g0 : dl_Sg} (h : mo_placeTaken g x1 x2 = some (r0, g0)) : dl_CtI l D TY nw yX12_placeTaken wsX12_placeTaken { frames := 2, cells := 0, slots := 0, locals := 43 } 0 0 [.ref (ad 0), .int x1, .int x2] (mm_w cI ad g ++ R) (fun r u => r = r0 ∧ u = mm_w cI ad g0 ++ R) := by
  refine dl_metI (ty := .int) [(0, .ref (ad 0)), (1, .int x1), (2, .int x2)] (by decide) rfl (Nat.le_of_ble_eq_true rfl) rfl ?_
  intro p e s m args below meth c Q A C hQ
  unfold mo_placeTaken at h
  refine dl_aload_n (pc := 0) C 0 dX12_placeTaken_0 rfl rfl ?_
  refine dl_iload_n (pc := 1) C 1 dX12_placeTaken_1 rfl rfl ?_
  obtain ⟨r1, h1, h⟩ := dl_bi_some h
  refine dl_vI0 (pc := 2) C (cmo_isPlace l D cI TY hTY nw ad R _ _ h1) (cwV 1 C.2.2.2.2.1 gX12_placeTaken_X12_isPlace rfl rfl rfl (by decide +kernel) ⟨Nat.le_of_ble_eq_true rfl, Nat.le_of_ble_eq_true rfl⟩) 0 12 mm_a0 rfl rfl rfl (Nat.le_of_ble_eq_true rfl) dX12_placeTaken_2 ⟨Nat.zero_le _, Nat.zero_le _⟩ (fun r u hp => ?_)
  obtain ⟨rfl, rfl⟩ := hp
  refine dl_if_ne (pc := 5) C 15 dX12_placeTaken_5 (by decide) h (fun q8 h => ?_) (fun q8 h => ?_)
  · refine dl_aload_n (pc := 8) C 0 dX12_placeTaken_8 rfl rfl ?_
    refine dl_bipush (pc := 9) C 10 dX12_placeTaken_9 (by decide) ?_
    obtain ⟨r2, g3, h1, h⟩ := dl_b2_some h
    refine dl_vI0 (pc := 11) C (cmo_refused l D cI TY hTY nw ad R _ _ h1) (cwV 1 C.2.2.2.2.1 gX12_placeTaken_X12_refused rfl rfl rfl (by decide +kernel) ⟨Nat.le_of_ble_eq_true rfl, Nat.le_of_ble_eq_true rfl⟩) 0 12 mm_a0 rfl rfl rfl (Nat.le_of_ble_eq_true rfl) dX12_placeTaken_11 ⟨Nat.zero_le _, Nat.zero_le _⟩ (fun r u hp => ?_)
    obtain ⟨rfl, rfl⟩ := hp
    exact hQ 14 _ _ _ ⟨(dl_r2 h).1, by rw [(dl_r2 h).2]⟩ (vp_nar_int _) dX12_placeTaken_14
  · refine dl_iload_n (pc := 15) C 2 dX12_placeTaken_15 rfl rfl ?_
    refine dl_if_eq (pc := 16) C 44 dX12_placeTaken_16 (by decide) h (fun q7 h => ?_) (fun q7 h => ?_)
    · refine dl_sub [0, 1] rfl ?_
      exact mo_placeTaken_t44 l D cI TY hTY nw ad R C hQ  _ _ h
    · refine dl_iload_n (pc := 19) C 2 dX12_placeTaken_19 rfl rfl ?_
      refine dl_aload_n (pc := 20) C 0 dX12_placeTaken_20 rfl rfl ?_
      refine dl_get (pc := 21) C hin_X12_placeTaken_X12 0 mm_a0 rfl 1 (by decide) lk_X12_placeTaken_7 rfl rfl dX12_placeTaken_21 ?_
      refine dl_iload_n (pc := 24) C 1 dX12_placeTaken_24 rfl rfl ?_
      obtain ⟨h0, h⟩ := dl_gd_some h
      refine dl_iald (pc := 25) C 1 0 mm_a1 hTY h0 dX12_placeTaken_25 ?_
      refine dl_icmp_eq (pc := 26) C 44 dX12_placeTaken_26 (by decide) h (fun q6 h => ?_) (fun q6 h => ?_)
      · refine dl_sub [0, 1] rfl ?_
        exact mo_placeTaken_t44 l D cI TY hTY nw ad R C hQ  _ _ h
      · refine dl_iload_n (pc := 29) C 2 dX12_placeTaken_29 rfl rfl ?_
        refine dl_iconst (pc := 30) C 1 dX12_placeTaken_30 (by decide) ?_
        refine dl_icmp_ne (pc := 31) C 48 dX12_placeTaken_31 (by decide) h (fun q5 h => ?_) (fun q5 h => ?_)
        · refine dl_aload_n (pc := 34) C 0 dX12_placeTaken_34 rfl rfl ?_
          refine dl_get (pc := 35) C hin_X12_placeTaken_X12 0 mm_a0 rfl 1 (by decide) lk_X12_placeTaken_7 rfl rfl dX12_placeTaken_35 ?_
          refine dl_iload_n (pc := 38) C 1 dX12_placeTaken_38 rfl rfl ?_
          obtain ⟨h0, h⟩ := dl_gd_some h
          refine dl_iald (pc := 39) C 1 0 mm_a1 hTY h0 dX12_placeTaken_39 ?_
          refine dl_iconst (pc := 40) C 3 dX12_placeTaken_40 (by decide) ?_
          refine dl_icmp_ne (pc := 41) C 48 dX12_placeTaken_41 (by decide) h (fun q4 h => ?_) (fun q4 h => ?_)
          · refine dl_sub [0, 1] rfl ?_
            exact mo_placeTaken_t44 l D cI TY hTY nw ad R C hQ  _ _ h
          · refine dl_sub [0, 1] rfl ?_
            exact mo_placeTaken_t48 l D cI TY hTY nw ad R C hQ  _ _ h
        · refine dl_sub [0, 1] rfl ?_
          exact mo_placeTaken_t48 l D cI TY hTY nw ad R C hQ  _ _ h
theorem hin_X12_copied_X12 : ∀ w ∈ u_ws RX12 TX12 32, w ∈ wsX12_copied := fun _ h => List.mem_cons_of_mem _ (List.mem_append_right _ h)
theorem lk_X12_copied_34 : Cond.fieldLink (yX12_copied).cls 34 "DripLinesModel" (TX12 13).2.1 (TX12 13).2.2.1 ∈ wsX12_copied := by decide +kernel
set_option maxHeartbeats 4000000 in
set_option maxRecDepth 100000 in
theorem mo_copied_t5 {p : Program} {e : Env} {s : State} {m : MethodId} {args : Array Value} {below : List Frame} {meth : Method} {c : Code} {Q : State → Prop} {A : Nat → Prop} (l : Launch) (D : va_G) (cI : ClassId) (TY : dl_TY) (hTY : TY[0]? = some (cI, .int)) (nw : List Cond) (N : Nat) (ad : Nat → Nat) (R : va_W) (g : dl_Sg) {r0 : Int32} (C : dl_Cx p s m args c A D TY nw cX12_copied 5 yX12_copied.cls wsX12_copied) (hQ : dl_RtI p l e (headSpec wsX12_copied { frames := 0, cells := 0, slots := 0, locals := 0 }).room s m args below meth c Q A D cX12_copied 5 0 0 .int (fun r u => r = r0 ∧ u = mm_w cI ad g ++ R)) : ∀ (n : Nat) (x1 : Int32) (x2 : Int32) (x3 : Int32) (x4 : Int32), mo_copied_b5 N g n x1 x2 x3 x4 = some r0 → dl_At p l e (headSpec wsX12_copied { frames := 0, cells := 0, slots := 0, locals := 0 }).room s m args below meth c Q A D 5 0 0 5 [(0, .ref (ad 0)), (1, .int x1), (2, .int x2), (3, .int x3), (4, .int x4)] [] (mm_w cI ad g ++ R) := by
  intro n
  induction n with
  | zero => exact fun _ _ _ _ h => absurd (show (none : Option Int32) = some _ from h) (by intro q; cases q)
  | succ n ih =>
    intro x1 x2 x3 x4 h
    rw [mo_copied_b5] at h
    refine dl_iload (pc := 5) C 4 dX12_copied_5 rfl ?_
    refine dl_iload_n (pc := 7) C 2 dX12_copied_7 rfl rfl ?_
    refine dl_icmp_gt (pc := 8) C 32 dX12_copied_8 (by decide) h (fun q3 h => ?_) (fun q3 h => ?_)
    · refine dl_iload_n (pc := 32) C 3 dX12_copied_32 rfl rfl ?_
      exact hQ 33 _ _ _ ⟨Option.some.inj h, rfl⟩ (vp_nar_int _) dX12_copied_33
    · refine dl_iload_n (pc := 11) C 3 dX12_copied_11 rfl rfl ?_
      refine dl_aload_n (pc := 12) C 0 dX12_copied_12 rfl rfl ?_
      refine dl_get (pc := 13) C hin_X12_copied_X12 0 mm_a0 rfl 13 (by decide) lk_X12_copied_34 rfl rfl dX12_copied_13 ?_
      refine dl_bipush (pc := 16) C 20 dX12_copied_16 (by decide) ?_
      refine dl_iload_n (pc := 18) C 1 dX12_copied_18 rfl rfl ?_
      refine dl_imul (pc := 19) C dX12_copied_19 ?_
      refine dl_iload (pc := 20) C 4 dX12_copied_20 rfl ?_
      refine dl_iadd (pc := 22) C dX12_copied_22 ?_
      obtain ⟨h0, h⟩ := dl_gd_some h
      refine dl_iald (pc := 23) C 9 0 mm_a13 hTY h0 dX12_copied_23 ?_
      refine dl_iadd (pc := 24) C dX12_copied_24 ?_
      refine dl_istore_n (pc := 25) C (fun v1 => [(3, .int v1), (0, .ref (ad 0)), (1, .int x1), (2, .int x2), (4, .int x4)]) dX12_copied_25 rfl (by decide) (fun _ => rfl) h (fun v1 h => ?_)
      refine dl_iinc (pc := 26) C 4 (fun v2 => [(4, .int v2), (3, .int v1), (0, .ref (ad 0)), (1, .int x1), (2, .int x2)]) dX12_copied_26 rfl rfl (by decide) (fun _ => rfl) h (fun v2 h => ?_)
      refine dl_goto (pc := 29) C 5 dX12_copied_29 (by decide) ?_
      refine dl_sub [2, 3, 4, 1, 0] rfl ?_
      exact ih _ _ _ _ h
set_option maxHeartbeats 4000000 in
set_option maxRecDepth 100000 in
theorem cmo_copied (l : Launch) (D : va_G) (cI : ClassId) (TY : dl_TY) (hTY : TY[0]? = some (cI, .int)) (nw : List Cond) (N : Nat) (ad : Nat → Nat) (R : va_W) (g : dl_Sg) (x1 : Int32) (x2 : Int32) {r0 : Int32} (h : mo_copied N g x1 x2 = some r0) : dl_CtI l D TY nw yX12_copied wsX12_copied { frames := 0, cells := 0, slots := 0, locals := 0 } 0 0 [.ref (ad 0), .int x1, .int x2] (mm_w cI ad g ++ R) (fun r u => r = r0 ∧ u = mm_w cI ad g ++ R) := by
  refine dl_metI (ty := .int) [(0, .ref (ad 0)), (1, .int x1), (2, .int x2)] (by decide) rfl (Nat.le_of_ble_eq_true rfl) rfl ?_
  intro p e s m args below meth c Q A C hQ
  unfold mo_copied at h
  refine dl_iconst (pc := 0) C 0 dX12_copied_0 (by decide) ?_
  refine dl_istore_n (pc := 1) C (fun v1 => [(3, .int v1), (0, .ref (ad 0)), (1, .int x1), (2, .int x2)]) dX12_copied_1 rfl (by decide) (fun _ => rfl) h (fun v1 h => ?_)
  refine dl_iconst (pc := 2) C 1 dX12_copied_2 (by decide) ?_
  refine dl_istore (pc := 3) C (fun v2 => [(4, .int v2), (3, .int v1), (0, .ref (ad 0)), (1, .int x1), (2, .int x2)]) dX12_copied_3 (by decide) (fun _ => rfl) h (fun v2 h => ?_)
  refine dl_sub [2, 3, 4, 1, 0] rfl ?_
  exact mo_copied_t5 l D cI TY hTY nw N ad R g C hQ N _ _ _ _ h
theorem hin_X12_forge_X12 : ∀ w ∈ u_ws RX12 TX12 32, w ∈ wsX12_forge := fun _ h => List.mem_cons_of_mem _ (List.mem_append_right _ h)
theorem lk_X12_forge_7 : Cond.fieldLink (yX12_forge).cls 7 "DripLinesModel" (TX12 1).2.1 (TX12 1).2.2.1 ∈ wsX12_forge := by decide +kernel
theorem lk_X12_forge_28 : Cond.fieldLink (yX12_forge).cls 28 "DripLinesModel" (TX12 11).2.1 (TX12 11).2.2.1 ∈ wsX12_forge := by decide +kernel
theorem lk_X12_forge_31 : Cond.fieldLink (yX12_forge).cls 31 "DripLinesModel" (TX12 12).2.1 (TX12 12).2.2.1 ∈ wsX12_forge := by decide +kernel
theorem lk_X12_forge_34 : Cond.fieldLink (yX12_forge).cls 34 "DripLinesModel" (TX12 13).2.1 (TX12 13).2.2.1 ∈ wsX12_forge := by decide +kernel
set_option maxHeartbeats 4000000 in
set_option maxRecDepth 100000 in
theorem mo_forge_t281 {p : Program} {e : Env} {s : State} {m : MethodId} {args : Array Value} {below : List Frame} {meth : Method} {c : Code} {Q : State → Prop} {A : Nat → Prop} (l : Launch) (D : va_G) (cI : ClassId) (TY : dl_TY) (hTY : TY[0]? = some (cI, .int)) (nw : List Cond) (N : Nat) (ad : Nat → Nat) (R : va_W) {r0 : Int32} {g0 : dl_Sg} (C : dl_Cx p s m args c A D TY nw cX12_forge 6 yX12_forge.cls wsX12_forge) (hQ : dl_RtI p l e (headSpec wsX12_forge { frames := 3, cells := 0, slots := 0, locals := 66 }).room s m args below meth c Q A D cX12_forge 6 0 0 .int (fun r u => r = r0 ∧ u = mm_w cI ad g0 ++ R)) (g : dl_Sg) (h : mo_forge_b281 N  g = some (r0, g0)) : dl_At p l e (headSpec wsX12_forge { frames := 3, cells := 0, slots := 0, locals := 66 }).room s m args below meth c Q A D 6 0 0 281 [(0, .ref (ad 0))] [] (mm_w cI ad g ++ R) := by
  unfold mo_forge_b281 at h
  refine dl_aload_n (pc := 281) C 0 dX12_forge_281 rfl rfl ?_
  refine dl_bipush (pc := 282) C 12 dX12_forge_282 (by decide) ?_
  obtain ⟨r1, g2, h1, h⟩ := dl_b2_some h
  refine dl_vI0 (pc := 284) C (cmo_refused l D cI TY hTY nw ad R _ _ h1) (cwV 1 C.2.2.2.2.1 gX12_forge_X12_refused rfl rfl rfl (by decide +kernel) ⟨Nat.le_of_ble_eq_true rfl, Nat.le_of_ble_eq_true rfl⟩) 0 12 mm_a0 rfl rfl rfl (Nat.le_of_ble_eq_true rfl) dX12_forge_284 ⟨Nat.zero_le _, Nat.zero_le _⟩ (fun r u hp => ?_)
  obtain ⟨rfl, rfl⟩ := hp
  exact hQ 287 _ _ _ ⟨(dl_r2 h).1, by rw [(dl_r2 h).2]⟩ (vp_nar_int _) dX12_forge_287
set_option maxHeartbeats 4000000 in
set_option maxRecDepth 100000 in
theorem mo_forge_t32 {p : Program} {e : Env} {s : State} {m : MethodId} {args : Array Value} {below : List Frame} {meth : Method} {c : Code} {Q : State → Prop} {A : Nat → Prop} (l : Launch) (D : va_G) (cI : ClassId) (TY : dl_TY) (hTY : TY[0]? = some (cI, .int)) (nw : List Cond) (N : Nat) (ad : Nat → Nat) (R : va_W) {r0 : Int32} {g0 : dl_Sg} (C : dl_Cx p s m args c A D TY nw cX12_forge 6 yX12_forge.cls wsX12_forge) (hQ : dl_RtI p l e (headSpec wsX12_forge { frames := 3, cells := 0, slots := 0, locals := 66 }).room s m args below meth c Q A D cX12_forge 6 0 0 .int (fun r u => r = r0 ∧ u = mm_w cI ad g0 ++ R)) (g : dl_Sg) (h : mo_forge_b32 N  g = some (r0, g0)) : dl_At p l e (headSpec wsX12_forge { frames := 3, cells := 0, slots := 0, locals := 66 }).room s m args below meth c Q A D 6 0 0 32 [(0, .ref (ad 0))] [] (mm_w cI ad g ++ R) := by
  unfold mo_forge_b32 at h
  refine dl_aload_n (pc := 32) C 0 dX12_forge_32 rfl rfl ?_
  refine dl_iconst (pc := 33) C 1 dX12_forge_33 (by decide) ?_
  obtain ⟨r1, g2, h1, h⟩ := dl_b2_some h
  refine dl_vI0 (pc := 34) C (cmo_refused l D cI TY hTY nw ad R _ _ h1) (cwV 1 C.2.2.2.2.1 gX12_forge_X12_refused rfl rfl rfl (by decide +kernel) ⟨Nat.le_of_ble_eq_true rfl, Nat.le_of_ble_eq_true rfl⟩) 0 12 mm_a0 rfl rfl rfl (Nat.le_of_ble_eq_true rfl) dX12_forge_34 ⟨Nat.zero_le _, Nat.zero_le _⟩ (fun r u hp => ?_)
  obtain ⟨rfl, rfl⟩ := hp
  exact hQ 37 _ _ _ ⟨(dl_r2 h).1, by rw [(dl_r2 h).2]⟩ (vp_nar_int _) dX12_forge_37
set_option maxHeartbeats 4000000 in
set_option maxRecDepth 100000 in
theorem cmo_forge (l : Launch) (D : va_G) (cI : ClassId) (TY : dl_TY) (hTY : TY[0]? = some (cI, .int)) (nw : List Cond) (N : Nat) (ad : Nat → Nat) (R : va_W) (g : dl_Sg) (x1 : Int32) (x2 : Int32) (x3 : Int32) {r0 : Int32} {g0 : dl_Sg} (h : mo_forge N g x1 x2 x3 = some (r0, g0)) : dl_CtI l D TY nw yX12_forge wsX12_forge { frames := 3, cells := 0, slots := 0, locals := 66 } 0 0 [.ref (ad 0), .int x1, .int x2, .int x3] (mm_w cI ad g ++ R) (fun r u => r = r0 ∧ u = mm_w cI ad g0 ++ R) := by
  refine dl_metI (ty := .int) [(0, .ref (ad 0)), (1, .int x1), (2, .int x2), (3, .int x3)] (by decide) rfl (Nat.le_of_ble_eq_true rfl) rfl ?_
  intro p e s m args below meth c Q A C hQ
  unfold mo_forge at h
  refine dl_iload_n (pc := 0) C 1 dX12_forge_0 rfl rfl ?_
  refine dl_iconst (pc := 1) C 0 dX12_forge_1 (by decide) ?_
  refine dl_bipush (pc := 2) C 6 dX12_forge_2 (by decide) ?_
  obtain ⟨r1, h1, h⟩ := dl_bi_some h
  refine dl_sI0 (pc := 4) C (cmo_in l D TY nw _ _ _ _ h1) (va_cwS 3 C.2.2.2.2.1 gX12_forge_X12_in rfl rfl rfl (by decide +kernel) ⟨Nat.le_of_ble_eq_true rfl, Nat.le_of_ble_eq_true rfl⟩) rfl rfl (Nat.le_of_ble_eq_true rfl) dX12_forge_4 ⟨Nat.zero_le _, Nat.zero_le _⟩ (fun r u hp => ?_)
  obtain ⟨rfl, hu⟩ := hp
  rw [hu]
  clear hu
  refine dl_if_eq (pc := 7) C 32 dX12_forge_7 (by decide) h (fun q68 h => ?_) (fun q68 h => ?_)
  · refine dl_sub [0] rfl ?_
    exact mo_forge_t32 l D cI TY hTY nw N ad R C hQ  _ h
  · refine dl_iload_n (pc := 10) C 2 dX12_forge_10 rfl rfl ?_
    refine dl_bipush (pc := 11) C (-100) dX12_forge_11 (by decide) ?_
    refine dl_bipush (pc := 13) C 100 dX12_forge_13 (by decide) ?_
    obtain ⟨r2, h1, h⟩ := dl_bi_some h
    refine dl_sI0 (pc := 15) C (cmo_in l D TY nw _ _ _ _ h1) (va_cwS 3 C.2.2.2.2.1 gX12_forge_X12_in rfl rfl rfl (by decide +kernel) ⟨Nat.le_of_ble_eq_true rfl, Nat.le_of_ble_eq_true rfl⟩) rfl rfl (Nat.le_of_ble_eq_true rfl) dX12_forge_15 ⟨Nat.zero_le _, Nat.zero_le _⟩ (fun r u hp => ?_)
    obtain ⟨rfl, hu⟩ := hp
    rw [hu]
    clear hu
    refine dl_if_eq (pc := 18) C 32 dX12_forge_18 (by decide) h (fun q67 h => ?_) (fun q67 h => ?_)
    · refine dl_sub [0] rfl ?_
      exact mo_forge_t32 l D cI TY hTY nw N ad R C hQ  _ h
    · refine dl_iload_n (pc := 21) C 3 dX12_forge_21 rfl rfl ?_
      refine dl_bipush (pc := 22) C (-100) dX12_forge_22 (by decide) ?_
      refine dl_bipush (pc := 24) C 100 dX12_forge_24 (by decide) ?_
      obtain ⟨r3, h1, h⟩ := dl_bi_some h
      refine dl_sI0 (pc := 26) C (cmo_in l D TY nw _ _ _ _ h1) (va_cwS 3 C.2.2.2.2.1 gX12_forge_X12_in rfl rfl rfl (by decide +kernel) ⟨Nat.le_of_ble_eq_true rfl, Nat.le_of_ble_eq_true rfl⟩) rfl rfl (Nat.le_of_ble_eq_true rfl) dX12_forge_26 ⟨Nat.zero_le _, Nat.zero_le _⟩ (fun r u hp => ?_)
      obtain ⟨rfl, hu⟩ := hp
      rw [hu]
      clear hu
      refine dl_if_ne (pc := 29) C 38 dX12_forge_29 (by decide) h (fun q66 h => ?_) (fun q66 h => ?_)
      · refine dl_sub [0] rfl ?_
        exact mo_forge_t32 l D cI TY hTY nw N ad R C hQ  _ h
      · refine dl_iload_n (pc := 38) C 3 dX12_forge_38 rfl rfl ?_
        refine dl_iconst (pc := 39) C 5 dX12_forge_39 (by decide) ?_
        obtain ⟨r4, h1, h⟩ := dl_bi_some h
        refine dl_sI0 (pc := 40) C (cmo_modulo l D TY nw _ _ _ h1) (va_cwS 2 C.2.2.2.2.1 gX12_forge_X12_modulo rfl rfl rfl (by decide +kernel) ⟨Nat.le_of_ble_eq_true rfl, Nat.le_of_ble_eq_true rfl⟩) rfl rfl (Nat.le_of_ble_eq_true rfl) dX12_forge_40 ⟨Nat.zero_le _, Nat.zero_le _⟩ (fun r u hp => ?_)
        obtain ⟨rfl, hu⟩ := hp
        rw [hu]
        clear hu
        refine dl_istore (pc := 43) C (fun v5 => [(4, .int v5), (0, .ref (ad 0)), (1, .int x1), (2, .int x2), (3, .int x3)]) dX12_forge_43 (by decide) (fun _ => rfl) h (fun v5 h => ?_)
        refine dl_iload_n (pc := 45) C 4 dX12_forge_45 rfl rfl ?_
        refine dl_bipush (pc := 46) C 10 dX12_forge_46 (by decide) ?_
        obtain ⟨r6, h1, h⟩ := dl_bi_some h
        refine dl_sI0 (pc := 48) C (cmo_modulo l D TY nw _ _ _ h1) (va_cwS 2 C.2.2.2.2.1 gX12_forge_X12_modulo rfl rfl rfl (by decide +kernel) ⟨Nat.le_of_ble_eq_true rfl, Nat.le_of_ble_eq_true rfl⟩) rfl rfl (Nat.le_of_ble_eq_true rfl) dX12_forge_48 ⟨Nat.zero_le _, Nat.zero_le _⟩ (fun r u hp => ?_)
        obtain ⟨rfl, hu⟩ := hp
        rw [hu]
        clear hu
        refine dl_istore (pc := 51) C (fun v7 => [(5, .int v7), (4, .int v5), (0, .ref (ad 0)), (1, .int x1), (2, .int x2), (3, .int x3)]) dX12_forge_51 (by decide) (fun _ => rfl) h (fun v7 h => ?_)
        refine dl_iload_n (pc := 53) C 3 dX12_forge_53 rfl rfl ?_
        by_cases q60 : x1 = 0
        · rw [if_pos q60] at h
          refine dl_tabIn (pc := 54) C 38 92 dX12_forge_54 (by rw [q60]; decide) (by rw [q60]; decide) (by rw [q60]; rfl) (by decide) ?_
          refine dl_aload_n (pc := 92) C 2 dX12_forge_92 rfl rfl ?_
          refine dl_iload (pc := 93) C 0 dX12_forge_93 rfl ?_
          refine dl_iload_n (pc := 95) C 4 dX12_forge_95 rfl rfl ?_
          refine dl_iconst (pc := 96) C 5 dX12_forge_96 (by decide) ?_
          obtain ⟨r13, h1, h⟩ := dl_bi_some h
          refine dl_sI0 (pc := 97) C (cmo_modulo l D TY nw _ _ _ h1) (va_cwS 2 C.2.2.2.2.1 gX12_forge_X12_modulo rfl rfl rfl (by decide +kernel) ⟨Nat.le_of_ble_eq_true rfl, Nat.le_of_ble_eq_true rfl⟩) rfl rfl (Nat.le_of_ble_eq_true rfl) dX12_forge_97 ⟨Nat.zero_le _, Nat.zero_le _⟩ (fun r u hp => ?_)
          obtain ⟨rfl, hu⟩ := hp
          rw [hu]
          clear hu
          obtain ⟨r14, g15, h1, h⟩ := dl_b2_some h
          refine dl_vI0 (pc := 100) C (cmo_placeTaken l D cI TY hTY nw ad R _ _ _ h1) (cwV 2 C.2.2.2.2.1 gX12_forge_X12_placeTaken rfl rfl rfl (by decide +kernel) ⟨Nat.le_of_ble_eq_true rfl, Nat.le_of_ble_eq_true rfl⟩) 0 12 mm_a0 rfl rfl rfl (Nat.le_of_ble_eq_true rfl) dX12_forge_100 ⟨Nat.zero_le _, Nat.zero_le _⟩ (fun r u hp => ?_)
          obtain ⟨rfl, rfl⟩ := hp
          exact hQ 103 _ _ _ ⟨(dl_r2 h).1, by rw [(dl_r2 h).2]⟩ (vp_nar_int _) dX12_forge_103
        rw [if_neg q60] at h
        by_cases q61 : x1 = 1
        · rw [if_pos q61] at h
          refine dl_tabIn (pc := 54) C 50 104 dX12_forge_54 (by rw [q61]; decide) (by rw [q61]; decide) (by rw [q61]; rfl) (by decide) ?_
          refine dl_iload_n (pc := 104) C 4 dX12_forge_104 rfl rfl ?_
          refine dl_if_ge (pc := 105) C 117 dX12_forge_105 (by decide) h (fun q20 h => ?_) (fun q20 h => ?_)
          · refine dl_aload_n (pc := 117) C 2 dX12_forge_117 rfl rfl ?_
            refine dl_iload_n (pc := 118) C 4 dX12_forge_118 rfl rfl ?_
            obtain ⟨r16, g17, h1, h⟩ := dl_b2_some h
            refine dl_vI0 (pc := 119) C (cmo_done l D cI TY hTY nw ad R _ _ h1) (cwV 1 C.2.2.2.2.1 gX12_forge_X12_done rfl rfl rfl (by decide +kernel) ⟨Nat.le_of_ble_eq_true rfl, Nat.le_of_ble_eq_true rfl⟩) 0 12 mm_a0 rfl rfl rfl (Nat.le_of_ble_eq_true rfl) dX12_forge_119 ⟨Nat.zero_le _, Nat.zero_le _⟩ (fun r u hp => ?_)
            obtain ⟨rfl, rfl⟩ := hp
            exact hQ 122 _ _ _ ⟨(dl_r2 h).1, by rw [(dl_r2 h).2]⟩ (vp_nar_int _) dX12_forge_122
          · refine dl_aload_n (pc := 108) C 2 dX12_forge_108 rfl rfl ?_
            refine dl_bipush (pc := 109) C 13 dX12_forge_109 (by decide) ?_
            obtain ⟨r18, g19, h1, h⟩ := dl_b2_some h
            refine dl_vI0 (pc := 111) C (cmo_refused l D cI TY hTY nw ad R _ _ h1) (cwV 1 C.2.2.2.2.1 gX12_forge_X12_refused rfl rfl rfl (by decide +kernel) ⟨Nat.le_of_ble_eq_true rfl, Nat.le_of_ble_eq_true rfl⟩) 0 12 mm_a0 rfl rfl rfl (Nat.le_of_ble_eq_true rfl) dX12_forge_111 ⟨Nat.zero_le _, Nat.zero_le _⟩ (fun r u hp => ?_)
            obtain ⟨rfl, rfl⟩ := hp
            refine dl_goto (pc := 114) C 122 dX12_forge_114 (by decide) ?_
            exact hQ 122 _ _ _ ⟨(dl_r2 h).1, by rw [(dl_r2 h).2]⟩ (vp_nar_int _) dX12_forge_122
        rw [if_neg q61] at h
        by_cases q62 : x1 = 2
        · rw [if_pos q62] at h
          refine dl_tabIn (pc := 54) C 69 123 dX12_forge_54 (by rw [q62]; decide) (by rw [q62]; decide) (by rw [q62]; rfl) (by decide) ?_
          refine dl_aload_n (pc := 123) C 2 dX12_forge_123 rfl rfl ?_
          refine dl_get (pc := 124) C hin_X12_forge_X12 0 mm_a0 rfl 11 (by decide) lk_X12_forge_28 rfl rfl dX12_forge_124 ?_
          refine dl_iload (pc := 127) C 1 dX12_forge_127 rfl ?_
          obtain ⟨h0, h⟩ := dl_gd_some h
          refine dl_iald (pc := 129) C 7 0 mm_a11 hTY h0 dX12_forge_129 ?_
          refine dl_iconst (pc := 130) C (-1) dX12_forge_130 (by decide) ?_
          refine dl_icmp_ne (pc := 131) C 143 dX12_forge_131 (by decide) h (fun q32 h => ?_) (fun q32 h => ?_)
          · refine dl_aload_n (pc := 134) C 2 dX12_forge_134 rfl rfl ?_
            refine dl_bipush (pc := 135) C 10 dX12_forge_135 (by decide) ?_
            obtain ⟨r21, g22, h1, h⟩ := dl_b2_some h
            refine dl_vI0 (pc := 137) C (cmo_refused l D cI TY hTY nw ad R _ _ h1) (cwV 1 C.2.2.2.2.1 gX12_forge_X12_refused rfl rfl rfl (by decide +kernel) ⟨Nat.le_of_ble_eq_true rfl, Nat.le_of_ble_eq_true rfl⟩) 0 12 mm_a0 rfl rfl rfl (Nat.le_of_ble_eq_true rfl) dX12_forge_137 ⟨Nat.zero_le _, Nat.zero_le _⟩ (fun r u hp => ?_)
            obtain ⟨rfl, rfl⟩ := hp
            refine dl_goto (pc := 140) C 205 dX12_forge_140 (by decide) ?_
            exact hQ 205 _ _ _ ⟨(dl_r2 h).1, by rw [(dl_r2 h).2]⟩ (vp_nar_int _) dX12_forge_205
          · refine dl_aload_n (pc := 143) C 2 dX12_forge_143 rfl rfl ?_
            refine dl_get (pc := 144) C hin_X12_forge_X12 0 mm_a0 rfl 11 (by decide) lk_X12_forge_28 rfl rfl dX12_forge_144 ?_
            refine dl_iload (pc := 147) C 1 dX12_forge_147 rfl ?_
            obtain ⟨h0, h⟩ := dl_gd_some h
            refine dl_iald (pc := 149) C 7 0 mm_a11 hTY h0 dX12_forge_149 ?_
            refine dl_iconst (pc := 150) C 1 dX12_forge_150 (by decide) ?_
            refine dl_icmp_eq (pc := 151) C 163 dX12_forge_151 (by decide) h (fun q31 h => ?_) (fun q31 h => ?_)
            · refine dl_iload_n (pc := 163) C 4 dX12_forge_163 rfl rfl ?_
              refine dl_iconst (pc := 164) C 0 dX12_forge_164 (by decide) ?_
              refine dl_aload_n (pc := 165) C 2 dX12_forge_165 rfl rfl ?_
              refine dl_get (pc := 166) C hin_X12_forge_X12 0 mm_a0 rfl 12 (by decide) lk_X12_forge_31 rfl rfl dX12_forge_166 ?_
              refine dl_iload (pc := 169) C 1 dX12_forge_169 rfl ?_
              obtain ⟨h0, h⟩ := dl_gd_some h
              refine dl_iald (pc := 171) C 8 0 mm_a12 hTY h0 dX12_forge_171 ?_
              refine dl_iconst (pc := 172) C 1 dX12_forge_172 (by decide) ?_
              refine dl_isub (pc := 173) C dX12_forge_173 ?_
              obtain ⟨r23, h1, h⟩ := dl_bi_some h
              refine dl_sI0 (pc := 174) C (cmo_in l D TY nw _ _ _ _ h1) (va_cwS 3 C.2.2.2.2.1 gX12_forge_X12_in rfl rfl rfl (by decide +kernel) ⟨Nat.le_of_ble_eq_true rfl, Nat.le_of_ble_eq_true rfl⟩) rfl rfl (Nat.le_of_ble_eq_true rfl) dX12_forge_174 ⟨Nat.zero_le _, Nat.zero_le _⟩ (fun r u hp => ?_)
              obtain ⟨rfl, hu⟩ := hp
              rw [hu]
              clear hu
              refine dl_if_eq (pc := 177) C 199 dX12_forge_177 (by decide) h (fun q28 h => ?_) (fun q28 h => ?_)
              · refine dl_aload_n (pc := 199) C 2 dX12_forge_199 rfl rfl ?_
                refine dl_bipush (pc := 200) C 12 dX12_forge_200 (by decide) ?_
                obtain ⟨r24, g25, h1, h⟩ := dl_b2_some h
                refine dl_vI0 (pc := 202) C (cmo_refused l D cI TY hTY nw ad R _ _ h1) (cwV 1 C.2.2.2.2.1 gX12_forge_X12_refused rfl rfl rfl (by decide +kernel) ⟨Nat.le_of_ble_eq_true rfl, Nat.le_of_ble_eq_true rfl⟩) 0 12 mm_a0 rfl rfl rfl (Nat.le_of_ble_eq_true rfl) dX12_forge_202 ⟨Nat.zero_le _, Nat.zero_le _⟩ (fun r u hp => ?_)
                obtain ⟨rfl, rfl⟩ := hp
                exact hQ 205 _ _ _ ⟨(dl_r2 h).1, by rw [(dl_r2 h).2]⟩ (vp_nar_int _) dX12_forge_205
              · refine dl_aload_n (pc := 180) C 2 dX12_forge_180 rfl rfl ?_
                refine dl_aload_n (pc := 181) C 2 dX12_forge_181 rfl rfl ?_
                refine dl_get (pc := 182) C hin_X12_forge_X12 0 mm_a0 rfl 13 (by decide) lk_X12_forge_34 rfl rfl dX12_forge_182 ?_
                refine dl_bipush (pc := 185) C 20 dX12_forge_185 (by decide) ?_
                refine dl_iload (pc := 187) C 1 dX12_forge_187 rfl ?_
                refine dl_imul (pc := 189) C dX12_forge_189 ?_
                refine dl_iload_n (pc := 190) C 4 dX12_forge_190 rfl rfl ?_
                refine dl_iadd (pc := 191) C dX12_forge_191 ?_
                obtain ⟨h0, h⟩ := dl_gd_some h
                refine dl_iald (pc := 192) C 9 0 mm_a13 hTY h0 dX12_forge_192 ?_
                obtain ⟨r26, g27, h1, h⟩ := dl_b2_some h
                refine dl_vI0 (pc := 193) C (cmo_done l D cI TY hTY nw ad R _ _ h1) (cwV 1 C.2.2.2.2.1 gX12_forge_X12_done rfl rfl rfl (by decide +kernel) ⟨Nat.le_of_ble_eq_true rfl, Nat.le_of_ble_eq_true rfl⟩) 0 12 mm_a0 rfl rfl rfl (Nat.le_of_ble_eq_true rfl) dX12_forge_193 ⟨Nat.zero_le _, Nat.zero_le _⟩ (fun r u hp => ?_)
                obtain ⟨rfl, rfl⟩ := hp
                refine dl_goto (pc := 196) C 205 dX12_forge_196 (by decide) ?_
                exact hQ 205 _ _ _ ⟨(dl_r2 h).1, by rw [(dl_r2 h).2]⟩ (vp_nar_int _) dX12_forge_205
            · refine dl_aload_n (pc := 154) C 2 dX12_forge_154 rfl rfl ?_
              refine dl_bipush (pc := 155) C 11 dX12_forge_155 (by decide) ?_
              obtain ⟨r29, g30, h1, h⟩ := dl_b2_some h
              refine dl_vI0 (pc := 157) C (cmo_refused l D cI TY hTY nw ad R _ _ h1) (cwV 1 C.2.2.2.2.1 gX12_forge_X12_refused rfl rfl rfl (by decide +kernel) ⟨Nat.le_of_ble_eq_true rfl, Nat.le_of_ble_eq_true rfl⟩) 0 12 mm_a0 rfl rfl rfl (Nat.le_of_ble_eq_true rfl) dX12_forge_157 ⟨Nat.zero_le _, Nat.zero_le _⟩ (fun r u hp => ?_)
              obtain ⟨rfl, rfl⟩ := hp
              refine dl_goto (pc := 160) C 205 dX12_forge_160 (by decide) ?_
              exact hQ 205 _ _ _ ⟨(dl_r2 h).1, by rw [(dl_r2 h).2]⟩ (vp_nar_int _) dX12_forge_205
        rw [if_neg q62] at h
        by_cases q63 : x1 = 3
        · rw [if_pos q63] at h
          refine dl_tabIn (pc := 54) C 152 206 dX12_forge_54 (by rw [q63]; decide) (by rw [q63]; decide) (by rw [q63]; rfl) (by decide) ?_
          refine dl_aload_n (pc := 206) C 2 dX12_forge_206 rfl rfl ?_
          refine dl_get (pc := 207) C hin_X12_forge_X12 0 mm_a0 rfl 11 (by decide) lk_X12_forge_28 rfl rfl dX12_forge_207 ?_
          refine dl_iload (pc := 210) C 1 dX12_forge_210 rfl ?_
          obtain ⟨h0, h⟩ := dl_gd_some h
          refine dl_iald (pc := 212) C 7 0 mm_a11 hTY h0 dX12_forge_212 ?_
          refine dl_iconst (pc := 213) C (-1) dX12_forge_213 (by decide) ?_
          refine dl_icmp_ne (pc := 214) C 226 dX12_forge_214 (by decide) h (fun q44 h => ?_) (fun q44 h => ?_)
          · refine dl_aload_n (pc := 217) C 2 dX12_forge_217 rfl rfl ?_
            refine dl_bipush (pc := 218) C 10 dX12_forge_218 (by decide) ?_
            obtain ⟨r33, g34, h1, h⟩ := dl_b2_some h
            refine dl_vI0 (pc := 220) C (cmo_refused l D cI TY hTY nw ad R _ _ h1) (cwV 1 C.2.2.2.2.1 gX12_forge_X12_refused rfl rfl rfl (by decide +kernel) ⟨Nat.le_of_ble_eq_true rfl, Nat.le_of_ble_eq_true rfl⟩) 0 12 mm_a0 rfl rfl rfl (Nat.le_of_ble_eq_true rfl) dX12_forge_220 ⟨Nat.zero_le _, Nat.zero_le _⟩ (fun r u hp => ?_)
            obtain ⟨rfl, rfl⟩ := hp
            refine dl_goto (pc := 223) C 287 dX12_forge_223 (by decide) ?_
            exact hQ 287 _ _ _ ⟨(dl_r2 h).1, by rw [(dl_r2 h).2]⟩ (vp_nar_int _) dX12_forge_287
          · refine dl_aload_n (pc := 226) C 2 dX12_forge_226 rfl rfl ?_
            refine dl_get (pc := 227) C hin_X12_forge_X12 0 mm_a0 rfl 11 (by decide) lk_X12_forge_28 rfl rfl dX12_forge_227 ?_
            refine dl_iload (pc := 230) C 1 dX12_forge_230 rfl ?_
            obtain ⟨h0, h⟩ := dl_gd_some h
            refine dl_iald (pc := 232) C 7 0 mm_a11 hTY h0 dX12_forge_232 ?_
            refine dl_if_eq (pc := 233) C 245 dX12_forge_233 (by decide) h (fun q43 h => ?_) (fun q43 h => ?_)
            · refine dl_iload_n (pc := 245) C 4 dX12_forge_245 rfl rfl ?_
              refine dl_iconst (pc := 246) C 0 dX12_forge_246 (by decide) ?_
              refine dl_iconst (pc := 247) C 3 dX12_forge_247 (by decide) ?_
              obtain ⟨r35, h1, h⟩ := dl_bi_some h
              refine dl_sI0 (pc := 248) C (cmo_in l D TY nw _ _ _ _ h1) (va_cwS 3 C.2.2.2.2.1 gX12_forge_X12_in rfl rfl rfl (by decide +kernel) ⟨Nat.le_of_ble_eq_true rfl, Nat.le_of_ble_eq_true rfl⟩) rfl rfl (Nat.le_of_ble_eq_true rfl) dX12_forge_248 ⟨Nat.zero_le _, Nat.zero_le _⟩ (fun r u hp => ?_)
              obtain ⟨rfl, hu⟩ := hp
              rw [hu]
              clear hu
              refine dl_if_eq (pc := 251) C 281 dX12_forge_251 (by decide) h (fun q40 h => ?_) (fun q40 h => ?_)
              · refine dl_sub [2] rfl ?_
                exact mo_forge_t281 l D cI TY hTY nw N ad R C hQ  _ h
              · refine dl_iconst (pc := 254) C 1 dX12_forge_254 (by decide) ?_
                refine dl_iload_n (pc := 255) C 4 dX12_forge_255 rfl rfl ?_
                refine dl_iadd (pc := 256) C dX12_forge_256 ?_
                refine dl_aload_n (pc := 257) C 2 dX12_forge_257 rfl rfl ?_
                refine dl_get (pc := 258) C hin_X12_forge_X12 0 mm_a0 rfl 12 (by decide) lk_X12_forge_31 rfl rfl dX12_forge_258 ?_
                refine dl_iload (pc := 261) C 1 dX12_forge_261 rfl ?_
                obtain ⟨h0, h⟩ := dl_gd_some h
                refine dl_iald (pc := 263) C 8 0 mm_a12 hTY h0 dX12_forge_263 ?_
                refine dl_icmp_gt (pc := 264) C 281 dX12_forge_264 (by decide) h (fun q39 h => ?_) (fun q39 h => ?_)
                · refine dl_sub [2] rfl ?_
                  exact mo_forge_t281 l D cI TY hTY nw N ad R C hQ  _ h
                · refine dl_aload_n (pc := 267) C 2 dX12_forge_267 rfl rfl ?_
                  refine dl_aload_n (pc := 268) C 2 dX12_forge_268 rfl rfl ?_
                  refine dl_iload (pc := 269) C 1 dX12_forge_269 rfl ?_
                  refine dl_iload_n (pc := 271) C 4 dX12_forge_271 rfl rfl ?_
                  obtain ⟨r36, h1, h⟩ := dl_bi_some h
                  refine dl_vI0 (pc := 272) C (cmo_copied l D cI TY hTY nw N ad R _ _ _ h1) (cwV 2 C.2.2.2.2.1 gX12_forge_X12_copied rfl rfl rfl (by decide +kernel) ⟨Nat.le_of_ble_eq_true rfl, Nat.le_of_ble_eq_true rfl⟩) 0 12 mm_a0 rfl rfl rfl (Nat.le_of_ble_eq_true rfl) dX12_forge_272 ⟨Nat.zero_le _, Nat.zero_le _⟩ (fun r u hp => ?_)
                  obtain ⟨rfl, rfl⟩ := hp
                  obtain ⟨r37, g38, h1, h⟩ := dl_b2_some h
                  refine dl_vI0 (pc := 275) C (cmo_done l D cI TY hTY nw ad R _ _ h1) (cwV 1 C.2.2.2.2.1 gX12_forge_X12_done rfl rfl rfl (by decide +kernel) ⟨Nat.le_of_ble_eq_true rfl, Nat.le_of_ble_eq_true rfl⟩) 0 12 mm_a0 rfl rfl rfl (Nat.le_of_ble_eq_true rfl) dX12_forge_275 ⟨Nat.zero_le _, Nat.zero_le _⟩ (fun r u hp => ?_)
                  obtain ⟨rfl, rfl⟩ := hp
                  refine dl_goto (pc := 278) C 287 dX12_forge_278 (by decide) ?_
                  exact hQ 287 _ _ _ ⟨(dl_r2 h).1, by rw [(dl_r2 h).2]⟩ (vp_nar_int _) dX12_forge_287
            · refine dl_aload_n (pc := 236) C 2 dX12_forge_236 rfl rfl ?_
              refine dl_bipush (pc := 237) C 11 dX12_forge_237 (by decide) ?_
              obtain ⟨r41, g42, h1, h⟩ := dl_b2_some h
              refine dl_vI0 (pc := 239) C (cmo_refused l D cI TY hTY nw ad R _ _ h1) (cwV 1 C.2.2.2.2.1 gX12_forge_X12_refused rfl rfl rfl (by decide +kernel) ⟨Nat.le_of_ble_eq_true rfl, Nat.le_of_ble_eq_true rfl⟩) 0 12 mm_a0 rfl rfl rfl (Nat.le_of_ble_eq_true rfl) dX12_forge_239 ⟨Nat.zero_le _, Nat.zero_le _⟩ (fun r u hp => ?_)
              obtain ⟨rfl, rfl⟩ := hp
              refine dl_goto (pc := 242) C 287 dX12_forge_242 (by decide) ?_
              exact hQ 287 _ _ _ ⟨(dl_r2 h).1, by rw [(dl_r2 h).2]⟩ (vp_nar_int _) dX12_forge_287
        rw [if_neg q63] at h
        by_cases q64 : x1 = 4
        · rw [if_pos q64] at h
          refine dl_tabIn (pc := 54) C 234 288 dX12_forge_54 (by rw [q64]; decide) (by rw [q64]; decide) (by rw [q64]; rfl) (by decide) ?_
          refine dl_aload_n (pc := 288) C 2 dX12_forge_288 rfl rfl ?_
          refine dl_iload (pc := 289) C 0 dX12_forge_289 rfl ?_
          obtain ⟨r45, h1, h⟩ := dl_bi_some h
          refine dl_vI0 (pc := 291) C (cmo_isPlace l D cI TY hTY nw ad R _ _ h1) (cwV 1 C.2.2.2.2.1 gX12_forge_X12_isPlace rfl rfl rfl (by decide +kernel) ⟨Nat.le_of_ble_eq_true rfl, Nat.le_of_ble_eq_true rfl⟩) 0 12 mm_a0 rfl rfl rfl (Nat.le_of_ble_eq_true rfl) dX12_forge_291 ⟨Nat.zero_le _, Nat.zero_le _⟩ (fun r u hp => ?_)
          obtain ⟨rfl, rfl⟩ := hp
          refine dl_if_ne (pc := 294) C 305 dX12_forge_294 (by decide) h (fun q54 h => ?_) (fun q54 h => ?_)
          · refine dl_aload_n (pc := 297) C 2 dX12_forge_297 rfl rfl ?_
            refine dl_iconst (pc := 298) C 0 dX12_forge_298 (by decide) ?_
            obtain ⟨r46, g47, h1, h⟩ := dl_b2_some h
            refine dl_vI0 (pc := 299) C (cmo_done l D cI TY hTY nw ad R _ _ h1) (cwV 1 C.2.2.2.2.1 gX12_forge_X12_done rfl rfl rfl (by decide +kernel) ⟨Nat.le_of_ble_eq_true rfl, Nat.le_of_ble_eq_true rfl⟩) 0 12 mm_a0 rfl rfl rfl (Nat.le_of_ble_eq_true rfl) dX12_forge_299 ⟨Nat.zero_le _, Nat.zero_le _⟩ (fun r u hp => ?_)
            obtain ⟨rfl, rfl⟩ := hp
            refine dl_goto (pc := 302) C 334 dX12_forge_302 (by decide) ?_
            exact hQ 334 _ _ _ ⟨(dl_r2 h).1, by rw [(dl_r2 h).2]⟩ (vp_nar_int _) dX12_forge_334
          · refine dl_aload_n (pc := 305) C 2 dX12_forge_305 rfl rfl ?_
            refine dl_iload (pc := 306) C 0 dX12_forge_306 rfl ?_
            obtain ⟨r48, h1, h⟩ := dl_bi_some h
            refine dl_vI0 (pc := 308) C (cmo_isTap l D cI TY hTY nw ad R _ _ h1) (cwV 1 C.2.2.2.2.1 gX12_forge_X12_isTap rfl rfl rfl (by decide +kernel) ⟨Nat.le_of_ble_eq_true rfl, Nat.le_of_ble_eq_true rfl⟩) 0 12 mm_a0 rfl rfl rfl (Nat.le_of_ble_eq_true rfl) dX12_forge_308 ⟨Nat.zero_le _, Nat.zero_le _⟩ (fun r u hp => ?_)
            obtain ⟨rfl, rfl⟩ := hp
            refine dl_if_eq (pc := 311) C 328 dX12_forge_311 (by decide) h (fun q53 h => ?_) (fun q53 h => ?_)
            · refine dl_aload_n (pc := 328) C 2 dX12_forge_328 rfl rfl ?_
              refine dl_bipush (pc := 329) C 14 dX12_forge_329 (by decide) ?_
              obtain ⟨r49, g50, h1, h⟩ := dl_b2_some h
              refine dl_vI0 (pc := 331) C (cmo_refused l D cI TY hTY nw ad R _ _ h1) (cwV 1 C.2.2.2.2.1 gX12_forge_X12_refused rfl rfl rfl (by decide +kernel) ⟨Nat.le_of_ble_eq_true rfl, Nat.le_of_ble_eq_true rfl⟩) 0 12 mm_a0 rfl rfl rfl (Nat.le_of_ble_eq_true rfl) dX12_forge_331 ⟨Nat.zero_le _, Nat.zero_le _⟩ (fun r u hp => ?_)
              obtain ⟨rfl, rfl⟩ := hp
              exact hQ 334 _ _ _ ⟨(dl_r2 h).1, by rw [(dl_r2 h).2]⟩ (vp_nar_int _) dX12_forge_334
            · refine dl_aload_n (pc := 314) C 2 dX12_forge_314 rfl rfl ?_
              refine dl_aload_n (pc := 315) C 2 dX12_forge_315 rfl rfl ?_
              refine dl_get (pc := 316) C hin_X12_forge_X12 0 mm_a0 rfl 1 (by decide) lk_X12_forge_7 rfl rfl dX12_forge_316 ?_
              refine dl_iload (pc := 319) C 0 dX12_forge_319 rfl ?_
              obtain ⟨h0, h⟩ := dl_gd_some h
              refine dl_iald (pc := 321) C 1 0 mm_a1 hTY h0 dX12_forge_321 ?_
              obtain ⟨r51, g52, h1, h⟩ := dl_b2_some h
              refine dl_vI0 (pc := 322) C (cmo_done l D cI TY hTY nw ad R _ _ h1) (cwV 1 C.2.2.2.2.1 gX12_forge_X12_done rfl rfl rfl (by decide +kernel) ⟨Nat.le_of_ble_eq_true rfl, Nat.le_of_ble_eq_true rfl⟩) 0 12 mm_a0 rfl rfl rfl (Nat.le_of_ble_eq_true rfl) dX12_forge_322 ⟨Nat.zero_le _, Nat.zero_le _⟩ (fun r u hp => ?_)
              obtain ⟨rfl, rfl⟩ := hp
              refine dl_goto (pc := 325) C 334 dX12_forge_325 (by decide) ?_
              exact hQ 334 _ _ _ ⟨(dl_r2 h).1, by rw [(dl_r2 h).2]⟩ (vp_nar_int _) dX12_forge_334
        rw [if_neg q64] at h
        by_cases q65 : x1 = 5
        · rw [if_pos q65] at h
          refine dl_tabIn (pc := 54) C 281 335 dX12_forge_54 (by rw [q65]; decide) (by rw [q65]; decide) (by rw [q65]; rfl) (by decide) ?_
          refine dl_iload_n (pc := 335) C 4 dX12_forge_335 rfl rfl ?_
          refine dl_if_ne (pc := 336) C 348 dX12_forge_336 (by decide) h (fun q59 h => ?_) (fun q59 h => ?_)
          · refine dl_aload_n (pc := 339) C 2 dX12_forge_339 rfl rfl ?_
            refine dl_bipush (pc := 340) C 15 dX12_forge_340 (by decide) ?_
            obtain ⟨r55, g56, h1, h⟩ := dl_b2_some h
            refine dl_vI0 (pc := 342) C (cmo_refused l D cI TY hTY nw ad R _ _ h1) (cwV 1 C.2.2.2.2.1 gX12_forge_X12_refused rfl rfl rfl (by decide +kernel) ⟨Nat.le_of_ble_eq_true rfl, Nat.le_of_ble_eq_true rfl⟩) 0 12 mm_a0 rfl rfl rfl (Nat.le_of_ble_eq_true rfl) dX12_forge_342 ⟨Nat.zero_le _, Nat.zero_le _⟩ (fun r u hp => ?_)
            obtain ⟨rfl, rfl⟩ := hp
            refine dl_goto (pc := 345) C 357 dX12_forge_345 (by decide) ?_
            exact hQ 357 _ _ _ ⟨(dl_r2 h).1, by rw [(dl_r2 h).2]⟩ (vp_nar_int _) dX12_forge_357
          · refine dl_aload_n (pc := 348) C 2 dX12_forge_348 rfl rfl ?_
            refine dl_sipush (pc := 349) C 1000 dX12_forge_349 (by decide) ?_
            refine dl_iload_n (pc := 352) C 4 dX12_forge_352 rfl rfl ?_
            obtain ⟨h0, h⟩ := dl_gd_some h
            refine dl_idiv (pc := 353) C dX12_forge_353 h0 ?_
            obtain ⟨r57, g58, h1, h⟩ := dl_b2_some h
            refine dl_vI0 (pc := 354) C (cmo_done l D cI TY hTY nw ad R _ _ h1) (cwV 1 C.2.2.2.2.1 gX12_forge_X12_done rfl rfl rfl (by decide +kernel) ⟨Nat.le_of_ble_eq_true rfl, Nat.le_of_ble_eq_true rfl⟩) 0 12 mm_a0 rfl rfl rfl (Nat.le_of_ble_eq_true rfl) dX12_forge_354 ⟨Nat.zero_le _, Nat.zero_le _⟩ (fun r u hp => ?_)
            obtain ⟨rfl, rfl⟩ := hp
            exact hQ 357 _ _ _ ⟨(dl_r2 h).1, by rw [(dl_r2 h).2]⟩ (vp_nar_int _) dX12_forge_357
        rw [if_neg q65] at h
        refine dl_tabOut (pc := 54) C 358 dX12_forge_54 (by have eq60 : (x1).toInt ≠ 0 := fun w => q60 (Int32.toInt_inj.mp w); have eq61 : (x1).toInt ≠ 1 := fun w => q61 (Int32.toInt_inj.mp w); have eq62 : (x1).toInt ≠ 2 := fun w => q62 (Int32.toInt_inj.mp w); have eq63 : (x1).toInt ≠ 3 := fun w => q63 (Int32.toInt_inj.mp w); have eq64 : (x1).toInt ≠ 4 := fun w => q64 (Int32.toInt_inj.mp w); have eq65 : (x1).toInt ≠ 5 := fun w => q65 (Int32.toInt_inj.mp w); omega) (by decide) ?_
        refine dl_iload_n (pc := 358) C 4 dX12_forge_358 rfl rfl ?_
        refine dl_iconst (pc := 359) C 1 dX12_forge_359 (by decide) ?_
        refine dl_iand (pc := 360) C dX12_forge_360 ?_
        refine dl_if_ne (pc := 361) C 373 dX12_forge_361 (by decide) h (fun q12 h => ?_) (fun q12 h => ?_)
        · refine dl_aload_n (pc := 364) C 2 dX12_forge_364 rfl rfl ?_
          refine dl_bipush (pc := 365) C 10 dX12_forge_365 (by decide) ?_
          obtain ⟨r8, g9, h1, h⟩ := dl_b2_some h
          refine dl_vI0 (pc := 367) C (cmo_refused l D cI TY hTY nw ad R _ _ h1) (cwV 1 C.2.2.2.2.1 gX12_forge_X12_refused rfl rfl rfl (by decide +kernel) ⟨Nat.le_of_ble_eq_true rfl, Nat.le_of_ble_eq_true rfl⟩) 0 12 mm_a0 rfl rfl rfl (Nat.le_of_ble_eq_true rfl) dX12_forge_367 ⟨Nat.zero_le _, Nat.zero_le _⟩ (fun r u hp => ?_)
          obtain ⟨rfl, rfl⟩ := hp
          refine dl_goto (pc := 370) C 378 dX12_forge_370 (by decide) ?_
          exact hQ 378 _ _ _ ⟨(dl_r2 h).1, by rw [(dl_r2 h).2]⟩ (vp_nar_int _) dX12_forge_378
        · refine dl_aload_n (pc := 373) C 2 dX12_forge_373 rfl rfl ?_
          refine dl_iconst (pc := 374) C 1 dX12_forge_374 (by decide) ?_
          obtain ⟨r10, g11, h1, h⟩ := dl_b2_some h
          refine dl_vI0 (pc := 375) C (cmo_done l D cI TY hTY nw ad R _ _ h1) (cwV 1 C.2.2.2.2.1 gX12_forge_X12_done rfl rfl rfl (by decide +kernel) ⟨Nat.le_of_ble_eq_true rfl, Nat.le_of_ble_eq_true rfl⟩) 0 12 mm_a0 rfl rfl rfl (Nat.le_of_ble_eq_true rfl) dX12_forge_375 ⟨Nat.zero_le _, Nat.zero_le _⟩ (fun r u hp => ?_)
          obtain ⟨rfl, rfl⟩ := hp
          exact hQ 378 _ _ _ ⟨(dl_r2 h).1, by rw [(dl_r2 h).2]⟩ (vp_nar_int _) dX12_forge_378
theorem hin_X12_status_X12 : ∀ w ∈ u_ws RX12 TX12 32, w ∈ wsX12_status := fun _ h => List.mem_cons_of_mem _ (List.mem_append_right _ h)
theorem lk_X12_status_65 : Cond.fieldLink (yX12_status).cls 65 "DripLinesModel" (TX12 14).2.1 (TX12 14).2.2.1 ∈ wsX12_status := by decide +kernel
set_option maxHeartbeats 4000000 in
set_option maxRecDepth 100000 in
theorem cmo_status (l : Launch) (D : va_G) (cI : ClassId) (TY : dl_TY) (hTY : TY[0]? = some (cI, .int)) (nw : List Cond) (ad : Nat → Nat) (R : va_W) (g : dl_Sg) {r0 : Int32} (h : mo_status g  = some r0) : dl_CtI l D TY nw yX12_status wsX12_status { frames := 0, cells := 0, slots := 0, locals := 0 } 0 0 [.ref (ad 0)] (mm_w cI ad g ++ R) (fun r u => r = r0 ∧ u = mm_w cI ad g ++ R) := by
  refine dl_metI (ty := .int) [(0, .ref (ad 0))] (by decide) rfl (Nat.le_of_ble_eq_true rfl) rfl ?_
  intro p e s m args below meth c Q A C hQ
  unfold mo_status at h
  refine dl_aload_n (pc := 0) C 0 dX12_status_0 rfl rfl ?_
  refine dl_get (pc := 1) C hin_X12_status_X12 0 mm_a0 rfl 14 (by decide) lk_X12_status_65 rfl rfl dX12_status_1 ?_
  exact hQ 4 _ _ _ ⟨Option.some.inj h, rfl⟩ (vp_nar_int _) dX12_status_4
