theorem hin_X12_isActive_X12 : ∀ w ∈ u_ws RX12 TX12 32, w ∈ wsX12_isActive := fun _ h => List.mem_cons_of_mem _ (List.mem_append_right _ h)
theorem lk_X12_isActive_56 : Cond.fieldLink (yX12_isActive).cls 56 "DripLinesModel" (TX12 28).2.1 (TX12 28).2.2.1 ∈ wsX12_isActive := by decide +kernel
theorem lk_X12_isActive_186 : Cond.fieldLink (yX12_isActive).cls 186 "DripLinesModel" (TX12 31).2.1 (TX12 31).2.2.1 ∈ wsX12_isActive := by decide +kernel
set_option maxHeartbeats 4000000 in
set_option maxRecDepth 100000 in
theorem cmo_isActive (l : Launch) (D : va_G) (cI : ClassId) (TY : dl_TY) (hTY : TY[0]? = some (cI, .int)) (nw : List Cond) (N : Nat) (ad : Nat → Nat) (R : va_W) (g : dl_Sg) (x1 : Int32) {r0 : Int32} (h : mo_isActive N g x1 = some r0) : dl_CtI l D TY nw yX12_isActive wsX12_isActive { frames := 2, cells := 0, slots := 0, locals := 43 } 0 0 [.ref (ad 0), .int x1] (mm_w cI ad g ++ R) (fun r u => r = r0 ∧ u = mm_w cI ad g ++ R) := by
  refine dl_metI (ty := .boolean) [(0, .ref (ad 0)), (1, .int x1)] (by decide) rfl (Nat.le_of_ble_eq_true rfl) rfl ?_
  intro p e s m args below meth c Q A C hQ
  unfold mo_isActive at h
  refine dl_aload_n (pc := 0) C 0 dX12_isActive_0 rfl rfl ?_
  refine dl_get (pc := 1) C hin_X12_isActive_X12 0 mm_a0 rfl 28 (by decide) lk_X12_isActive_56 rfl rfl dX12_isActive_1 ?_
  refine dl_iload_n (pc := 4) C 1 dX12_isActive_4 rfl rfl ?_
  obtain ⟨h0, h⟩ := dl_gd_some h
  refine dl_iald (pc := 5) C 16 0 mm_a28 hTY h0 dX12_isActive_5 ?_
  refine dl_aload_n (pc := 6) C 0 dX12_isActive_6 rfl rfl ?_
  obtain ⟨r1, h1, h⟩ := dl_bi_some h
  refine dl_vI0 (pc := 7) C (cmo_taps l D cI TY hTY nw N ad R _ h1) (cwV 0 C.2.2.2.2.1 gX12_isActive_X12_taps rfl rfl rfl (by decide +kernel) ⟨Nat.le_of_ble_eq_true rfl, Nat.le_of_ble_eq_true rfl⟩) 0 12 mm_a0 rfl rfl rfl (Nat.le_of_ble_eq_true rfl) dX12_isActive_7 ⟨Nat.zero_le _, Nat.zero_le _⟩ (fun r u hp => ?_)
  obtain ⟨rfl, rfl⟩ := hp
  refine dl_iand (pc := 10) C dX12_isActive_10 ?_
  refine dl_if_eq (pc := 11) C 34 dX12_isActive_11 (by decide) h (fun q4 h => ?_) (fun q4 h => ?_)
  · refine dl_iconst (pc := 34) C 0 dX12_isActive_34 (by decide) ?_
    exact hQ 35 _ _ _ ⟨Option.some.inj h, rfl⟩ rfl dX12_isActive_35
  · refine dl_aload_n (pc := 14) C 0 dX12_isActive_14 rfl rfl ?_
    refine dl_get (pc := 15) C hin_X12_isActive_X12 0 mm_a0 rfl 28 (by decide) lk_X12_isActive_56 rfl rfl dX12_isActive_15 ?_
    refine dl_iload_n (pc := 18) C 1 dX12_isActive_18 rfl rfl ?_
    obtain ⟨h0, h⟩ := dl_gd_some h
    refine dl_iald (pc := 19) C 16 0 mm_a28 hTY h0 dX12_isActive_19 ?_
    refine dl_aload_n (pc := 20) C 0 dX12_isActive_20 rfl rfl ?_
    refine dl_get (pc := 21) C hin_X12_isActive_X12 0 mm_a0 rfl 31 (by decide) lk_X12_isActive_186 rfl rfl dX12_isActive_21 ?_
    obtain ⟨r2, h1, h⟩ := dl_bi_some h
    refine dl_sI0 (pc := 24) C (cmo_has l D TY nw _ _ _ h1) (va_cwS 2 C.2.2.2.2.1 gX12_isActive_X12_has rfl rfl rfl (by decide +kernel) ⟨Nat.le_of_ble_eq_true rfl, Nat.le_of_ble_eq_true rfl⟩) rfl rfl (Nat.le_of_ble_eq_true rfl) dX12_isActive_24 ⟨Nat.zero_le _, Nat.zero_le _⟩ (fun r u hp => ?_)
    obtain ⟨rfl, hu⟩ := hp
    rw [hu]
    clear hu
    refine dl_if_ne (pc := 27) C 34 dX12_isActive_27 (by decide) h (fun q3 h => ?_) (fun q3 h => ?_)
    · refine dl_iconst (pc := 30) C 1 dX12_isActive_30 (by decide) ?_
      refine dl_goto (pc := 31) C 35 dX12_isActive_31 (by decide) ?_
      exact hQ 35 _ _ _ ⟨Option.some.inj h, rfl⟩ rfl dX12_isActive_35
    · refine dl_iconst (pc := 34) C 0 dX12_isActive_34 (by decide) ?_
      exact hQ 35 _ _ _ ⟨Option.some.inj h, rfl⟩ rfl dX12_isActive_35
theorem hin_X12_room_X12 : ∀ w ∈ u_ws RX12 TX12 32, w ∈ wsX12_room := fun _ h => List.mem_cons_of_mem _ (List.mem_append_right _ h)
theorem lk_X12_room_16 : Cond.fieldLink (yX12_room).cls 16 "DripLinesModel" (TX12 4).2.1 (TX12 4).2.2.1 ∈ wsX12_room := by decide +kernel
theorem lk_X12_room_19 : Cond.fieldLink (yX12_room).cls 19 "DripLinesModel" (TX12 5).2.1 (TX12 5).2.2.1 ∈ wsX12_room := by decide +kernel
theorem lk_X12_room_22 : Cond.fieldLink (yX12_room).cls 22 "DripLinesModel" (TX12 6).2.1 (TX12 6).2.2.1 ∈ wsX12_room := by decide +kernel
theorem lk_X12_room_56 : Cond.fieldLink (yX12_room).cls 56 "DripLinesModel" (TX12 28).2.1 (TX12 28).2.2.1 ∈ wsX12_room := by decide +kernel
theorem lk_X12_room_59 : Cond.fieldLink (yX12_room).cls 59 "DripLinesModel" (TX12 29).2.1 (TX12 29).2.2.1 ∈ wsX12_room := by decide +kernel
theorem lk_X12_room_189 : Cond.fieldLink (yX12_room).cls 189 "DripLinesModel" (TX12 27).2.1 (TX12 27).2.2.1 ∈ wsX12_room := by decide +kernel
set_option maxHeartbeats 4000000 in
set_option maxRecDepth 100000 in
theorem mo_room_t65 {p : Program} {e : Env} {s : State} {m : MethodId} {args : Array Value} {below : List Frame} {meth : Method} {c : Code} {Q : State → Prop} {A : Nat → Prop} (l : Launch) (D : va_G) (cI : ClassId) (TY : dl_TY) (hTY : TY[0]? = some (cI, .int)) (nw : List Cond) (N : Nat) (ad : Nat → Nat) (R : va_W) (g : dl_Sg) {r0 : Int32} (C : dl_Cx p s m args c A D TY nw cX12_room 4 yX12_room.cls wsX12_room) (hQ : dl_RtI p l e (headSpec wsX12_room { frames := 1, cells := 0, slots := 0, locals := 21 }).room s m args below meth c Q A D cX12_room 4 0 0 .int (fun r u => r = r0 ∧ u = mm_w cI ad g ++ R)) {k13 : Int32 → Int32 → Int32 → Option Int32} (hk13 : ∀ (x1 : Int32) (x2 : Int32) (x3 : Int32), k13 x1 x2 x3 = some r0 → dl_At p l e (headSpec wsX12_room { frames := 1, cells := 0, slots := 0, locals := 21 }).room s m args below meth c Q A D 4 0 0 13 [(0, .ref (ad 0)), (1, .int x1), (2, .int x2), (3, .int x3)] [] (mm_w cI ad g ++ R)) (x1 : Int32) (x3 : Int32) (y0 : Int32) (y1 : Int32) (h : mo_room_b65 N g k13 x1 x3 y0 y1 = some r0) : dl_At p l e (headSpec wsX12_room { frames := 1, cells := 0, slots := 0, locals := 21 }).room s m args below meth c Q A D 4 0 0 65 [(0, .ref (ad 0)), (1, .int x1), (3, .int x3)] [.int y1, .int y0] (mm_w cI ad g ++ R) := by
  unfold mo_room_b65 at h
  refine dl_isub (pc := 65) C dX12_room_65 ?_
  refine dl_istore_n (pc := 66) C (fun v1 => [(2, .int v1), (0, .ref (ad 0)), (1, .int x1), (3, .int x3)]) dX12_room_66 rfl (by decide) (fun _ => rfl) h (fun v1 h => ?_)
  refine dl_iinc (pc := 67) C 3 (fun v2 => [(3, .int v2), (2, .int v1), (0, .ref (ad 0)), (1, .int x1)]) dX12_room_67 rfl rfl (by decide) (fun _ => rfl) h (fun v2 h => ?_)
  refine dl_goto (pc := 70) C 13 dX12_room_70 (by decide) ?_
  refine dl_sub [2, 3, 1, 0] rfl ?_
  exact hk13 _ _ _ h
set_option maxHeartbeats 4000000 in
set_option maxRecDepth 100000 in
theorem mo_room_t13 {p : Program} {e : Env} {s : State} {m : MethodId} {args : Array Value} {below : List Frame} {meth : Method} {c : Code} {Q : State → Prop} {A : Nat → Prop} (l : Launch) (D : va_G) (cI : ClassId) (TY : dl_TY) (hTY : TY[0]? = some (cI, .int)) (nw : List Cond) (N : Nat) (ad : Nat → Nat) (R : va_W) (g : dl_Sg) {r0 : Int32} (C : dl_Cx p s m args c A D TY nw cX12_room 4 yX12_room.cls wsX12_room) (hQ : dl_RtI p l e (headSpec wsX12_room { frames := 1, cells := 0, slots := 0, locals := 21 }).room s m args below meth c Q A D cX12_room 4 0 0 .int (fun r u => r = r0 ∧ u = mm_w cI ad g ++ R)) : ∀ (n : Nat) (x1 : Int32) (x2 : Int32) (x3 : Int32), mo_room_b13 N g n x1 x2 x3 = some r0 → dl_At p l e (headSpec wsX12_room { frames := 1, cells := 0, slots := 0, locals := 21 }).room s m args below meth c Q A D 4 0 0 13 [(0, .ref (ad 0)), (1, .int x1), (2, .int x2), (3, .int x3)] [] (mm_w cI ad g ++ R) := by
  intro n
  induction n with
  | zero => exact fun _ _ _ h => absurd (show (none : Option Int32) = some _ from h) (by intro q; cases q)
  | succ n ih =>
    intro x1 x2 x3 h
    rw [mo_room_b13] at h
    refine dl_iload_n (pc := 13) C 3 dX12_room_13 rfl rfl ?_
    refine dl_aload_n (pc := 14) C 0 dX12_room_14 rfl rfl ?_
    refine dl_get (pc := 15) C hin_X12_room_X12 0 mm_a0 rfl 27 (by decide) lk_X12_room_189 rfl rfl dX12_room_15 ?_
    refine dl_icmp_ge (pc := 18) C 73 dX12_room_18 (by decide) h (fun q4 h => ?_) (fun q4 h => ?_)
    · refine dl_iload_n (pc := 73) C 2 dX12_room_73 rfl rfl ?_
      exact hQ 74 _ _ _ ⟨Option.some.inj h, rfl⟩ (vp_nar_int _) dX12_room_74
    · refine dl_iload_n (pc := 21) C 2 dX12_room_21 rfl rfl ?_
      refine dl_aload_n (pc := 22) C 0 dX12_room_22 rfl rfl ?_
      refine dl_get (pc := 23) C hin_X12_room_X12 0 mm_a0 rfl 28 (by decide) lk_X12_room_56 rfl rfl dX12_room_23 ?_
      refine dl_iload_n (pc := 26) C 3 dX12_room_26 rfl rfl ?_
      obtain ⟨h0, h⟩ := dl_gd_some h
      refine dl_iald (pc := 27) C 16 0 mm_a28 hTY h0 dX12_room_27 ?_
      refine dl_aload_n (pc := 28) C 0 dX12_room_28 rfl rfl ?_
      refine dl_get (pc := 29) C hin_X12_room_X12 0 mm_a0 rfl 4 (by decide) lk_X12_room_16 rfl rfl dX12_room_29 ?_
      refine dl_iload_n (pc := 32) C 1 dX12_room_32 rfl rfl ?_
      obtain ⟨h0, h⟩ := dl_gd_some h
      refine dl_iald (pc := 33) C 3 0 mm_a4 hTY h0 dX12_room_33 ?_
      obtain ⟨r1, h1, h⟩ := dl_bi_some h
      refine dl_sI0 (pc := 34) C (cmo_has l D TY nw _ _ _ h1) (va_cwS 2 C.2.2.2.2.1 gX12_room_X12_has rfl rfl rfl (by decide +kernel) ⟨Nat.le_of_ble_eq_true rfl, Nat.le_of_ble_eq_true rfl⟩) rfl rfl (Nat.le_of_ble_eq_true rfl) dX12_room_34 ⟨Nat.zero_le _, Nat.zero_le _⟩ (fun r u hp => ?_)
      obtain ⟨rfl, hu⟩ := hp
      rw [hu]
      clear hu
      refine dl_aload_n (pc := 37) C 0 dX12_room_37 rfl rfl ?_
      refine dl_get (pc := 38) C hin_X12_room_X12 0 mm_a0 rfl 28 (by decide) lk_X12_room_56 rfl rfl dX12_room_38 ?_
      refine dl_iload_n (pc := 41) C 3 dX12_room_41 rfl rfl ?_
      obtain ⟨h0, h⟩ := dl_gd_some h
      refine dl_iald (pc := 42) C 16 0 mm_a28 hTY h0 dX12_room_42 ?_
      refine dl_aload_n (pc := 43) C 0 dX12_room_43 rfl rfl ?_
      refine dl_get (pc := 44) C hin_X12_room_X12 0 mm_a0 rfl 5 (by decide) lk_X12_room_19 rfl rfl dX12_room_44 ?_
      refine dl_iload_n (pc := 47) C 1 dX12_room_47 rfl rfl ?_
      obtain ⟨h0, h⟩ := dl_gd_some h
      refine dl_iald (pc := 48) C 4 0 mm_a5 hTY h0 dX12_room_48 ?_
      obtain ⟨r2, h1, h⟩ := dl_bi_some h
      refine dl_sI0 (pc := 49) C (cmo_has l D TY nw _ _ _ h1) (va_cwS 2 C.2.2.2.2.1 gX12_room_X12_has rfl rfl rfl (by decide +kernel) ⟨Nat.le_of_ble_eq_true rfl, Nat.le_of_ble_eq_true rfl⟩) rfl rfl (Nat.le_of_ble_eq_true rfl) dX12_room_49 ⟨Nat.zero_le _, Nat.zero_le _⟩ (fun r u hp => ?_)
      obtain ⟨rfl, hu⟩ := hp
      rw [hu]
      clear hu
      refine dl_icmp_eq (pc := 52) C 64 dX12_room_52 (by decide) h (fun q3 h => ?_) (fun q3 h => ?_)
      · refine dl_iconst (pc := 64) C 0 dX12_room_64 (by decide) ?_
        refine dl_sub [0, 1, 3] rfl ?_
        exact mo_room_t65 l D cI TY hTY nw N ad R g C hQ ih  _ _ _ _ h
      · refine dl_aload_n (pc := 55) C 0 dX12_room_55 rfl rfl ?_
        refine dl_get (pc := 56) C hin_X12_room_X12 0 mm_a0 rfl 29 (by decide) lk_X12_room_59 rfl rfl dX12_room_56 ?_
        refine dl_iload_n (pc := 59) C 3 dX12_room_59 rfl rfl ?_
        obtain ⟨h0, h⟩ := dl_gd_some h
        refine dl_iald (pc := 60) C 17 0 mm_a29 hTY h0 dX12_room_60 ?_
        refine dl_goto (pc := 61) C 65 dX12_room_61 (by decide) ?_
        refine dl_sub [0, 1, 3] rfl ?_
        exact mo_room_t65 l D cI TY hTY nw N ad R g C hQ ih  _ _ _ _ h
set_option maxHeartbeats 4000000 in
set_option maxRecDepth 100000 in
theorem cmo_room (l : Launch) (D : va_G) (cI : ClassId) (TY : dl_TY) (hTY : TY[0]? = some (cI, .int)) (nw : List Cond) (N : Nat) (ad : Nat → Nat) (R : va_W) (g : dl_Sg) (x1 : Int32) {r0 : Int32} (h : mo_room N g x1 = some r0) : dl_CtI l D TY nw yX12_room wsX12_room { frames := 1, cells := 0, slots := 0, locals := 21 } 0 0 [.ref (ad 0), .int x1] (mm_w cI ad g ++ R) (fun r u => r = r0 ∧ u = mm_w cI ad g ++ R) := by
  refine dl_metI (ty := .int) [(0, .ref (ad 0)), (1, .int x1)] (by decide) rfl (Nat.le_of_ble_eq_true rfl) rfl ?_
  intro p e s m args below meth c Q A C hQ
  unfold mo_room at h
  refine dl_sipush (pc := 0) C 1024 dX12_room_0 (by decide) ?_
  refine dl_aload_n (pc := 3) C 0 dX12_room_3 rfl rfl ?_
  refine dl_get (pc := 4) C hin_X12_room_X12 0 mm_a0 rfl 6 (by decide) lk_X12_room_22 rfl rfl dX12_room_4 ?_
  refine dl_iload_n (pc := 7) C 1 dX12_room_7 rfl rfl ?_
  obtain ⟨h0, h⟩ := dl_gd_some h
  refine dl_iald (pc := 8) C 5 0 mm_a6 hTY h0 dX12_room_8 ?_
  refine dl_imul (pc := 9) C dX12_room_9 ?_
  refine dl_istore_n (pc := 10) C (fun v1 => [(2, .int v1), (0, .ref (ad 0)), (1, .int x1)]) dX12_room_10 rfl (by decide) (fun _ => rfl) h (fun v1 h => ?_)
  refine dl_iconst (pc := 11) C 0 dX12_room_11 (by decide) ?_
  refine dl_istore_n (pc := 12) C (fun v2 => [(3, .int v2), (2, .int v1), (0, .ref (ad 0)), (1, .int x1)]) dX12_room_12 rfl (by decide) (fun _ => rfl) h (fun v2 h => ?_)
  refine dl_sub [2, 3, 1, 0] rfl ?_
  exact mo_room_t13 l D cI TY hTY nw N ad R g C hQ N _ _ _ h
theorem hin_X12_sides_X12 : ∀ w ∈ u_ws RX12 TX12 32, w ∈ wsX12_sides := fun _ h => List.mem_cons_of_mem _ (List.mem_append_right _ h)
theorem lk_X12_sides_16 : Cond.fieldLink (yX12_sides).cls 16 "DripLinesModel" (TX12 4).2.1 (TX12 4).2.2.1 ∈ wsX12_sides := by decide +kernel
theorem lk_X12_sides_19 : Cond.fieldLink (yX12_sides).cls 19 "DripLinesModel" (TX12 5).2.1 (TX12 5).2.2.1 ∈ wsX12_sides := by decide +kernel
theorem lk_X12_sides_62 : Cond.fieldLink (yX12_sides).cls 62 "DripLinesModel" (TX12 30).2.1 (TX12 30).2.2.1 ∈ wsX12_sides := by decide +kernel
theorem lk_X12_sides_101 : Cond.fieldLink (yX12_sides).cls 101 "DripLinesModel" (TX12 7).2.1 (TX12 7).2.2.1 ∈ wsX12_sides := by decide +kernel
set_option maxHeartbeats 4000000 in
set_option maxRecDepth 100000 in
theorem mo_sides_t57 {p : Program} {e : Env} {s : State} {m : MethodId} {args : Array Value} {below : List Frame} {meth : Method} {c : Code} {Q : State → Prop} {A : Nat → Prop} (l : Launch) (D : va_G) (cI : ClassId) (TY : dl_TY) (hTY : TY[0]? = some (cI, .int)) (nw : List Cond) (N : Nat) (ad : Nat → Nat) (R : va_W) (g : dl_Sg) {r0 : Int32} (C : dl_Cx p s m args c A D TY nw cX12_sides 4 yX12_sides.cls wsX12_sides) (hQ : dl_RtI p l e (headSpec wsX12_sides { frames := 3, cells := 0, slots := 0, locals := 64 }).room s m args below meth c Q A D cX12_sides 4 0 0 .int (fun r u => r = r0 ∧ u = mm_w cI ad g ++ R)) (x3 : Int32) (y0 : Int32) (h : mo_sides_b57 N g x3 y0 = some r0) : dl_At p l e (headSpec wsX12_sides { frames := 3, cells := 0, slots := 0, locals := 64 }).room s m args below meth c Q A D 4 0 0 57 [(0, .ref (ad 0)), (3, .int x3)] [.int y0] (mm_w cI ad g ++ R) := by
  unfold mo_sides_b57 at h
  refine dl_aload_n (pc := 57) C 0 dX12_sides_57 rfl rfl ?_
  refine dl_iload_n (pc := 58) C 1 dX12_sides_58 rfl rfl ?_
  obtain ⟨r1, h1, h⟩ := dl_bi_some h
  refine dl_vI0 (pc := 59) C (cmo_isActive l D cI TY hTY nw N ad R _ _ h1) (cwV 1 C.2.2.2.2.1 gX12_sides_X12_isActive rfl rfl rfl (by decide +kernel) ⟨Nat.le_of_ble_eq_true rfl, Nat.le_of_ble_eq_true rfl⟩) 0 12 mm_a0 rfl rfl rfl (Nat.le_of_ble_eq_true rfl) dX12_sides_59 ⟨Nat.zero_le _, Nat.zero_le _⟩ (fun r u hp => ?_)
  obtain ⟨rfl, rfl⟩ := hp
  refine dl_if_eq (pc := 62) C 69 dX12_sides_62 (by decide) h (fun q2 h => ?_) (fun q2 h => ?_)
  · refine dl_iconst (pc := 69) C 0 dX12_sides_69 (by decide) ?_
    refine dl_iadd (pc := 70) C dX12_sides_70 ?_
    exact hQ 71 _ _ _ ⟨Option.some.inj h, rfl⟩ (vp_nar_int _) dX12_sides_71
  · refine dl_iconst (pc := 65) C 1 dX12_sides_65 (by decide) ?_
    refine dl_goto (pc := 66) C 70 dX12_sides_66 (by decide) ?_
    refine dl_iadd (pc := 70) C dX12_sides_70 ?_
    exact hQ 71 _ _ _ ⟨Option.some.inj h, rfl⟩ (vp_nar_int _) dX12_sides_71
set_option maxHeartbeats 4000000 in
set_option maxRecDepth 100000 in
theorem mo_sides_t40 {p : Program} {e : Env} {s : State} {m : MethodId} {args : Array Value} {below : List Frame} {meth : Method} {c : Code} {Q : State → Prop} {A : Nat → Prop} (l : Launch) (D : va_G) (cI : ClassId) (TY : dl_TY) (hTY : TY[0]? = some (cI, .int)) (nw : List Cond) (N : Nat) (ad : Nat → Nat) (R : va_W) (g : dl_Sg) {r0 : Int32} (C : dl_Cx p s m args c A D TY nw cX12_sides 4 yX12_sides.cls wsX12_sides) (hQ : dl_RtI p l e (headSpec wsX12_sides { frames := 3, cells := 0, slots := 0, locals := 64 }).room s m args below meth c Q A D cX12_sides 4 0 0 .int (fun r u => r = r0 ∧ u = mm_w cI ad g ++ R)) (h : mo_sides_b40 N g  = some r0) : dl_At p l e (headSpec wsX12_sides { frames := 3, cells := 0, slots := 0, locals := 64 }).room s m args below meth c Q A D 4 0 0 40 [(0, .ref (ad 0))] [] (mm_w cI ad g ++ R) := by
  unfold mo_sides_b40 at h
  refine dl_iconst (pc := 40) C 0 dX12_sides_40 (by decide) ?_
  refine dl_goto (pc := 41) C 71 dX12_sides_41 (by decide) ?_
  exact hQ 71 _ _ _ ⟨Option.some.inj h, rfl⟩ (vp_nar_int _) dX12_sides_71
set_option maxHeartbeats 4000000 in
set_option maxRecDepth 100000 in
theorem cmo_sides (l : Launch) (D : va_G) (cI : ClassId) (TY : dl_TY) (hTY : TY[0]? = some (cI, .int)) (nw : List Cond) (N : Nat) (ad : Nat → Nat) (R : va_W) (g : dl_Sg) (x1 : Int32) {r0 : Int32} (h : mo_sides N g x1 = some r0) : dl_CtI l D TY nw yX12_sides wsX12_sides { frames := 3, cells := 0, slots := 0, locals := 64 } 0 0 [.ref (ad 0), .int x1] (mm_w cI ad g ++ R) (fun r u => r = r0 ∧ u = mm_w cI ad g ++ R) := by
  refine dl_metI (ty := .int) [(0, .ref (ad 0)), (1, .int x1)] (by decide) rfl (Nat.le_of_ble_eq_true rfl) rfl ?_
  intro p e s m args below meth c Q A C hQ
  unfold mo_sides at h
  refine dl_aload_n (pc := 0) C 0 dX12_sides_0 rfl rfl ?_
  refine dl_get (pc := 1) C hin_X12_sides_X12 0 mm_a0 rfl 30 (by decide) lk_X12_sides_62 rfl rfl dX12_sides_1 ?_
  refine dl_aload_n (pc := 4) C 0 dX12_sides_4 rfl rfl ?_
  refine dl_get (pc := 5) C hin_X12_sides_X12 0 mm_a0 rfl 4 (by decide) lk_X12_sides_16 rfl rfl dX12_sides_5 ?_
  refine dl_iload_n (pc := 8) C 1 dX12_sides_8 rfl rfl ?_
  obtain ⟨h0, h⟩ := dl_gd_some h
  refine dl_iald (pc := 9) C 3 0 mm_a4 hTY h0 dX12_sides_9 ?_
  obtain ⟨h0, h⟩ := dl_gd_some h
  refine dl_iald (pc := 10) C 18 0 mm_a30 hTY h0 dX12_sides_10 ?_
  refine dl_istore_n (pc := 11) C (fun v1 => [(2, .int v1), (0, .ref (ad 0)), (1, .int x1)]) dX12_sides_11 rfl (by decide) (fun _ => rfl) h (fun v1 h => ?_)
  refine dl_aload_n (pc := 12) C 1 dX12_sides_12 rfl rfl ?_
  refine dl_get (pc := 13) C hin_X12_sides_X12 0 mm_a0 rfl 30 (by decide) lk_X12_sides_62 rfl rfl dX12_sides_13 ?_
  refine dl_aload_n (pc := 16) C 1 dX12_sides_16 rfl rfl ?_
  refine dl_get (pc := 17) C hin_X12_sides_X12 0 mm_a0 rfl 5 (by decide) lk_X12_sides_19 rfl rfl dX12_sides_17 ?_
  refine dl_iload_n (pc := 20) C 2 dX12_sides_20 rfl rfl ?_
  obtain ⟨h0, h⟩ := dl_gd_some h
  refine dl_iald (pc := 21) C 4 0 mm_a5 hTY h0 dX12_sides_21 ?_
  obtain ⟨h0, h⟩ := dl_gd_some h
  refine dl_iald (pc := 22) C 18 0 mm_a30 hTY h0 dX12_sides_22 ?_
  refine dl_istore_n (pc := 23) C (fun v2 => [(3, .int v2), (2, .int v1), (0, .ref (ad 0)), (1, .int x1)]) dX12_sides_23 rfl (by decide) (fun _ => rfl) h (fun v2 h => ?_)
  refine dl_aload_n (pc := 24) C 2 dX12_sides_24 rfl rfl ?_
  refine dl_get (pc := 25) C hin_X12_sides_X12 0 mm_a0 rfl 7 (by decide) lk_X12_sides_101 rfl rfl dX12_sides_25 ?_
  refine dl_iload_n (pc := 28) C 3 dX12_sides_28 rfl rfl ?_
  obtain ⟨r3, h1, h⟩ := dl_bi_some h
  refine dl_sI0 (pc := 29) C (cmo_has l D TY nw _ _ _ h1) (va_cwS 2 C.2.2.2.2.1 gX12_sides_X12_has rfl rfl rfl (by decide +kernel) ⟨Nat.le_of_ble_eq_true rfl, Nat.le_of_ble_eq_true rfl⟩) rfl rfl (Nat.le_of_ble_eq_true rfl) dX12_sides_29 ⟨Nat.zero_le _, Nat.zero_le _⟩ (fun r u hp => ?_)
  obtain ⟨rfl, hu⟩ := hp
  rw [hu]
  clear hu
  refine dl_if_eq (pc := 32) C 40 dX12_sides_32 (by decide) h (fun q7 h => ?_) (fun q7 h => ?_)
  · refine dl_sub [2] rfl ?_
    exact mo_sides_t40 l D cI TY hTY nw N ad R g C hQ  h
  · refine dl_iload_n (pc := 35) C 1 dX12_sides_35 rfl rfl ?_
    refine dl_iload_n (pc := 36) C 0 dX12_sides_36 rfl rfl ?_
    refine dl_icmp_ne (pc := 37) C 44 dX12_sides_37 (by decide) h (fun q6 h => ?_) (fun q6 h => ?_)
    · refine dl_sub [2] rfl ?_
      exact mo_sides_t40 l D cI TY hTY nw N ad R g C hQ  h
    · refine dl_aload_n (pc := 44) C 2 dX12_sides_44 rfl rfl ?_
      refine dl_iload_n (pc := 45) C 1 dX12_sides_45 rfl rfl ?_
      obtain ⟨r4, h1, h⟩ := dl_bi_some h
      refine dl_vI0 (pc := 46) C (cmo_isActive l D cI TY hTY nw N ad R _ _ h1) (cwV 1 C.2.2.2.2.1 gX12_sides_X12_isActive rfl rfl rfl (by decide +kernel) ⟨Nat.le_of_ble_eq_true rfl, Nat.le_of_ble_eq_true rfl⟩) 0 12 mm_a0 rfl rfl rfl (Nat.le_of_ble_eq_true rfl) dX12_sides_46 ⟨Nat.zero_le _, Nat.zero_le _⟩ (fun r u hp => ?_)
      obtain ⟨rfl, rfl⟩ := hp
      refine dl_if_eq (pc := 49) C 56 dX12_sides_49 (by decide) h (fun q5 h => ?_) (fun q5 h => ?_)
      · refine dl_iconst (pc := 56) C 0 dX12_sides_56 (by decide) ?_
        refine dl_sub [2, 0] rfl ?_
        exact mo_sides_t57 l D cI TY hTY nw N ad R g C hQ  _ _ h
      · refine dl_iconst (pc := 52) C 1 dX12_sides_52 (by decide) ?_
        refine dl_goto (pc := 53) C 57 dX12_sides_53 (by decide) ?_
        refine dl_sub [2, 0] rfl ?_
        exact mo_sides_t57 l D cI TY hTY nw N ad R g C hQ  _ _ h
theorem hin_X12_joins_X12 : ∀ w ∈ u_ws RX12 TX12 32, w ∈ wsX12_joins := fun _ h => List.mem_cons_of_mem _ (List.mem_append_right _ h)
theorem lk_X12_joins_16 : Cond.fieldLink (yX12_joins).cls 16 "DripLinesModel" (TX12 4).2.1 (TX12 4).2.2.1 ∈ wsX12_joins := by decide +kernel
theorem lk_X12_joins_19 : Cond.fieldLink (yX12_joins).cls 19 "DripLinesModel" (TX12 5).2.1 (TX12 5).2.2.1 ∈ wsX12_joins := by decide +kernel
theorem lk_X12_joins_56 : Cond.fieldLink (yX12_joins).cls 56 "DripLinesModel" (TX12 28).2.1 (TX12 28).2.2.1 ∈ wsX12_joins := by decide +kernel
theorem lk_X12_joins_59 : Cond.fieldLink (yX12_joins).cls 59 "DripLinesModel" (TX12 29).2.1 (TX12 29).2.2.1 ∈ wsX12_joins := by decide +kernel
theorem lk_X12_joins_62 : Cond.fieldLink (yX12_joins).cls 62 "DripLinesModel" (TX12 30).2.1 (TX12 30).2.2.1 ∈ wsX12_joins := by decide +kernel
theorem lk_X12_joins_69 : Cond.fieldLink (yX12_joins).cls 69 "DripLinesModel" (TX12 0).2.1 (TX12 0).2.2.1 ∈ wsX12_joins := by decide +kernel
theorem lk_X12_joins_189 : Cond.fieldLink (yX12_joins).cls 189 "DripLinesModel" (TX12 27).2.1 (TX12 27).2.2.1 ∈ wsX12_joins := by decide +kernel
set_option maxHeartbeats 4000000 in
set_option maxRecDepth 100000 in
theorem mo_joins_t110 {p : Program} {e : Env} {s : State} {m : MethodId} {args : Array Value} {below : List Frame} {meth : Method} {c : Code} {Q : State → Prop} {A : Nat → Prop} (l : Launch) (D : va_G) (cI : ClassId) (TY : dl_TY) (hTY : TY[0]? = some (cI, .int)) (nw : List Cond) (N : Nat) (ad : Nat → Nat) (R : va_W) {g0 : dl_Sg} (C : dl_Cx p s m args c A D TY nw cX12_joins 5 yX12_joins.cls wsX12_joins) (hQ : dl_RtV p l e (headSpec wsX12_joins { frames := 0, cells := 0, slots := 0, locals := 0 }).room s m args below meth c Q A D cX12_joins 5 0 0 (fun u => u = mm_w cI ad g0 ++ R)) {k59 : Int32 → Int32 → Int32 → dl_Sg → Option dl_Sg} (hk59 : ∀ (x2 : Int32) (x3 : Int32) (x4 : Int32) (g : dl_Sg), k59 x2 x3 x4 g = some g0 → dl_At p l e (headSpec wsX12_joins { frames := 0, cells := 0, slots := 0, locals := 0 }).room s m args below meth c Q A D 5 0 0 59 [(0, .ref (ad 0)), (2, .int x2), (3, .int x3), (4, .int x4)] [] (mm_w cI ad g ++ R)) (x2 : Int32) (x3 : Int32) (x4 : Int32) (y1 : Int32) (y2 : Int32) (g : dl_Sg) (h : mo_joins_b110 N k59 x2 x3 x4 y1 y2 g = some g0) : dl_At p l e (headSpec wsX12_joins { frames := 0, cells := 0, slots := 0, locals := 0 }).room s m args below meth c Q A D 5 0 0 110 [(0, .ref (ad 0)), (2, .int x2), (3, .int x3), (4, .int x4)] [.int y2, .int y1, .ref (ad 30)] (mm_w cI ad g ++ R) := by
  unfold mo_joins_b110 at h
  obtain ⟨h0, h⟩ := dl_gd_some h
  refine dl_iast (pc := 110) C 18 0 mm_a30 hTY h0 dX12_joins_110 mm_s30 ?_
  obtain ⟨g1, h, hg⟩ := dl_nm_some h
  rw [← hg]
  clear hg
  refine dl_iinc (pc := 111) C 3 (fun v2 => [(4, .int v2), (0, .ref (ad 0)), (2, .int x2), (3, .int x3)]) dX12_joins_111 rfl rfl (by decide) (fun _ => rfl) h (fun v2 h => ?_)
  refine dl_goto (pc := 114) C 59 dX12_joins_114 (by decide) ?_
  refine dl_sub [1, 2, 3, 0] rfl ?_
  exact hk59 _ _ _ _ h
set_option maxHeartbeats 4000000 in
set_option maxRecDepth 100000 in
theorem mo_joins_t96 {p : Program} {e : Env} {s : State} {m : MethodId} {args : Array Value} {below : List Frame} {meth : Method} {c : Code} {Q : State → Prop} {A : Nat → Prop} (l : Launch) (D : va_G) (cI : ClassId) (TY : dl_TY) (hTY : TY[0]? = some (cI, .int)) (nw : List Cond) (N : Nat) (ad : Nat → Nat) (R : va_W) {g0 : dl_Sg} (C : dl_Cx p s m args c A D TY nw cX12_joins 5 yX12_joins.cls wsX12_joins) (hQ : dl_RtV p l e (headSpec wsX12_joins { frames := 0, cells := 0, slots := 0, locals := 0 }).room s m args below meth c Q A D cX12_joins 5 0 0 (fun u => u = mm_w cI ad g0 ++ R)) {k59 : Int32 → Int32 → Int32 → dl_Sg → Option dl_Sg} (hk59 : ∀ (x2 : Int32) (x3 : Int32) (x4 : Int32) (g : dl_Sg), k59 x2 x3 x4 g = some g0 → dl_At p l e (headSpec wsX12_joins { frames := 0, cells := 0, slots := 0, locals := 0 }).room s m args below meth c Q A D 5 0 0 59 [(0, .ref (ad 0)), (2, .int x2), (3, .int x3), (4, .int x4)] [] (mm_w cI ad g ++ R)) (x2 : Int32) (x3 : Int32) (x4 : Int32) (y1 : Int32) (g : dl_Sg) (h : mo_joins_b96 N k59 x2 x3 x4 y1 g = some g0) : dl_At p l e (headSpec wsX12_joins { frames := 0, cells := 0, slots := 0, locals := 0 }).room s m args below meth c Q A D 5 0 0 96 [(0, .ref (ad 0)), (2, .int x2), (3, .int x3), (4, .int x4)] [.int y1, .ref (ad 30)] (mm_w cI ad g ++ R) := by
  unfold mo_joins_b96 at h
  refine dl_aload_n (pc := 96) C 0 dX12_joins_96 rfl rfl ?_
  refine dl_get (pc := 97) C hin_X12_joins_X12 0 mm_a0 rfl 27 (by decide) lk_X12_joins_189 rfl rfl dX12_joins_97 ?_
  refine dl_goto (pc := 100) C 110 dX12_joins_100 (by decide) ?_
  refine dl_sub [0, 1, 2, 3] rfl ?_
  exact mo_joins_t110 l D cI TY hTY nw N ad R C hQ hk59  _ _ _ _ _ _ h
set_option maxHeartbeats 4000000 in
set_option maxRecDepth 100000 in
theorem mo_joins_t59 {p : Program} {e : Env} {s : State} {m : MethodId} {args : Array Value} {below : List Frame} {meth : Method} {c : Code} {Q : State → Prop} {A : Nat → Prop} (l : Launch) (D : va_G) (cI : ClassId) (TY : dl_TY) (hTY : TY[0]? = some (cI, .int)) (nw : List Cond) (N : Nat) (ad : Nat → Nat) (R : va_W) {g0 : dl_Sg} (C : dl_Cx p s m args c A D TY nw cX12_joins 5 yX12_joins.cls wsX12_joins) (hQ : dl_RtV p l e (headSpec wsX12_joins { frames := 0, cells := 0, slots := 0, locals := 0 }).room s m args below meth c Q A D cX12_joins 5 0 0 (fun u => u = mm_w cI ad g0 ++ R)) : ∀ (n : Nat) (x2 : Int32) (x3 : Int32) (x4 : Int32) (g : dl_Sg), mo_joins_b59 N n x2 x3 x4 g = some g0 → dl_At p l e (headSpec wsX12_joins { frames := 0, cells := 0, slots := 0, locals := 0 }).room s m args below meth c Q A D 5 0 0 59 [(0, .ref (ad 0)), (2, .int x2), (3, .int x3), (4, .int x4)] [] (mm_w cI ad g ++ R) := by
  intro n
  induction n with
  | zero => exact fun _ _ _ _ h => absurd (show (none : Option dl_Sg) = some _ from h) (by intro q; cases q)
  | succ n ih =>
    intro x2 x3 x4 g h
    rw [mo_joins_b59] at h
    refine dl_iload (pc := 59) C 3 dX12_joins_59 rfl ?_
    refine dl_aload_n (pc := 61) C 0 dX12_joins_61 rfl rfl ?_
    refine dl_get (pc := 62) C hin_X12_joins_X12 0 mm_a0 rfl 0 (by decide) lk_X12_joins_69 rfl rfl dX12_joins_62 ?_
    refine dl_icmp_ge (pc := 65) C 117 dX12_joins_65 (by decide) h (fun q4 h => ?_) (fun q4 h => ?_)
    · refine dl_aload_n (pc := 117) C 0 dX12_joins_117 rfl rfl ?_
      refine dl_dup (pc := 118) C dX12_joins_118 rfl ?_
      refine dl_get (pc := 119) C hin_X12_joins_X12 0 mm_a0 rfl 27 (by decide) lk_X12_joins_189 rfl rfl dX12_joins_119 ?_
      refine dl_iconst (pc := 122) C 1 dX12_joins_122 (by decide) ?_
      refine dl_iadd (pc := 123) C dX12_joins_123 ?_
      refine dl_put (pc := 124) C hin_X12_joins_X12 tyX12 tyX12_ok nmX12 0 mm_a0 rfl 27 (by decide) lk_X12_joins_189 rfl rfl (ty := .int) rfl (vp_nar_int _) rfl (Nat.le_of_ble_eq_true rfl) dX12_joins_124 mm_p0_27 ?_
      obtain ⟨g1, h, hg⟩ := dl_nm_some h
      rw [← hg]
      clear hg
      exact hQ 127 _ _ (by rw [Option.some.inj h]) dX12_joins_127
    · refine dl_aload_n (pc := 68) C 0 dX12_joins_68 rfl rfl ?_
      refine dl_get (pc := 69) C hin_X12_joins_X12 0 mm_a0 rfl 30 (by decide) lk_X12_joins_62 rfl rfl dX12_joins_69 ?_
      refine dl_iload (pc := 72) C 3 dX12_joins_72 rfl ?_
      refine dl_aload_n (pc := 74) C 0 dX12_joins_74 rfl rfl ?_
      refine dl_get (pc := 75) C hin_X12_joins_X12 0 mm_a0 rfl 30 (by decide) lk_X12_joins_62 rfl rfl dX12_joins_75 ?_
      refine dl_iload (pc := 78) C 3 dX12_joins_78 rfl ?_
      obtain ⟨h0, h⟩ := dl_gd_some h
      refine dl_iald (pc := 80) C 18 0 mm_a30 hTY h0 dX12_joins_80 ?_
      refine dl_iload_n (pc := 81) C 1 dX12_joins_81 rfl rfl ?_
      refine dl_icmp_eq (pc := 82) C 96 dX12_joins_82 (by decide) h (fun q3 h => ?_) (fun q3 h => ?_)
      · refine dl_sub [0, 1, 2, 3] rfl ?_
        exact mo_joins_t96 l D cI TY hTY nw N ad R C hQ ih  _ _ _ _ _ h
      · refine dl_aload_n (pc := 85) C 0 dX12_joins_85 rfl rfl ?_
        refine dl_get (pc := 86) C hin_X12_joins_X12 0 mm_a0 rfl 30 (by decide) lk_X12_joins_62 rfl rfl dX12_joins_86 ?_
        refine dl_iload (pc := 89) C 3 dX12_joins_89 rfl ?_
        obtain ⟨h0, h⟩ := dl_gd_some h
        refine dl_iald (pc := 91) C 18 0 mm_a30 hTY h0 dX12_joins_91 ?_
        refine dl_iload_n (pc := 92) C 2 dX12_joins_92 rfl rfl ?_
        refine dl_icmp_ne (pc := 93) C 103 dX12_joins_93 (by decide) h (fun q2 h => ?_) (fun q2 h => ?_)
        · refine dl_sub [0, 1, 2, 3] rfl ?_
          exact mo_joins_t96 l D cI TY hTY nw N ad R C hQ ih  _ _ _ _ _ h
        · refine dl_aload_n (pc := 103) C 0 dX12_joins_103 rfl rfl ?_
          refine dl_get (pc := 104) C hin_X12_joins_X12 0 mm_a0 rfl 30 (by decide) lk_X12_joins_62 rfl rfl dX12_joins_104 ?_
          refine dl_iload (pc := 107) C 3 dX12_joins_107 rfl ?_
          obtain ⟨h0, h⟩ := dl_gd_some h
          refine dl_iald (pc := 109) C 18 0 mm_a30 hTY h0 dX12_joins_109 ?_
          refine dl_sub [0, 1, 2, 3] rfl ?_
          exact mo_joins_t110 l D cI TY hTY nw N ad R C hQ ih  _ _ _ _ _ _ h
set_option maxHeartbeats 4000000 in
set_option maxRecDepth 100000 in
theorem cmo_joins (l : Launch) (D : va_G) (cI : ClassId) (TY : dl_TY) (hTY : TY[0]? = some (cI, .int)) (nw : List Cond) (N : Nat) (ad : Nat → Nat) (R : va_W) (g : dl_Sg) (x1 : Int32) {g0 : dl_Sg} (h : mo_joins N g x1 = some g0) : dl_CtV l D TY nw yX12_joins wsX12_joins { frames := 0, cells := 0, slots := 0, locals := 0 } 0 0 [.ref (ad 0), .int x1] (mm_w cI ad g ++ R) (fun u => u = mm_w cI ad g0 ++ R) := by
  refine dl_metV [(0, .ref (ad 0)), (1, .int x1)] (by decide) rfl (Nat.le_of_ble_eq_true rfl) rfl ?_
  intro p e s m args below meth c Q A C hQ
  unfold mo_joins at h
  refine dl_aload_n (pc := 0) C 0 dX12_joins_0 rfl rfl ?_
  refine dl_get (pc := 1) C hin_X12_joins_X12 0 mm_a0 rfl 30 (by decide) lk_X12_joins_62 rfl rfl dX12_joins_1 ?_
  refine dl_aload_n (pc := 4) C 0 dX12_joins_4 rfl rfl ?_
  refine dl_get (pc := 5) C hin_X12_joins_X12 0 mm_a0 rfl 4 (by decide) lk_X12_joins_16 rfl rfl dX12_joins_5 ?_
  refine dl_iload_n (pc := 8) C 1 dX12_joins_8 rfl rfl ?_
  obtain ⟨h0, h⟩ := dl_gd_some h
  refine dl_iald (pc := 9) C 3 0 mm_a4 hTY h0 dX12_joins_9 ?_
  obtain ⟨h0, h⟩ := dl_gd_some h
  refine dl_iald (pc := 10) C 18 0 mm_a30 hTY h0 dX12_joins_10 ?_
  refine dl_istore_n (pc := 11) C (fun v1 => [(2, .int v1), (0, .ref (ad 0)), (1, .int x1)]) dX12_joins_11 rfl (by decide) (fun _ => rfl) h (fun v1 h => ?_)
  refine dl_aload_n (pc := 12) C 1 dX12_joins_12 rfl rfl ?_
  refine dl_get (pc := 13) C hin_X12_joins_X12 0 mm_a0 rfl 30 (by decide) lk_X12_joins_62 rfl rfl dX12_joins_13 ?_
  refine dl_aload_n (pc := 16) C 1 dX12_joins_16 rfl rfl ?_
  refine dl_get (pc := 17) C hin_X12_joins_X12 0 mm_a0 rfl 5 (by decide) lk_X12_joins_19 rfl rfl dX12_joins_17 ?_
  refine dl_iload_n (pc := 20) C 2 dX12_joins_20 rfl rfl ?_
  obtain ⟨h0, h⟩ := dl_gd_some h
  refine dl_iald (pc := 21) C 4 0 mm_a5 hTY h0 dX12_joins_21 ?_
  obtain ⟨h0, h⟩ := dl_gd_some h
  refine dl_iald (pc := 22) C 18 0 mm_a30 hTY h0 dX12_joins_22 ?_
  refine dl_istore_n (pc := 23) C (fun v2 => [(3, .int v2), (2, .int v1), (0, .ref (ad 0)), (1, .int x1)]) dX12_joins_23 rfl (by decide) (fun _ => rfl) h (fun v2 h => ?_)
  refine dl_aload_n (pc := 24) C 2 dX12_joins_24 rfl rfl ?_
  refine dl_get (pc := 25) C hin_X12_joins_X12 0 mm_a0 rfl 28 (by decide) lk_X12_joins_56 rfl rfl dX12_joins_25 ?_
  refine dl_aload_n (pc := 28) C 2 dX12_joins_28 rfl rfl ?_
  refine dl_get (pc := 29) C hin_X12_joins_X12 0 mm_a0 rfl 27 (by decide) lk_X12_joins_189 rfl rfl dX12_joins_29 ?_
  refine dl_aload_n (pc := 32) C 2 dX12_joins_32 rfl rfl ?_
  refine dl_get (pc := 33) C hin_X12_joins_X12 0 mm_a0 rfl 28 (by decide) lk_X12_joins_56 rfl rfl dX12_joins_33 ?_
  refine dl_iload_n (pc := 36) C 1 dX12_joins_36 rfl rfl ?_
  obtain ⟨h0, h⟩ := dl_gd_some h
  refine dl_iald (pc := 37) C 16 0 mm_a28 hTY h0 dX12_joins_37 ?_
  refine dl_aload_n (pc := 38) C 2 dX12_joins_38 rfl rfl ?_
  refine dl_get (pc := 39) C hin_X12_joins_X12 0 mm_a0 rfl 28 (by decide) lk_X12_joins_56 rfl rfl dX12_joins_39 ?_
  refine dl_iload_n (pc := 42) C 0 dX12_joins_42 rfl rfl ?_
  obtain ⟨h0, h⟩ := dl_gd_some h
  refine dl_iald (pc := 43) C 16 0 mm_a28 hTY h0 dX12_joins_43 ?_
  refine dl_ior (pc := 44) C dX12_joins_44 ?_
  obtain ⟨h0, h⟩ := dl_gd_some h
  refine dl_iast (pc := 45) C 16 0 mm_a28 hTY h0 dX12_joins_45 mm_s28 ?_
  obtain ⟨g3, h, hg⟩ := dl_nm_some h
  rw [← hg]
  clear hg
  refine dl_aload_n (pc := 46) C 2 dX12_joins_46 rfl rfl ?_
  refine dl_get (pc := 47) C hin_X12_joins_X12 0 mm_a0 rfl 29 (by decide) lk_X12_joins_59 rfl rfl dX12_joins_47 ?_
  refine dl_aload_n (pc := 50) C 2 dX12_joins_50 rfl rfl ?_
  refine dl_get (pc := 51) C hin_X12_joins_X12 0 mm_a0 rfl 27 (by decide) lk_X12_joins_189 rfl rfl dX12_joins_51 ?_
  refine dl_iconst (pc := 54) C 0 dX12_joins_54 (by decide) ?_
  obtain ⟨h0, h⟩ := dl_gd_some h
  refine dl_iast (pc := 55) C 17 0 mm_a29 hTY h0 dX12_joins_55 mm_s29 ?_
  obtain ⟨g4, h, hg⟩ := dl_nm_some h
  rw [← hg]
  clear hg
  refine dl_iconst (pc := 56) C 0 dX12_joins_56 (by decide) ?_
  refine dl_istore (pc := 57) C (fun v5 => [(4, .int v5), (3, .int v2), (2, .int v1), (0, .ref (ad 0)), (1, .int x1)]) dX12_joins_57 (by decide) (fun _ => rfl) h (fun v5 h => ?_)
  refine dl_sub [3, 2, 1, 0] rfl ?_
  exact mo_joins_t59 l D cI TY hTY nw N ad R C hQ N _ _ _ _ h
theorem hin_X12_begin_X12 : ∀ w ∈ u_ws RX12 TX12 32, w ∈ wsX12_begin := fun _ h => List.mem_cons_of_mem _ (List.mem_append_right _ h)
theorem lk_X12_begin_7 : Cond.fieldLink (yX12_begin).cls 7 "DripLinesModel" (TX12 1).2.1 (TX12 1).2.2.1 ∈ wsX12_begin := by decide +kernel
theorem lk_X12_begin_56 : Cond.fieldLink (yX12_begin).cls 56 "DripLinesModel" (TX12 28).2.1 (TX12 28).2.2.1 ∈ wsX12_begin := by decide +kernel
theorem lk_X12_begin_59 : Cond.fieldLink (yX12_begin).cls 59 "DripLinesModel" (TX12 29).2.1 (TX12 29).2.2.1 ∈ wsX12_begin := by decide +kernel
theorem lk_X12_begin_62 : Cond.fieldLink (yX12_begin).cls 62 "DripLinesModel" (TX12 30).2.1 (TX12 30).2.2.1 ∈ wsX12_begin := by decide +kernel
theorem lk_X12_begin_69 : Cond.fieldLink (yX12_begin).cls 69 "DripLinesModel" (TX12 0).2.1 (TX12 0).2.2.1 ∈ wsX12_begin := by decide +kernel
theorem lk_X12_begin_186 : Cond.fieldLink (yX12_begin).cls 186 "DripLinesModel" (TX12 31).2.1 (TX12 31).2.2.1 ∈ wsX12_begin := by decide +kernel
theorem lk_X12_begin_189 : Cond.fieldLink (yX12_begin).cls 189 "DripLinesModel" (TX12 27).2.1 (TX12 27).2.2.1 ∈ wsX12_begin := by decide +kernel
set_option maxHeartbeats 4000000 in
set_option maxRecDepth 100000 in
theorem mo_begin_t85 {p : Program} {e : Env} {s : State} {m : MethodId} {args : Array Value} {below : List Frame} {meth : Method} {c : Code} {Q : State → Prop} {A : Nat → Prop} (l : Launch) (D : va_G) (cI : ClassId) (TY : dl_TY) (hTY : TY[0]? = some (cI, .int)) (nw : List Cond) (N : Nat) (ad : Nat → Nat) (R : va_W) {g0 : dl_Sg} (C : dl_Cx p s m args c A D TY nw cX12_begin 2 yX12_begin.cls wsX12_begin) (hQ : dl_RtV p l e (headSpec wsX12_begin { frames := 1, cells := 0, slots := 0, locals := 21 }).room s m args below meth c Q A D cX12_begin 2 0 0 (fun u => u = mm_w cI ad g0 ++ R)) {k20 : Int32 → dl_Sg → Option dl_Sg} (hk20 : ∀ (x1 : Int32) (g : dl_Sg), k20 x1 g = some g0 → dl_At p l e (headSpec wsX12_begin { frames := 1, cells := 0, slots := 0, locals := 21 }).room s m args below meth c Q A D 2 0 0 20 [(0, .ref (ad 0)), (1, .int x1)] [] (mm_w cI ad g ++ R)) (x1 : Int32) (y1 : Int32) (g : dl_Sg) (h : mo_begin_b85 N k20 x1 y1 g = some g0) : dl_At p l e (headSpec wsX12_begin { frames := 1, cells := 0, slots := 0, locals := 21 }).room s m args below meth c Q A D 2 0 0 85 [(0, .ref (ad 0)), (1, .int x1)] [.int y1, .ref (ad 0)] (mm_w cI ad g ++ R) := by
  unfold mo_begin_b85 at h
  refine dl_put (pc := 85) C hin_X12_begin_X12 tyX12 tyX12_ok nmX12 0 mm_a0 rfl 31 (by decide) lk_X12_begin_186 rfl rfl (ty := .int) rfl (vp_nar_int _) rfl (Nat.le_of_ble_eq_true rfl) dX12_begin_85 mm_p0_31 ?_
  obtain ⟨g1, h, hg⟩ := dl_nm_some h
  rw [← hg]
  clear hg
  refine dl_iinc (pc := 88) C 1 (fun v2 => [(1, .int v2), (0, .ref (ad 0))]) dX12_begin_88 rfl rfl (by decide) (fun _ => rfl) h (fun v2 h => ?_)
  refine dl_goto (pc := 91) C 20 dX12_begin_91 (by decide) ?_
  refine dl_sub [1, 0] rfl ?_
  exact hk20 _ _ h
set_option maxHeartbeats 4000000 in
set_option maxRecDepth 100000 in
theorem mo_begin_t81 {p : Program} {e : Env} {s : State} {m : MethodId} {args : Array Value} {below : List Frame} {meth : Method} {c : Code} {Q : State → Prop} {A : Nat → Prop} (l : Launch) (D : va_G) (cI : ClassId) (TY : dl_TY) (hTY : TY[0]? = some (cI, .int)) (nw : List Cond) (N : Nat) (ad : Nat → Nat) (R : va_W) {g0 : dl_Sg} (C : dl_Cx p s m args c A D TY nw cX12_begin 2 yX12_begin.cls wsX12_begin) (hQ : dl_RtV p l e (headSpec wsX12_begin { frames := 1, cells := 0, slots := 0, locals := 21 }).room s m args below meth c Q A D cX12_begin 2 0 0 (fun u => u = mm_w cI ad g0 ++ R)) {k20 : Int32 → dl_Sg → Option dl_Sg} (hk20 : ∀ (x1 : Int32) (g : dl_Sg), k20 x1 g = some g0 → dl_At p l e (headSpec wsX12_begin { frames := 1, cells := 0, slots := 0, locals := 21 }).room s m args below meth c Q A D 2 0 0 20 [(0, .ref (ad 0)), (1, .int x1)] [] (mm_w cI ad g ++ R)) (x1 : Int32) (g : dl_Sg) (h : mo_begin_b81 N k20 x1 g = some g0) : dl_At p l e (headSpec wsX12_begin { frames := 1, cells := 0, slots := 0, locals := 21 }).room s m args below meth c Q A D 2 0 0 81 [(0, .ref (ad 0)), (1, .int x1)] [.ref (ad 0)] (mm_w cI ad g ++ R) := by
  unfold mo_begin_b81 at h
  refine dl_aload_n (pc := 81) C 0 dX12_begin_81 rfl rfl ?_
  refine dl_get (pc := 82) C hin_X12_begin_X12 0 mm_a0 rfl 31 (by decide) lk_X12_begin_186 rfl rfl dX12_begin_82 ?_
  refine dl_sub [0, 1] rfl ?_
  exact mo_begin_t85 l D cI TY hTY nw N ad R C hQ hk20  _ _ _ h
set_option maxHeartbeats 4000000 in
set_option maxRecDepth 100000 in
theorem mo_begin_t77 {p : Program} {e : Env} {s : State} {m : MethodId} {args : Array Value} {below : List Frame} {meth : Method} {c : Code} {Q : State → Prop} {A : Nat → Prop} (l : Launch) (D : va_G) (cI : ClassId) (TY : dl_TY) (hTY : TY[0]? = some (cI, .int)) (nw : List Cond) (N : Nat) (ad : Nat → Nat) (R : va_W) {g0 : dl_Sg} (C : dl_Cx p s m args c A D TY nw cX12_begin 2 yX12_begin.cls wsX12_begin) (hQ : dl_RtV p l e (headSpec wsX12_begin { frames := 1, cells := 0, slots := 0, locals := 21 }).room s m args below meth c Q A D cX12_begin 2 0 0 (fun u => u = mm_w cI ad g0 ++ R)) {k20 : Int32 → dl_Sg → Option dl_Sg} (hk20 : ∀ (x1 : Int32) (g : dl_Sg), k20 x1 g = some g0 → dl_At p l e (headSpec wsX12_begin { frames := 1, cells := 0, slots := 0, locals := 21 }).room s m args below meth c Q A D 2 0 0 20 [(0, .ref (ad 0)), (1, .int x1)] [] (mm_w cI ad g ++ R)) (x1 : Int32) (g : dl_Sg) (h : mo_begin_b77 N k20 x1 g = some g0) : dl_At p l e (headSpec wsX12_begin { frames := 1, cells := 0, slots := 0, locals := 21 }).room s m args below meth c Q A D 2 0 0 77 [(0, .ref (ad 0)), (1, .int x1)] [.ref (ad 0)] (mm_w cI ad g ++ R) := by
  unfold mo_begin_b77 at h
  refine dl_iload_n (pc := 77) C 1 dX12_begin_77 rfl rfl ?_
  refine dl_goto (pc := 78) C 85 dX12_begin_78 (by decide) ?_
  refine dl_sub [0, 1] rfl ?_
  exact mo_begin_t85 l D cI TY hTY nw N ad R C hQ hk20  _ _ _ h
set_option maxHeartbeats 4000000 in
set_option maxRecDepth 100000 in
theorem mo_begin_t20 {p : Program} {e : Env} {s : State} {m : MethodId} {args : Array Value} {below : List Frame} {meth : Method} {c : Code} {Q : State → Prop} {A : Nat → Prop} (l : Launch) (D : va_G) (cI : ClassId) (TY : dl_TY) (hTY : TY[0]? = some (cI, .int)) (nw : List Cond) (N : Nat) (ad : Nat → Nat) (R : va_W) {g0 : dl_Sg} (C : dl_Cx p s m args c A D TY nw cX12_begin 2 yX12_begin.cls wsX12_begin) (hQ : dl_RtV p l e (headSpec wsX12_begin { frames := 1, cells := 0, slots := 0, locals := 21 }).room s m args below meth c Q A D cX12_begin 2 0 0 (fun u => u = mm_w cI ad g0 ++ R)) : ∀ (n : Nat) (x1 : Int32) (g : dl_Sg), mo_begin_b20 N n x1 g = some g0 → dl_At p l e (headSpec wsX12_begin { frames := 1, cells := 0, slots := 0, locals := 21 }).room s m args below meth c Q A D 2 0 0 20 [(0, .ref (ad 0)), (1, .int x1)] [] (mm_w cI ad g ++ R) := by
  intro n
  induction n with
  | zero => exact fun _ _ h => absurd (show (none : Option dl_Sg) = some _ from h) (by intro q; cases q)
  | succ n ih =>
    intro x1 g h
    rw [mo_begin_b20] at h
    refine dl_iload_n (pc := 20) C 1 dX12_begin_20 rfl rfl ?_
    refine dl_if_lt (pc := 21) C 94 dX12_begin_21 (by decide) h (fun q8 h => ?_) (fun q8 h => ?_)
    · exact hQ 94 _ _ (by rw [Option.some.inj h]) dX12_begin_94
    · refine dl_aload_n (pc := 24) C 0 dX12_begin_24 rfl rfl ?_
      refine dl_get (pc := 25) C hin_X12_begin_X12 0 mm_a0 rfl 28 (by decide) lk_X12_begin_56 rfl rfl dX12_begin_25 ?_
      refine dl_iload_n (pc := 28) C 1 dX12_begin_28 rfl rfl ?_
      refine dl_iconst (pc := 29) C 1 dX12_begin_29 (by decide) ?_
      refine dl_iload_n (pc := 30) C 1 dX12_begin_30 rfl rfl ?_
      refine dl_ishl (pc := 31) C dX12_begin_31 ?_
      obtain ⟨h0, h⟩ := dl_gd_some h
      refine dl_iast (pc := 32) C 16 0 mm_a28 hTY h0 dX12_begin_32 mm_s28 ?_
      obtain ⟨g1, h, hg⟩ := dl_nm_some h
      rw [← hg]
      clear hg
      refine dl_aload_n (pc := 33) C 0 dX12_begin_33 rfl rfl ?_
      refine dl_get (pc := 34) C hin_X12_begin_X12 0 mm_a0 rfl 29 (by decide) lk_X12_begin_59 rfl rfl dX12_begin_34 ?_
      refine dl_iload_n (pc := 37) C 1 dX12_begin_37 rfl rfl ?_
      refine dl_iconst (pc := 38) C 0 dX12_begin_38 (by decide) ?_
      obtain ⟨h0, h⟩ := dl_gd_some h
      refine dl_iast (pc := 39) C 17 0 mm_a29 hTY h0 dX12_begin_39 mm_s29 ?_
      obtain ⟨g2, h, hg⟩ := dl_nm_some h
      rw [← hg]
      clear hg
      refine dl_aload_n (pc := 40) C 0 dX12_begin_40 rfl rfl ?_
      refine dl_get (pc := 41) C hin_X12_begin_X12 0 mm_a0 rfl 30 (by decide) lk_X12_begin_62 rfl rfl dX12_begin_41 ?_
      refine dl_iload_n (pc := 44) C 1 dX12_begin_44 rfl rfl ?_
      refine dl_iload_n (pc := 45) C 1 dX12_begin_45 rfl rfl ?_
      obtain ⟨h0, h⟩ := dl_gd_some h
      refine dl_iast (pc := 46) C 18 0 mm_a30 hTY h0 dX12_begin_46 mm_s30 ?_
      obtain ⟨g3, h, hg⟩ := dl_nm_some h
      rw [← hg]
      clear hg
      refine dl_aload_n (pc := 47) C 0 dX12_begin_47 rfl rfl ?_
      refine dl_aload_n (pc := 48) C 0 dX12_begin_48 rfl rfl ?_
      refine dl_iload_n (pc := 49) C 1 dX12_begin_49 rfl rfl ?_
      obtain ⟨r4, h1, h⟩ := dl_bi_some h
      refine dl_vI0 (pc := 50) C (cmo_isTap l D cI TY hTY nw ad R _ _ h1) (cwV 1 C.2.2.2.2.1 gX12_begin_X12_isTap rfl rfl rfl (by decide +kernel) ⟨Nat.le_of_ble_eq_true rfl, Nat.le_of_ble_eq_true rfl⟩) 0 12 mm_a0 rfl rfl rfl (Nat.le_of_ble_eq_true rfl) dX12_begin_50 ⟨Nat.zero_le _, Nat.zero_le _⟩ (fun r u hp => ?_)
      obtain ⟨rfl, rfl⟩ := hp
      refine dl_if_eq (pc := 53) C 81 dX12_begin_53 (by decide) h (fun q7 h => ?_) (fun q7 h => ?_)
      · refine dl_sub [0, 1] rfl ?_
        exact mo_begin_t81 l D cI TY hTY nw N ad R C hQ ih  _ _ h
      · refine dl_aload_n (pc := 56) C 0 dX12_begin_56 rfl rfl ?_
        refine dl_get (pc := 57) C hin_X12_begin_X12 0 mm_a0 rfl 31 (by decide) lk_X12_begin_186 rfl rfl dX12_begin_57 ?_
        refine dl_iconst (pc := 60) C (-1) dX12_begin_60 (by decide) ?_
        refine dl_icmp_eq (pc := 61) C 77 dX12_begin_61 (by decide) h (fun q6 h => ?_) (fun q6 h => ?_)
        · refine dl_sub [0, 1] rfl ?_
          exact mo_begin_t77 l D cI TY hTY nw N ad R C hQ ih  _ _ h
        · refine dl_aload_n (pc := 64) C 0 dX12_begin_64 rfl rfl ?_
          refine dl_get (pc := 65) C hin_X12_begin_X12 0 mm_a0 rfl 1 (by decide) lk_X12_begin_7 rfl rfl dX12_begin_65 ?_
          refine dl_aload_n (pc := 68) C 0 dX12_begin_68 rfl rfl ?_
          refine dl_get (pc := 69) C hin_X12_begin_X12 0 mm_a0 rfl 31 (by decide) lk_X12_begin_186 rfl rfl dX12_begin_69 ?_
          obtain ⟨h0, h⟩ := dl_gd_some h
          refine dl_iald (pc := 72) C 1 0 mm_a1 hTY h0 dX12_begin_72 ?_
          refine dl_iconst (pc := 73) C 3 dX12_begin_73 (by decide) ?_
          refine dl_icmp_eq (pc := 74) C 81 dX12_begin_74 (by decide) h (fun q5 h => ?_) (fun q5 h => ?_)
          · refine dl_sub [0, 1] rfl ?_
            exact mo_begin_t81 l D cI TY hTY nw N ad R C hQ ih  _ _ h
          · refine dl_sub [0, 1] rfl ?_
            exact mo_begin_t77 l D cI TY hTY nw N ad R C hQ ih  _ _ h
set_option maxHeartbeats 4000000 in
set_option maxRecDepth 100000 in
theorem cmo_begin (l : Launch) (D : va_G) (cI : ClassId) (TY : dl_TY) (hTY : TY[0]? = some (cI, .int)) (nw : List Cond) (N : Nat) (ad : Nat → Nat) (R : va_W) (g : dl_Sg) {g0 : dl_Sg} (h : mo_begin N g  = some g0) : dl_CtV l D TY nw yX12_begin wsX12_begin { frames := 1, cells := 0, slots := 0, locals := 21 } 0 0 [.ref (ad 0)] (mm_w cI ad g ++ R) (fun u => u = mm_w cI ad g0 ++ R) := by
  refine dl_metV [(0, .ref (ad 0))] (by decide) rfl (Nat.le_of_ble_eq_true rfl) rfl ?_
  intro p e s m args below meth c Q A C hQ
  unfold mo_begin at h
  refine dl_aload_n (pc := 0) C 0 dX12_begin_0 rfl rfl ?_
  refine dl_aload_n (pc := 1) C 0 dX12_begin_1 rfl rfl ?_
  refine dl_get (pc := 2) C hin_X12_begin_X12 0 mm_a0 rfl 0 (by decide) lk_X12_begin_69 rfl rfl dX12_begin_2 ?_
  refine dl_put (pc := 5) C hin_X12_begin_X12 tyX12 tyX12_ok nmX12 0 mm_a0 rfl 27 (by decide) lk_X12_begin_189 rfl rfl (ty := .int) rfl (vp_nar_int _) rfl (Nat.le_of_ble_eq_true rfl) dX12_begin_5 mm_p0_27 ?_
  obtain ⟨g1, h, hg⟩ := dl_nm_some h
  rw [← hg]
  clear hg
  refine dl_aload_n (pc := 8) C 0 dX12_begin_8 rfl rfl ?_
  refine dl_iconst (pc := 9) C (-1) dX12_begin_9 (by decide) ?_
  refine dl_put (pc := 10) C hin_X12_begin_X12 tyX12 tyX12_ok nmX12 0 mm_a0 rfl 31 (by decide) lk_X12_begin_186 rfl rfl (ty := .int) rfl (vp_nar_int _) rfl (Nat.le_of_ble_eq_true rfl) dX12_begin_10 mm_p0_31 ?_
  obtain ⟨g2, h, hg⟩ := dl_nm_some h
  rw [← hg]
  clear hg
  refine dl_aload_n (pc := 13) C 0 dX12_begin_13 rfl rfl ?_
  refine dl_get (pc := 14) C hin_X12_begin_X12 0 mm_a0 rfl 0 (by decide) lk_X12_begin_69 rfl rfl dX12_begin_14 ?_
  refine dl_iconst (pc := 17) C 1 dX12_begin_17 (by decide) ?_
  refine dl_isub (pc := 18) C dX12_begin_18 ?_
  refine dl_istore_n (pc := 19) C (fun v3 => [(1, .int v3), (0, .ref (ad 0))]) dX12_begin_19 rfl (by decide) (fun _ => rfl) h (fun v3 h => ?_)
  refine dl_sub [1, 0] rfl ?_
  exact mo_begin_t20 l D cI TY hTY nw N ad R C hQ N _ _ h
theorem hin_X12_someActive_X12 : ∀ w ∈ u_ws RX12 TX12 32, w ∈ wsX12_someActive := fun _ h => List.mem_cons_of_mem _ (List.mem_append_right _ h)
theorem lk_X12_someActive_62 : Cond.fieldLink (yX12_someActive).cls 62 "DripLinesModel" (TX12 30).2.1 (TX12 30).2.2.1 ∈ wsX12_someActive := by decide +kernel
theorem lk_X12_someActive_69 : Cond.fieldLink (yX12_someActive).cls 69 "DripLinesModel" (TX12 0).2.1 (TX12 0).2.2.1 ∈ wsX12_someActive := by decide +kernel
set_option maxHeartbeats 4000000 in
set_option maxRecDepth 100000 in
theorem mo_someActive_t34 {p : Program} {e : Env} {s : State} {m : MethodId} {args : Array Value} {below : List Frame} {meth : Method} {c : Code} {Q : State → Prop} {A : Nat → Prop} (l : Launch) (D : va_G) (cI : ClassId) (TY : dl_TY) (hTY : TY[0]? = some (cI, .int)) (nw : List Cond) (N : Nat) (ad : Nat → Nat) (R : va_W) (g : dl_Sg) {r0 : Int32} (C : dl_Cx p s m args c A D TY nw cX12_someActive 3 yX12_someActive.cls wsX12_someActive) (hQ : dl_RtI p l e (headSpec wsX12_someActive { frames := 3, cells := 0, slots := 0, locals := 64 }).room s m args below meth c Q A D cX12_someActive 3 0 0 .boolean (fun r u => r = r0 ∧ u = mm_w cI ad g ++ R)) {k4 : Int32 → Int32 → Option Int32} (hk4 : ∀ (x1 : Int32) (x2 : Int32), k4 x1 x2 = some r0 → dl_At p l e (headSpec wsX12_someActive { frames := 3, cells := 0, slots := 0, locals := 64 }).room s m args below meth c Q A D 3 0 0 4 [(0, .ref (ad 0)), (1, .int x1), (2, .int x2)] [] (mm_w cI ad g ++ R)) (x2 : Int32) (y0 : Int32) (h : mo_someActive_b34 N g k4 x2 y0 = some r0) : dl_At p l e (headSpec wsX12_someActive { frames := 3, cells := 0, slots := 0, locals := 64 }).room s m args below meth c Q A D 3 0 0 34 [(0, .ref (ad 0)), (2, .int x2)] [.int y0] (mm_w cI ad g ++ R) := by
  unfold mo_someActive_b34 at h
  refine dl_istore_n (pc := 34) C (fun v1 => [(1, .int v1), (0, .ref (ad 0)), (2, .int x2)]) dX12_someActive_34 rfl (by decide) (fun _ => rfl) h (fun v1 h => ?_)
  refine dl_iinc (pc := 35) C 2 (fun v2 => [(2, .int v2), (1, .int v1), (0, .ref (ad 0))]) dX12_someActive_35 rfl rfl (by decide) (fun _ => rfl) h (fun v2 h => ?_)
  refine dl_goto (pc := 38) C 4 dX12_someActive_38 (by decide) ?_
  refine dl_sub [2, 1, 0] rfl ?_
  exact hk4 _ _ h
set_option maxHeartbeats 4000000 in
set_option maxRecDepth 100000 in
theorem mo_someActive_t29 {p : Program} {e : Env} {s : State} {m : MethodId} {args : Array Value} {below : List Frame} {meth : Method} {c : Code} {Q : State → Prop} {A : Nat → Prop} (l : Launch) (D : va_G) (cI : ClassId) (TY : dl_TY) (hTY : TY[0]? = some (cI, .int)) (nw : List Cond) (N : Nat) (ad : Nat → Nat) (R : va_W) (g : dl_Sg) {r0 : Int32} (C : dl_Cx p s m args c A D TY nw cX12_someActive 3 yX12_someActive.cls wsX12_someActive) (hQ : dl_RtI p l e (headSpec wsX12_someActive { frames := 3, cells := 0, slots := 0, locals := 64 }).room s m args below meth c Q A D cX12_someActive 3 0 0 .boolean (fun r u => r = r0 ∧ u = mm_w cI ad g ++ R)) {k4 : Int32 → Int32 → Option Int32} (hk4 : ∀ (x1 : Int32) (x2 : Int32), k4 x1 x2 = some r0 → dl_At p l e (headSpec wsX12_someActive { frames := 3, cells := 0, slots := 0, locals := 64 }).room s m args below meth c Q A D 3 0 0 4 [(0, .ref (ad 0)), (1, .int x1), (2, .int x2)] [] (mm_w cI ad g ++ R)) (x2 : Int32) (h : mo_someActive_b29 N g k4 x2 = some r0) : dl_At p l e (headSpec wsX12_someActive { frames := 3, cells := 0, slots := 0, locals := 64 }).room s m args below meth c Q A D 3 0 0 29 [(0, .ref (ad 0)), (2, .int x2)] [] (mm_w cI ad g ++ R) := by
  unfold mo_someActive_b29 at h
  refine dl_iconst (pc := 29) C 1 dX12_someActive_29 (by decide) ?_
  refine dl_goto (pc := 30) C 34 dX12_someActive_30 (by decide) ?_
  refine dl_sub [0, 1] rfl ?_
  exact mo_someActive_t34 l D cI TY hTY nw N ad R g C hQ hk4  _ _ h
set_option maxHeartbeats 4000000 in
set_option maxRecDepth 100000 in
theorem mo_someActive_t4 {p : Program} {e : Env} {s : State} {m : MethodId} {args : Array Value} {below : List Frame} {meth : Method} {c : Code} {Q : State → Prop} {A : Nat → Prop} (l : Launch) (D : va_G) (cI : ClassId) (TY : dl_TY) (hTY : TY[0]? = some (cI, .int)) (nw : List Cond) (N : Nat) (ad : Nat → Nat) (R : va_W) (g : dl_Sg) {r0 : Int32} (C : dl_Cx p s m args c A D TY nw cX12_someActive 3 yX12_someActive.cls wsX12_someActive) (hQ : dl_RtI p l e (headSpec wsX12_someActive { frames := 3, cells := 0, slots := 0, locals := 64 }).room s m args below meth c Q A D cX12_someActive 3 0 0 .boolean (fun r u => r = r0 ∧ u = mm_w cI ad g ++ R)) : ∀ (n : Nat) (x1 : Int32) (x2 : Int32), mo_someActive_b4 N g n x1 x2 = some r0 → dl_At p l e (headSpec wsX12_someActive { frames := 3, cells := 0, slots := 0, locals := 64 }).room s m args below meth c Q A D 3 0 0 4 [(0, .ref (ad 0)), (1, .int x1), (2, .int x2)] [] (mm_w cI ad g ++ R) := by
  intro n
  induction n with
  | zero => exact fun _ _ h => absurd (show (none : Option Int32) = some _ from h) (by intro q; cases q)
  | succ n ih =>
    intro x1 x2 h
    rw [mo_someActive_b4] at h
    refine dl_iload_n (pc := 4) C 2 dX12_someActive_4 rfl rfl ?_
    refine dl_aload_n (pc := 5) C 0 dX12_someActive_5 rfl rfl ?_
    refine dl_get (pc := 6) C hin_X12_someActive_X12 0 mm_a0 rfl 0 (by decide) lk_X12_someActive_69 rfl rfl dX12_someActive_6 ?_
    refine dl_icmp_ge (pc := 9) C 41 dX12_someActive_9 (by decide) h (fun q4 h => ?_) (fun q4 h => ?_)
    · refine dl_iload_n (pc := 41) C 1 dX12_someActive_41 rfl rfl ?_
      obtain ⟨h0, h⟩ := dl_gd_some h
      exact hQ 42 _ _ _ ⟨Option.some.inj h, rfl⟩ (dl_bo_n h0) dX12_someActive_42
    · refine dl_iload_n (pc := 12) C 1 dX12_someActive_12 rfl rfl ?_
      refine dl_if_ne (pc := 13) C 29 dX12_someActive_13 (by decide) h (fun q3 h => ?_) (fun q3 h => ?_)
      · refine dl_aload_n (pc := 16) C 0 dX12_someActive_16 rfl rfl ?_
        refine dl_aload_n (pc := 17) C 0 dX12_someActive_17 rfl rfl ?_
        refine dl_get (pc := 18) C hin_X12_someActive_X12 0 mm_a0 rfl 30 (by decide) lk_X12_someActive_62 rfl rfl dX12_someActive_18 ?_
        refine dl_iload_n (pc := 21) C 2 dX12_someActive_21 rfl rfl ?_
        obtain ⟨h0, h⟩ := dl_gd_some h
        refine dl_iald (pc := 22) C 18 0 mm_a30 hTY h0 dX12_someActive_22 ?_
        obtain ⟨r1, h1, h⟩ := dl_bi_some h
        refine dl_vI0 (pc := 23) C (cmo_isActive l D cI TY hTY nw N ad R _ _ h1) (cwV 1 C.2.2.2.2.1 gX12_someActive_X12_isActive rfl rfl rfl (by decide +kernel) ⟨Nat.le_of_ble_eq_true rfl, Nat.le_of_ble_eq_true rfl⟩) 0 12 mm_a0 rfl rfl rfl (Nat.le_of_ble_eq_true rfl) dX12_someActive_23 ⟨Nat.zero_le _, Nat.zero_le _⟩ (fun r u hp => ?_)
        obtain ⟨rfl, rfl⟩ := hp
        refine dl_if_eq (pc := 26) C 33 dX12_someActive_26 (by decide) h (fun q2 h => ?_) (fun q2 h => ?_)
        · refine dl_iconst (pc := 33) C 0 dX12_someActive_33 (by decide) ?_
          refine dl_sub [0, 2] rfl ?_
          exact mo_someActive_t34 l D cI TY hTY nw N ad R g C hQ ih  _ _ h
        · refine dl_sub [0, 2] rfl ?_
          exact mo_someActive_t29 l D cI TY hTY nw N ad R g C hQ ih  _ h
      · refine dl_sub [0, 2] rfl ?_
        exact mo_someActive_t29 l D cI TY hTY nw N ad R g C hQ ih  _ h
set_option maxHeartbeats 4000000 in
set_option maxRecDepth 100000 in
theorem cmo_someActive (l : Launch) (D : va_G) (cI : ClassId) (TY : dl_TY) (hTY : TY[0]? = some (cI, .int)) (nw : List Cond) (N : Nat) (ad : Nat → Nat) (R : va_W) (g : dl_Sg) {r0 : Int32} (h : mo_someActive N g  = some r0) : dl_CtI l D TY nw yX12_someActive wsX12_someActive { frames := 3, cells := 0, slots := 0, locals := 64 } 0 0 [.ref (ad 0)] (mm_w cI ad g ++ R) (fun r u => r = r0 ∧ u = mm_w cI ad g ++ R) := by
  refine dl_metI (ty := .boolean) [(0, .ref (ad 0))] (by decide) rfl (Nat.le_of_ble_eq_true rfl) rfl ?_
  intro p e s m args below meth c Q A C hQ
  unfold mo_someActive at h
  refine dl_iconst (pc := 0) C 0 dX12_someActive_0 (by decide) ?_
  refine dl_istore_n (pc := 1) C (fun v1 => [(1, .int v1), (0, .ref (ad 0))]) dX12_someActive_1 rfl (by decide) (fun _ => rfl) h (fun v1 h => ?_)
  refine dl_iconst (pc := 2) C 0 dX12_someActive_2 (by decide) ?_
  refine dl_istore_n (pc := 3) C (fun v2 => [(2, .int v2), (1, .int v1), (0, .ref (ad 0))]) dX12_someActive_3 rfl (by decide) (fun _ => rfl) h (fun v2 h => ?_)
  refine dl_sub [2, 1, 0] rfl ?_
  exact mo_someActive_t4 l D cI TY hTY nw N ad R g C hQ N _ _ h
theorem hin_X12_isNow_X12 : ∀ w ∈ u_ws RX12 TX12 32, w ∈ wsX12_isNow := fun _ h => List.mem_cons_of_mem _ (List.mem_append_right _ h)
theorem lk_X12_isNow_62 : Cond.fieldLink (yX12_isNow).cls 62 "DripLinesModel" (TX12 30).2.1 (TX12 30).2.2.1 ∈ wsX12_isNow := by decide +kernel
theorem lk_X12_isNow_69 : Cond.fieldLink (yX12_isNow).cls 69 "DripLinesModel" (TX12 0).2.1 (TX12 0).2.2.1 ∈ wsX12_isNow := by decide +kernel
set_option maxHeartbeats 4000000 in
set_option maxRecDepth 100000 in
theorem mo_isNow_t31 {p : Program} {e : Env} {s : State} {m : MethodId} {args : Array Value} {below : List Frame} {meth : Method} {c : Code} {Q : State → Prop} {A : Nat → Prop} (l : Launch) (D : va_G) (cI : ClassId) (TY : dl_TY) (hTY : TY[0]? = some (cI, .int)) (nw : List Cond) (N : Nat) (ad : Nat → Nat) (R : va_W) (g : dl_Sg) {r0 : Int32} (C : dl_Cx p s m args c A D TY nw cX12_isNow 4 yX12_isNow.cls wsX12_isNow) (hQ : dl_RtI p l e (headSpec wsX12_isNow { frames := 0, cells := 0, slots := 0, locals := 0 }).room s m args below meth c Q A D cX12_isNow 4 0 0 .boolean (fun r u => r = r0 ∧ u = mm_w cI ad g ++ R)) {k4 : Int32 → Int32 → Int32 → Option Int32} (hk4 : ∀ (x1 : Int32) (x2 : Int32) (x3 : Int32), k4 x1 x2 x3 = some r0 → dl_At p l e (headSpec wsX12_isNow { frames := 0, cells := 0, slots := 0, locals := 0 }).room s m args below meth c Q A D 4 0 0 4 [(0, .ref (ad 0)), (1, .int x1), (2, .int x2), (3, .int x3)] [] (mm_w cI ad g ++ R)) (x1 : Int32) (x3 : Int32) (y0 : Int32) (h : mo_isNow_b31 N g k4 x1 x3 y0 = some r0) : dl_At p l e (headSpec wsX12_isNow { frames := 0, cells := 0, slots := 0, locals := 0 }).room s m args below meth c Q A D 4 0 0 31 [(0, .ref (ad 0)), (1, .int x1), (3, .int x3)] [.int y0] (mm_w cI ad g ++ R) := by
  unfold mo_isNow_b31 at h
  refine dl_istore_n (pc := 31) C (fun v1 => [(2, .int v1), (0, .ref (ad 0)), (1, .int x1), (3, .int x3)]) dX12_isNow_31 rfl (by decide) (fun _ => rfl) h (fun v1 h => ?_)
  refine dl_iinc (pc := 32) C 3 (fun v2 => [(3, .int v2), (2, .int v1), (0, .ref (ad 0)), (1, .int x1)]) dX12_isNow_32 rfl rfl (by decide) (fun _ => rfl) h (fun v2 h => ?_)
  refine dl_goto (pc := 35) C 4 dX12_isNow_35 (by decide) ?_
  refine dl_sub [2, 3, 1, 0] rfl ?_
  exact hk4 _ _ _ h
set_option maxHeartbeats 4000000 in
set_option maxRecDepth 100000 in
theorem mo_isNow_t26 {p : Program} {e : Env} {s : State} {m : MethodId} {args : Array Value} {below : List Frame} {meth : Method} {c : Code} {Q : State → Prop} {A : Nat → Prop} (l : Launch) (D : va_G) (cI : ClassId) (TY : dl_TY) (hTY : TY[0]? = some (cI, .int)) (nw : List Cond) (N : Nat) (ad : Nat → Nat) (R : va_W) (g : dl_Sg) {r0 : Int32} (C : dl_Cx p s m args c A D TY nw cX12_isNow 4 yX12_isNow.cls wsX12_isNow) (hQ : dl_RtI p l e (headSpec wsX12_isNow { frames := 0, cells := 0, slots := 0, locals := 0 }).room s m args below meth c Q A D cX12_isNow 4 0 0 .boolean (fun r u => r = r0 ∧ u = mm_w cI ad g ++ R)) {k4 : Int32 → Int32 → Int32 → Option Int32} (hk4 : ∀ (x1 : Int32) (x2 : Int32) (x3 : Int32), k4 x1 x2 x3 = some r0 → dl_At p l e (headSpec wsX12_isNow { frames := 0, cells := 0, slots := 0, locals := 0 }).room s m args below meth c Q A D 4 0 0 4 [(0, .ref (ad 0)), (1, .int x1), (2, .int x2), (3, .int x3)] [] (mm_w cI ad g ++ R)) (x1 : Int32) (x3 : Int32) (h : mo_isNow_b26 N g k4 x1 x3 = some r0) : dl_At p l e (headSpec wsX12_isNow { frames := 0, cells := 0, slots := 0, locals := 0 }).room s m args below meth c Q A D 4 0 0 26 [(0, .ref (ad 0)), (1, .int x1), (3, .int x3)] [] (mm_w cI ad g ++ R) := by
  unfold mo_isNow_b26 at h
  refine dl_iconst (pc := 26) C 1 dX12_isNow_26 (by decide) ?_
  refine dl_goto (pc := 27) C 31 dX12_isNow_27 (by decide) ?_
  refine dl_sub [0, 1, 2] rfl ?_
  exact mo_isNow_t31 l D cI TY hTY nw N ad R g C hQ hk4  _ _ _ h
set_option maxHeartbeats 4000000 in
set_option maxRecDepth 100000 in
theorem mo_isNow_t4 {p : Program} {e : Env} {s : State} {m : MethodId} {args : Array Value} {below : List Frame} {meth : Method} {c : Code} {Q : State → Prop} {A : Nat → Prop} (l : Launch) (D : va_G) (cI : ClassId) (TY : dl_TY) (hTY : TY[0]? = some (cI, .int)) (nw : List Cond) (N : Nat) (ad : Nat → Nat) (R : va_W) (g : dl_Sg) {r0 : Int32} (C : dl_Cx p s m args c A D TY nw cX12_isNow 4 yX12_isNow.cls wsX12_isNow) (hQ : dl_RtI p l e (headSpec wsX12_isNow { frames := 0, cells := 0, slots := 0, locals := 0 }).room s m args below meth c Q A D cX12_isNow 4 0 0 .boolean (fun r u => r = r0 ∧ u = mm_w cI ad g ++ R)) : ∀ (n : Nat) (x1 : Int32) (x2 : Int32) (x3 : Int32), mo_isNow_b4 N g n x1 x2 x3 = some r0 → dl_At p l e (headSpec wsX12_isNow { frames := 0, cells := 0, slots := 0, locals := 0 }).room s m args below meth c Q A D 4 0 0 4 [(0, .ref (ad 0)), (1, .int x1), (2, .int x2), (3, .int x3)] [] (mm_w cI ad g ++ R) := by
  intro n
  induction n with
  | zero => exact fun _ _ _ h => absurd (show (none : Option Int32) = some _ from h) (by intro q; cases q)
  | succ n ih =>
    intro x1 x2 x3 h
    rw [mo_isNow_b4] at h
    refine dl_iload_n (pc := 4) C 3 dX12_isNow_4 rfl rfl ?_
    refine dl_aload_n (pc := 5) C 0 dX12_isNow_5 rfl rfl ?_
    refine dl_get (pc := 6) C hin_X12_isNow_X12 0 mm_a0 rfl 0 (by decide) lk_X12_isNow_69 rfl rfl dX12_isNow_6 ?_
    refine dl_icmp_ge (pc := 9) C 38 dX12_isNow_9 (by decide) h (fun q3 h => ?_) (fun q3 h => ?_)
    · refine dl_iload_n (pc := 38) C 2 dX12_isNow_38 rfl rfl ?_
      obtain ⟨h0, h⟩ := dl_gd_some h
      exact hQ 39 _ _ _ ⟨Option.some.inj h, rfl⟩ (dl_bo_n h0) dX12_isNow_39
    · refine dl_iload_n (pc := 12) C 2 dX12_isNow_12 rfl rfl ?_
      refine dl_if_ne (pc := 13) C 26 dX12_isNow_13 (by decide) h (fun q2 h => ?_) (fun q2 h => ?_)
      · refine dl_aload_n (pc := 16) C 0 dX12_isNow_16 rfl rfl ?_
        refine dl_get (pc := 17) C hin_X12_isNow_X12 0 mm_a0 rfl 30 (by decide) lk_X12_isNow_62 rfl rfl dX12_isNow_17 ?_
        refine dl_iload_n (pc := 20) C 3 dX12_isNow_20 rfl rfl ?_
        obtain ⟨h0, h⟩ := dl_gd_some h
        refine dl_iald (pc := 21) C 18 0 mm_a30 hTY h0 dX12_isNow_21 ?_
        refine dl_iload_n (pc := 22) C 1 dX12_isNow_22 rfl rfl ?_
        refine dl_icmp_ne (pc := 23) C 30 dX12_isNow_23 (by decide) h (fun q1 h => ?_) (fun q1 h => ?_)
        · refine dl_sub [0, 1, 3] rfl ?_
          exact mo_isNow_t26 l D cI TY hTY nw N ad R g C hQ ih  _ _ h
        · refine dl_iconst (pc := 30) C 0 dX12_isNow_30 (by decide) ?_
          refine dl_sub [0, 1, 3] rfl ?_
          exact mo_isNow_t31 l D cI TY hTY nw N ad R g C hQ ih  _ _ _ h
      · refine dl_sub [0, 1, 3] rfl ?_
        exact mo_isNow_t26 l D cI TY hTY nw N ad R g C hQ ih  _ _ h
set_option maxHeartbeats 4000000 in
set_option maxRecDepth 100000 in
theorem cmo_isNow (l : Launch) (D : va_G) (cI : ClassId) (TY : dl_TY) (hTY : TY[0]? = some (cI, .int)) (nw : List Cond) (N : Nat) (ad : Nat → Nat) (R : va_W) (g : dl_Sg) (x1 : Int32) {r0 : Int32} (h : mo_isNow N g x1 = some r0) : dl_CtI l D TY nw yX12_isNow wsX12_isNow { frames := 0, cells := 0, slots := 0, locals := 0 } 0 0 [.ref (ad 0), .int x1] (mm_w cI ad g ++ R) (fun r u => r = r0 ∧ u = mm_w cI ad g ++ R) := by
  refine dl_metI (ty := .boolean) [(0, .ref (ad 0)), (1, .int x1)] (by decide) rfl (Nat.le_of_ble_eq_true rfl) rfl ?_
  intro p e s m args below meth c Q A C hQ
  unfold mo_isNow at h
  refine dl_iconst (pc := 0) C 0 dX12_isNow_0 (by decide) ?_
  refine dl_istore_n (pc := 1) C (fun v1 => [(2, .int v1), (0, .ref (ad 0)), (1, .int x1)]) dX12_isNow_1 rfl (by decide) (fun _ => rfl) h (fun v1 h => ?_)
  refine dl_iconst (pc := 2) C 0 dX12_isNow_2 (by decide) ?_
  refine dl_istore_n (pc := 3) C (fun v2 => [(3, .int v2), (2, .int v1), (0, .ref (ad 0)), (1, .int x1)]) dX12_isNow_3 rfl (by decide) (fun _ => rfl) h (fun v2 h => ?_)
  refine dl_sub [2, 3, 1, 0] rfl ?_
  exact mo_isNow_t4 l D cI TY hTY nw N ad R g C hQ N _ _ _ h
theorem hin_X12_raise_X12 : ∀ w ∈ u_ws RX12 TX12 32, w ∈ wsX12_raise := fun _ h => List.mem_cons_of_mem _ (List.mem_append_right _ h)
theorem lk_X12_raise_59 : Cond.fieldLink (yX12_raise).cls 59 "DripLinesModel" (TX12 29).2.1 (TX12 29).2.2.1 ∈ wsX12_raise := by decide +kernel
theorem lk_X12_raise_76 : Cond.fieldLink (yX12_raise).cls 76 "DripLinesModel" (TX12 3).2.1 (TX12 3).2.2.1 ∈ wsX12_raise := by decide +kernel
theorem lk_X12_raise_189 : Cond.fieldLink (yX12_raise).cls 189 "DripLinesModel" (TX12 27).2.1 (TX12 27).2.2.1 ∈ wsX12_raise := by decide +kernel
set_option maxHeartbeats 4000000 in
set_option maxRecDepth 100000 in
theorem mo_raise_t118 {p : Program} {e : Env} {s : State} {m : MethodId} {args : Array Value} {below : List Frame} {meth : Method} {c : Code} {Q : State → Prop} {A : Nat → Prop} (l : Launch) (D : va_G) (cI : ClassId) (TY : dl_TY) (hTY : TY[0]? = some (cI, .int)) (nw : List Cond) (N : Nat) (ad : Nat → Nat) (R : va_W) {r0 : Int32} {g0 : dl_Sg} (C : dl_Cx p s m args c A D TY nw cX12_raise 5 yX12_raise.cls wsX12_raise) (hQ : dl_RtI p l e (headSpec wsX12_raise { frames := 4, cells := 0, slots := 0, locals := 87 }).room s m args below meth c Q A D cX12_raise 5 0 0 .boolean (fun r u => r = r0 ∧ u = mm_w cI ad g0 ++ R)) (x1 : Int32) (g : dl_Sg) (h : mo_raise_b118 N x1 g = some (r0, g0)) : dl_At p l e (headSpec wsX12_raise { frames := 4, cells := 0, slots := 0, locals := 87 }).room s m args below meth c Q A D 5 0 0 118 [(0, .ref (ad 0)), (1, .int x1)] [] (mm_w cI ad g ++ R) := by
  unfold mo_raise_b118 at h
  refine dl_iload_n (pc := 118) C 1 dX12_raise_118 rfl rfl ?_
  refine dl_ldc (pc := 119) C 100000000 (by decide +kernel) dX12_raise_119 ?_
  refine dl_icmp_ge (pc := 121) C 128 dX12_raise_121 (by decide) h (fun q1 h => ?_) (fun q1 h => ?_)
  · refine dl_iconst (pc := 128) C 0 dX12_raise_128 (by decide) ?_
    exact hQ 129 _ _ _ ⟨(dl_r2 h).1, by rw [(dl_r2 h).2]⟩ rfl dX12_raise_129
  · refine dl_iconst (pc := 124) C 1 dX12_raise_124 (by decide) ?_
    refine dl_goto (pc := 125) C 129 dX12_raise_125 (by decide) ?_
    exact hQ 129 _ _ _ ⟨(dl_r2 h).1, by rw [(dl_r2 h).2]⟩ rfl dX12_raise_129
set_option maxHeartbeats 4000000 in
set_option maxRecDepth 100000 in
theorem mo_raise_t110 {p : Program} {e : Env} {s : State} {m : MethodId} {args : Array Value} {below : List Frame} {meth : Method} {c : Code} {Q : State → Prop} {A : Nat → Prop} (l : Launch) (D : va_G) (cI : ClassId) (TY : dl_TY) (hTY : TY[0]? = some (cI, .int)) (nw : List Cond) (N : Nat) (ad : Nat → Nat) (R : va_W) {r0 : Int32} {g0 : dl_Sg} (C : dl_Cx p s m args c A D TY nw cX12_raise 5 yX12_raise.cls wsX12_raise) (hQ : dl_RtI p l e (headSpec wsX12_raise { frames := 4, cells := 0, slots := 0, locals := 87 }).room s m args below meth c Q A D cX12_raise 5 0 0 .boolean (fun r u => r = r0 ∧ u = mm_w cI ad g0 ++ R)) {k68 : Int32 → Int32 → dl_Sg → Option (Int32 × dl_Sg)} (hk68 : ∀ (x1 : Int32) (x2 : Int32) (g : dl_Sg), k68 x1 x2 g = some (r0, g0) → dl_At p l e (headSpec wsX12_raise { frames := 4, cells := 0, slots := 0, locals := 87 }).room s m args below meth c Q A D 5 0 0 68 [(0, .ref (ad 0)), (1, .int x1), (2, .int x2)] [] (mm_w cI ad g ++ R)) (x1 : Int32) (x2 : Int32) (y1 : Int32) (y2 : Int32) (y3 : Int32) (g : dl_Sg) (h : mo_raise_b110 N k68 x1 x2 y1 y2 y3 g = some (r0, g0)) : dl_At p l e (headSpec wsX12_raise { frames := 4, cells := 0, slots := 0, locals := 87 }).room s m args below meth c Q A D 5 0 0 110 [(0, .ref (ad 0)), (1, .int x1), (2, .int x2)] [.int y3, .int y2, .int y1, .ref (ad 29)] (mm_w cI ad g ++ R) := by
  unfold mo_raise_b110 at h
  refine dl_iadd (pc := 110) C dX12_raise_110 ?_
  obtain ⟨h0, h⟩ := dl_gd_some h
  refine dl_iast (pc := 111) C 17 0 mm_a29 hTY h0 dX12_raise_111 mm_s29 ?_
  obtain ⟨g1, h, hg⟩ := dl_nm_some h
  rw [← hg]
  clear hg
  refine dl_iinc (pc := 112) C 2 (fun v2 => [(2, .int v2), (0, .ref (ad 0)), (1, .int x1)]) dX12_raise_112 rfl rfl (by decide) (fun _ => rfl) h (fun v2 h => ?_)
  refine dl_goto (pc := 115) C 68 dX12_raise_115 (by decide) ?_
  refine dl_sub [1, 2, 0] rfl ?_
  exact hk68 _ _ _ h
set_option maxHeartbeats 4000000 in
set_option maxRecDepth 100000 in
theorem mo_raise_t109 {p : Program} {e : Env} {s : State} {m : MethodId} {args : Array Value} {below : List Frame} {meth : Method} {c : Code} {Q : State → Prop} {A : Nat → Prop} (l : Launch) (D : va_G) (cI : ClassId) (TY : dl_TY) (hTY : TY[0]? = some (cI, .int)) (nw : List Cond) (N : Nat) (ad : Nat → Nat) (R : va_W) {r0 : Int32} {g0 : dl_Sg} (C : dl_Cx p s m args c A D TY nw cX12_raise 5 yX12_raise.cls wsX12_raise) (hQ : dl_RtI p l e (headSpec wsX12_raise { frames := 4, cells := 0, slots := 0, locals := 87 }).room s m args below meth c Q A D cX12_raise 5 0 0 .boolean (fun r u => r = r0 ∧ u = mm_w cI ad g0 ++ R)) {k68 : Int32 → Int32 → dl_Sg → Option (Int32 × dl_Sg)} (hk68 : ∀ (x1 : Int32) (x2 : Int32) (g : dl_Sg), k68 x1 x2 g = some (r0, g0) → dl_At p l e (headSpec wsX12_raise { frames := 4, cells := 0, slots := 0, locals := 87 }).room s m args below meth c Q A D 5 0 0 68 [(0, .ref (ad 0)), (1, .int x1), (2, .int x2)] [] (mm_w cI ad g ++ R)) (x1 : Int32) (x2 : Int32) (y1 : Int32) (y2 : Int32) (g : dl_Sg) (h : mo_raise_b109 N k68 x1 x2 y1 y2 g = some (r0, g0)) : dl_At p l e (headSpec wsX12_raise { frames := 4, cells := 0, slots := 0, locals := 87 }).room s m args below meth c Q A D 5 0 0 109 [(0, .ref (ad 0)), (1, .int x1), (2, .int x2)] [.int y2, .int y1, .ref (ad 29)] (mm_w cI ad g ++ R) := by
  unfold mo_raise_b109 at h
  refine dl_iconst (pc := 109) C 0 dX12_raise_109 (by decide) ?_
  refine dl_sub [0, 1, 2] rfl ?_
  exact mo_raise_t110 l D cI TY hTY nw N ad R C hQ hk68  _ _ _ _ _ _ h
set_option maxHeartbeats 4000000 in
set_option maxRecDepth 100000 in
theorem mo_raise_t68 {p : Program} {e : Env} {s : State} {m : MethodId} {args : Array Value} {below : List Frame} {meth : Method} {c : Code} {Q : State → Prop} {A : Nat → Prop} (l : Launch) (D : va_G) (cI : ClassId) (TY : dl_TY) (hTY : TY[0]? = some (cI, .int)) (nw : List Cond) (N : Nat) (ad : Nat → Nat) (R : va_W) {r0 : Int32} {g0 : dl_Sg} (C : dl_Cx p s m args c A D TY nw cX12_raise 5 yX12_raise.cls wsX12_raise) (hQ : dl_RtI p l e (headSpec wsX12_raise { frames := 4, cells := 0, slots := 0, locals := 87 }).room s m args below meth c Q A D cX12_raise 5 0 0 .boolean (fun r u => r = r0 ∧ u = mm_w cI ad g0 ++ R)) : ∀ (n : Nat) (x1 : Int32) (x2 : Int32) (g : dl_Sg), mo_raise_b68 N n x1 x2 g = some (r0, g0) → dl_At p l e (headSpec wsX12_raise { frames := 4, cells := 0, slots := 0, locals := 87 }).room s m args below meth c Q A D 5 0 0 68 [(0, .ref (ad 0)), (1, .int x1), (2, .int x2)] [] (mm_w cI ad g ++ R) := by
  intro n
  induction n with
  | zero => exact fun _ _ _ h => absurd (show (none : Option (Int32 × dl_Sg)) = some _ from h) (by intro q; cases q)
  | succ n ih =>
    intro x1 x2 g h
    rw [mo_raise_b68] at h
    refine dl_iload_n (pc := 68) C 2 dX12_raise_68 rfl rfl ?_
    refine dl_aload_n (pc := 69) C 0 dX12_raise_69 rfl rfl ?_
    refine dl_get (pc := 70) C hin_X12_raise_X12 0 mm_a0 rfl 27 (by decide) lk_X12_raise_189 rfl rfl dX12_raise_70 ?_
    refine dl_icmp_ge (pc := 73) C 118 dX12_raise_73 (by decide) h (fun q6 h => ?_) (fun q6 h => ?_)
    · refine dl_sub [0, 1] rfl ?_
      exact mo_raise_t118 l D cI TY hTY nw N ad R C hQ  _ _ h
    · refine dl_iload_n (pc := 76) C 1 dX12_raise_76 rfl rfl ?_
      refine dl_ldc (pc := 77) C 100000000 (by decide +kernel) dX12_raise_77 ?_
      refine dl_icmp_ge (pc := 79) C 118 dX12_raise_79 (by decide) h (fun q5 h => ?_) (fun q5 h => ?_)
      · refine dl_sub [0, 1] rfl ?_
        exact mo_raise_t118 l D cI TY hTY nw N ad R C hQ  _ _ h
      · refine dl_aload_n (pc := 82) C 0 dX12_raise_82 rfl rfl ?_
        refine dl_get (pc := 83) C hin_X12_raise_X12 0 mm_a0 rfl 29 (by decide) lk_X12_raise_59 rfl rfl dX12_raise_83 ?_
        refine dl_iload_n (pc := 86) C 2 dX12_raise_86 rfl rfl ?_
        refine dl_dup2 (pc := 87) C dX12_raise_87 rfl rfl ?_
        obtain ⟨h0, h⟩ := dl_gd_some h
        refine dl_iald (pc := 88) C 17 0 mm_a29 hTY h0 dX12_raise_88 ?_
        refine dl_aload_n (pc := 89) C 0 dX12_raise_89 rfl rfl ?_
        refine dl_iload_n (pc := 90) C 2 dX12_raise_90 rfl rfl ?_
        obtain ⟨r1, h1, h⟩ := dl_bi_some h
        refine dl_vI0 (pc := 91) C (cmo_isNow l D cI TY hTY nw N ad R _ _ h1) (cwV 1 C.2.2.2.2.1 gX12_raise_X12_isNow rfl rfl rfl (by decide +kernel) ⟨Nat.le_of_ble_eq_true rfl, Nat.le_of_ble_eq_true rfl⟩) 0 12 mm_a0 rfl rfl rfl (Nat.le_of_ble_eq_true rfl) dX12_raise_91 ⟨Nat.zero_le _, Nat.zero_le _⟩ (fun r u hp => ?_)
        obtain ⟨rfl, rfl⟩ := hp
        refine dl_if_eq (pc := 94) C 109 dX12_raise_94 (by decide) h (fun q4 h => ?_) (fun q4 h => ?_)
        · refine dl_sub [0, 1, 2] rfl ?_
          exact mo_raise_t109 l D cI TY hTY nw N ad R C hQ ih  _ _ _ _ _ h
        · refine dl_aload_n (pc := 97) C 0 dX12_raise_97 rfl rfl ?_
          refine dl_iload_n (pc := 98) C 2 dX12_raise_98 rfl rfl ?_
          obtain ⟨r2, h1, h⟩ := dl_bi_some h
          refine dl_vI0 (pc := 99) C (cmo_isActive l D cI TY hTY nw N ad R _ _ h1) (cwV 1 C.2.2.2.2.1 gX12_raise_X12_isActive rfl rfl rfl (by decide +kernel) ⟨Nat.le_of_ble_eq_true rfl, Nat.le_of_ble_eq_true rfl⟩) 0 12 mm_a0 rfl rfl rfl (Nat.le_of_ble_eq_true rfl) dX12_raise_99 ⟨Nat.zero_le _, Nat.zero_le _⟩ (fun r u hp => ?_)
          obtain ⟨rfl, rfl⟩ := hp
          refine dl_if_eq (pc := 102) C 109 dX12_raise_102 (by decide) h (fun q3 h => ?_) (fun q3 h => ?_)
          · refine dl_sub [0, 1, 2] rfl ?_
            exact mo_raise_t109 l D cI TY hTY nw N ad R C hQ ih  _ _ _ _ _ h
          · refine dl_iload_n (pc := 105) C 1 dX12_raise_105 rfl rfl ?_
            refine dl_goto (pc := 106) C 110 dX12_raise_106 (by decide) ?_
            refine dl_sub [0, 1, 2] rfl ?_
            exact mo_raise_t110 l D cI TY hTY nw N ad R C hQ ih  _ _ _ _ _ _ h
set_option maxHeartbeats 4000000 in
set_option maxRecDepth 100000 in
theorem mo_raise_t60 {p : Program} {e : Env} {s : State} {m : MethodId} {args : Array Value} {below : List Frame} {meth : Method} {c : Code} {Q : State → Prop} {A : Nat → Prop} (l : Launch) (D : va_G) (cI : ClassId) (TY : dl_TY) (hTY : TY[0]? = some (cI, .int)) (nw : List Cond) (N : Nat) (ad : Nat → Nat) (R : va_W) {r0 : Int32} {g0 : dl_Sg} (C : dl_Cx p s m args c A D TY nw cX12_raise 5 yX12_raise.cls wsX12_raise) (hQ : dl_RtI p l e (headSpec wsX12_raise { frames := 4, cells := 0, slots := 0, locals := 87 }).room s m args below meth c Q A D cX12_raise 5 0 0 .boolean (fun r u => r = r0 ∧ u = mm_w cI ad g0 ++ R)) {k5 : Int32 → Int32 → dl_Sg → Option (Int32 × dl_Sg)} (hk5 : ∀ (x1 : Int32) (x2 : Int32) (g : dl_Sg), k5 x1 x2 g = some (r0, g0) → dl_At p l e (headSpec wsX12_raise { frames := 4, cells := 0, slots := 0, locals := 87 }).room s m args below meth c Q A D 5 0 0 5 [(0, .ref (ad 0)), (1, .int x1), (2, .int x2)] [] (mm_w cI ad g ++ R)) (x1 : Int32) (x2 : Int32) (g : dl_Sg) (h : mo_raise_b60 N k5 x1 x2 g = some (r0, g0)) : dl_At p l e (headSpec wsX12_raise { frames := 4, cells := 0, slots := 0, locals := 87 }).room s m args below meth c Q A D 5 0 0 60 [(0, .ref (ad 0)), (1, .int x1), (2, .int x2)] [] (mm_w cI ad g ++ R) := by
  unfold mo_raise_b60 at h
  refine dl_iinc (pc := 60) C 2 (fun v1 => [(2, .int v1), (0, .ref (ad 0)), (1, .int x1)]) dX12_raise_60 rfl rfl (by decide) (fun _ => rfl) h (fun v1 h => ?_)
  refine dl_goto (pc := 63) C 5 dX12_raise_63 (by decide) ?_
  refine dl_sub [1, 2, 0] rfl ?_
  exact hk5 _ _ _ h
set_option maxHeartbeats 4000000 in
set_option maxRecDepth 100000 in
theorem mo_raise_t59 {p : Program} {e : Env} {s : State} {m : MethodId} {args : Array Value} {below : List Frame} {meth : Method} {c : Code} {Q : State → Prop} {A : Nat → Prop} (l : Launch) (D : va_G) (cI : ClassId) (TY : dl_TY) (hTY : TY[0]? = some (cI, .int)) (nw : List Cond) (N : Nat) (ad : Nat → Nat) (R : va_W) {r0 : Int32} {g0 : dl_Sg} (C : dl_Cx p s m args c A D TY nw cX12_raise 5 yX12_raise.cls wsX12_raise) (hQ : dl_RtI p l e (headSpec wsX12_raise { frames := 4, cells := 0, slots := 0, locals := 87 }).room s m args below meth c Q A D cX12_raise 5 0 0 .boolean (fun r u => r = r0 ∧ u = mm_w cI ad g0 ++ R)) {k5 : Int32 → Int32 → dl_Sg → Option (Int32 × dl_Sg)} (hk5 : ∀ (x1 : Int32) (x2 : Int32) (g : dl_Sg), k5 x1 x2 g = some (r0, g0) → dl_At p l e (headSpec wsX12_raise { frames := 4, cells := 0, slots := 0, locals := 87 }).room s m args below meth c Q A D 5 0 0 5 [(0, .ref (ad 0)), (1, .int x1), (2, .int x2)] [] (mm_w cI ad g ++ R)) (x2 : Int32) (y0 : Int32) (g : dl_Sg) (h : mo_raise_b59 N k5 x2 y0 g = some (r0, g0)) : dl_At p l e (headSpec wsX12_raise { frames := 4, cells := 0, slots := 0, locals := 87 }).room s m args below meth c Q A D 5 0 0 59 [(0, .ref (ad 0)), (2, .int x2)] [.int y0] (mm_w cI ad g ++ R) := by
  unfold mo_raise_b59 at h
  refine dl_istore_n (pc := 59) C (fun v1 => [(1, .int v1), (0, .ref (ad 0)), (2, .int x2)]) dX12_raise_59 rfl (by decide) (fun _ => rfl) h (fun v1 h => ?_)
  refine dl_sub [1, 0, 2] rfl ?_
  exact mo_raise_t60 l D cI TY hTY nw N ad R C hQ hk5  _ _ _ h
set_option maxHeartbeats 4000000 in
set_option maxRecDepth 100000 in
theorem mo_raise_t5 {p : Program} {e : Env} {s : State} {m : MethodId} {args : Array Value} {below : List Frame} {meth : Method} {c : Code} {Q : State → Prop} {A : Nat → Prop} (l : Launch) (D : va_G) (cI : ClassId) (TY : dl_TY) (hTY : TY[0]? = some (cI, .int)) (nw : List Cond) (N : Nat) (ad : Nat → Nat) (R : va_W) {r0 : Int32} {g0 : dl_Sg} (C : dl_Cx p s m args c A D TY nw cX12_raise 5 yX12_raise.cls wsX12_raise) (hQ : dl_RtI p l e (headSpec wsX12_raise { frames := 4, cells := 0, slots := 0, locals := 87 }).room s m args below meth c Q A D cX12_raise 5 0 0 .boolean (fun r u => r = r0 ∧ u = mm_w cI ad g0 ++ R)) : ∀ (n : Nat) (x1 : Int32) (x2 : Int32) (g : dl_Sg), mo_raise_b5 N n x1 x2 g = some (r0, g0) → dl_At p l e (headSpec wsX12_raise { frames := 4, cells := 0, slots := 0, locals := 87 }).room s m args below meth c Q A D 5 0 0 5 [(0, .ref (ad 0)), (1, .int x1), (2, .int x2)] [] (mm_w cI ad g ++ R) := by
  intro n
  induction n with
  | zero => exact fun _ _ _ h => absurd (show (none : Option (Int32 × dl_Sg)) = some _ from h) (by intro q; cases q)
  | succ n ih =>
    intro x1 x2 g h
    rw [mo_raise_b5] at h
    refine dl_iload_n (pc := 5) C 2 dX12_raise_5 rfl rfl ?_
    refine dl_aload_n (pc := 6) C 0 dX12_raise_6 rfl rfl ?_
    refine dl_get (pc := 7) C hin_X12_raise_X12 0 mm_a0 rfl 3 (by decide) lk_X12_raise_76 rfl rfl dX12_raise_7 ?_
    refine dl_icmp_ge (pc := 10) C 66 dX12_raise_10 (by decide) h (fun q10 h => ?_) (fun q10 h => ?_)
    · refine dl_iconst (pc := 66) C 0 dX12_raise_66 (by decide) ?_
      refine dl_istore_n (pc := 67) C (fun v1 => [(2, .int v1), (0, .ref (ad 0)), (1, .int x1)]) dX12_raise_67 rfl (by decide) (fun _ => rfl) h (fun v1 h => ?_)
      refine dl_sub [1, 2, 0] rfl ?_
      exact mo_raise_t68 l D cI TY hTY nw N ad R C hQ N _ _ _ h
    · refine dl_aload_n (pc := 13) C 0 dX12_raise_13 rfl rfl ?_
      refine dl_iload_n (pc := 14) C 2 dX12_raise_14 rfl rfl ?_
      obtain ⟨r2, h1, h⟩ := dl_bi_some h
      refine dl_vI0 (pc := 15) C (cmo_sides l D cI TY hTY nw N ad R _ _ h1) (cwV 1 C.2.2.2.2.1 gX12_raise_X12_sides rfl rfl rfl (by decide +kernel) ⟨Nat.le_of_ble_eq_true rfl, Nat.le_of_ble_eq_true rfl⟩) 0 12 mm_a0 rfl rfl rfl (Nat.le_of_ble_eq_true rfl) dX12_raise_15 ⟨Nat.zero_le _, Nat.zero_le _⟩ (fun r u hp => ?_)
      obtain ⟨rfl, rfl⟩ := hp
      refine dl_istore_n (pc := 18) C (fun v3 => [(3, .int v3), (0, .ref (ad 0)), (1, .int x1), (2, .int x2)]) dX12_raise_18 rfl (by decide) (fun _ => rfl) h (fun v3 h => ?_)
      refine dl_iload_n (pc := 19) C 0 dX12_raise_19 rfl rfl ?_
      refine dl_if_le (pc := 20) C 60 dX12_raise_20 (by decide) h (fun q9 h => ?_) (fun q9 h => ?_)
      · refine dl_sub [1, 2, 3] rfl ?_
        exact mo_raise_t60 l D cI TY hTY nw N ad R C hQ ih  _ _ _ h
      · refine dl_aload_n (pc := 23) C 1 dX12_raise_23 rfl rfl ?_
        refine dl_iload_n (pc := 24) C 3 dX12_raise_24 rfl rfl ?_
        obtain ⟨r4, h1, h⟩ := dl_bi_some h
        refine dl_vI0 (pc := 25) C (cmo_room l D cI TY hTY nw N ad R _ _ h1) (cwV 1 C.2.2.2.2.1 gX12_raise_X12_room rfl rfl rfl (by decide +kernel) ⟨Nat.le_of_ble_eq_true rfl, Nat.le_of_ble_eq_true rfl⟩) 0 12 mm_a0 rfl rfl rfl (Nat.le_of_ble_eq_true rfl) dX12_raise_25 ⟨Nat.zero_le _, Nat.zero_le _⟩ (fun r u hp => ?_)
        obtain ⟨rfl, rfl⟩ := hp
        refine dl_istore (pc := 28) C (fun v5 => [(4, .int v5), (3, .int v3), (0, .ref (ad 0)), (1, .int x1), (2, .int x2)]) dX12_raise_28 (by decide) (fun _ => rfl) h (fun v5 h => ?_)
        refine dl_iload (pc := 30) C 0 dX12_raise_30 rfl ?_
        refine dl_iload_n (pc := 32) C 1 dX12_raise_32 rfl rfl ?_
        refine dl_icmp_ge (pc := 33) C 43 dX12_raise_33 (by decide) h (fun q8 h => ?_) (fun q8 h => ?_)
        · refine dl_iload (pc := 43) C 0 dX12_raise_43 rfl ?_
          refine dl_iload_n (pc := 45) C 1 dX12_raise_45 rfl rfl ?_
          obtain ⟨h0, h⟩ := dl_gd_some h
          refine dl_idiv (pc := 46) C dX12_raise_46 h0 ?_
          refine dl_iload_n (pc := 47) C 3 dX12_raise_47 rfl rfl ?_
          refine dl_icmp_ge (pc := 48) C 58 dX12_raise_48 (by decide) h (fun q6 h => ?_) (fun q6 h => ?_)
          · refine dl_iload_n (pc := 58) C 3 dX12_raise_58 rfl rfl ?_
            refine dl_sub [2, 4] rfl ?_
            exact mo_raise_t59 l D cI TY hTY nw N ad R C hQ ih  _ _ _ h
          · refine dl_iload (pc := 51) C 0 dX12_raise_51 rfl ?_
            refine dl_iload_n (pc := 53) C 1 dX12_raise_53 rfl rfl ?_
            obtain ⟨h0, h⟩ := dl_gd_some h
            refine dl_idiv (pc := 54) C dX12_raise_54 h0 ?_
            refine dl_goto (pc := 55) C 59 dX12_raise_55 (by decide) ?_
            refine dl_sub [2, 4] rfl ?_
            exact mo_raise_t59 l D cI TY hTY nw N ad R C hQ ih  _ _ _ h
        · refine dl_aload_n (pc := 36) C 2 dX12_raise_36 rfl rfl ?_
          refine dl_iload_n (pc := 37) C 4 dX12_raise_37 rfl rfl ?_
          obtain ⟨g7, h1, h⟩ := dl_bi_some h
          refine dl_vV0 (pc := 38) C (cmo_joins l D cI TY hTY nw N ad R _ _ h1) (cwV 1 C.2.2.2.2.1 gX12_raise_X12_joins rfl rfl rfl (by decide +kernel) ⟨Nat.le_of_ble_eq_true rfl, Nat.le_of_ble_eq_true rfl⟩) 0 12 mm_a0 rfl rfl rfl (Nat.le_of_ble_eq_true rfl) dX12_raise_38 ⟨Nat.zero_le _, Nat.zero_le _⟩ (fun u hp => ?_)
          subst hp
          refine dl_iconst (pc := 41) C 1 dX12_raise_41 (by decide) ?_
          exact hQ 42 _ _ _ ⟨(dl_r2 h).1, by rw [(dl_r2 h).2]⟩ rfl dX12_raise_42
set_option maxHeartbeats 4000000 in
set_option maxRecDepth 100000 in
theorem cmo_raise (l : Launch) (D : va_G) (cI : ClassId) (TY : dl_TY) (hTY : TY[0]? = some (cI, .int)) (nw : List Cond) (N : Nat) (ad : Nat → Nat) (R : va_W) (g : dl_Sg) {r0 : Int32} {g0 : dl_Sg} (h : mo_raise N g  = some (r0, g0)) : dl_CtI l D TY nw yX12_raise wsX12_raise { frames := 4, cells := 0, slots := 0, locals := 87 } 0 0 [.ref (ad 0)] (mm_w cI ad g ++ R) (fun r u => r = r0 ∧ u = mm_w cI ad g0 ++ R) := by
  refine dl_metI (ty := .boolean) [(0, .ref (ad 0))] (by decide) rfl (Nat.le_of_ble_eq_true rfl) rfl ?_
  intro p e s m args below meth c Q A C hQ
  unfold mo_raise at h
  refine dl_ldc (pc := 0) C 100000000 (by decide +kernel) dX12_raise_0 ?_
  refine dl_istore_n (pc := 2) C (fun v1 => [(1, .int v1), (0, .ref (ad 0))]) dX12_raise_2 rfl (by decide) (fun _ => rfl) h (fun v1 h => ?_)
  refine dl_iconst (pc := 3) C 0 dX12_raise_3 (by decide) ?_
  refine dl_istore_n (pc := 4) C (fun v2 => [(2, .int v2), (1, .int v1), (0, .ref (ad 0))]) dX12_raise_4 rfl (by decide) (fun _ => rfl) h (fun v2 h => ?_)
  refine dl_sub [2, 1, 0] rfl ?_
  exact mo_raise_t5 l D cI TY hTY nw N ad R C hQ N _ _ _ h
theorem hin_X12_raiseAll_X12 : ∀ w ∈ u_ws RX12 TX12 32, w ∈ wsX12_raiseAll := fun _ h => List.mem_cons_of_mem _ (List.mem_append_right _ h)
theorem lk_X12_raiseAll_186 : Cond.fieldLink (yX12_raiseAll).cls 186 "DripLinesModel" (TX12 31).2.1 (TX12 31).2.2.1 ∈ wsX12_raiseAll := by decide +kernel
set_option maxHeartbeats 4000000 in
set_option maxRecDepth 100000 in
theorem mo_raiseAll_t14 {p : Program} {e : Env} {s : State} {m : MethodId} {args : Array Value} {below : List Frame} {meth : Method} {c : Code} {Q : State → Prop} {A : Nat → Prop} (l : Launch) (D : va_G) (cI : ClassId) (TY : dl_TY) (hTY : TY[0]? = some (cI, .int)) (nw : List Cond) (N : Nat) (ad : Nat → Nat) (R : va_W) {r0 : Int32} {g0 : dl_Sg} (C : dl_Cx p s m args c A D TY nw cX12_raiseAll 1 yX12_raiseAll.cls wsX12_raiseAll) (hQ : dl_RtI p l e (headSpec wsX12_raiseAll { frames := 5, cells := 0, slots := 0, locals := 111 }).room s m args below meth c Q A D cX12_raiseAll 1 0 0 .int (fun r u => r = r0 ∧ u = mm_w cI ad g0 ++ R)) : ∀ (n : Nat) (g : dl_Sg), mo_raiseAll_b14 N n g = some (r0, g0) → dl_At p l e (headSpec wsX12_raiseAll { frames := 5, cells := 0, slots := 0, locals := 111 }).room s m args below meth c Q A D 1 0 0 14 [(0, .ref (ad 0))] [] (mm_w cI ad g ++ R) := by
  intro n
  induction n with
  | zero => exact fun _ h => absurd (show (none : Option (Int32 × dl_Sg)) = some _ from h) (by intro q; cases q)
  | succ n ih =>
    intro g h
    rw [mo_raiseAll_b14] at h
    refine dl_aload_n (pc := 14) C 0 dX12_raiseAll_14 rfl rfl ?_
    obtain ⟨r1, h1, h⟩ := dl_bi_some h
    refine dl_vI0 (pc := 15) C (cmo_someActive l D cI TY hTY nw N ad R _ h1) (cwV 0 C.2.2.2.2.1 gX12_raiseAll_X12_someActive rfl rfl rfl (by decide +kernel) ⟨Nat.le_of_ble_eq_true rfl, Nat.le_of_ble_eq_true rfl⟩) 0 12 mm_a0 rfl rfl rfl (Nat.le_of_ble_eq_true rfl) dX12_raiseAll_15 ⟨Nat.zero_le _, Nat.zero_le _⟩ (fun r u hp => ?_)
    obtain ⟨rfl, rfl⟩ := hp
    refine dl_if_eq (pc := 18) C 31 dX12_raiseAll_18 (by decide) h (fun q5 h => ?_) (fun q5 h => ?_)
    · refine dl_iconst (pc := 31) C 0 dX12_raiseAll_31 (by decide) ?_
      exact hQ 32 _ _ _ ⟨(dl_r2 h).1, by rw [(dl_r2 h).2]⟩ (vp_nar_int _) dX12_raiseAll_32
    · refine dl_aload_n (pc := 21) C 0 dX12_raiseAll_21 rfl rfl ?_
      obtain ⟨r2, g3, h1, h⟩ := dl_b2_some h
      refine dl_vI0 (pc := 22) C (cmo_raise l D cI TY hTY nw N ad R _ h1) (cwV 0 C.2.2.2.2.1 gX12_raiseAll_X12_raise rfl rfl rfl (by decide +kernel) ⟨Nat.le_of_ble_eq_true rfl, Nat.le_of_ble_eq_true rfl⟩) 0 12 mm_a0 rfl rfl rfl (Nat.le_of_ble_eq_true rfl) dX12_raiseAll_22 ⟨Nat.zero_le _, Nat.zero_le _⟩ (fun r u hp => ?_)
      obtain ⟨rfl, rfl⟩ := hp
      refine dl_if_ne (pc := 25) C 14 dX12_raiseAll_25 (by decide) h (fun q4 h => ?_) (fun q4 h => ?_)
      · refine dl_bipush (pc := 28) C (-2) dX12_raiseAll_28 (by decide) ?_
        exact hQ 30 _ _ _ ⟨(dl_r2 h).1, by rw [(dl_r2 h).2]⟩ (vp_nar_int _) dX12_raiseAll_30
      · refine dl_sub [0] rfl ?_
        exact ih _ h
set_option maxHeartbeats 4000000 in
set_option maxRecDepth 100000 in
theorem cmo_raiseAll (l : Launch) (D : va_G) (cI : ClassId) (TY : dl_TY) (hTY : TY[0]? = some (cI, .int)) (nw : List Cond) (N : Nat) (ad : Nat → Nat) (R : va_W) (g : dl_Sg) {r0 : Int32} {g0 : dl_Sg} (h : mo_raiseAll N g  = some (r0, g0)) : dl_CtI l D TY nw yX12_raiseAll wsX12_raiseAll { frames := 5, cells := 0, slots := 0, locals := 111 } 0 0 [.ref (ad 0)] (mm_w cI ad g ++ R) (fun r u => r = r0 ∧ u = mm_w cI ad g0 ++ R) := by
  refine dl_metI (ty := .int) [(0, .ref (ad 0))] (by decide) rfl (Nat.le_of_ble_eq_true rfl) rfl ?_
  intro p e s m args below meth c Q A C hQ
  unfold mo_raiseAll at h
  refine dl_aload_n (pc := 0) C 0 dX12_raiseAll_0 rfl rfl ?_
  obtain ⟨g1, h1, h⟩ := dl_bi_some h
  refine dl_vV0 (pc := 1) C (cmo_begin l D cI TY hTY nw N ad R _ h1) (cwV 0 C.2.2.2.2.1 gX12_raiseAll_X12_begin rfl rfl rfl (by decide +kernel) ⟨Nat.le_of_ble_eq_true rfl, Nat.le_of_ble_eq_true rfl⟩) 0 12 mm_a0 rfl rfl rfl (Nat.le_of_ble_eq_true rfl) dX12_raiseAll_1 ⟨Nat.zero_le _, Nat.zero_le _⟩ (fun u hp => ?_)
  subst hp
  refine dl_aload_n (pc := 4) C 0 dX12_raiseAll_4 rfl rfl ?_
  refine dl_get (pc := 5) C hin_X12_raiseAll_X12 0 mm_a0 rfl 31 (by decide) lk_X12_raiseAll_186 rfl rfl dX12_raiseAll_5 ?_
  refine dl_iconst (pc := 8) C (-1) dX12_raiseAll_8 (by decide) ?_
  refine dl_icmp_ne (pc := 9) C 14 dX12_raiseAll_9 (by decide) h (fun q2 h => ?_) (fun q2 h => ?_)
  · refine dl_iconst (pc := 12) C (-1) dX12_raiseAll_12 (by decide) ?_
    exact hQ 13 _ _ _ ⟨(dl_r2 h).1, by rw [(dl_r2 h).2]⟩ (vp_nar_int _) dX12_raiseAll_13
  · refine dl_sub [0] rfl ?_
    exact mo_raiseAll_t14 l D cI TY hTY nw N ad R C hQ N _ h
theorem hin_X12_walls_X12 : ∀ w ∈ u_ws RX12 TX12 32, w ∈ wsX12_walls := fun _ h => List.mem_cons_of_mem _ (List.mem_append_right _ h)
theorem lk_X12_walls_59 : Cond.fieldLink (yX12_walls).cls 59 "DripLinesModel" (TX12 29).2.1 (TX12 29).2.2.1 ∈ wsX12_walls := by decide +kernel
theorem lk_X12_walls_189 : Cond.fieldLink (yX12_walls).cls 189 "DripLinesModel" (TX12 27).2.1 (TX12 27).2.2.1 ∈ wsX12_walls := by decide +kernel
set_option maxHeartbeats 4000000 in
set_option maxRecDepth 100000 in
theorem mo_walls_t32 {p : Program} {e : Env} {s : State} {m : MethodId} {args : Array Value} {below : List Frame} {meth : Method} {c : Code} {Q : State → Prop} {A : Nat → Prop} (l : Launch) (D : va_G) (cI : ClassId) (TY : dl_TY) (hTY : TY[0]? = some (cI, .int)) (nw : List Cond) (N : Nat) (ad : Nat → Nat) (R : va_W) {r0 : Int32} {g0 : dl_Sg} (C : dl_Cx p s m args c A D TY nw cX12_walls 4 yX12_walls.cls wsX12_walls) (hQ : dl_RtI p l e (headSpec wsX12_walls { frames := 6, cells := 0, slots := 0, locals := 131 }).room s m args below meth c Q A D cX12_walls 4 0 0 .int (fun r u => r = r0 ∧ u = mm_w cI ad g0 ++ R)) {k9 : Int32 → Int32 → Int32 → dl_Sg → Option (Int32 × dl_Sg)} (hk9 : ∀ (x1 : Int32) (x2 : Int32) (x3 : Int32) (g : dl_Sg), k9 x1 x2 x3 g = some (r0, g0) → dl_At p l e (headSpec wsX12_walls { frames := 6, cells := 0, slots := 0, locals := 131 }).room s m args below meth c Q A D 4 0 0 9 [(0, .ref (ad 0)), (1, .int x1), (2, .int x2), (3, .int x3)] [] (mm_w cI ad g ++ R)) (x1 : Int32) (x3 : Int32) (y0 : Int32) (y1 : Int32) (g : dl_Sg) (h : mo_walls_b32 N k9 x1 x3 y0 y1 g = some (r0, g0)) : dl_At p l e (headSpec wsX12_walls { frames := 6, cells := 0, slots := 0, locals := 131 }).room s m args below meth c Q A D 4 0 0 32 [(0, .ref (ad 0)), (1, .int x1), (3, .int x3)] [.int y1, .int y0] (mm_w cI ad g ++ R) := by
  unfold mo_walls_b32 at h
  refine dl_iadd (pc := 32) C dX12_walls_32 ?_
  refine dl_istore_n (pc := 33) C (fun v1 => [(2, .int v1), (0, .ref (ad 0)), (1, .int x1), (3, .int x3)]) dX12_walls_33 rfl (by decide) (fun _ => rfl) h (fun v1 h => ?_)
  refine dl_iinc (pc := 34) C 3 (fun v2 => [(3, .int v2), (2, .int v1), (0, .ref (ad 0)), (1, .int x1)]) dX12_walls_34 rfl rfl (by decide) (fun _ => rfl) h (fun v2 h => ?_)
  refine dl_goto (pc := 37) C 9 dX12_walls_37 (by decide) ?_
  refine dl_sub [2, 3, 1, 0] rfl ?_
  exact hk9 _ _ _ _ h
set_option maxHeartbeats 4000000 in
set_option maxRecDepth 100000 in
theorem mo_walls_t9 {p : Program} {e : Env} {s : State} {m : MethodId} {args : Array Value} {below : List Frame} {meth : Method} {c : Code} {Q : State → Prop} {A : Nat → Prop} (l : Launch) (D : va_G) (cI : ClassId) (TY : dl_TY) (hTY : TY[0]? = some (cI, .int)) (nw : List Cond) (N : Nat) (ad : Nat → Nat) (R : va_W) {r0 : Int32} {g0 : dl_Sg} (C : dl_Cx p s m args c A D TY nw cX12_walls 4 yX12_walls.cls wsX12_walls) (hQ : dl_RtI p l e (headSpec wsX12_walls { frames := 6, cells := 0, slots := 0, locals := 131 }).room s m args below meth c Q A D cX12_walls 4 0 0 .int (fun r u => r = r0 ∧ u = mm_w cI ad g0 ++ R)) : ∀ (n : Nat) (x1 : Int32) (x2 : Int32) (x3 : Int32) (g : dl_Sg), mo_walls_b9 N n x1 x2 x3 g = some (r0, g0) → dl_At p l e (headSpec wsX12_walls { frames := 6, cells := 0, slots := 0, locals := 131 }).room s m args below meth c Q A D 4 0 0 9 [(0, .ref (ad 0)), (1, .int x1), (2, .int x2), (3, .int x3)] [] (mm_w cI ad g ++ R) := by
  intro n
  induction n with
  | zero => exact fun _ _ _ _ h => absurd (show (none : Option (Int32 × dl_Sg)) = some _ from h) (by intro q; cases q)
  | succ n ih =>
    intro x1 x2 x3 g h
    rw [mo_walls_b9] at h
    refine dl_iload_n (pc := 9) C 3 dX12_walls_9 rfl rfl ?_
    refine dl_aload_n (pc := 10) C 0 dX12_walls_10 rfl rfl ?_
    refine dl_get (pc := 11) C hin_X12_walls_X12 0 mm_a0 rfl 27 (by decide) lk_X12_walls_189 rfl rfl dX12_walls_11 ?_
    refine dl_icmp_ge (pc := 14) C 40 dX12_walls_14 (by decide) h (fun q3 h => ?_) (fun q3 h => ?_)
    · refine dl_iload_n (pc := 40) C 1 dX12_walls_40 rfl rfl ?_
      refine dl_if_eq (pc := 41) C 48 dX12_walls_41 (by decide) h (fun q1 h => ?_) (fun q1 h => ?_)
      · refine dl_iload_n (pc := 48) C 2 dX12_walls_48 rfl rfl ?_
        exact hQ 49 _ _ _ ⟨(dl_r2 h).1, by rw [(dl_r2 h).2]⟩ (vp_nar_int _) dX12_walls_49
      · refine dl_iload_n (pc := 44) C 1 dX12_walls_44 rfl rfl ?_
        refine dl_goto (pc := 45) C 49 dX12_walls_45 (by decide) ?_
        exact hQ 49 _ _ _ ⟨(dl_r2 h).1, by rw [(dl_r2 h).2]⟩ (vp_nar_int _) dX12_walls_49
    · refine dl_iload_n (pc := 17) C 2 dX12_walls_17 rfl rfl ?_
      refine dl_aload_n (pc := 18) C 0 dX12_walls_18 rfl rfl ?_
      refine dl_get (pc := 19) C hin_X12_walls_X12 0 mm_a0 rfl 29 (by decide) lk_X12_walls_59 rfl rfl dX12_walls_19 ?_
      refine dl_iload_n (pc := 22) C 3 dX12_walls_22 rfl rfl ?_
      obtain ⟨h0, h⟩ := dl_gd_some h
      refine dl_iald (pc := 23) C 17 0 mm_a29 hTY h0 dX12_walls_23 ?_
      refine dl_if_le (pc := 24) C 31 dX12_walls_24 (by decide) h (fun q2 h => ?_) (fun q2 h => ?_)
      · refine dl_iconst (pc := 31) C 0 dX12_walls_31 (by decide) ?_
        refine dl_sub [0, 1, 3] rfl ?_
        exact mo_walls_t32 l D cI TY hTY nw N ad R C hQ ih  _ _ _ _ _ h
      · refine dl_iconst (pc := 27) C 1 dX12_walls_27 (by decide) ?_
        refine dl_goto (pc := 28) C 32 dX12_walls_28 (by decide) ?_
        refine dl_sub [0, 1, 3] rfl ?_
        exact mo_walls_t32 l D cI TY hTY nw N ad R C hQ ih  _ _ _ _ _ h
set_option maxHeartbeats 4000000 in
set_option maxRecDepth 100000 in
theorem cmo_walls (l : Launch) (D : va_G) (cI : ClassId) (TY : dl_TY) (hTY : TY[0]? = some (cI, .int)) (nw : List Cond) (N : Nat) (ad : Nat → Nat) (R : va_W) (g : dl_Sg) {r0 : Int32} {g0 : dl_Sg} (h : mo_walls N g  = some (r0, g0)) : dl_CtI l D TY nw yX12_walls wsX12_walls { frames := 6, cells := 0, slots := 0, locals := 131 } 0 0 [.ref (ad 0)] (mm_w cI ad g ++ R) (fun r u => r = r0 ∧ u = mm_w cI ad g0 ++ R) := by
  refine dl_metI (ty := .int) [(0, .ref (ad 0))] (by decide) rfl (Nat.le_of_ble_eq_true rfl) rfl ?_
  intro p e s m args below meth c Q A C hQ
  unfold mo_walls at h
  refine dl_aload_n (pc := 0) C 0 dX12_walls_0 rfl rfl ?_
  obtain ⟨r1, g2, h1, h⟩ := dl_b2_some h
  refine dl_vI0 (pc := 1) C (cmo_raiseAll l D cI TY hTY nw N ad R _ h1) (cwV 0 C.2.2.2.2.1 gX12_walls_X12_raiseAll rfl rfl rfl (by decide +kernel) ⟨Nat.le_of_ble_eq_true rfl, Nat.le_of_ble_eq_true rfl⟩) 0 12 mm_a0 rfl rfl rfl (Nat.le_of_ble_eq_true rfl) dX12_walls_1 ⟨Nat.zero_le _, Nat.zero_le _⟩ (fun r u hp => ?_)
  obtain ⟨rfl, rfl⟩ := hp
  refine dl_istore_n (pc := 4) C (fun v3 => [(1, .int v3), (0, .ref (ad 0))]) dX12_walls_4 rfl (by decide) (fun _ => rfl) h (fun v3 h => ?_)
  refine dl_iconst (pc := 5) C 0 dX12_walls_5 (by decide) ?_
  refine dl_istore_n (pc := 6) C (fun v4 => [(2, .int v4), (1, .int v3), (0, .ref (ad 0))]) dX12_walls_6 rfl (by decide) (fun _ => rfl) h (fun v4 h => ?_)
  refine dl_iconst (pc := 7) C 0 dX12_walls_7 (by decide) ?_
  refine dl_istore_n (pc := 8) C (fun v5 => [(3, .int v5), (2, .int v4), (1, .int v3), (0, .ref (ad 0))]) dX12_walls_8 rfl (by decide) (fun _ => rfl) h (fun v5 h => ?_)
  refine dl_sub [3, 2, 1, 0] rfl ?_
  exact mo_walls_t9 l D cI TY hTY nw N ad R C hQ N _ _ _ _ h
theorem hin_X12_wall_X12 : ∀ w ∈ u_ws RX12 TX12 32, w ∈ wsX12_wall := fun _ h => List.mem_cons_of_mem _ (List.mem_append_right _ h)
theorem lk_X12_wall_56 : Cond.fieldLink (yX12_wall).cls 56 "DripLinesModel" (TX12 28).2.1 (TX12 28).2.2.1 ∈ wsX12_wall := by decide +kernel
theorem lk_X12_wall_59 : Cond.fieldLink (yX12_wall).cls 59 "DripLinesModel" (TX12 29).2.1 (TX12 29).2.2.1 ∈ wsX12_wall := by decide +kernel
theorem lk_X12_wall_189 : Cond.fieldLink (yX12_wall).cls 189 "DripLinesModel" (TX12 27).2.1 (TX12 27).2.2.1 ∈ wsX12_wall := by decide +kernel
set_option maxHeartbeats 4000000 in
set_option maxRecDepth 100000 in
theorem mo_wall_t75 {p : Program} {e : Env} {s : State} {m : MethodId} {args : Array Value} {below : List Frame} {meth : Method} {c : Code} {Q : State → Prop} {A : Nat → Prop} (l : Launch) (D : va_G) (cI : ClassId) (TY : dl_TY) (hTY : TY[0]? = some (cI, .int)) (nw : List Cond) (N : Nat) (ad : Nat → Nat) (R : va_W) {r0 : Int32} {g0 : dl_Sg} (C : dl_Cx p s m args c A D TY nw cX12_wall 5 yX12_wall.cls wsX12_wall) (hQ : dl_RtI p l e (headSpec wsX12_wall { frames := 6, cells := 0, slots := 0, locals := 131 }).room s m args below meth c Q A D cX12_wall 5 0 0 .int (fun r u => r = r0 ∧ u = mm_w cI ad g0 ++ R)) {k23 : Int32 → Int32 → Int32 → dl_Sg → Option (Int32 × dl_Sg)} (hk23 : ∀ (x2 : Int32) (x3 : Int32) (x4 : Int32) (g : dl_Sg), k23 x2 x3 x4 g = some (r0, g0) → dl_At p l e (headSpec wsX12_wall { frames := 6, cells := 0, slots := 0, locals := 131 }).room s m args below meth c Q A D 5 0 0 23 [(0, .ref (ad 0)), (2, .int x2), (3, .int x3), (4, .int x4)] [] (mm_w cI ad g ++ R)) (x2 : Int32) (x3 : Int32) (x4 : Int32) (g : dl_Sg) (h : mo_wall_b75 N k23 x2 x3 x4 g = some (r0, g0)) : dl_At p l e (headSpec wsX12_wall { frames := 6, cells := 0, slots := 0, locals := 131 }).room s m args below meth c Q A D 5 0 0 75 [(0, .ref (ad 0)), (2, .int x2), (3, .int x3), (4, .int x4)] [] (mm_w cI ad g ++ R) := by
  unfold mo_wall_b75 at h
  refine dl_iinc (pc := 75) C 3 (fun v1 => [(4, .int v1), (0, .ref (ad 0)), (2, .int x2), (3, .int x3)]) dX12_wall_75 rfl rfl (by decide) (fun _ => rfl) h (fun v1 h => ?_)
  refine dl_goto (pc := 78) C 23 dX12_wall_78 (by decide) ?_
  refine dl_sub [1, 2, 3, 0] rfl ?_
  exact hk23 _ _ _ _ h
set_option maxHeartbeats 4000000 in
set_option maxRecDepth 100000 in
theorem mo_wall_t23 {p : Program} {e : Env} {s : State} {m : MethodId} {args : Array Value} {below : List Frame} {meth : Method} {c : Code} {Q : State → Prop} {A : Nat → Prop} (l : Launch) (D : va_G) (cI : ClassId) (TY : dl_TY) (hTY : TY[0]? = some (cI, .int)) (nw : List Cond) (N : Nat) (ad : Nat → Nat) (R : va_W) {r0 : Int32} {g0 : dl_Sg} (C : dl_Cx p s m args c A D TY nw cX12_wall 5 yX12_wall.cls wsX12_wall) (hQ : dl_RtI p l e (headSpec wsX12_wall { frames := 6, cells := 0, slots := 0, locals := 131 }).room s m args below meth c Q A D cX12_wall 5 0 0 .int (fun r u => r = r0 ∧ u = mm_w cI ad g0 ++ R)) : ∀ (n : Nat) (x2 : Int32) (x3 : Int32) (x4 : Int32) (g : dl_Sg), mo_wall_b23 N n x2 x3 x4 g = some (r0, g0) → dl_At p l e (headSpec wsX12_wall { frames := 6, cells := 0, slots := 0, locals := 131 }).room s m args below meth c Q A D 5 0 0 23 [(0, .ref (ad 0)), (2, .int x2), (3, .int x3), (4, .int x4)] [] (mm_w cI ad g ++ R) := by
  intro n
  induction n with
  | zero => exact fun _ _ _ _ h => absurd (show (none : Option (Int32 × dl_Sg)) = some _ from h) (by intro q; cases q)
  | succ n ih =>
    intro x2 x3 x4 g h
    rw [mo_wall_b23] at h
    refine dl_iload (pc := 23) C 3 dX12_wall_23 rfl ?_
    refine dl_aload_n (pc := 25) C 0 dX12_wall_25 rfl rfl ?_
    refine dl_get (pc := 26) C hin_X12_wall_X12 0 mm_a0 rfl 27 (by decide) lk_X12_wall_189 rfl rfl dX12_wall_26 ?_
    refine dl_icmp_ge (pc := 29) C 81 dX12_wall_29 (by decide) h (fun q6 h => ?_) (fun q6 h => ?_)
    · refine dl_iconst (pc := 81) C (-1) dX12_wall_81 (by decide) ?_
      exact hQ 82 _ _ _ ⟨(dl_r2 h).1, by rw [(dl_r2 h).2]⟩ (vp_nar_int _) dX12_wall_82
    · refine dl_iload_n (pc := 32) C 2 dX12_wall_32 rfl rfl ?_
      refine dl_if_lt (pc := 33) C 81 dX12_wall_33 (by decide) h (fun q5 h => ?_) (fun q5 h => ?_)
      · refine dl_iconst (pc := 81) C (-1) dX12_wall_81 (by decide) ?_
        exact hQ 82 _ _ _ ⟨(dl_r2 h).1, by rw [(dl_r2 h).2]⟩ (vp_nar_int _) dX12_wall_82
      · refine dl_aload_n (pc := 36) C 0 dX12_wall_36 rfl rfl ?_
        refine dl_get (pc := 37) C hin_X12_wall_X12 0 mm_a0 rfl 29 (by decide) lk_X12_wall_59 rfl rfl dX12_wall_37 ?_
        refine dl_iload (pc := 40) C 3 dX12_wall_40 rfl ?_
        obtain ⟨h0, h⟩ := dl_gd_some h
        refine dl_iald (pc := 42) C 17 0 mm_a29 hTY h0 dX12_wall_42 ?_
        refine dl_if_le (pc := 43) C 75 dX12_wall_43 (by decide) h (fun q4 h => ?_) (fun q4 h => ?_)
        · refine dl_sub [0, 1, 2, 3] rfl ?_
          exact mo_wall_t75 l D cI TY hTY nw N ad R C hQ ih  _ _ _ _ h
        · refine dl_iload_n (pc := 46) C 2 dX12_wall_46 rfl rfl ?_
          refine dl_if_ne (pc := 47) C 72 dX12_wall_47 (by decide) h (fun q3 h => ?_) (fun q3 h => ?_)
          · refine dl_iload_n (pc := 50) C 1 dX12_wall_50 rfl rfl ?_
            refine dl_if_ne (pc := 51) C 64 dX12_wall_51 (by decide) h (fun q1 h => ?_) (fun q1 h => ?_)
            · refine dl_aload_n (pc := 54) C 0 dX12_wall_54 rfl rfl ?_
              refine dl_get (pc := 55) C hin_X12_wall_X12 0 mm_a0 rfl 28 (by decide) lk_X12_wall_56 rfl rfl dX12_wall_55 ?_
              refine dl_iload (pc := 58) C 3 dX12_wall_58 rfl ?_
              obtain ⟨h0, h⟩ := dl_gd_some h
              refine dl_iald (pc := 60) C 16 0 mm_a28 hTY h0 dX12_wall_60 ?_
              refine dl_goto (pc := 61) C 71 dX12_wall_61 (by decide) ?_
              exact hQ 71 _ _ _ ⟨(dl_r2 h).1, by rw [(dl_r2 h).2]⟩ (vp_nar_int _) dX12_wall_71
            · refine dl_aload_n (pc := 64) C 0 dX12_wall_64 rfl rfl ?_
              refine dl_get (pc := 65) C hin_X12_wall_X12 0 mm_a0 rfl 29 (by decide) lk_X12_wall_59 rfl rfl dX12_wall_65 ?_
              refine dl_iload (pc := 68) C 3 dX12_wall_68 rfl ?_
              obtain ⟨h0, h⟩ := dl_gd_some h
              refine dl_iald (pc := 70) C 17 0 mm_a29 hTY h0 dX12_wall_70 ?_
              exact hQ 71 _ _ _ ⟨(dl_r2 h).1, by rw [(dl_r2 h).2]⟩ (vp_nar_int _) dX12_wall_71
          · refine dl_iinc (pc := 72) C 2 (fun v2 => [(3, .int v2), (0, .ref (ad 0)), (2, .int x2), (4, .int x4)]) dX12_wall_72 rfl rfl (by decide) (fun _ => rfl) h (fun v2 h => ?_)
            refine dl_sub [1, 2, 0, 3] rfl ?_
            exact mo_wall_t75 l D cI TY hTY nw N ad R C hQ ih  _ _ _ _ h
set_option maxHeartbeats 4000000 in
set_option maxRecDepth 100000 in
theorem cmo_wall (l : Launch) (D : va_G) (cI : ClassId) (TY : dl_TY) (hTY : TY[0]? = some (cI, .int)) (nw : List Cond) (N : Nat) (ad : Nat → Nat) (R : va_W) (g : dl_Sg) (x1 : Int32) (x2 : Int32) {r0 : Int32} {g0 : dl_Sg} (h : mo_wall N g x1 x2 = some (r0, g0)) : dl_CtI l D TY nw yX12_wall wsX12_wall { frames := 6, cells := 0, slots := 0, locals := 131 } 0 0 [.ref (ad 0), .int x1, .int x2] (mm_w cI ad g ++ R) (fun r u => r = r0 ∧ u = mm_w cI ad g0 ++ R) := by
  refine dl_metI (ty := .int) [(0, .ref (ad 0)), (1, .int x1), (2, .int x2)] (by decide) rfl (Nat.le_of_ble_eq_true rfl) rfl ?_
  intro p e s m args below meth c Q A C hQ
  unfold mo_wall at h
  refine dl_aload_n (pc := 0) C 0 dX12_wall_0 rfl rfl ?_
  obtain ⟨r1, g2, h1, h⟩ := dl_b2_some h
  refine dl_vI0 (pc := 1) C (cmo_raiseAll l D cI TY hTY nw N ad R _ h1) (cwV 0 C.2.2.2.2.1 gX12_wall_X12_raiseAll rfl rfl rfl (by decide +kernel) ⟨Nat.le_of_ble_eq_true rfl, Nat.le_of_ble_eq_true rfl⟩) 0 12 mm_a0 rfl rfl rfl (Nat.le_of_ble_eq_true rfl) dX12_wall_1 ⟨Nat.zero_le _, Nat.zero_le _⟩ (fun r u hp => ?_)
  obtain ⟨rfl, rfl⟩ := hp
  refine dl_if_ne (pc := 4) C 16 dX12_wall_4 (by decide) h (fun q7 h => ?_) (fun q7 h => ?_)
  · refine dl_iload_n (pc := 7) C 2 dX12_wall_7 rfl rfl ?_
    refine dl_iconst (pc := 8) C 0 dX12_wall_8 (by decide) ?_
    refine dl_iconst (pc := 9) C 1 dX12_wall_9 (by decide) ?_
    obtain ⟨r3, h1, h⟩ := dl_bi_some h
    refine dl_sI0 (pc := 10) C (cmo_in l D TY nw _ _ _ _ h1) (va_cwS 3 C.2.2.2.2.1 gX12_wall_X12_in rfl rfl rfl (by decide +kernel) ⟨Nat.le_of_ble_eq_true rfl, Nat.le_of_ble_eq_true rfl⟩) rfl rfl (Nat.le_of_ble_eq_true rfl) dX12_wall_10 ⟨Nat.zero_le _, Nat.zero_le _⟩ (fun r u hp => ?_)
    obtain ⟨rfl, hu⟩ := hp
    rw [hu]
    clear hu
    refine dl_if_ne (pc := 13) C 18 dX12_wall_13 (by decide) h (fun q6 h => ?_) (fun q6 h => ?_)
    · refine dl_iconst (pc := 16) C (-1) dX12_wall_16 (by decide) ?_
      exact hQ 17 _ _ _ ⟨(dl_r2 h).1, by rw [(dl_r2 h).2]⟩ (vp_nar_int _) dX12_wall_17
    · refine dl_iload_n (pc := 18) C 1 dX12_wall_18 rfl rfl ?_
      refine dl_istore_n (pc := 19) C (fun v4 => [(3, .int v4), (0, .ref (ad 0)), (1, .int x1), (2, .int x2)]) dX12_wall_19 rfl (by decide) (fun _ => rfl) h (fun v4 h => ?_)
      refine dl_iconst (pc := 20) C 0 dX12_wall_20 (by decide) ?_
      refine dl_istore (pc := 21) C (fun v5 => [(4, .int v5), (3, .int v4), (0, .ref (ad 0)), (1, .int x1), (2, .int x2)]) dX12_wall_21 (by decide) (fun _ => rfl) h (fun v5 h => ?_)
      refine dl_sub [2, 4, 1, 0] rfl ?_
      exact mo_wall_t23 l D cI TY hTY nw N ad R C hQ N _ _ _ _ h
  · refine dl_iconst (pc := 16) C (-1) dX12_wall_16 (by decide) ?_
    exact hQ 17 _ _ _ ⟨(dl_r2 h).1, by rw [(dl_r2 h).2]⟩ (vp_nar_int _) dX12_wall_17
