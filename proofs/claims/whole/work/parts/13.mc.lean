theorem hin_X12_best_X12 : ∀ w ∈ u_ws RX12 TX12 32, w ∈ wsX12_best := fun _ h => List.mem_cons_of_mem _ (List.mem_append_right _ h)
theorem lk_X12_best_44 : Cond.fieldLink (yX12_best).cls 44 "DripLinesModel" (TX12 21).2.1 (TX12 21).2.2.1 ∈ wsX12_best := by decide +kernel
theorem lk_X12_best_141 : Cond.fieldLink (yX12_best).cls 141 "DripLinesModel" (TX12 20).2.1 (TX12 20).2.2.1 ∈ wsX12_best := by decide +kernel
set_option maxHeartbeats 4000000 in
set_option maxRecDepth 100000 in
theorem mo_best_t50 {p : Program} {e : Env} {s : State} {m : MethodId} {args : Array Value} {below : List Frame} {meth : Method} {c : Code} {Q : State → Prop} {A : Nat → Prop} (l : Launch) (D : va_G) (cI : ClassId) (TY : dl_TY) (hTY : TY[0]? = some (cI, .int)) (nw : List Cond) (N : Nat) (ad : Nat → Nat) (R : va_W) {r0 : Int32} {g0 : dl_Sg} (C : dl_Cx p s m args c A D TY nw cX12_best 5 yX12_best.cls wsX12_best) (hQ : dl_RtI p l e (headSpec wsX12_best { frames := 4, cells := 0, slots := 0, locals := 91 }).room s m args below meth c Q A D cX12_best 5 0 0 .int (fun r u => r = r0 ∧ u = mm_w cI ad g0 ++ R)) {k9 : Int32 → Int32 → Int32 → dl_Sg → Option (Int32 × dl_Sg)} (hk9 : ∀ (x2 : Int32) (x3 : Int32) (x4 : Int32) (g : dl_Sg), k9 x2 x3 x4 g = some (r0, g0) → dl_At p l e (headSpec wsX12_best { frames := 4, cells := 0, slots := 0, locals := 91 }).room s m args below meth c Q A D 5 0 0 9 [(0, .ref (ad 0)), (2, .int x2), (3, .int x3), (4, .int x4)] [] (mm_w cI ad g ++ R)) (x2 : Int32) (x3 : Int32) (x4 : Int32) (g : dl_Sg) (h : mo_best_b50 N k9 x2 x3 x4 g = some (r0, g0)) : dl_At p l e (headSpec wsX12_best { frames := 4, cells := 0, slots := 0, locals := 91 }).room s m args below meth c Q A D 5 0 0 50 [(0, .ref (ad 0)), (2, .int x2), (3, .int x3), (4, .int x4)] [] (mm_w cI ad g ++ R) := by
  unfold mo_best_b50 at h
  refine dl_iinc (pc := 50) C 3 (fun v1 => [(4, .int v1), (0, .ref (ad 0)), (2, .int x2), (3, .int x3)]) dX12_best_50 rfl rfl (by decide) (fun _ => rfl) h (fun v1 h => ?_)
  refine dl_goto (pc := 53) C 9 dX12_best_53 (by decide) ?_
  refine dl_sub [1, 2, 3, 0] rfl ?_
  exact hk9 _ _ _ _ h
set_option maxHeartbeats 4000000 in
set_option maxRecDepth 100000 in
theorem mo_best_t9 {p : Program} {e : Env} {s : State} {m : MethodId} {args : Array Value} {below : List Frame} {meth : Method} {c : Code} {Q : State → Prop} {A : Nat → Prop} (l : Launch) (D : va_G) (cI : ClassId) (TY : dl_TY) (hTY : TY[0]? = some (cI, .int)) (nw : List Cond) (N : Nat) (ad : Nat → Nat) (R : va_W) {r0 : Int32} {g0 : dl_Sg} (C : dl_Cx p s m args c A D TY nw cX12_best 5 yX12_best.cls wsX12_best) (hQ : dl_RtI p l e (headSpec wsX12_best { frames := 4, cells := 0, slots := 0, locals := 91 }).room s m args below meth c Q A D cX12_best 5 0 0 .int (fun r u => r = r0 ∧ u = mm_w cI ad g0 ++ R)) : ∀ (n : Nat) (x2 : Int32) (x3 : Int32) (x4 : Int32) (g : dl_Sg), mo_best_b9 N n x2 x3 x4 g = some (r0, g0) → dl_At p l e (headSpec wsX12_best { frames := 4, cells := 0, slots := 0, locals := 91 }).room s m args below meth c Q A D 5 0 0 9 [(0, .ref (ad 0)), (2, .int x2), (3, .int x3), (4, .int x4)] [] (mm_w cI ad g ++ R) := by
  intro n
  induction n with
  | zero => exact fun _ _ _ _ h => absurd (show (none : Option (Int32 × dl_Sg)) = some _ from h) (by intro q; cases q)
  | succ n ih =>
    intro x2 x3 x4 g h
    rw [mo_best_b9] at h
    refine dl_iload (pc := 9) C 3 dX12_best_9 rfl ?_
    refine dl_aload_n (pc := 11) C 0 dX12_best_11 rfl rfl ?_
    refine dl_get (pc := 12) C hin_X12_best_X12 0 mm_a0 rfl 20 (by decide) lk_X12_best_141 rfl rfl dX12_best_12 ?_
    refine dl_icmp_ge (pc := 15) C 56 dX12_best_15 (by decide) h (fun q7 h => ?_) (fun q7 h => ?_)
    · refine dl_iconst (pc := 56) C (-1) dX12_best_56 (by decide) ?_
      exact hQ 57 _ _ _ ⟨(dl_r2 h).1, by rw [(dl_r2 h).2]⟩ (vp_nar_int _) dX12_best_57
    · refine dl_iload_n (pc := 18) C 2 dX12_best_18 rfl rfl ?_
      refine dl_if_lt (pc := 19) C 56 dX12_best_19 (by decide) h (fun q6 h => ?_) (fun q6 h => ?_)
      · refine dl_iconst (pc := 56) C (-1) dX12_best_56 (by decide) ?_
        exact hQ 57 _ _ _ ⟨(dl_r2 h).1, by rw [(dl_r2 h).2]⟩ (vp_nar_int _) dX12_best_57
      · refine dl_aload_n (pc := 22) C 0 dX12_best_22 rfl rfl ?_
        refine dl_iload (pc := 23) C 3 dX12_best_23 rfl ?_
        obtain ⟨r1, h1, h⟩ := dl_bi_some h
        refine dl_vI0 (pc := 25) C (cmo_isBest l D cI TY hTY nw ad R _ _ h1) (cwV 1 C.2.2.2.2.1 gX12_best_X12_isBest rfl rfl rfl (by decide +kernel) ⟨Nat.le_of_ble_eq_true rfl, Nat.le_of_ble_eq_true rfl⟩) 0 12 mm_a0 rfl rfl rfl (Nat.le_of_ble_eq_true rfl) dX12_best_25 ⟨Nat.zero_le _, Nat.zero_le _⟩ (fun r u hp => ?_)
        obtain ⟨rfl, rfl⟩ := hp
        refine dl_if_eq (pc := 28) C 50 dX12_best_28 (by decide) h (fun q5 h => ?_) (fun q5 h => ?_)
        · refine dl_sub [0, 1, 2, 3] rfl ?_
          exact mo_best_t50 l D cI TY hTY nw N ad R C hQ ih  _ _ _ _ h
        · refine dl_iload_n (pc := 31) C 2 dX12_best_31 rfl rfl ?_
          refine dl_if_ne (pc := 32) C 47 dX12_best_32 (by decide) h (fun q4 h => ?_) (fun q4 h => ?_)
          · refine dl_aload_n (pc := 35) C 0 dX12_best_35 rfl rfl ?_
            refine dl_get (pc := 36) C hin_X12_best_X12 0 mm_a0 rfl 21 (by decide) lk_X12_best_44 rfl rfl dX12_best_36 ?_
            refine dl_iload (pc := 39) C 3 dX12_best_39 rfl ?_
            obtain ⟨h0, h⟩ := dl_gd_some h
            refine dl_iald (pc := 41) C 12 0 mm_a21 hTY h0 dX12_best_41 ?_
            refine dl_iload_n (pc := 42) C 1 dX12_best_42 rfl rfl ?_
            obtain ⟨r2, h1, h⟩ := dl_bi_some h
            refine dl_sI0 (pc := 43) C (cmo_nth l D TY nw N _ _ _ h1) (va_cwS 2 C.2.2.2.2.1 gX12_best_X12_nth rfl rfl rfl (by decide +kernel) ⟨Nat.le_of_ble_eq_true rfl, Nat.le_of_ble_eq_true rfl⟩) rfl rfl (Nat.le_of_ble_eq_true rfl) dX12_best_43 ⟨Nat.zero_le _, Nat.zero_le _⟩ (fun r u hp => ?_)
            obtain ⟨rfl, hu⟩ := hp
            rw [hu]
            clear hu
            exact hQ 46 _ _ _ ⟨(dl_r2 h).1, by rw [(dl_r2 h).2]⟩ (vp_nar_int _) dX12_best_46
          · refine dl_iinc (pc := 47) C 2 (fun v3 => [(3, .int v3), (0, .ref (ad 0)), (2, .int x2), (4, .int x4)]) dX12_best_47 rfl rfl (by decide) (fun _ => rfl) h (fun v3 h => ?_)
            refine dl_sub [1, 2, 0, 3] rfl ?_
            exact mo_best_t50 l D cI TY hTY nw N ad R C hQ ih  _ _ _ _ h
set_option maxHeartbeats 4000000 in
set_option maxRecDepth 100000 in
theorem cmo_best (l : Launch) (D : va_G) (cI : ClassId) (TY : dl_TY) (hTY : TY[0]? = some (cI, .int)) (nw : List Cond) (N : Nat) (ad : Nat → Nat) (R : va_W) (g : dl_Sg) (x1 : Int32) (x2 : Int32) {r0 : Int32} {g0 : dl_Sg} (h : mo_best N g x1 x2 = some (r0, g0)) : dl_CtI l D TY nw yX12_best wsX12_best { frames := 4, cells := 0, slots := 0, locals := 91 } 0 0 [.ref (ad 0), .int x1, .int x2] (mm_w cI ad g ++ R) (fun r u => r = r0 ∧ u = mm_w cI ad g0 ++ R) := by
  refine dl_metI (ty := .int) [(0, .ref (ad 0)), (1, .int x1), (2, .int x2)] (by decide) rfl (Nat.le_of_ble_eq_true rfl) rfl ?_
  intro p e s m args below meth c Q A C hQ
  unfold mo_best at h
  refine dl_aload_n (pc := 0) C 0 dX12_best_0 rfl rfl ?_
  obtain ⟨g1, h1, h⟩ := dl_bi_some h
  refine dl_vV0 (pc := 1) C (cmo_know l D cI TY hTY nw N ad R _ h1) (cwV 0 C.2.2.2.2.1 gX12_best_X12_know rfl rfl rfl (by decide +kernel) ⟨Nat.le_of_ble_eq_true rfl, Nat.le_of_ble_eq_true rfl⟩) 0 12 mm_a0 rfl rfl rfl (Nat.le_of_ble_eq_true rfl) dX12_best_1 ⟨Nat.zero_le _, Nat.zero_le _⟩ (fun u hp => ?_)
  subst hp
  refine dl_iload_n (pc := 4) C 1 dX12_best_4 rfl rfl ?_
  refine dl_istore_n (pc := 5) C (fun v2 => [(3, .int v2), (0, .ref (ad 0)), (1, .int x1), (2, .int x2)]) dX12_best_5 rfl (by decide) (fun _ => rfl) h (fun v2 h => ?_)
  refine dl_iconst (pc := 6) C 0 dX12_best_6 (by decide) ?_
  refine dl_istore (pc := 7) C (fun v3 => [(4, .int v3), (3, .int v2), (0, .ref (ad 0)), (1, .int x1), (2, .int x2)]) dX12_best_7 (by decide) (fun _ => rfl) h (fun v3 h => ?_)
  refine dl_sub [2, 4, 1, 0] rfl ?_
  exact mo_best_t9 l D cI TY hTY nw N ad R C hQ N _ _ _ _ h
theorem hin_X12_must_X12 : ∀ w ∈ u_ws RX12 TX12 32, w ∈ wsX12_must := fun _ h => List.mem_cons_of_mem _ (List.mem_append_right _ h)
theorem lk_X12_must_44 : Cond.fieldLink (yX12_must).cls 44 "DripLinesModel" (TX12 21).2.1 (TX12 21).2.2.1 ∈ wsX12_must := by decide +kernel
theorem lk_X12_must_141 : Cond.fieldLink (yX12_must).cls 141 "DripLinesModel" (TX12 20).2.1 (TX12 20).2.2.1 ∈ wsX12_must := by decide +kernel
theorem lk_X12_must_161 : Cond.fieldLink (yX12_must).cls 161 "DripLinesModel" (TX12 25).2.1 (TX12 25).2.2.1 ∈ wsX12_must := by decide +kernel
set_option maxHeartbeats 4000000 in
set_option maxRecDepth 100000 in
theorem mo_must_t60 {p : Program} {e : Env} {s : State} {m : MethodId} {args : Array Value} {below : List Frame} {meth : Method} {c : Code} {Q : State → Prop} {A : Nat → Prop} (l : Launch) (D : va_G) (cI : ClassId) (TY : dl_TY) (hTY : TY[0]? = some (cI, .int)) (nw : List Cond) (N : Nat) (ad : Nat → Nat) (R : va_W) {r0 : Int32} {g0 : dl_Sg} (C : dl_Cx p s m args c A D TY nw cX12_must 4 yX12_must.cls wsX12_must) (hQ : dl_RtI p l e (headSpec wsX12_must { frames := 4, cells := 0, slots := 0, locals := 91 }).room s m args below meth c Q A D cX12_must 4 0 0 .int (fun r u => r = r0 ∧ u = mm_w cI ad g0 ++ R)) {k25 : Int32 → Int32 → Int32 → dl_Sg → Option (Int32 × dl_Sg)} (hk25 : ∀ (x1 : Int32) (x2 : Int32) (x3 : Int32) (g : dl_Sg), k25 x1 x2 x3 g = some (r0, g0) → dl_At p l e (headSpec wsX12_must { frames := 4, cells := 0, slots := 0, locals := 91 }).room s m args below meth c Q A D 4 0 0 25 [(0, .ref (ad 0)), (1, .int x1), (2, .int x2), (3, .int x3)] [] (mm_w cI ad g ++ R)) (x1 : Int32) (x3 : Int32) (y0 : Int32) (y1 : Int32) (g : dl_Sg) (h : mo_must_b60 N k25 x1 x3 y0 y1 g = some (r0, g0)) : dl_At p l e (headSpec wsX12_must { frames := 4, cells := 0, slots := 0, locals := 91 }).room s m args below meth c Q A D 4 0 0 60 [(0, .ref (ad 0)), (1, .int x1), (3, .int x3)] [.int y1, .int y0] (mm_w cI ad g ++ R) := by
  unfold mo_must_b60 at h
  refine dl_iadd (pc := 60) C dX12_must_60 ?_
  refine dl_istore_n (pc := 61) C (fun v1 => [(2, .int v1), (0, .ref (ad 0)), (1, .int x1), (3, .int x3)]) dX12_must_61 rfl (by decide) (fun _ => rfl) h (fun v1 h => ?_)
  refine dl_iinc (pc := 62) C 3 (fun v2 => [(3, .int v2), (2, .int v1), (0, .ref (ad 0)), (1, .int x1)]) dX12_must_62 rfl rfl (by decide) (fun _ => rfl) h (fun v2 h => ?_)
  refine dl_goto (pc := 65) C 25 dX12_must_65 (by decide) ?_
  refine dl_sub [2, 3, 1, 0] rfl ?_
  exact hk25 _ _ _ _ h
set_option maxHeartbeats 4000000 in
set_option maxRecDepth 100000 in
theorem mo_must_t59 {p : Program} {e : Env} {s : State} {m : MethodId} {args : Array Value} {below : List Frame} {meth : Method} {c : Code} {Q : State → Prop} {A : Nat → Prop} (l : Launch) (D : va_G) (cI : ClassId) (TY : dl_TY) (hTY : TY[0]? = some (cI, .int)) (nw : List Cond) (N : Nat) (ad : Nat → Nat) (R : va_W) {r0 : Int32} {g0 : dl_Sg} (C : dl_Cx p s m args c A D TY nw cX12_must 4 yX12_must.cls wsX12_must) (hQ : dl_RtI p l e (headSpec wsX12_must { frames := 4, cells := 0, slots := 0, locals := 91 }).room s m args below meth c Q A D cX12_must 4 0 0 .int (fun r u => r = r0 ∧ u = mm_w cI ad g0 ++ R)) {k25 : Int32 → Int32 → Int32 → dl_Sg → Option (Int32 × dl_Sg)} (hk25 : ∀ (x1 : Int32) (x2 : Int32) (x3 : Int32) (g : dl_Sg), k25 x1 x2 x3 g = some (r0, g0) → dl_At p l e (headSpec wsX12_must { frames := 4, cells := 0, slots := 0, locals := 91 }).room s m args below meth c Q A D 4 0 0 25 [(0, .ref (ad 0)), (1, .int x1), (2, .int x2), (3, .int x3)] [] (mm_w cI ad g ++ R)) (x1 : Int32) (x3 : Int32) (y0 : Int32) (g : dl_Sg) (h : mo_must_b59 N k25 x1 x3 y0 g = some (r0, g0)) : dl_At p l e (headSpec wsX12_must { frames := 4, cells := 0, slots := 0, locals := 91 }).room s m args below meth c Q A D 4 0 0 59 [(0, .ref (ad 0)), (1, .int x1), (3, .int x3)] [.int y0] (mm_w cI ad g ++ R) := by
  unfold mo_must_b59 at h
  refine dl_iconst (pc := 59) C 0 dX12_must_59 (by decide) ?_
  refine dl_sub [0, 1, 2] rfl ?_
  exact mo_must_t60 l D cI TY hTY nw N ad R C hQ hk25  _ _ _ _ _ h
set_option maxHeartbeats 4000000 in
set_option maxRecDepth 100000 in
theorem mo_must_t25 {p : Program} {e : Env} {s : State} {m : MethodId} {args : Array Value} {below : List Frame} {meth : Method} {c : Code} {Q : State → Prop} {A : Nat → Prop} (l : Launch) (D : va_G) (cI : ClassId) (TY : dl_TY) (hTY : TY[0]? = some (cI, .int)) (nw : List Cond) (N : Nat) (ad : Nat → Nat) (R : va_W) {r0 : Int32} {g0 : dl_Sg} (C : dl_Cx p s m args c A D TY nw cX12_must 4 yX12_must.cls wsX12_must) (hQ : dl_RtI p l e (headSpec wsX12_must { frames := 4, cells := 0, slots := 0, locals := 91 }).room s m args below meth c Q A D cX12_must 4 0 0 .int (fun r u => r = r0 ∧ u = mm_w cI ad g0 ++ R)) : ∀ (n : Nat) (x1 : Int32) (x2 : Int32) (x3 : Int32) (g : dl_Sg), mo_must_b25 N n x1 x2 x3 g = some (r0, g0) → dl_At p l e (headSpec wsX12_must { frames := 4, cells := 0, slots := 0, locals := 91 }).room s m args below meth c Q A D 4 0 0 25 [(0, .ref (ad 0)), (1, .int x1), (2, .int x2), (3, .int x3)] [] (mm_w cI ad g ++ R) := by
  intro n
  induction n with
  | zero => exact fun _ _ _ _ h => absurd (show (none : Option (Int32 × dl_Sg)) = some _ from h) (by intro q; cases q)
  | succ n ih =>
    intro x1 x2 x3 g h
    rw [mo_must_b25] at h
    refine dl_iload_n (pc := 25) C 3 dX12_must_25 rfl rfl ?_
    refine dl_aload_n (pc := 26) C 0 dX12_must_26 rfl rfl ?_
    refine dl_get (pc := 27) C hin_X12_must_X12 0 mm_a0 rfl 20 (by decide) lk_X12_must_141 rfl rfl dX12_must_27 ?_
    refine dl_icmp_ge (pc := 30) C 68 dX12_must_30 (by decide) h (fun q7 h => ?_) (fun q7 h => ?_)
    · refine dl_iload_n (pc := 68) C 2 dX12_must_68 rfl rfl ?_
      refine dl_aload_n (pc := 69) C 0 dX12_must_69 rfl rfl ?_
      refine dl_get (pc := 70) C hin_X12_must_X12 0 mm_a0 rfl 25 (by decide) lk_X12_must_161 rfl rfl dX12_must_70 ?_
      refine dl_icmp_ne (pc := 73) C 80 dX12_must_73 (by decide) h (fun q2 h => ?_) (fun q2 h => ?_)
      · refine dl_iconst (pc := 76) C 2 dX12_must_76 (by decide) ?_
        refine dl_goto (pc := 77) C 89 dX12_must_77 (by decide) ?_
        exact hQ 89 _ _ _ ⟨(dl_r2 h).1, by rw [(dl_r2 h).2]⟩ (vp_nar_int _) dX12_must_89
      · refine dl_iload_n (pc := 80) C 2 dX12_must_80 rfl rfl ?_
        refine dl_if_le (pc := 81) C 88 dX12_must_81 (by decide) h (fun q1 h => ?_) (fun q1 h => ?_)
        · refine dl_iconst (pc := 88) C 0 dX12_must_88 (by decide) ?_
          exact hQ 89 _ _ _ ⟨(dl_r2 h).1, by rw [(dl_r2 h).2]⟩ (vp_nar_int _) dX12_must_89
        · refine dl_iconst (pc := 84) C 1 dX12_must_84 (by decide) ?_
          refine dl_goto (pc := 85) C 89 dX12_must_85 (by decide) ?_
          exact hQ 89 _ _ _ ⟨(dl_r2 h).1, by rw [(dl_r2 h).2]⟩ (vp_nar_int _) dX12_must_89
    · refine dl_iload_n (pc := 33) C 2 dX12_must_33 rfl rfl ?_
      refine dl_aload_n (pc := 34) C 0 dX12_must_34 rfl rfl ?_
      refine dl_iload_n (pc := 35) C 3 dX12_must_35 rfl rfl ?_
      obtain ⟨r3, h1, h⟩ := dl_bi_some h
      refine dl_vI0 (pc := 36) C (cmo_isBest l D cI TY hTY nw ad R _ _ h1) (cwV 1 C.2.2.2.2.1 gX12_must_X12_isBest rfl rfl rfl (by decide +kernel) ⟨Nat.le_of_ble_eq_true rfl, Nat.le_of_ble_eq_true rfl⟩) 0 12 mm_a0 rfl rfl rfl (Nat.le_of_ble_eq_true rfl) dX12_must_36 ⟨Nat.zero_le _, Nat.zero_le _⟩ (fun r u hp => ?_)
      obtain ⟨rfl, rfl⟩ := hp
      refine dl_if_eq (pc := 39) C 59 dX12_must_39 (by decide) h (fun q6 h => ?_) (fun q6 h => ?_)
      · refine dl_sub [0, 1, 3] rfl ?_
        exact mo_must_t59 l D cI TY hTY nw N ad R C hQ ih  _ _ _ _ h
      · refine dl_aload_n (pc := 42) C 0 dX12_must_42 rfl rfl ?_
        refine dl_get (pc := 43) C hin_X12_must_X12 0 mm_a0 rfl 21 (by decide) lk_X12_must_44 rfl rfl dX12_must_43 ?_
        refine dl_iload_n (pc := 46) C 3 dX12_must_46 rfl rfl ?_
        obtain ⟨h0, h⟩ := dl_gd_some h
        refine dl_iald (pc := 47) C 12 0 mm_a21 hTY h0 dX12_must_47 ?_
        refine dl_iload_n (pc := 48) C 1 dX12_must_48 rfl rfl ?_
        obtain ⟨r4, h1, h⟩ := dl_bi_some h
        refine dl_sI0 (pc := 49) C (cmo_has l D TY nw _ _ _ h1) (va_cwS 2 C.2.2.2.2.1 gX12_must_X12_has rfl rfl rfl (by decide +kernel) ⟨Nat.le_of_ble_eq_true rfl, Nat.le_of_ble_eq_true rfl⟩) rfl rfl (Nat.le_of_ble_eq_true rfl) dX12_must_49 ⟨Nat.zero_le _, Nat.zero_le _⟩ (fun r u hp => ?_)
        obtain ⟨rfl, hu⟩ := hp
        rw [hu]
        clear hu
        refine dl_if_eq (pc := 52) C 59 dX12_must_52 (by decide) h (fun q5 h => ?_) (fun q5 h => ?_)
        · refine dl_sub [0, 1, 3] rfl ?_
          exact mo_must_t59 l D cI TY hTY nw N ad R C hQ ih  _ _ _ _ h
        · refine dl_iconst (pc := 55) C 1 dX12_must_55 (by decide) ?_
          refine dl_goto (pc := 56) C 60 dX12_must_56 (by decide) ?_
          refine dl_sub [0, 1, 3] rfl ?_
          exact mo_must_t60 l D cI TY hTY nw N ad R C hQ ih  _ _ _ _ _ h
set_option maxHeartbeats 4000000 in
set_option maxRecDepth 100000 in
theorem cmo_must (l : Launch) (D : va_G) (cI : ClassId) (TY : dl_TY) (hTY : TY[0]? = some (cI, .int)) (nw : List Cond) (N : Nat) (ad : Nat → Nat) (R : va_W) (g : dl_Sg) (x1 : Int32) {r0 : Int32} {g0 : dl_Sg} (h : mo_must N g x1 = some (r0, g0)) : dl_CtI l D TY nw yX12_must wsX12_must { frames := 4, cells := 0, slots := 0, locals := 91 } 0 0 [.ref (ad 0), .int x1] (mm_w cI ad g ++ R) (fun r u => r = r0 ∧ u = mm_w cI ad g0 ++ R) := by
  refine dl_metI (ty := .int) [(0, .ref (ad 0)), (1, .int x1)] (by decide) rfl (Nat.le_of_ble_eq_true rfl) rfl ?_
  intro p e s m args below meth c Q A C hQ
  unfold mo_must at h
  refine dl_aload_n (pc := 0) C 0 dX12_must_0 rfl rfl ?_
  obtain ⟨g1, h1, h⟩ := dl_bi_some h
  refine dl_vV0 (pc := 1) C (cmo_know l D cI TY hTY nw N ad R _ h1) (cwV 0 C.2.2.2.2.1 gX12_must_X12_know rfl rfl rfl (by decide +kernel) ⟨Nat.le_of_ble_eq_true rfl, Nat.le_of_ble_eq_true rfl⟩) 0 12 mm_a0 rfl rfl rfl (Nat.le_of_ble_eq_true rfl) dX12_must_1 ⟨Nat.zero_le _, Nat.zero_le _⟩ (fun u hp => ?_)
  subst hp
  refine dl_aload_n (pc := 4) C 0 dX12_must_4 rfl rfl ?_
  refine dl_iload_n (pc := 5) C 1 dX12_must_5 rfl rfl ?_
  obtain ⟨r2, h1, h⟩ := dl_bi_some h
  refine dl_vI0 (pc := 6) C (cmo_isStreet l D cI TY hTY nw ad R _ _ h1) (cwV 1 C.2.2.2.2.1 gX12_must_X12_isStreet rfl rfl rfl (by decide +kernel) ⟨Nat.le_of_ble_eq_true rfl, Nat.le_of_ble_eq_true rfl⟩) 0 12 mm_a0 rfl rfl rfl (Nat.le_of_ble_eq_true rfl) dX12_must_6 ⟨Nat.zero_le _, Nat.zero_le _⟩ (fun r u hp => ?_)
  obtain ⟨rfl, rfl⟩ := hp
  refine dl_if_eq (pc := 9) C 19 dX12_must_9 (by decide) h (fun q6 h => ?_) (fun q6 h => ?_)
  · refine dl_iconst (pc := 19) C (-1) dX12_must_19 (by decide) ?_
    exact hQ 20 _ _ _ ⟨(dl_r2 h).1, by rw [(dl_r2 h).2]⟩ (vp_nar_int _) dX12_must_20
  · refine dl_aload_n (pc := 12) C 0 dX12_must_12 rfl rfl ?_
    refine dl_get (pc := 13) C hin_X12_must_X12 0 mm_a0 rfl 20 (by decide) lk_X12_must_141 rfl rfl dX12_must_13 ?_
    refine dl_if_ne (pc := 16) C 21 dX12_must_16 (by decide) h (fun q5 h => ?_) (fun q5 h => ?_)
    · refine dl_iconst (pc := 19) C (-1) dX12_must_19 (by decide) ?_
      exact hQ 20 _ _ _ ⟨(dl_r2 h).1, by rw [(dl_r2 h).2]⟩ (vp_nar_int _) dX12_must_20
    · refine dl_iconst (pc := 21) C 0 dX12_must_21 (by decide) ?_
      refine dl_istore_n (pc := 22) C (fun v3 => [(2, .int v3), (0, .ref (ad 0)), (1, .int x1)]) dX12_must_22 rfl (by decide) (fun _ => rfl) h (fun v3 h => ?_)
      refine dl_iconst (pc := 23) C 0 dX12_must_23 (by decide) ?_
      refine dl_istore_n (pc := 24) C (fun v4 => [(3, .int v4), (2, .int v3), (0, .ref (ad 0)), (1, .int x1)]) dX12_must_24 rfl (by decide) (fun _ => rfl) h (fun v4 h => ?_)
      refine dl_sub [2, 3, 1, 0] rfl ?_
      exact mo_must_t25 l D cI TY hTY nw N ad R C hQ N _ _ _ _ h
theorem hin_X12_most_X12 : ∀ w ∈ u_ws RX12 TX12 32, w ∈ wsX12_most := fun _ h => List.mem_cons_of_mem _ (List.mem_append_right _ h)
theorem lk_X12_most_47 : Cond.fieldLink (yX12_most).cls 47 "DripLinesModel" (TX12 22).2.1 (TX12 22).2.2.1 ∈ wsX12_most := by decide +kernel
theorem lk_X12_most_50 : Cond.fieldLink (yX12_most).cls 50 "DripLinesModel" (TX12 23).2.1 (TX12 23).2.2.1 ∈ wsX12_most := by decide +kernel
theorem lk_X12_most_141 : Cond.fieldLink (yX12_most).cls 141 "DripLinesModel" (TX12 20).2.1 (TX12 20).2.2.1 ∈ wsX12_most := by decide +kernel
set_option maxHeartbeats 4000000 in
set_option maxRecDepth 100000 in
theorem mo_most_t47 {p : Program} {e : Env} {s : State} {m : MethodId} {args : Array Value} {below : List Frame} {meth : Method} {c : Code} {Q : State → Prop} {A : Nat → Prop} (l : Launch) (D : va_G) (cI : ClassId) (TY : dl_TY) (hTY : TY[0]? = some (cI, .int)) (nw : List Cond) (N : Nat) (ad : Nat → Nat) (R : va_W) {r0 : Int32} {g0 : dl_Sg} (C : dl_Cx p s m args c A D TY nw cX12_most 4 yX12_most.cls wsX12_most) (hQ : dl_RtI p l e (headSpec wsX12_most { frames := 4, cells := 0, slots := 0, locals := 91 }).room s m args below meth c Q A D cX12_most 4 0 0 .int (fun r u => r = r0 ∧ u = mm_w cI ad g0 ++ R)) {k9 : Int32 → Int32 → Int32 → dl_Sg → Option (Int32 × dl_Sg)} (hk9 : ∀ (x1 : Int32) (x2 : Int32) (x3 : Int32) (g : dl_Sg), k9 x1 x2 x3 g = some (r0, g0) → dl_At p l e (headSpec wsX12_most { frames := 4, cells := 0, slots := 0, locals := 91 }).room s m args below meth c Q A D 4 0 0 9 [(0, .ref (ad 0)), (1, .int x1), (2, .int x2), (3, .int x3)] [] (mm_w cI ad g ++ R)) (x1 : Int32) (x3 : Int32) (y0 : Int32) (g : dl_Sg) (h : mo_most_b47 N k9 x1 x3 y0 g = some (r0, g0)) : dl_At p l e (headSpec wsX12_most { frames := 4, cells := 0, slots := 0, locals := 91 }).room s m args below meth c Q A D 4 0 0 47 [(0, .ref (ad 0)), (1, .int x1), (3, .int x3)] [.int y0] (mm_w cI ad g ++ R) := by
  unfold mo_most_b47 at h
  refine dl_istore_n (pc := 47) C (fun v1 => [(2, .int v1), (0, .ref (ad 0)), (1, .int x1), (3, .int x3)]) dX12_most_47 rfl (by decide) (fun _ => rfl) h (fun v1 h => ?_)
  refine dl_iinc (pc := 48) C 3 (fun v2 => [(3, .int v2), (2, .int v1), (0, .ref (ad 0)), (1, .int x1)]) dX12_most_48 rfl rfl (by decide) (fun _ => rfl) h (fun v2 h => ?_)
  refine dl_goto (pc := 51) C 9 dX12_most_51 (by decide) ?_
  refine dl_sub [2, 3, 1, 0] rfl ?_
  exact hk9 _ _ _ _ h
set_option maxHeartbeats 4000000 in
set_option maxRecDepth 100000 in
theorem mo_most_t46 {p : Program} {e : Env} {s : State} {m : MethodId} {args : Array Value} {below : List Frame} {meth : Method} {c : Code} {Q : State → Prop} {A : Nat → Prop} (l : Launch) (D : va_G) (cI : ClassId) (TY : dl_TY) (hTY : TY[0]? = some (cI, .int)) (nw : List Cond) (N : Nat) (ad : Nat → Nat) (R : va_W) {r0 : Int32} {g0 : dl_Sg} (C : dl_Cx p s m args c A D TY nw cX12_most 4 yX12_most.cls wsX12_most) (hQ : dl_RtI p l e (headSpec wsX12_most { frames := 4, cells := 0, slots := 0, locals := 91 }).room s m args below meth c Q A D cX12_most 4 0 0 .int (fun r u => r = r0 ∧ u = mm_w cI ad g0 ++ R)) {k9 : Int32 → Int32 → Int32 → dl_Sg → Option (Int32 × dl_Sg)} (hk9 : ∀ (x1 : Int32) (x2 : Int32) (x3 : Int32) (g : dl_Sg), k9 x1 x2 x3 g = some (r0, g0) → dl_At p l e (headSpec wsX12_most { frames := 4, cells := 0, slots := 0, locals := 91 }).room s m args below meth c Q A D 4 0 0 9 [(0, .ref (ad 0)), (1, .int x1), (2, .int x2), (3, .int x3)] [] (mm_w cI ad g ++ R)) (x1 : Int32) (x2 : Int32) (x3 : Int32) (g : dl_Sg) (h : mo_most_b46 N k9 x1 x2 x3 g = some (r0, g0)) : dl_At p l e (headSpec wsX12_most { frames := 4, cells := 0, slots := 0, locals := 91 }).room s m args below meth c Q A D 4 0 0 46 [(0, .ref (ad 0)), (1, .int x1), (2, .int x2), (3, .int x3)] [] (mm_w cI ad g ++ R) := by
  unfold mo_most_b46 at h
  refine dl_iload_n (pc := 46) C 2 dX12_most_46 rfl rfl ?_
  refine dl_sub [0, 1, 3] rfl ?_
  exact mo_most_t47 l D cI TY hTY nw N ad R C hQ hk9  _ _ _ _ h
set_option maxHeartbeats 4000000 in
set_option maxRecDepth 100000 in
theorem mo_most_t9 {p : Program} {e : Env} {s : State} {m : MethodId} {args : Array Value} {below : List Frame} {meth : Method} {c : Code} {Q : State → Prop} {A : Nat → Prop} (l : Launch) (D : va_G) (cI : ClassId) (TY : dl_TY) (hTY : TY[0]? = some (cI, .int)) (nw : List Cond) (N : Nat) (ad : Nat → Nat) (R : va_W) {r0 : Int32} {g0 : dl_Sg} (C : dl_Cx p s m args c A D TY nw cX12_most 4 yX12_most.cls wsX12_most) (hQ : dl_RtI p l e (headSpec wsX12_most { frames := 4, cells := 0, slots := 0, locals := 91 }).room s m args below meth c Q A D cX12_most 4 0 0 .int (fun r u => r = r0 ∧ u = mm_w cI ad g0 ++ R)) : ∀ (n : Nat) (x1 : Int32) (x2 : Int32) (x3 : Int32) (g : dl_Sg), mo_most_b9 N n x1 x2 x3 g = some (r0, g0) → dl_At p l e (headSpec wsX12_most { frames := 4, cells := 0, slots := 0, locals := 91 }).room s m args below meth c Q A D 4 0 0 9 [(0, .ref (ad 0)), (1, .int x1), (2, .int x2), (3, .int x3)] [] (mm_w cI ad g ++ R) := by
  intro n
  induction n with
  | zero => exact fun _ _ _ _ h => absurd (show (none : Option (Int32 × dl_Sg)) = some _ from h) (by intro q; cases q)
  | succ n ih =>
    intro x1 x2 x3 g h
    rw [mo_most_b9] at h
    refine dl_iload_n (pc := 9) C 3 dX12_most_9 rfl rfl ?_
    refine dl_aload_n (pc := 10) C 0 dX12_most_10 rfl rfl ?_
    refine dl_get (pc := 11) C hin_X12_most_X12 0 mm_a0 rfl 20 (by decide) lk_X12_most_141 rfl rfl dX12_most_11 ?_
    refine dl_icmp_ge (pc := 14) C 54 dX12_most_14 (by decide) h (fun q3 h => ?_) (fun q3 h => ?_)
    · refine dl_iload_n (pc := 54) C 2 dX12_most_54 rfl rfl ?_
      exact hQ 55 _ _ _ ⟨(dl_r2 h).1, by rw [(dl_r2 h).2]⟩ (vp_nar_int _) dX12_most_55
    · refine dl_aload_n (pc := 17) C 0 dX12_most_17 rfl rfl ?_
      refine dl_get (pc := 18) C hin_X12_most_X12 0 mm_a0 rfl 22 (by decide) lk_X12_most_47 rfl rfl dX12_most_18 ?_
      refine dl_iload_n (pc := 21) C 3 dX12_most_21 rfl rfl ?_
      obtain ⟨h0, h⟩ := dl_gd_some h
      refine dl_iald (pc := 22) C 13 0 mm_a22 hTY h0 dX12_most_22 ?_
      refine dl_iload_n (pc := 23) C 1 dX12_most_23 rfl rfl ?_
      refine dl_icmp_gt (pc := 24) C 46 dX12_most_24 (by decide) h (fun q2 h => ?_) (fun q2 h => ?_)
      · refine dl_sub [0, 1, 2, 3] rfl ?_
        exact mo_most_t46 l D cI TY hTY nw N ad R C hQ ih  _ _ _ _ h
      · refine dl_aload_n (pc := 27) C 0 dX12_most_27 rfl rfl ?_
        refine dl_get (pc := 28) C hin_X12_most_X12 0 mm_a0 rfl 23 (by decide) lk_X12_most_50 rfl rfl dX12_most_28 ?_
        refine dl_iload_n (pc := 31) C 3 dX12_most_31 rfl rfl ?_
        obtain ⟨h0, h⟩ := dl_gd_some h
        refine dl_iald (pc := 32) C 14 0 mm_a23 hTY h0 dX12_most_32 ?_
        refine dl_iload_n (pc := 33) C 2 dX12_most_33 rfl rfl ?_
        refine dl_icmp_le (pc := 34) C 46 dX12_most_34 (by decide) h (fun q1 h => ?_) (fun q1 h => ?_)
        · refine dl_sub [0, 1, 2, 3] rfl ?_
          exact mo_most_t46 l D cI TY hTY nw N ad R C hQ ih  _ _ _ _ h
        · refine dl_aload_n (pc := 37) C 0 dX12_most_37 rfl rfl ?_
          refine dl_get (pc := 38) C hin_X12_most_X12 0 mm_a0 rfl 23 (by decide) lk_X12_most_50 rfl rfl dX12_most_38 ?_
          refine dl_iload_n (pc := 41) C 3 dX12_most_41 rfl rfl ?_
          obtain ⟨h0, h⟩ := dl_gd_some h
          refine dl_iald (pc := 42) C 14 0 mm_a23 hTY h0 dX12_most_42 ?_
          refine dl_goto (pc := 43) C 47 dX12_most_43 (by decide) ?_
          refine dl_sub [0, 1, 3] rfl ?_
          exact mo_most_t47 l D cI TY hTY nw N ad R C hQ ih  _ _ _ _ h
set_option maxHeartbeats 4000000 in
set_option maxRecDepth 100000 in
theorem cmo_most (l : Launch) (D : va_G) (cI : ClassId) (TY : dl_TY) (hTY : TY[0]? = some (cI, .int)) (nw : List Cond) (N : Nat) (ad : Nat → Nat) (R : va_W) (g : dl_Sg) (x1 : Int32) {r0 : Int32} {g0 : dl_Sg} (h : mo_most N g x1 = some (r0, g0)) : dl_CtI l D TY nw yX12_most wsX12_most { frames := 4, cells := 0, slots := 0, locals := 91 } 0 0 [.ref (ad 0), .int x1] (mm_w cI ad g ++ R) (fun r u => r = r0 ∧ u = mm_w cI ad g0 ++ R) := by
  refine dl_metI (ty := .int) [(0, .ref (ad 0)), (1, .int x1)] (by decide) rfl (Nat.le_of_ble_eq_true rfl) rfl ?_
  intro p e s m args below meth c Q A C hQ
  unfold mo_most at h
  refine dl_aload_n (pc := 0) C 0 dX12_most_0 rfl rfl ?_
  obtain ⟨g1, h1, h⟩ := dl_bi_some h
  refine dl_vV0 (pc := 1) C (cmo_know l D cI TY hTY nw N ad R _ h1) (cwV 0 C.2.2.2.2.1 gX12_most_X12_know rfl rfl rfl (by decide +kernel) ⟨Nat.le_of_ble_eq_true rfl, Nat.le_of_ble_eq_true rfl⟩) 0 12 mm_a0 rfl rfl rfl (Nat.le_of_ble_eq_true rfl) dX12_most_1 ⟨Nat.zero_le _, Nat.zero_le _⟩ (fun u hp => ?_)
  subst hp
  refine dl_ldc (pc := 4) C (-1000000) (by decide +kernel) dX12_most_4 ?_
  refine dl_istore_n (pc := 6) C (fun v2 => [(2, .int v2), (0, .ref (ad 0)), (1, .int x1)]) dX12_most_6 rfl (by decide) (fun _ => rfl) h (fun v2 h => ?_)
  refine dl_iconst (pc := 7) C 0 dX12_most_7 (by decide) ?_
  refine dl_istore_n (pc := 8) C (fun v3 => [(3, .int v3), (2, .int v2), (0, .ref (ad 0)), (1, .int x1)]) dX12_most_8 rfl (by decide) (fun _ => rfl) h (fun v3 h => ?_)
  refine dl_sub [2, 3, 1, 0] rfl ?_
  exact mo_most_t9 l D cI TY hTY nw N ad R C hQ N _ _ _ _ h
theorem hin_X12_link_X12 : ∀ w ∈ u_ws RX12 TX12 32, w ∈ wsX12_link := fun _ h => List.mem_cons_of_mem _ (List.mem_append_right _ h)
theorem lk_X12_link_16 : Cond.fieldLink (yX12_link).cls 16 "DripLinesModel" (TX12 4).2.1 (TX12 4).2.2.1 ∈ wsX12_link := by decide +kernel
theorem lk_X12_link_19 : Cond.fieldLink (yX12_link).cls 19 "DripLinesModel" (TX12 5).2.1 (TX12 5).2.2.1 ∈ wsX12_link := by decide +kernel
theorem lk_X12_link_22 : Cond.fieldLink (yX12_link).cls 22 "DripLinesModel" (TX12 6).2.1 (TX12 6).2.2.1 ∈ wsX12_link := by decide +kernel
theorem lk_X12_link_76 : Cond.fieldLink (yX12_link).cls 76 "DripLinesModel" (TX12 3).2.1 (TX12 3).2.2.1 ∈ wsX12_link := by decide +kernel
theorem lk_X12_link_101 : Cond.fieldLink (yX12_link).cls 101 "DripLinesModel" (TX12 7).2.1 (TX12 7).2.2.1 ∈ wsX12_link := by decide +kernel
set_option maxHeartbeats 4000000 in
set_option maxRecDepth 100000 in
theorem mo_link_t105 {p : Program} {e : Env} {s : State} {m : MethodId} {args : Array Value} {below : List Frame} {meth : Method} {c : Code} {Q : State → Prop} {A : Nat → Prop} (l : Launch) (D : va_G) (cI : ClassId) (TY : dl_TY) (hTY : TY[0]? = some (cI, .int)) (nw : List Cond) (N : Nat) (ad : Nat → Nat) (R : va_W) (g : dl_Sg) {r0 : Int32} (C : dl_Cx p s m args c A D TY nw cX12_link 6 yX12_link.cls wsX12_link) (hQ : dl_RtI p l e (headSpec wsX12_link { frames := 1, cells := 0, slots := 0, locals := 21 }).room s m args below meth c Q A D cX12_link 6 0 0 .int (fun r u => r = r0 ∧ u = mm_w cI ad g ++ R)) {k6 : Int32 → Int32 → Int32 → Int32 → Option Int32} (hk6 : ∀ (x1 : Int32) (x2 : Int32) (x3 : Int32) (x4 : Int32), k6 x1 x2 x3 x4 = some r0 → dl_At p l e (headSpec wsX12_link { frames := 1, cells := 0, slots := 0, locals := 21 }).room s m args below meth c Q A D 6 0 0 6 [(0, .ref (ad 0)), (1, .int x1), (2, .int x2), (3, .int x3), (4, .int x4)] [] (mm_w cI ad g ++ R)) (x1 : Int32) (x2 : Int32) (x4 : Int32) (y0 : Int32) (h : mo_link_b105 N g k6 x1 x2 x4 y0 = some r0) : dl_At p l e (headSpec wsX12_link { frames := 1, cells := 0, slots := 0, locals := 21 }).room s m args below meth c Q A D 6 0 0 105 [(0, .ref (ad 0)), (1, .int x1), (2, .int x2), (4, .int x4)] [.int y0] (mm_w cI ad g ++ R) := by
  unfold mo_link_b105 at h
  refine dl_istore_n (pc := 105) C (fun v1 => [(3, .int v1), (0, .ref (ad 0)), (1, .int x1), (2, .int x2), (4, .int x4)]) dX12_link_105 rfl (by decide) (fun _ => rfl) h (fun v1 h => ?_)
  refine dl_iinc (pc := 106) C 4 (fun v2 => [(4, .int v2), (3, .int v1), (0, .ref (ad 0)), (1, .int x1), (2, .int x2)]) dX12_link_106 rfl rfl (by decide) (fun _ => rfl) h (fun v2 h => ?_)
  refine dl_goto (pc := 109) C 6 dX12_link_109 (by decide) ?_
  refine dl_sub [2, 3, 4, 1, 0] rfl ?_
  exact hk6 _ _ _ _ h
set_option maxHeartbeats 4000000 in
set_option maxRecDepth 100000 in
theorem mo_link_t104 {p : Program} {e : Env} {s : State} {m : MethodId} {args : Array Value} {below : List Frame} {meth : Method} {c : Code} {Q : State → Prop} {A : Nat → Prop} (l : Launch) (D : va_G) (cI : ClassId) (TY : dl_TY) (hTY : TY[0]? = some (cI, .int)) (nw : List Cond) (N : Nat) (ad : Nat → Nat) (R : va_W) (g : dl_Sg) {r0 : Int32} (C : dl_Cx p s m args c A D TY nw cX12_link 6 yX12_link.cls wsX12_link) (hQ : dl_RtI p l e (headSpec wsX12_link { frames := 1, cells := 0, slots := 0, locals := 21 }).room s m args below meth c Q A D cX12_link 6 0 0 .int (fun r u => r = r0 ∧ u = mm_w cI ad g ++ R)) {k6 : Int32 → Int32 → Int32 → Int32 → Option Int32} (hk6 : ∀ (x1 : Int32) (x2 : Int32) (x3 : Int32) (x4 : Int32), k6 x1 x2 x3 x4 = some r0 → dl_At p l e (headSpec wsX12_link { frames := 1, cells := 0, slots := 0, locals := 21 }).room s m args below meth c Q A D 6 0 0 6 [(0, .ref (ad 0)), (1, .int x1), (2, .int x2), (3, .int x3), (4, .int x4)] [] (mm_w cI ad g ++ R)) (x1 : Int32) (x2 : Int32) (x3 : Int32) (x4 : Int32) (h : mo_link_b104 N g k6 x1 x2 x3 x4 = some r0) : dl_At p l e (headSpec wsX12_link { frames := 1, cells := 0, slots := 0, locals := 21 }).room s m args below meth c Q A D 6 0 0 104 [(0, .ref (ad 0)), (1, .int x1), (2, .int x2), (3, .int x3), (4, .int x4)] [] (mm_w cI ad g ++ R) := by
  unfold mo_link_b104 at h
  refine dl_iload_n (pc := 104) C 3 dX12_link_104 rfl rfl ?_
  refine dl_sub [0, 1, 2, 4] rfl ?_
  exact mo_link_t105 l D cI TY hTY nw N ad R g C hQ hk6  _ _ _ _ h
set_option maxHeartbeats 4000000 in
set_option maxRecDepth 100000 in
theorem mo_link_t76 {p : Program} {e : Env} {s : State} {m : MethodId} {args : Array Value} {below : List Frame} {meth : Method} {c : Code} {Q : State → Prop} {A : Nat → Prop} (l : Launch) (D : va_G) (cI : ClassId) (TY : dl_TY) (hTY : TY[0]? = some (cI, .int)) (nw : List Cond) (N : Nat) (ad : Nat → Nat) (R : va_W) (g : dl_Sg) {r0 : Int32} (C : dl_Cx p s m args c A D TY nw cX12_link 6 yX12_link.cls wsX12_link) (hQ : dl_RtI p l e (headSpec wsX12_link { frames := 1, cells := 0, slots := 0, locals := 21 }).room s m args below meth c Q A D cX12_link 6 0 0 .int (fun r u => r = r0 ∧ u = mm_w cI ad g ++ R)) {k6 : Int32 → Int32 → Int32 → Int32 → Option Int32} (hk6 : ∀ (x1 : Int32) (x2 : Int32) (x3 : Int32) (x4 : Int32), k6 x1 x2 x3 x4 = some r0 → dl_At p l e (headSpec wsX12_link { frames := 1, cells := 0, slots := 0, locals := 21 }).room s m args below meth c Q A D 6 0 0 6 [(0, .ref (ad 0)), (1, .int x1), (2, .int x2), (3, .int x3), (4, .int x4)] [] (mm_w cI ad g ++ R)) (x1 : Int32) (x2 : Int32) (x3 : Int32) (x4 : Int32) (y0 : Int32) (h : mo_link_b76 N g k6 x1 x2 x3 x4 y0 = some r0) : dl_At p l e (headSpec wsX12_link { frames := 1, cells := 0, slots := 0, locals := 21 }).room s m args below meth c Q A D 6 0 0 76 [(0, .ref (ad 0)), (1, .int x1), (2, .int x2), (3, .int x3), (4, .int x4)] [.int y0] (mm_w cI ad g ++ R) := by
  unfold mo_link_b76 at h
  refine dl_istore (pc := 76) C (fun v1 => [(5, .int v1), (0, .ref (ad 0)), (1, .int x1), (2, .int x2), (3, .int x3), (4, .int x4)]) dX12_link_76 (by decide) (fun _ => rfl) h (fun v1 h => ?_)
  refine dl_iload (pc := 78) C 0 dX12_link_78 rfl ?_
  refine dl_if_eq (pc := 80) C 104 dX12_link_80 (by decide) h (fun q3 h => ?_) (fun q3 h => ?_)
  · refine dl_sub [1, 2, 3, 4, 5] rfl ?_
    exact mo_link_t104 l D cI TY hTY nw N ad R g C hQ hk6  _ _ _ _ h
  · refine dl_aload_n (pc := 83) C 1 dX12_link_83 rfl rfl ?_
    refine dl_get (pc := 84) C hin_X12_link_X12 0 mm_a0 rfl 6 (by decide) lk_X12_link_22 rfl rfl dX12_link_84 ?_
    refine dl_iload (pc := 87) C 5 dX12_link_87 rfl ?_
    obtain ⟨h0, h⟩ := dl_gd_some h
    refine dl_iald (pc := 89) C 5 0 mm_a6 hTY h0 dX12_link_89 ?_
    refine dl_iload_n (pc := 90) C 4 dX12_link_90 rfl rfl ?_
    refine dl_icmp_ge (pc := 91) C 104 dX12_link_91 (by decide) h (fun q2 h => ?_) (fun q2 h => ?_)
    · refine dl_sub [1, 2, 3, 4, 5] rfl ?_
      exact mo_link_t104 l D cI TY hTY nw N ad R g C hQ hk6  _ _ _ _ h
    · refine dl_aload_n (pc := 94) C 1 dX12_link_94 rfl rfl ?_
      refine dl_get (pc := 95) C hin_X12_link_X12 0 mm_a0 rfl 6 (by decide) lk_X12_link_22 rfl rfl dX12_link_95 ?_
      refine dl_iload (pc := 98) C 5 dX12_link_98 rfl ?_
      obtain ⟨h0, h⟩ := dl_gd_some h
      refine dl_iald (pc := 100) C 5 0 mm_a6 hTY h0 dX12_link_100 ?_
      refine dl_goto (pc := 101) C 105 dX12_link_101 (by decide) ?_
      refine dl_sub [1, 2, 3, 5] rfl ?_
      exact mo_link_t105 l D cI TY hTY nw N ad R g C hQ hk6  _ _ _ _ h
set_option maxHeartbeats 4000000 in
set_option maxRecDepth 100000 in
theorem mo_link_t75 {p : Program} {e : Env} {s : State} {m : MethodId} {args : Array Value} {below : List Frame} {meth : Method} {c : Code} {Q : State → Prop} {A : Nat → Prop} (l : Launch) (D : va_G) (cI : ClassId) (TY : dl_TY) (hTY : TY[0]? = some (cI, .int)) (nw : List Cond) (N : Nat) (ad : Nat → Nat) (R : va_W) (g : dl_Sg) {r0 : Int32} (C : dl_Cx p s m args c A D TY nw cX12_link 6 yX12_link.cls wsX12_link) (hQ : dl_RtI p l e (headSpec wsX12_link { frames := 1, cells := 0, slots := 0, locals := 21 }).room s m args below meth c Q A D cX12_link 6 0 0 .int (fun r u => r = r0 ∧ u = mm_w cI ad g ++ R)) {k6 : Int32 → Int32 → Int32 → Int32 → Option Int32} (hk6 : ∀ (x1 : Int32) (x2 : Int32) (x3 : Int32) (x4 : Int32), k6 x1 x2 x3 x4 = some r0 → dl_At p l e (headSpec wsX12_link { frames := 1, cells := 0, slots := 0, locals := 21 }).room s m args below meth c Q A D 6 0 0 6 [(0, .ref (ad 0)), (1, .int x1), (2, .int x2), (3, .int x3), (4, .int x4)] [] (mm_w cI ad g ++ R)) (x1 : Int32) (x2 : Int32) (x3 : Int32) (x4 : Int32) (h : mo_link_b75 N g k6 x1 x2 x3 x4 = some r0) : dl_At p l e (headSpec wsX12_link { frames := 1, cells := 0, slots := 0, locals := 21 }).room s m args below meth c Q A D 6 0 0 75 [(0, .ref (ad 0)), (1, .int x1), (2, .int x2), (3, .int x3), (4, .int x4)] [] (mm_w cI ad g ++ R) := by
  unfold mo_link_b75 at h
  refine dl_iconst (pc := 75) C 0 dX12_link_75 (by decide) ?_
  refine dl_sub [0, 1, 2, 3, 4] rfl ?_
  exact mo_link_t76 l D cI TY hTY nw N ad R g C hQ hk6  _ _ _ _ _ h
set_option maxHeartbeats 4000000 in
set_option maxRecDepth 100000 in
theorem mo_link_t71 {p : Program} {e : Env} {s : State} {m : MethodId} {args : Array Value} {below : List Frame} {meth : Method} {c : Code} {Q : State → Prop} {A : Nat → Prop} (l : Launch) (D : va_G) (cI : ClassId) (TY : dl_TY) (hTY : TY[0]? = some (cI, .int)) (nw : List Cond) (N : Nat) (ad : Nat → Nat) (R : va_W) (g : dl_Sg) {r0 : Int32} (C : dl_Cx p s m args c A D TY nw cX12_link 6 yX12_link.cls wsX12_link) (hQ : dl_RtI p l e (headSpec wsX12_link { frames := 1, cells := 0, slots := 0, locals := 21 }).room s m args below meth c Q A D cX12_link 6 0 0 .int (fun r u => r = r0 ∧ u = mm_w cI ad g ++ R)) {k6 : Int32 → Int32 → Int32 → Int32 → Option Int32} (hk6 : ∀ (x1 : Int32) (x2 : Int32) (x3 : Int32) (x4 : Int32), k6 x1 x2 x3 x4 = some r0 → dl_At p l e (headSpec wsX12_link { frames := 1, cells := 0, slots := 0, locals := 21 }).room s m args below meth c Q A D 6 0 0 6 [(0, .ref (ad 0)), (1, .int x1), (2, .int x2), (3, .int x3), (4, .int x4)] [] (mm_w cI ad g ++ R)) (x1 : Int32) (x2 : Int32) (x3 : Int32) (x4 : Int32) (h : mo_link_b71 N g k6 x1 x2 x3 x4 = some r0) : dl_At p l e (headSpec wsX12_link { frames := 1, cells := 0, slots := 0, locals := 21 }).room s m args below meth c Q A D 6 0 0 71 [(0, .ref (ad 0)), (1, .int x1), (2, .int x2), (3, .int x3), (4, .int x4)] [] (mm_w cI ad g ++ R) := by
  unfold mo_link_b71 at h
  refine dl_iconst (pc := 71) C 1 dX12_link_71 (by decide) ?_
  refine dl_goto (pc := 72) C 76 dX12_link_72 (by decide) ?_
  refine dl_sub [0, 1, 2, 3, 4] rfl ?_
  exact mo_link_t76 l D cI TY hTY nw N ad R g C hQ hk6  _ _ _ _ _ h
set_option maxHeartbeats 4000000 in
set_option maxRecDepth 100000 in
theorem mo_link_t49 {p : Program} {e : Env} {s : State} {m : MethodId} {args : Array Value} {below : List Frame} {meth : Method} {c : Code} {Q : State → Prop} {A : Nat → Prop} (l : Launch) (D : va_G) (cI : ClassId) (TY : dl_TY) (hTY : TY[0]? = some (cI, .int)) (nw : List Cond) (N : Nat) (ad : Nat → Nat) (R : va_W) (g : dl_Sg) {r0 : Int32} (C : dl_Cx p s m args c A D TY nw cX12_link 6 yX12_link.cls wsX12_link) (hQ : dl_RtI p l e (headSpec wsX12_link { frames := 1, cells := 0, slots := 0, locals := 21 }).room s m args below meth c Q A D cX12_link 6 0 0 .int (fun r u => r = r0 ∧ u = mm_w cI ad g ++ R)) {k6 : Int32 → Int32 → Int32 → Int32 → Option Int32} (hk6 : ∀ (x1 : Int32) (x2 : Int32) (x3 : Int32) (x4 : Int32), k6 x1 x2 x3 x4 = some r0 → dl_At p l e (headSpec wsX12_link { frames := 1, cells := 0, slots := 0, locals := 21 }).room s m args below meth c Q A D 6 0 0 6 [(0, .ref (ad 0)), (1, .int x1), (2, .int x2), (3, .int x3), (4, .int x4)] [] (mm_w cI ad g ++ R)) (x1 : Int32) (x2 : Int32) (x3 : Int32) (x4 : Int32) (h : mo_link_b49 N g k6 x1 x2 x3 x4 = some r0) : dl_At p l e (headSpec wsX12_link { frames := 1, cells := 0, slots := 0, locals := 21 }).room s m args below meth c Q A D 6 0 0 49 [(0, .ref (ad 0)), (1, .int x1), (2, .int x2), (3, .int x3), (4, .int x4)] [] (mm_w cI ad g ++ R) := by
  unfold mo_link_b49 at h
  refine dl_aload_n (pc := 49) C 0 dX12_link_49 rfl rfl ?_
  refine dl_get (pc := 50) C hin_X12_link_X12 0 mm_a0 rfl 4 (by decide) lk_X12_link_16 rfl rfl dX12_link_50 ?_
  refine dl_iload (pc := 53) C 4 dX12_link_53 rfl ?_
  obtain ⟨h0, h⟩ := dl_gd_some h
  refine dl_iald (pc := 55) C 3 0 mm_a4 hTY h0 dX12_link_55 ?_
  refine dl_iload_n (pc := 56) C 2 dX12_link_56 rfl rfl ?_
  refine dl_icmp_ne (pc := 57) C 75 dX12_link_57 (by decide) h (fun q2 h => ?_) (fun q2 h => ?_)
  · refine dl_aload_n (pc := 60) C 0 dX12_link_60 rfl rfl ?_
    refine dl_get (pc := 61) C hin_X12_link_X12 0 mm_a0 rfl 5 (by decide) lk_X12_link_19 rfl rfl dX12_link_61 ?_
    refine dl_iload (pc := 64) C 4 dX12_link_64 rfl ?_
    obtain ⟨h0, h⟩ := dl_gd_some h
    refine dl_iald (pc := 66) C 4 0 mm_a5 hTY h0 dX12_link_66 ?_
    refine dl_iload_n (pc := 67) C 1 dX12_link_67 rfl rfl ?_
    refine dl_icmp_ne (pc := 68) C 75 dX12_link_68 (by decide) h (fun q1 h => ?_) (fun q1 h => ?_)
    · refine dl_sub [0, 1, 2, 3, 4] rfl ?_
      exact mo_link_t71 l D cI TY hTY nw N ad R g C hQ hk6  _ _ _ _ h
    · refine dl_sub [0, 1, 2, 3, 4] rfl ?_
      exact mo_link_t75 l D cI TY hTY nw N ad R g C hQ hk6  _ _ _ _ h
  · refine dl_sub [0, 1, 2, 3, 4] rfl ?_
    exact mo_link_t75 l D cI TY hTY nw N ad R g C hQ hk6  _ _ _ _ h
set_option maxHeartbeats 4000000 in
set_option maxRecDepth 100000 in
theorem mo_link_t6 {p : Program} {e : Env} {s : State} {m : MethodId} {args : Array Value} {below : List Frame} {meth : Method} {c : Code} {Q : State → Prop} {A : Nat → Prop} (l : Launch) (D : va_G) (cI : ClassId) (TY : dl_TY) (hTY : TY[0]? = some (cI, .int)) (nw : List Cond) (N : Nat) (ad : Nat → Nat) (R : va_W) (g : dl_Sg) {r0 : Int32} (C : dl_Cx p s m args c A D TY nw cX12_link 6 yX12_link.cls wsX12_link) (hQ : dl_RtI p l e (headSpec wsX12_link { frames := 1, cells := 0, slots := 0, locals := 21 }).room s m args below meth c Q A D cX12_link 6 0 0 .int (fun r u => r = r0 ∧ u = mm_w cI ad g ++ R)) : ∀ (n : Nat) (x1 : Int32) (x2 : Int32) (x3 : Int32) (x4 : Int32), mo_link_b6 N g n x1 x2 x3 x4 = some r0 → dl_At p l e (headSpec wsX12_link { frames := 1, cells := 0, slots := 0, locals := 21 }).room s m args below meth c Q A D 6 0 0 6 [(0, .ref (ad 0)), (1, .int x1), (2, .int x2), (3, .int x3), (4, .int x4)] [] (mm_w cI ad g ++ R) := by
  intro n
  induction n with
  | zero => exact fun _ _ _ _ h => absurd (show (none : Option Int32) = some _ from h) (by intro q; cases q)
  | succ n ih =>
    intro x1 x2 x3 x4 h
    rw [mo_link_b6] at h
    refine dl_iload (pc := 6) C 4 dX12_link_6 rfl ?_
    refine dl_aload_n (pc := 8) C 0 dX12_link_8 rfl rfl ?_
    refine dl_get (pc := 9) C hin_X12_link_X12 0 mm_a0 rfl 3 (by decide) lk_X12_link_76 rfl rfl dX12_link_9 ?_
    refine dl_icmp_ge (pc := 12) C 112 dX12_link_12 (by decide) h (fun q5 h => ?_) (fun q5 h => ?_)
    · refine dl_iload_n (pc := 112) C 3 dX12_link_112 rfl rfl ?_
      exact hQ 113 _ _ _ ⟨Option.some.inj h, rfl⟩ (vp_nar_int _) dX12_link_113
    · refine dl_aload_n (pc := 15) C 0 dX12_link_15 rfl rfl ?_
      refine dl_get (pc := 16) C hin_X12_link_X12 0 mm_a0 rfl 7 (by decide) lk_X12_link_101 rfl rfl dX12_link_16 ?_
      refine dl_iload (pc := 19) C 4 dX12_link_19 rfl ?_
      obtain ⟨r1, h1, h⟩ := dl_bi_some h
      refine dl_sI0 (pc := 21) C (cmo_has l D TY nw _ _ _ h1) (va_cwS 2 C.2.2.2.2.1 gX12_link_X12_has rfl rfl rfl (by decide +kernel) ⟨Nat.le_of_ble_eq_true rfl, Nat.le_of_ble_eq_true rfl⟩) rfl rfl (Nat.le_of_ble_eq_true rfl) dX12_link_21 ⟨Nat.zero_le _, Nat.zero_le _⟩ (fun r u hp => ?_)
      obtain ⟨rfl, hu⟩ := hp
      rw [hu]
      clear hu
      refine dl_if_eq (pc := 24) C 75 dX12_link_24 (by decide) h (fun q4 h => ?_) (fun q4 h => ?_)
      · refine dl_sub [0, 1, 2, 3, 4] rfl ?_
        exact mo_link_t75 l D cI TY hTY nw N ad R g C hQ ih  _ _ _ _ h
      · refine dl_aload_n (pc := 27) C 0 dX12_link_27 rfl rfl ?_
        refine dl_get (pc := 28) C hin_X12_link_X12 0 mm_a0 rfl 4 (by decide) lk_X12_link_16 rfl rfl dX12_link_28 ?_
        refine dl_iload (pc := 31) C 4 dX12_link_31 rfl ?_
        obtain ⟨h0, h⟩ := dl_gd_some h
        refine dl_iald (pc := 33) C 3 0 mm_a4 hTY h0 dX12_link_33 ?_
        refine dl_iload_n (pc := 34) C 1 dX12_link_34 rfl rfl ?_
        refine dl_icmp_ne (pc := 35) C 49 dX12_link_35 (by decide) h (fun q3 h => ?_) (fun q3 h => ?_)
        · refine dl_aload_n (pc := 38) C 0 dX12_link_38 rfl rfl ?_
          refine dl_get (pc := 39) C hin_X12_link_X12 0 mm_a0 rfl 5 (by decide) lk_X12_link_19 rfl rfl dX12_link_39 ?_
          refine dl_iload (pc := 42) C 4 dX12_link_42 rfl ?_
          obtain ⟨h0, h⟩ := dl_gd_some h
          refine dl_iald (pc := 44) C 4 0 mm_a5 hTY h0 dX12_link_44 ?_
          refine dl_iload_n (pc := 45) C 2 dX12_link_45 rfl rfl ?_
          refine dl_icmp_eq (pc := 46) C 71 dX12_link_46 (by decide) h (fun q2 h => ?_) (fun q2 h => ?_)
          · refine dl_sub [0, 1, 2, 3, 4] rfl ?_
            exact mo_link_t71 l D cI TY hTY nw N ad R g C hQ ih  _ _ _ _ h
          · refine dl_sub [0, 1, 2, 3, 4] rfl ?_
            exact mo_link_t49 l D cI TY hTY nw N ad R g C hQ ih  _ _ _ _ h
        · refine dl_sub [0, 1, 2, 3, 4] rfl ?_
          exact mo_link_t49 l D cI TY hTY nw N ad R g C hQ ih  _ _ _ _ h
set_option maxHeartbeats 4000000 in
set_option maxRecDepth 100000 in
theorem cmo_link (l : Launch) (D : va_G) (cI : ClassId) (TY : dl_TY) (hTY : TY[0]? = some (cI, .int)) (nw : List Cond) (N : Nat) (ad : Nat → Nat) (R : va_W) (g : dl_Sg) (x1 : Int32) (x2 : Int32) {r0 : Int32} (h : mo_link N g x1 x2 = some r0) : dl_CtI l D TY nw yX12_link wsX12_link { frames := 1, cells := 0, slots := 0, locals := 21 } 0 0 [.ref (ad 0), .int x1, .int x2] (mm_w cI ad g ++ R) (fun r u => r = r0 ∧ u = mm_w cI ad g ++ R) := by
  refine dl_metI (ty := .int) [(0, .ref (ad 0)), (1, .int x1), (2, .int x2)] (by decide) rfl (Nat.le_of_ble_eq_true rfl) rfl ?_
  intro p e s m args below meth c Q A C hQ
  unfold mo_link at h
  refine dl_ldc (pc := 0) C 100000000 (by decide +kernel) dX12_link_0 ?_
  refine dl_istore_n (pc := 2) C (fun v1 => [(3, .int v1), (0, .ref (ad 0)), (1, .int x1), (2, .int x2)]) dX12_link_2 rfl (by decide) (fun _ => rfl) h (fun v1 h => ?_)
  refine dl_iconst (pc := 3) C 0 dX12_link_3 (by decide) ?_
  refine dl_istore (pc := 4) C (fun v2 => [(4, .int v2), (3, .int v1), (0, .ref (ad 0)), (1, .int x1), (2, .int x2)]) dX12_link_4 (by decide) (fun _ => rfl) h (fun v2 h => ?_)
  refine dl_sub [2, 3, 4, 1, 0] rfl ?_
  exact mo_link_t6 l D cI TY hTY nw N ad R g C hQ N _ _ _ _ h
theorem hin_X12_goes_X12 : ∀ w ∈ u_ws RX12 TX12 32, w ∈ wsX12_goes := fun _ h => List.mem_cons_of_mem _ (List.mem_append_right _ h)
theorem lk_X12_goes_7 : Cond.fieldLink (yX12_goes).cls 7 "DripLinesModel" (TX12 1).2.1 (TX12 1).2.2.1 ∈ wsX12_goes := by decide +kernel
theorem lk_X12_goes_13 : Cond.fieldLink (yX12_goes).cls 13 "DripLinesModel" (TX12 2).2.1 (TX12 2).2.2.1 ∈ wsX12_goes := by decide +kernel
theorem lk_X12_goes_53 : Cond.fieldLink (yX12_goes).cls 53 "DripLinesModel" (TX12 26).2.1 (TX12 26).2.2.1 ∈ wsX12_goes := by decide +kernel
set_option maxHeartbeats 4000000 in
set_option maxRecDepth 100000 in
theorem mo_goes_t58 {p : Program} {e : Env} {s : State} {m : MethodId} {args : Array Value} {below : List Frame} {meth : Method} {c : Code} {Q : State → Prop} {A : Nat → Prop} (l : Launch) (D : va_G) (cI : ClassId) (TY : dl_TY) (hTY : TY[0]? = some (cI, .int)) (nw : List Cond) (N : Nat) (ad : Nat → Nat) (R : va_W) (g : dl_Sg) {r0 : Int32} (C : dl_Cx p s m args c A D TY nw cX12_goes 5 yX12_goes.cls wsX12_goes) (hQ : dl_RtI p l e (headSpec wsX12_goes { frames := 2, cells := 0, slots := 0, locals := 46 }).room s m args below meth c Q A D cX12_goes 5 0 0 .int (fun r u => r = r0 ∧ u = mm_w cI ad g ++ R)) (x2 : Int32) (y0 : Int32) (y1 : Int32) (h : mo_goes_b58 N g x2 y0 y1 = some r0) : dl_At p l e (headSpec wsX12_goes { frames := 2, cells := 0, slots := 0, locals := 46 }).room s m args below meth c Q A D 5 0 0 58 [(0, .ref (ad 0)), (2, .int x2)] [.int y1, .int y0] (mm_w cI ad g ++ R) := by
  unfold mo_goes_b58 at h
  refine dl_iadd (pc := 58) C dX12_goes_58 ?_
  refine dl_aload_n (pc := 59) C 0 dX12_goes_59 rfl rfl ?_
  refine dl_get (pc := 60) C hin_X12_goes_X12 0 mm_a0 rfl 26 (by decide) lk_X12_goes_53 rfl rfl dX12_goes_60 ?_
  refine dl_iload_n (pc := 63) C 1 dX12_goes_63 rfl rfl ?_
  obtain ⟨h0, h⟩ := dl_gd_some h
  refine dl_iald (pc := 64) C 15 0 mm_a26 hTY h0 dX12_goes_64 ?_
  refine dl_iadd (pc := 65) C dX12_goes_65 ?_
  exact hQ 66 _ _ _ ⟨Option.some.inj h, rfl⟩ (vp_nar_int _) dX12_goes_66
set_option maxHeartbeats 4000000 in
set_option maxRecDepth 100000 in
theorem mo_goes_t57 {p : Program} {e : Env} {s : State} {m : MethodId} {args : Array Value} {below : List Frame} {meth : Method} {c : Code} {Q : State → Prop} {A : Nat → Prop} (l : Launch) (D : va_G) (cI : ClassId) (TY : dl_TY) (hTY : TY[0]? = some (cI, .int)) (nw : List Cond) (N : Nat) (ad : Nat → Nat) (R : va_W) (g : dl_Sg) {r0 : Int32} (C : dl_Cx p s m args c A D TY nw cX12_goes 5 yX12_goes.cls wsX12_goes) (hQ : dl_RtI p l e (headSpec wsX12_goes { frames := 2, cells := 0, slots := 0, locals := 46 }).room s m args below meth c Q A D cX12_goes 5 0 0 .int (fun r u => r = r0 ∧ u = mm_w cI ad g ++ R)) (x2 : Int32) (y0 : Int32) (h : mo_goes_b57 N g x2 y0 = some r0) : dl_At p l e (headSpec wsX12_goes { frames := 2, cells := 0, slots := 0, locals := 46 }).room s m args below meth c Q A D 5 0 0 57 [(0, .ref (ad 0)), (2, .int x2)] [.int y0] (mm_w cI ad g ++ R) := by
  unfold mo_goes_b57 at h
  refine dl_iconst (pc := 57) C 0 dX12_goes_57 (by decide) ?_
  refine dl_sub [0, 1] rfl ?_
  exact mo_goes_t58 l D cI TY hTY nw N ad R g C hQ  _ _ _ h
set_option maxHeartbeats 4000000 in
set_option maxRecDepth 100000 in
theorem mo_goes_t26 {p : Program} {e : Env} {s : State} {m : MethodId} {args : Array Value} {below : List Frame} {meth : Method} {c : Code} {Q : State → Prop} {A : Nat → Prop} (l : Launch) (D : va_G) (cI : ClassId) (TY : dl_TY) (hTY : TY[0]? = some (cI, .int)) (nw : List Cond) (N : Nat) (ad : Nat → Nat) (R : va_W) (g : dl_Sg) {r0 : Int32} (C : dl_Cx p s m args c A D TY nw cX12_goes 5 yX12_goes.cls wsX12_goes) (hQ : dl_RtI p l e (headSpec wsX12_goes { frames := 2, cells := 0, slots := 0, locals := 46 }).room s m args below meth c Q A D cX12_goes 5 0 0 .int (fun r u => r = r0 ∧ u = mm_w cI ad g ++ R)) (h : mo_goes_b26 N g  = some r0) : dl_At p l e (headSpec wsX12_goes { frames := 2, cells := 0, slots := 0, locals := 46 }).room s m args below meth c Q A D 5 0 0 26 [(0, .ref (ad 0))] [] (mm_w cI ad g ++ R) := by
  unfold mo_goes_b26 at h
  refine dl_ldc (pc := 26) C 100000000 (by decide +kernel) dX12_goes_26 ?_
  refine dl_goto (pc := 28) C 66 dX12_goes_28 (by decide) ?_
  exact hQ 66 _ _ _ ⟨Option.some.inj h, rfl⟩ (vp_nar_int _) dX12_goes_66
set_option maxHeartbeats 4000000 in
set_option maxRecDepth 100000 in
theorem cmo_goes (l : Launch) (D : va_G) (cI : ClassId) (TY : dl_TY) (hTY : TY[0]? = some (cI, .int)) (nw : List Cond) (N : Nat) (ad : Nat → Nat) (R : va_W) (g : dl_Sg) (x1 : Int32) (x2 : Int32) (x3 : Int32) {r0 : Int32} (h : mo_goes N g x1 x2 x3 = some r0) : dl_CtI l D TY nw yX12_goes wsX12_goes { frames := 2, cells := 0, slots := 0, locals := 46 } 0 0 [.ref (ad 0), .int x1, .int x2, .int x3] (mm_w cI ad g ++ R) (fun r u => r = r0 ∧ u = mm_w cI ad g ++ R) := by
  refine dl_metI (ty := .int) [(0, .ref (ad 0)), (1, .int x1), (2, .int x2), (3, .int x3)] (by decide) rfl (Nat.le_of_ble_eq_true rfl) rfl ?_
  intro p e s m args below meth c Q A C hQ
  unfold mo_goes at h
  refine dl_aload_n (pc := 0) C 0 dX12_goes_0 rfl rfl ?_
  refine dl_iload_n (pc := 1) C 1 dX12_goes_1 rfl rfl ?_
  refine dl_iload_n (pc := 2) C 2 dX12_goes_2 rfl rfl ?_
  obtain ⟨r1, h1, h⟩ := dl_bi_some h
  refine dl_vI0 (pc := 3) C (cmo_link l D cI TY hTY nw N ad R _ _ _ h1) (cwV 2 C.2.2.2.2.1 gX12_goes_X12_link rfl rfl rfl (by decide +kernel) ⟨Nat.le_of_ble_eq_true rfl, Nat.le_of_ble_eq_true rfl⟩) 0 12 mm_a0 rfl rfl rfl (Nat.le_of_ble_eq_true rfl) dX12_goes_3 ⟨Nat.zero_le _, Nat.zero_le _⟩ (fun r u hp => ?_)
  obtain ⟨rfl, rfl⟩ := hp
  refine dl_istore (pc := 6) C (fun v2 => [(4, .int v2), (0, .ref (ad 0)), (1, .int x1), (2, .int x2), (3, .int x3)]) dX12_goes_6 (by decide) (fun _ => rfl) h (fun v2 h => ?_)
  refine dl_iload (pc := 8) C 0 dX12_goes_8 rfl ?_
  refine dl_ldc (pc := 10) C 100000000 (by decide +kernel) dX12_goes_10 ?_
  refine dl_icmp_eq (pc := 12) C 26 dX12_goes_12 (by decide) h (fun q6 h => ?_) (fun q6 h => ?_)
  · refine dl_sub [1] rfl ?_
    exact mo_goes_t26 l D cI TY hTY nw N ad R g C hQ  h
  · refine dl_aload_n (pc := 15) C 1 dX12_goes_15 rfl rfl ?_
    refine dl_get (pc := 16) C hin_X12_goes_X12 0 mm_a0 rfl 26 (by decide) lk_X12_goes_53 rfl rfl dX12_goes_16 ?_
    refine dl_iload_n (pc := 19) C 3 dX12_goes_19 rfl rfl ?_
    obtain ⟨h0, h⟩ := dl_gd_some h
    refine dl_iald (pc := 20) C 15 0 mm_a26 hTY h0 dX12_goes_20 ?_
    refine dl_ldc (pc := 21) C 100000000 (by decide +kernel) dX12_goes_21 ?_
    refine dl_icmp_ne (pc := 23) C 31 dX12_goes_23 (by decide) h (fun q5 h => ?_) (fun q5 h => ?_)
    · refine dl_sub [1] rfl ?_
      exact mo_goes_t26 l D cI TY hTY nw N ad R g C hQ  h
    · refine dl_iload (pc := 31) C 0 dX12_goes_31 rfl ?_
      refine dl_iload_n (pc := 33) C 3 dX12_goes_33 rfl rfl ?_
      refine dl_iload_n (pc := 34) C 4 dX12_goes_34 rfl rfl ?_
      refine dl_icmp_eq (pc := 35) C 57 dX12_goes_35 (by decide) h (fun q4 h => ?_) (fun q4 h => ?_)
      · refine dl_sub [1, 3] rfl ?_
        exact mo_goes_t57 l D cI TY hTY nw N ad R g C hQ  _ _ h
      · refine dl_aload_n (pc := 38) C 1 dX12_goes_38 rfl rfl ?_
        refine dl_get (pc := 39) C hin_X12_goes_X12 0 mm_a0 rfl 1 (by decide) lk_X12_goes_7 rfl rfl dX12_goes_39 ?_
        refine dl_iload_n (pc := 42) C 3 dX12_goes_42 rfl rfl ?_
        obtain ⟨h0, h⟩ := dl_gd_some h
        refine dl_iald (pc := 43) C 1 0 mm_a1 hTY h0 dX12_goes_43 ?_
        refine dl_iconst (pc := 44) C 4 dX12_goes_44 (by decide) ?_
        refine dl_icmp_ne (pc := 45) C 57 dX12_goes_45 (by decide) h (fun q3 h => ?_) (fun q3 h => ?_)
        · refine dl_aload_n (pc := 48) C 1 dX12_goes_48 rfl rfl ?_
          refine dl_get (pc := 49) C hin_X12_goes_X12 0 mm_a0 rfl 2 (by decide) lk_X12_goes_13 rfl rfl dX12_goes_49 ?_
          refine dl_iload_n (pc := 52) C 3 dX12_goes_52 rfl rfl ?_
          obtain ⟨h0, h⟩ := dl_gd_some h
          refine dl_iald (pc := 53) C 2 0 mm_a2 hTY h0 dX12_goes_53 ?_
          refine dl_goto (pc := 54) C 58 dX12_goes_54 (by decide) ?_
          refine dl_sub [1, 3] rfl ?_
          exact mo_goes_t58 l D cI TY hTY nw N ad R g C hQ  _ _ _ h
        · refine dl_sub [1, 3] rfl ?_
          exact mo_goes_t57 l D cI TY hTY nw N ad R g C hQ  _ _ h
theorem hin_X12_fars_X12 : ∀ w ∈ u_ws RX12 TX12 32, w ∈ wsX12_fars := fun _ h => List.mem_cons_of_mem _ (List.mem_append_right _ h)
theorem lk_X12_fars_53 : Cond.fieldLink (yX12_fars).cls 53 "DripLinesModel" (TX12 26).2.1 (TX12 26).2.2.1 ∈ wsX12_fars := by decide +kernel
theorem lk_X12_fars_69 : Cond.fieldLink (yX12_fars).cls 69 "DripLinesModel" (TX12 0).2.1 (TX12 0).2.2.1 ∈ wsX12_fars := by decide +kernel
set_option maxHeartbeats 4000000 in
set_option maxRecDepth 100000 in
theorem mo_fars_t118 {p : Program} {e : Env} {s : State} {m : MethodId} {args : Array Value} {below : List Frame} {meth : Method} {c : Code} {Q : State → Prop} {A : Nat → Prop} (l : Launch) (D : va_G) (cI : ClassId) (TY : dl_TY) (hTY : TY[0]? = some (cI, .int)) (nw : List Cond) (N : Nat) (ad : Nat → Nat) (R : va_W) {g0 : dl_Sg} (C : dl_Cx p s m args c A D TY nw cX12_fars 6 yX12_fars.cls wsX12_fars) (hQ : dl_RtV p l e (headSpec wsX12_fars { frames := 3, cells := 0, slots := 0, locals := 70 }).room s m args below meth c Q A D cX12_fars 6 0 0 (fun u => u = mm_w cI ad g0 ++ R)) {k35 : Int32 → Int32 → dl_Sg → Option dl_Sg} (hk35 : ∀ (x1 : Int32) (x2 : Int32) (g : dl_Sg), k35 x1 x2 g = some g0 → dl_At p l e (headSpec wsX12_fars { frames := 3, cells := 0, slots := 0, locals := 70 }).room s m args below meth c Q A D 6 0 0 35 [(0, .ref (ad 0)), (1, .int x1), (2, .int x2)] [] (mm_w cI ad g ++ R)) {k45 : Int32 → Int32 → Int32 → dl_Sg → Option dl_Sg} (hk45 : ∀ (x1 : Int32) (x2 : Int32) (x3 : Int32) (g : dl_Sg), k45 x1 x2 x3 g = some g0 → dl_At p l e (headSpec wsX12_fars { frames := 3, cells := 0, slots := 0, locals := 70 }).room s m args below meth c Q A D 6 0 0 45 [(0, .ref (ad 0)), (1, .int x1), (2, .int x2), (3, .int x3)] [] (mm_w cI ad g ++ R)) {k56 : Int32 → Int32 → Int32 → Int32 → dl_Sg → Option dl_Sg} (hk56 : ∀ (x1 : Int32) (x2 : Int32) (x3 : Int32) (x4 : Int32) (g : dl_Sg), k56 x1 x2 x3 x4 g = some g0 → dl_At p l e (headSpec wsX12_fars { frames := 3, cells := 0, slots := 0, locals := 70 }).room s m args below meth c Q A D 6 0 0 56 [(0, .ref (ad 0)), (1, .int x1), (2, .int x2), (3, .int x3), (4, .int x4)] [] (mm_w cI ad g ++ R)) (x1 : Int32) (x2 : Int32) (x3 : Int32) (x4 : Int32) (y1 : Int32) (y2 : Int32) (g : dl_Sg) (h : mo_fars_b118 N k35 k45 k56 x1 x2 x3 x4 y1 y2 g = some g0) : dl_At p l e (headSpec wsX12_fars { frames := 3, cells := 0, slots := 0, locals := 70 }).room s m args below meth c Q A D 6 0 0 118 [(0, .ref (ad 0)), (1, .int x1), (2, .int x2), (3, .int x3), (4, .int x4)] [.int y2, .int y1, .ref (ad 26)] (mm_w cI ad g ++ R) := by
  unfold mo_fars_b118 at h
  obtain ⟨h0, h⟩ := dl_gd_some h
  refine dl_iast (pc := 118) C 15 0 mm_a26 hTY h0 dX12_fars_118 mm_s26 ?_
  obtain ⟨g1, h, hg⟩ := dl_nm_some h
  rw [← hg]
  clear hg
  refine dl_iinc (pc := 119) C 4 (fun v2 => [(4, .int v2), (0, .ref (ad 0)), (1, .int x1), (2, .int x2), (3, .int x3)]) dX12_fars_119 rfl rfl (by decide) (fun _ => rfl) h (fun v2 h => ?_)
  refine dl_goto (pc := 122) C 56 dX12_fars_122 (by decide) ?_
  refine dl_sub [1, 2, 3, 4, 0] rfl ?_
  exact hk56 _ _ _ _ _ h
set_option maxHeartbeats 4000000 in
set_option maxRecDepth 100000 in
theorem mo_fars_t89 {p : Program} {e : Env} {s : State} {m : MethodId} {args : Array Value} {below : List Frame} {meth : Method} {c : Code} {Q : State → Prop} {A : Nat → Prop} (l : Launch) (D : va_G) (cI : ClassId) (TY : dl_TY) (hTY : TY[0]? = some (cI, .int)) (nw : List Cond) (N : Nat) (ad : Nat → Nat) (R : va_W) {g0 : dl_Sg} (C : dl_Cx p s m args c A D TY nw cX12_fars 6 yX12_fars.cls wsX12_fars) (hQ : dl_RtV p l e (headSpec wsX12_fars { frames := 3, cells := 0, slots := 0, locals := 70 }).room s m args below meth c Q A D cX12_fars 6 0 0 (fun u => u = mm_w cI ad g0 ++ R)) {k35 : Int32 → Int32 → dl_Sg → Option dl_Sg} (hk35 : ∀ (x1 : Int32) (x2 : Int32) (g : dl_Sg), k35 x1 x2 g = some g0 → dl_At p l e (headSpec wsX12_fars { frames := 3, cells := 0, slots := 0, locals := 70 }).room s m args below meth c Q A D 6 0 0 35 [(0, .ref (ad 0)), (1, .int x1), (2, .int x2)] [] (mm_w cI ad g ++ R)) {k45 : Int32 → Int32 → Int32 → dl_Sg → Option dl_Sg} (hk45 : ∀ (x1 : Int32) (x2 : Int32) (x3 : Int32) (g : dl_Sg), k45 x1 x2 x3 g = some g0 → dl_At p l e (headSpec wsX12_fars { frames := 3, cells := 0, slots := 0, locals := 70 }).room s m args below meth c Q A D 6 0 0 45 [(0, .ref (ad 0)), (1, .int x1), (2, .int x2), (3, .int x3)] [] (mm_w cI ad g ++ R)) {k56 : Int32 → Int32 → Int32 → Int32 → dl_Sg → Option dl_Sg} (hk56 : ∀ (x1 : Int32) (x2 : Int32) (x3 : Int32) (x4 : Int32) (g : dl_Sg), k56 x1 x2 x3 x4 g = some g0 → dl_At p l e (headSpec wsX12_fars { frames := 3, cells := 0, slots := 0, locals := 70 }).room s m args below meth c Q A D 6 0 0 56 [(0, .ref (ad 0)), (1, .int x1), (2, .int x2), (3, .int x3), (4, .int x4)] [] (mm_w cI ad g ++ R)) (x1 : Int32) (x2 : Int32) (x3 : Int32) (x4 : Int32) (y0 : Int32) (g : dl_Sg) (h : mo_fars_b89 N k35 k45 k56 x1 x2 x3 x4 y0 g = some g0) : dl_At p l e (headSpec wsX12_fars { frames := 3, cells := 0, slots := 0, locals := 70 }).room s m args below meth c Q A D 6 0 0 89 [(0, .ref (ad 0)), (1, .int x1), (2, .int x2), (3, .int x3), (4, .int x4)] [.int y0] (mm_w cI ad g ++ R) := by
  unfold mo_fars_b89 at h
  refine dl_istore (pc := 89) C (fun v1 => [(5, .int v1), (0, .ref (ad 0)), (1, .int x1), (2, .int x2), (3, .int x3), (4, .int x4)]) dX12_fars_89 (by decide) (fun _ => rfl) h (fun v1 h => ?_)
  refine dl_aload_n (pc := 91) C 1 dX12_fars_91 rfl rfl ?_
  refine dl_get (pc := 92) C hin_X12_fars_X12 0 mm_a0 rfl 26 (by decide) lk_X12_fars_53 rfl rfl dX12_fars_92 ?_
  refine dl_iload_n (pc := 95) C 4 dX12_fars_95 rfl rfl ?_
  refine dl_iload (pc := 96) C 0 dX12_fars_96 rfl ?_
  refine dl_aload_n (pc := 98) C 1 dX12_fars_98 rfl rfl ?_
  refine dl_get (pc := 99) C hin_X12_fars_X12 0 mm_a0 rfl 26 (by decide) lk_X12_fars_53 rfl rfl dX12_fars_99 ?_
  refine dl_iload_n (pc := 102) C 4 dX12_fars_102 rfl rfl ?_
  obtain ⟨h0, h⟩ := dl_gd_some h
  refine dl_iald (pc := 103) C 15 0 mm_a26 hTY h0 dX12_fars_103 ?_
  refine dl_icmp_ge (pc := 104) C 112 dX12_fars_104 (by decide) h (fun q2 h => ?_) (fun q2 h => ?_)
  · refine dl_aload_n (pc := 112) C 1 dX12_fars_112 rfl rfl ?_
    refine dl_get (pc := 113) C hin_X12_fars_X12 0 mm_a0 rfl 26 (by decide) lk_X12_fars_53 rfl rfl dX12_fars_113 ?_
    refine dl_iload_n (pc := 116) C 4 dX12_fars_116 rfl rfl ?_
    obtain ⟨h0, h⟩ := dl_gd_some h
    refine dl_iald (pc := 117) C 15 0 mm_a26 hTY h0 dX12_fars_117 ?_
    refine dl_sub [1, 2, 3, 4, 5] rfl ?_
    exact mo_fars_t118 l D cI TY hTY nw N ad R C hQ hk35 hk45 hk56  _ _ _ _ _ _ _ h
  · refine dl_iload (pc := 107) C 0 dX12_fars_107 rfl ?_
    refine dl_goto (pc := 109) C 118 dX12_fars_109 (by decide) ?_
    refine dl_sub [1, 2, 3, 4, 5] rfl ?_
    exact mo_fars_t118 l D cI TY hTY nw N ad R C hQ hk35 hk45 hk56  _ _ _ _ _ _ _ h
set_option maxHeartbeats 4000000 in
set_option maxRecDepth 100000 in
theorem mo_fars_t76 {p : Program} {e : Env} {s : State} {m : MethodId} {args : Array Value} {below : List Frame} {meth : Method} {c : Code} {Q : State → Prop} {A : Nat → Prop} (l : Launch) (D : va_G) (cI : ClassId) (TY : dl_TY) (hTY : TY[0]? = some (cI, .int)) (nw : List Cond) (N : Nat) (ad : Nat → Nat) (R : va_W) {g0 : dl_Sg} (C : dl_Cx p s m args c A D TY nw cX12_fars 6 yX12_fars.cls wsX12_fars) (hQ : dl_RtV p l e (headSpec wsX12_fars { frames := 3, cells := 0, slots := 0, locals := 70 }).room s m args below meth c Q A D cX12_fars 6 0 0 (fun u => u = mm_w cI ad g0 ++ R)) {k35 : Int32 → Int32 → dl_Sg → Option dl_Sg} (hk35 : ∀ (x1 : Int32) (x2 : Int32) (g : dl_Sg), k35 x1 x2 g = some g0 → dl_At p l e (headSpec wsX12_fars { frames := 3, cells := 0, slots := 0, locals := 70 }).room s m args below meth c Q A D 6 0 0 35 [(0, .ref (ad 0)), (1, .int x1), (2, .int x2)] [] (mm_w cI ad g ++ R)) {k45 : Int32 → Int32 → Int32 → dl_Sg → Option dl_Sg} (hk45 : ∀ (x1 : Int32) (x2 : Int32) (x3 : Int32) (g : dl_Sg), k45 x1 x2 x3 g = some g0 → dl_At p l e (headSpec wsX12_fars { frames := 3, cells := 0, slots := 0, locals := 70 }).room s m args below meth c Q A D 6 0 0 45 [(0, .ref (ad 0)), (1, .int x1), (2, .int x2), (3, .int x3)] [] (mm_w cI ad g ++ R)) {k56 : Int32 → Int32 → Int32 → Int32 → dl_Sg → Option dl_Sg} (hk56 : ∀ (x1 : Int32) (x2 : Int32) (x3 : Int32) (x4 : Int32) (g : dl_Sg), k56 x1 x2 x3 x4 g = some g0 → dl_At p l e (headSpec wsX12_fars { frames := 3, cells := 0, slots := 0, locals := 70 }).room s m args below meth c Q A D 6 0 0 56 [(0, .ref (ad 0)), (1, .int x1), (2, .int x2), (3, .int x3), (4, .int x4)] [] (mm_w cI ad g ++ R)) (x1 : Int32) (x2 : Int32) (x3 : Int32) (x4 : Int32) (g : dl_Sg) (h : mo_fars_b76 N k35 k45 k56 x1 x2 x3 x4 g = some g0) : dl_At p l e (headSpec wsX12_fars { frames := 3, cells := 0, slots := 0, locals := 70 }).room s m args below meth c Q A D 6 0 0 76 [(0, .ref (ad 0)), (1, .int x1), (2, .int x2), (3, .int x3), (4, .int x4)] [] (mm_w cI ad g ++ R) := by
  unfold mo_fars_b76 at h
  refine dl_ldc (pc := 76) C 100000000 (by decide +kernel) dX12_fars_76 ?_
  refine dl_goto (pc := 78) C 89 dX12_fars_78 (by decide) ?_
  refine dl_sub [0, 1, 2, 3, 4] rfl ?_
  exact mo_fars_t89 l D cI TY hTY nw N ad R C hQ hk35 hk45 hk56  _ _ _ _ _ _ h
set_option maxHeartbeats 4000000 in
set_option maxRecDepth 100000 in
theorem mo_fars_t56 {p : Program} {e : Env} {s : State} {m : MethodId} {args : Array Value} {below : List Frame} {meth : Method} {c : Code} {Q : State → Prop} {A : Nat → Prop} (l : Launch) (D : va_G) (cI : ClassId) (TY : dl_TY) (hTY : TY[0]? = some (cI, .int)) (nw : List Cond) (N : Nat) (ad : Nat → Nat) (R : va_W) {g0 : dl_Sg} (C : dl_Cx p s m args c A D TY nw cX12_fars 6 yX12_fars.cls wsX12_fars) (hQ : dl_RtV p l e (headSpec wsX12_fars { frames := 3, cells := 0, slots := 0, locals := 70 }).room s m args below meth c Q A D cX12_fars 6 0 0 (fun u => u = mm_w cI ad g0 ++ R)) {k35 : Int32 → Int32 → dl_Sg → Option dl_Sg} (hk35 : ∀ (x1 : Int32) (x2 : Int32) (g : dl_Sg), k35 x1 x2 g = some g0 → dl_At p l e (headSpec wsX12_fars { frames := 3, cells := 0, slots := 0, locals := 70 }).room s m args below meth c Q A D 6 0 0 35 [(0, .ref (ad 0)), (1, .int x1), (2, .int x2)] [] (mm_w cI ad g ++ R)) {k45 : Int32 → Int32 → Int32 → dl_Sg → Option dl_Sg} (hk45 : ∀ (x1 : Int32) (x2 : Int32) (x3 : Int32) (g : dl_Sg), k45 x1 x2 x3 g = some g0 → dl_At p l e (headSpec wsX12_fars { frames := 3, cells := 0, slots := 0, locals := 70 }).room s m args below meth c Q A D 6 0 0 45 [(0, .ref (ad 0)), (1, .int x1), (2, .int x2), (3, .int x3)] [] (mm_w cI ad g ++ R)) : ∀ (n : Nat) (x1 : Int32) (x2 : Int32) (x3 : Int32) (x4 : Int32) (g : dl_Sg), mo_fars_b56 N k35 k45 n x1 x2 x3 x4 g = some g0 → dl_At p l e (headSpec wsX12_fars { frames := 3, cells := 0, slots := 0, locals := 70 }).room s m args below meth c Q A D 6 0 0 56 [(0, .ref (ad 0)), (1, .int x1), (2, .int x2), (3, .int x3), (4, .int x4)] [] (mm_w cI ad g ++ R) := by
  intro n
  induction n with
  | zero => exact fun _ _ _ _ _ h => absurd (show (none : Option dl_Sg) = some _ from h) (by intro q; cases q)
  | succ n ih =>
    intro x1 x2 x3 x4 g h
    rw [mo_fars_b56] at h
    refine dl_iload (pc := 56) C 4 dX12_fars_56 rfl ?_
    refine dl_aload_n (pc := 58) C 0 dX12_fars_58 rfl rfl ?_
    refine dl_get (pc := 59) C hin_X12_fars_X12 0 mm_a0 rfl 0 (by decide) lk_X12_fars_69 rfl rfl dX12_fars_59 ?_
    refine dl_icmp_ge (pc := 62) C 125 dX12_fars_62 (by decide) h (fun q5 h => ?_) (fun q5 h => ?_)
    · refine dl_iinc (pc := 125) C 3 (fun v1 => [(3, .int v1), (0, .ref (ad 0)), (1, .int x1), (2, .int x2), (4, .int x4)]) dX12_fars_125 rfl rfl (by decide) (fun _ => rfl) h (fun v1 h => ?_)
      refine dl_goto (pc := 128) C 45 dX12_fars_128 (by decide) ?_
      refine dl_sub [1, 2, 3, 0] rfl ?_
      exact hk45 _ _ _ _ h
    · refine dl_iload (pc := 65) C 4 dX12_fars_65 rfl ?_
      refine dl_iload_n (pc := 67) C 3 dX12_fars_67 rfl rfl ?_
      refine dl_icmp_eq (pc := 68) C 76 dX12_fars_68 (by decide) h (fun q4 h => ?_) (fun q4 h => ?_)
      · refine dl_sub [0, 1, 2, 3, 4] rfl ?_
        exact mo_fars_t76 l D cI TY hTY nw N ad R C hQ hk35 hk45 ih  _ _ _ _ _ h
      · refine dl_iload_n (pc := 71) C 3 dX12_fars_71 rfl rfl ?_
        refine dl_iload_n (pc := 72) C 1 dX12_fars_72 rfl rfl ?_
        refine dl_icmp_ne (pc := 73) C 81 dX12_fars_73 (by decide) h (fun q3 h => ?_) (fun q3 h => ?_)
        · refine dl_sub [0, 1, 2, 3, 4] rfl ?_
          exact mo_fars_t76 l D cI TY hTY nw N ad R C hQ hk35 hk45 ih  _ _ _ _ _ h
        · refine dl_aload_n (pc := 81) C 0 dX12_fars_81 rfl rfl ?_
          refine dl_iload_n (pc := 82) C 3 dX12_fars_82 rfl rfl ?_
          refine dl_iload (pc := 83) C 4 dX12_fars_83 rfl ?_
          refine dl_iload_n (pc := 85) C 1 dX12_fars_85 rfl rfl ?_
          obtain ⟨r2, h1, h⟩ := dl_bi_some h
          refine dl_vI0 (pc := 86) C (cmo_goes l D cI TY hTY nw N ad R _ _ _ _ h1) (cwV 3 C.2.2.2.2.1 gX12_fars_X12_goes rfl rfl rfl (by decide +kernel) ⟨Nat.le_of_ble_eq_true rfl, Nat.le_of_ble_eq_true rfl⟩) 0 12 mm_a0 rfl rfl rfl (Nat.le_of_ble_eq_true rfl) dX12_fars_86 ⟨Nat.zero_le _, Nat.zero_le _⟩ (fun r u hp => ?_)
          obtain ⟨rfl, rfl⟩ := hp
          refine dl_sub [0, 1, 2, 3, 4] rfl ?_
          exact mo_fars_t89 l D cI TY hTY nw N ad R C hQ hk35 hk45 ih  _ _ _ _ _ _ h
set_option maxHeartbeats 4000000 in
set_option maxRecDepth 100000 in
theorem mo_fars_t45 {p : Program} {e : Env} {s : State} {m : MethodId} {args : Array Value} {below : List Frame} {meth : Method} {c : Code} {Q : State → Prop} {A : Nat → Prop} (l : Launch) (D : va_G) (cI : ClassId) (TY : dl_TY) (hTY : TY[0]? = some (cI, .int)) (nw : List Cond) (N : Nat) (ad : Nat → Nat) (R : va_W) {g0 : dl_Sg} (C : dl_Cx p s m args c A D TY nw cX12_fars 6 yX12_fars.cls wsX12_fars) (hQ : dl_RtV p l e (headSpec wsX12_fars { frames := 3, cells := 0, slots := 0, locals := 70 }).room s m args below meth c Q A D cX12_fars 6 0 0 (fun u => u = mm_w cI ad g0 ++ R)) {k35 : Int32 → Int32 → dl_Sg → Option dl_Sg} (hk35 : ∀ (x1 : Int32) (x2 : Int32) (g : dl_Sg), k35 x1 x2 g = some g0 → dl_At p l e (headSpec wsX12_fars { frames := 3, cells := 0, slots := 0, locals := 70 }).room s m args below meth c Q A D 6 0 0 35 [(0, .ref (ad 0)), (1, .int x1), (2, .int x2)] [] (mm_w cI ad g ++ R)) : ∀ (n : Nat) (x1 : Int32) (x2 : Int32) (x3 : Int32) (g : dl_Sg), mo_fars_b45 N k35 n x1 x2 x3 g = some g0 → dl_At p l e (headSpec wsX12_fars { frames := 3, cells := 0, slots := 0, locals := 70 }).room s m args below meth c Q A D 6 0 0 45 [(0, .ref (ad 0)), (1, .int x1), (2, .int x2), (3, .int x3)] [] (mm_w cI ad g ++ R) := by
  intro n
  induction n with
  | zero => exact fun _ _ _ _ h => absurd (show (none : Option dl_Sg) = some _ from h) (by intro q; cases q)
  | succ n ih =>
    intro x1 x2 x3 g h
    rw [mo_fars_b45] at h
    refine dl_iload_n (pc := 45) C 3 dX12_fars_45 rfl rfl ?_
    refine dl_aload_n (pc := 46) C 0 dX12_fars_46 rfl rfl ?_
    refine dl_get (pc := 47) C hin_X12_fars_X12 0 mm_a0 rfl 0 (by decide) lk_X12_fars_69 rfl rfl dX12_fars_47 ?_
    refine dl_icmp_ge (pc := 50) C 131 dX12_fars_50 (by decide) h (fun q3 h => ?_) (fun q3 h => ?_)
    · refine dl_iinc (pc := 131) C 2 (fun v1 => [(2, .int v1), (0, .ref (ad 0)), (1, .int x1), (3, .int x3)]) dX12_fars_131 rfl rfl (by decide) (fun _ => rfl) h (fun v1 h => ?_)
      refine dl_goto (pc := 134) C 35 dX12_fars_134 (by decide) ?_
      refine dl_sub [1, 2, 0] rfl ?_
      exact hk35 _ _ _ h
    · refine dl_iconst (pc := 53) C 0 dX12_fars_53 (by decide) ?_
      refine dl_istore (pc := 54) C (fun v2 => [(4, .int v2), (0, .ref (ad 0)), (1, .int x1), (2, .int x2), (3, .int x3)]) dX12_fars_54 (by decide) (fun _ => rfl) h (fun v2 h => ?_)
      refine dl_sub [1, 2, 3, 4, 0] rfl ?_
      exact mo_fars_t56 l D cI TY hTY nw N ad R C hQ hk35 ih N _ _ _ _ _ h
set_option maxHeartbeats 4000000 in
set_option maxRecDepth 100000 in
theorem mo_fars_t35 {p : Program} {e : Env} {s : State} {m : MethodId} {args : Array Value} {below : List Frame} {meth : Method} {c : Code} {Q : State → Prop} {A : Nat → Prop} (l : Launch) (D : va_G) (cI : ClassId) (TY : dl_TY) (hTY : TY[0]? = some (cI, .int)) (nw : List Cond) (N : Nat) (ad : Nat → Nat) (R : va_W) {g0 : dl_Sg} (C : dl_Cx p s m args c A D TY nw cX12_fars 6 yX12_fars.cls wsX12_fars) (hQ : dl_RtV p l e (headSpec wsX12_fars { frames := 3, cells := 0, slots := 0, locals := 70 }).room s m args below meth c Q A D cX12_fars 6 0 0 (fun u => u = mm_w cI ad g0 ++ R)) : ∀ (n : Nat) (x1 : Int32) (x2 : Int32) (g : dl_Sg), mo_fars_b35 N n x1 x2 g = some g0 → dl_At p l e (headSpec wsX12_fars { frames := 3, cells := 0, slots := 0, locals := 70 }).room s m args below meth c Q A D 6 0 0 35 [(0, .ref (ad 0)), (1, .int x1), (2, .int x2)] [] (mm_w cI ad g ++ R) := by
  intro n
  induction n with
  | zero => exact fun _ _ _ h => absurd (show (none : Option dl_Sg) = some _ from h) (by intro q; cases q)
  | succ n ih =>
    intro x1 x2 g h
    rw [mo_fars_b35] at h
    refine dl_iload_n (pc := 35) C 2 dX12_fars_35 rfl rfl ?_
    refine dl_aload_n (pc := 36) C 0 dX12_fars_36 rfl rfl ?_
    refine dl_get (pc := 37) C hin_X12_fars_X12 0 mm_a0 rfl 0 (by decide) lk_X12_fars_69 rfl rfl dX12_fars_37 ?_
    refine dl_icmp_ge (pc := 40) C 137 dX12_fars_40 (by decide) h (fun q2 h => ?_) (fun q2 h => ?_)
    · exact hQ 137 _ _ (by rw [Option.some.inj h]) dX12_fars_137
    · refine dl_iconst (pc := 43) C 0 dX12_fars_43 (by decide) ?_
      refine dl_istore_n (pc := 44) C (fun v1 => [(3, .int v1), (0, .ref (ad 0)), (1, .int x1), (2, .int x2)]) dX12_fars_44 rfl (by decide) (fun _ => rfl) h (fun v1 h => ?_)
      refine dl_sub [1, 2, 3, 0] rfl ?_
      exact mo_fars_t45 l D cI TY hTY nw N ad R C hQ ih N _ _ _ _ h
set_option maxHeartbeats 4000000 in
set_option maxRecDepth 100000 in
theorem mo_fars_t26 {p : Program} {e : Env} {s : State} {m : MethodId} {args : Array Value} {below : List Frame} {meth : Method} {c : Code} {Q : State → Prop} {A : Nat → Prop} (l : Launch) (D : va_G) (cI : ClassId) (TY : dl_TY) (hTY : TY[0]? = some (cI, .int)) (nw : List Cond) (N : Nat) (ad : Nat → Nat) (R : va_W) {g0 : dl_Sg} (C : dl_Cx p s m args c A D TY nw cX12_fars 6 yX12_fars.cls wsX12_fars) (hQ : dl_RtV p l e (headSpec wsX12_fars { frames := 3, cells := 0, slots := 0, locals := 70 }).room s m args below meth c Q A D cX12_fars 6 0 0 (fun u => u = mm_w cI ad g0 ++ R)) {k2 : Int32 → Int32 → dl_Sg → Option dl_Sg} (hk2 : ∀ (x1 : Int32) (x2 : Int32) (g : dl_Sg), k2 x1 x2 g = some g0 → dl_At p l e (headSpec wsX12_fars { frames := 3, cells := 0, slots := 0, locals := 70 }).room s m args below meth c Q A D 6 0 0 2 [(0, .ref (ad 0)), (1, .int x1), (2, .int x2)] [] (mm_w cI ad g ++ R)) (x1 : Int32) (x2 : Int32) (y1 : Int32) (y2 : Int32) (g : dl_Sg) (h : mo_fars_b26 N k2 x1 x2 y1 y2 g = some g0) : dl_At p l e (headSpec wsX12_fars { frames := 3, cells := 0, slots := 0, locals := 70 }).room s m args below meth c Q A D 6 0 0 26 [(0, .ref (ad 0)), (1, .int x1), (2, .int x2)] [.int y2, .int y1, .ref (ad 26)] (mm_w cI ad g ++ R) := by
  unfold mo_fars_b26 at h
  obtain ⟨h0, h⟩ := dl_gd_some h
  refine dl_iast (pc := 26) C 15 0 mm_a26 hTY h0 dX12_fars_26 mm_s26 ?_
  obtain ⟨g1, h, hg⟩ := dl_nm_some h
  rw [← hg]
  clear hg
  refine dl_iinc (pc := 27) C 2 (fun v2 => [(2, .int v2), (0, .ref (ad 0)), (1, .int x1)]) dX12_fars_27 rfl rfl (by decide) (fun _ => rfl) h (fun v2 h => ?_)
  refine dl_goto (pc := 30) C 2 dX12_fars_30 (by decide) ?_
  refine dl_sub [1, 2, 0] rfl ?_
  exact hk2 _ _ _ h
set_option maxHeartbeats 4000000 in
set_option maxRecDepth 100000 in
theorem mo_fars_t2 {p : Program} {e : Env} {s : State} {m : MethodId} {args : Array Value} {below : List Frame} {meth : Method} {c : Code} {Q : State → Prop} {A : Nat → Prop} (l : Launch) (D : va_G) (cI : ClassId) (TY : dl_TY) (hTY : TY[0]? = some (cI, .int)) (nw : List Cond) (N : Nat) (ad : Nat → Nat) (R : va_W) {g0 : dl_Sg} (C : dl_Cx p s m args c A D TY nw cX12_fars 6 yX12_fars.cls wsX12_fars) (hQ : dl_RtV p l e (headSpec wsX12_fars { frames := 3, cells := 0, slots := 0, locals := 70 }).room s m args below meth c Q A D cX12_fars 6 0 0 (fun u => u = mm_w cI ad g0 ++ R)) : ∀ (n : Nat) (x1 : Int32) (x2 : Int32) (g : dl_Sg), mo_fars_b2 N n x1 x2 g = some g0 → dl_At p l e (headSpec wsX12_fars { frames := 3, cells := 0, slots := 0, locals := 70 }).room s m args below meth c Q A D 6 0 0 2 [(0, .ref (ad 0)), (1, .int x1), (2, .int x2)] [] (mm_w cI ad g ++ R) := by
  intro n
  induction n with
  | zero => exact fun _ _ _ h => absurd (show (none : Option dl_Sg) = some _ from h) (by intro q; cases q)
  | succ n ih =>
    intro x1 x2 g h
    rw [mo_fars_b2] at h
    refine dl_iload_n (pc := 2) C 2 dX12_fars_2 rfl rfl ?_
    refine dl_aload_n (pc := 3) C 0 dX12_fars_3 rfl rfl ?_
    refine dl_get (pc := 4) C hin_X12_fars_X12 0 mm_a0 rfl 0 (by decide) lk_X12_fars_69 rfl rfl dX12_fars_4 ?_
    refine dl_icmp_ge (pc := 7) C 33 dX12_fars_7 (by decide) h (fun q3 h => ?_) (fun q3 h => ?_)
    · refine dl_iconst (pc := 33) C 0 dX12_fars_33 (by decide) ?_
      refine dl_istore_n (pc := 34) C (fun v1 => [(2, .int v1), (0, .ref (ad 0)), (1, .int x1)]) dX12_fars_34 rfl (by decide) (fun _ => rfl) h (fun v1 h => ?_)
      refine dl_sub [1, 2, 0] rfl ?_
      exact mo_fars_t35 l D cI TY hTY nw N ad R C hQ N _ _ _ h
    · refine dl_aload_n (pc := 10) C 0 dX12_fars_10 rfl rfl ?_
      refine dl_get (pc := 11) C hin_X12_fars_X12 0 mm_a0 rfl 26 (by decide) lk_X12_fars_53 rfl rfl dX12_fars_11 ?_
      refine dl_iload_n (pc := 14) C 2 dX12_fars_14 rfl rfl ?_
      refine dl_iload_n (pc := 15) C 2 dX12_fars_15 rfl rfl ?_
      refine dl_iload_n (pc := 16) C 1 dX12_fars_16 rfl rfl ?_
      refine dl_icmp_ne (pc := 17) C 24 dX12_fars_17 (by decide) h (fun q2 h => ?_) (fun q2 h => ?_)
      · refine dl_iconst (pc := 20) C 0 dX12_fars_20 (by decide) ?_
        refine dl_goto (pc := 21) C 26 dX12_fars_21 (by decide) ?_
        refine dl_sub [0, 1, 2] rfl ?_
        exact mo_fars_t26 l D cI TY hTY nw N ad R C hQ ih  _ _ _ _ _ h
      · refine dl_ldc (pc := 24) C 100000000 (by decide +kernel) dX12_fars_24 ?_
        refine dl_sub [0, 1, 2] rfl ?_
        exact mo_fars_t26 l D cI TY hTY nw N ad R C hQ ih  _ _ _ _ _ h
set_option maxHeartbeats 4000000 in
set_option maxRecDepth 100000 in
theorem cmo_fars (l : Launch) (D : va_G) (cI : ClassId) (TY : dl_TY) (hTY : TY[0]? = some (cI, .int)) (nw : List Cond) (N : Nat) (ad : Nat → Nat) (R : va_W) (g : dl_Sg) (x1 : Int32) {g0 : dl_Sg} (h : mo_fars N g x1 = some g0) : dl_CtV l D TY nw yX12_fars wsX12_fars { frames := 3, cells := 0, slots := 0, locals := 70 } 0 0 [.ref (ad 0), .int x1] (mm_w cI ad g ++ R) (fun u => u = mm_w cI ad g0 ++ R) := by
  refine dl_metV [(0, .ref (ad 0)), (1, .int x1)] (by decide) rfl (Nat.le_of_ble_eq_true rfl) rfl ?_
  intro p e s m args below meth c Q A C hQ
  unfold mo_fars at h
  refine dl_iconst (pc := 0) C 0 dX12_fars_0 (by decide) ?_
  refine dl_istore_n (pc := 1) C (fun v1 => [(2, .int v1), (0, .ref (ad 0)), (1, .int x1)]) dX12_fars_1 rfl (by decide) (fun _ => rfl) h (fun v1 h => ?_)
  refine dl_sub [1, 2, 0] rfl ?_
  exact mo_fars_t2 l D cI TY hTY nw N ad R C hQ N _ _ _ h
theorem hin_X12_apart0_X12 : ∀ w ∈ u_ws RX12 TX12 32, w ∈ wsX12_apart0 := fun _ h => List.mem_cons_of_mem _ (List.mem_append_right _ h)
theorem lk_X12_apart0_53 : Cond.fieldLink (yX12_apart0).cls 53 "DripLinesModel" (TX12 26).2.1 (TX12 26).2.2.1 ∈ wsX12_apart0 := by decide +kernel
set_option maxHeartbeats 4000000 in
set_option maxRecDepth 100000 in
theorem cmo_apart0 (l : Launch) (D : va_G) (cI : ClassId) (TY : dl_TY) (hTY : TY[0]? = some (cI, .int)) (nw : List Cond) (N : Nat) (ad : Nat → Nat) (R : va_W) (g : dl_Sg) (x1 : Int32) (x2 : Int32) {r0 : Int32} {g0 : dl_Sg} (h : mo_apart0 N g x1 x2 = some (r0, g0)) : dl_CtI l D TY nw yX12_apart0 wsX12_apart0 { frames := 4, cells := 0, slots := 0, locals := 95 } 0 0 [.ref (ad 0), .int x1, .int x2] (mm_w cI ad g ++ R) (fun r u => r = r0 ∧ u = mm_w cI ad g0 ++ R) := by
  refine dl_metI (ty := .int) [(0, .ref (ad 0)), (1, .int x1), (2, .int x2)] (by decide) rfl (Nat.le_of_ble_eq_true rfl) rfl ?_
  intro p e s m args below meth c Q A C hQ
  unfold mo_apart0 at h
  refine dl_aload_n (pc := 0) C 0 dX12_apart0_0 rfl rfl ?_
  refine dl_iload_n (pc := 1) C 2 dX12_apart0_1 rfl rfl ?_
  obtain ⟨g1, h1, h⟩ := dl_bi_some h
  refine dl_vV0 (pc := 2) C (cmo_fars l D cI TY hTY nw N ad R _ _ h1) (cwV 1 C.2.2.2.2.1 gX12_apart0_X12_fars rfl rfl rfl (by decide +kernel) ⟨Nat.le_of_ble_eq_true rfl, Nat.le_of_ble_eq_true rfl⟩) 0 12 mm_a0 rfl rfl rfl (Nat.le_of_ble_eq_true rfl) dX12_apart0_2 ⟨Nat.zero_le _, Nat.zero_le _⟩ (fun u hp => ?_)
  subst hp
  refine dl_aload_n (pc := 5) C 0 dX12_apart0_5 rfl rfl ?_
  refine dl_get (pc := 6) C hin_X12_apart0_X12 0 mm_a0 rfl 26 (by decide) lk_X12_apart0_53 rfl rfl dX12_apart0_6 ?_
  refine dl_iload_n (pc := 9) C 1 dX12_apart0_9 rfl rfl ?_
  obtain ⟨h0, h⟩ := dl_gd_some h
  refine dl_iald (pc := 10) C 15 0 mm_a26 hTY h0 dX12_apart0_10 ?_
  exact hQ 11 _ _ _ ⟨(dl_r2 h).1, by rw [(dl_r2 h).2]⟩ (vp_nar_int _) dX12_apart0_11
set_option maxHeartbeats 4000000 in
set_option maxRecDepth 100000 in
theorem cmo_apart (l : Launch) (D : va_G) (cI : ClassId) (TY : dl_TY) (hTY : TY[0]? = some (cI, .int)) (nw : List Cond) (N : Nat) (ad : Nat → Nat) (R : va_W) (g : dl_Sg) (x1 : Int32) (x2 : Int32) {r0 : Int32} {g0 : dl_Sg} (h : mo_apart N g x1 x2 = some (r0, g0)) : dl_CtI l D TY nw yX12_apart wsX12_apart { frames := 5, cells := 0, slots := 0, locals := 117 } 0 0 [.ref (ad 0), .int x1, .int x2] (mm_w cI ad g ++ R) (fun r u => r = r0 ∧ u = mm_w cI ad g0 ++ R) := by
  refine dl_metI (ty := .int) [(0, .ref (ad 0)), (1, .int x1), (2, .int x2)] (by decide) rfl (Nat.le_of_ble_eq_true rfl) rfl ?_
  intro p e s m args below meth c Q A C hQ
  unfold mo_apart at h
  refine dl_aload_n (pc := 0) C 0 dX12_apart_0 rfl rfl ?_
  refine dl_iload_n (pc := 1) C 1 dX12_apart_1 rfl rfl ?_
  obtain ⟨r1, h1, h⟩ := dl_bi_some h
  refine dl_vI0 (pc := 2) C (cmo_isPlace l D cI TY hTY nw ad R _ _ h1) (cwV 1 C.2.2.2.2.1 gX12_apart_X12_isPlace rfl rfl rfl (by decide +kernel) ⟨Nat.le_of_ble_eq_true rfl, Nat.le_of_ble_eq_true rfl⟩) 0 12 mm_a0 rfl rfl rfl (Nat.le_of_ble_eq_true rfl) dX12_apart_2 ⟨Nat.zero_le _, Nat.zero_le _⟩ (fun r u hp => ?_)
  obtain ⟨rfl, rfl⟩ := hp
  refine dl_if_eq (pc := 5) C 16 dX12_apart_5 (by decide) h (fun q8 h => ?_) (fun q8 h => ?_)
  · refine dl_ldc (pc := 16) C (-1000000) (by decide +kernel) dX12_apart_16 ?_
    exact hQ 18 _ _ _ ⟨(dl_r2 h).1, by rw [(dl_r2 h).2]⟩ (vp_nar_int _) dX12_apart_18
  · refine dl_aload_n (pc := 8) C 0 dX12_apart_8 rfl rfl ?_
    refine dl_iload_n (pc := 9) C 2 dX12_apart_9 rfl rfl ?_
    obtain ⟨r2, h1, h⟩ := dl_bi_some h
    refine dl_vI0 (pc := 10) C (cmo_isPlace l D cI TY hTY nw ad R _ _ h1) (cwV 1 C.2.2.2.2.1 gX12_apart_X12_isPlace rfl rfl rfl (by decide +kernel) ⟨Nat.le_of_ble_eq_true rfl, Nat.le_of_ble_eq_true rfl⟩) 0 12 mm_a0 rfl rfl rfl (Nat.le_of_ble_eq_true rfl) dX12_apart_10 ⟨Nat.zero_le _, Nat.zero_le _⟩ (fun r u hp => ?_)
    obtain ⟨rfl, rfl⟩ := hp
    refine dl_if_ne (pc := 13) C 19 dX12_apart_13 (by decide) h (fun q7 h => ?_) (fun q7 h => ?_)
    · refine dl_ldc (pc := 16) C (-1000000) (by decide +kernel) dX12_apart_16 ?_
      exact hQ 18 _ _ _ ⟨(dl_r2 h).1, by rw [(dl_r2 h).2]⟩ (vp_nar_int _) dX12_apart_18
    · refine dl_aload_n (pc := 19) C 0 dX12_apart_19 rfl rfl ?_
      refine dl_iload_n (pc := 20) C 1 dX12_apart_20 rfl rfl ?_
      refine dl_iload_n (pc := 21) C 2 dX12_apart_21 rfl rfl ?_
      obtain ⟨r3, g4, h1, h⟩ := dl_b2_some h
      refine dl_vI0 (pc := 22) C (cmo_apart0 l D cI TY hTY nw N ad R _ _ _ h1) (cwV 2 C.2.2.2.2.1 gX12_apart_X12_apart0 rfl rfl rfl (by decide +kernel) ⟨Nat.le_of_ble_eq_true rfl, Nat.le_of_ble_eq_true rfl⟩) 0 12 mm_a0 rfl rfl rfl (Nat.le_of_ble_eq_true rfl) dX12_apart_22 ⟨Nat.zero_le _, Nat.zero_le _⟩ (fun r u hp => ?_)
      obtain ⟨rfl, rfl⟩ := hp
      refine dl_istore_n (pc := 25) C (fun v5 => [(3, .int v5), (0, .ref (ad 0)), (1, .int x1), (2, .int x2)]) dX12_apart_25 rfl (by decide) (fun _ => rfl) h (fun v5 h => ?_)
      refine dl_iload_n (pc := 26) C 0 dX12_apart_26 rfl rfl ?_
      refine dl_ldc (pc := 27) C 100000000 (by decide +kernel) dX12_apart_27 ?_
      refine dl_icmp_ne (pc := 29) C 37 dX12_apart_29 (by decide) h (fun q6 h => ?_) (fun q6 h => ?_)
      · refine dl_ldc (pc := 32) C (-1000000) (by decide +kernel) dX12_apart_32 ?_
        refine dl_goto (pc := 34) C 38 dX12_apart_34 (by decide) ?_
        exact hQ 38 _ _ _ ⟨(dl_r2 h).1, by rw [(dl_r2 h).2]⟩ (vp_nar_int _) dX12_apart_38
      · refine dl_iload_n (pc := 37) C 0 dX12_apart_37 rfl rfl ?_
        exact hQ 38 _ _ _ ⟨(dl_r2 h).1, by rw [(dl_r2 h).2]⟩ (vp_nar_int _) dX12_apart_38
theorem hin_X12_way_X12 : ∀ w ∈ u_ws RX12 TX12 32, w ∈ wsX12_way := fun _ h => List.mem_cons_of_mem _ (List.mem_append_right _ h)
theorem lk_X12_way_53 : Cond.fieldLink (yX12_way).cls 53 "DripLinesModel" (TX12 26).2.1 (TX12 26).2.2.1 ∈ wsX12_way := by decide +kernel
set_option maxHeartbeats 4000000 in
set_option maxRecDepth 100000 in
theorem mo_way_t82 {p : Program} {e : Env} {s : State} {m : MethodId} {args : Array Value} {below : List Frame} {meth : Method} {c : Code} {Q : State → Prop} {A : Nat → Prop} (l : Launch) (D : va_G) (cI : ClassId) (TY : dl_TY) (hTY : TY[0]? = some (cI, .int)) (nw : List Cond) (N : Nat) (ad : Nat → Nat) (R : va_W) {r0 : Int32} {g0 : dl_Sg} (C : dl_Cx p s m args c A D TY nw cX12_way 7 yX12_way.cls wsX12_way) (hQ : dl_RtI p l e (headSpec wsX12_way { frames := 5, cells := 0, slots := 0, locals := 117 }).room s m args below meth c Q A D cX12_way 7 0 0 .int (fun r u => r = r0 ∧ u = mm_w cI ad g0 ++ R)) {k39 : Int32 → Int32 → Int32 → Int32 → dl_Sg → Option (Int32 × dl_Sg)} (hk39 : ∀ (x2 : Int32) (x3 : Int32) (x4 : Int32) (x5 : Int32) (g : dl_Sg), k39 x2 x3 x4 x5 g = some (r0, g0) → dl_At p l e (headSpec wsX12_way { frames := 5, cells := 0, slots := 0, locals := 117 }).room s m args below meth c Q A D 7 0 0 39 [(0, .ref (ad 0)), (2, .int x2), (3, .int x3), (4, .int x4), (5, .int x5)] [] (mm_w cI ad g ++ R)) {k56 : Int32 → Int32 → Int32 → Int32 → Int32 → dl_Sg → Option (Int32 × dl_Sg)} (hk56 : ∀ (x2 : Int32) (x3 : Int32) (x4 : Int32) (x5 : Int32) (x6 : Int32) (g : dl_Sg), k56 x2 x3 x4 x5 x6 g = some (r0, g0) → dl_At p l e (headSpec wsX12_way { frames := 5, cells := 0, slots := 0, locals := 117 }).room s m args below meth c Q A D 7 0 0 56 [(0, .ref (ad 0)), (2, .int x2), (3, .int x3), (4, .int x4), (5, .int x5), (6, .int x6)] [] (mm_w cI ad g ++ R)) (x2 : Int32) (x3 : Int32) (x4 : Int32) (x5 : Int32) (x6 : Int32) (g : dl_Sg) (h : mo_way_b82 N k39 k56 x2 x3 x4 x5 x6 g = some (r0, g0)) : dl_At p l e (headSpec wsX12_way { frames := 5, cells := 0, slots := 0, locals := 117 }).room s m args below meth c Q A D 7 0 0 82 [(0, .ref (ad 0)), (2, .int x2), (3, .int x3), (4, .int x4), (5, .int x5), (6, .int x6)] [] (mm_w cI ad g ++ R) := by
  unfold mo_way_b82 at h
  refine dl_iinc (pc := 82) C 5 (fun v1 => [(6, .int v1), (0, .ref (ad 0)), (2, .int x2), (3, .int x3), (4, .int x4), (5, .int x5)]) dX12_way_82 rfl rfl (by decide) (fun _ => rfl) h (fun v1 h => ?_)
  refine dl_goto (pc := 85) C 56 dX12_way_85 (by decide) ?_
  refine dl_sub [1, 2, 3, 4, 5, 0] rfl ?_
  exact hk56 _ _ _ _ _ _ h
set_option maxHeartbeats 4000000 in
set_option maxRecDepth 100000 in
theorem mo_way_t56 {p : Program} {e : Env} {s : State} {m : MethodId} {args : Array Value} {below : List Frame} {meth : Method} {c : Code} {Q : State → Prop} {A : Nat → Prop} (l : Launch) (D : va_G) (cI : ClassId) (TY : dl_TY) (hTY : TY[0]? = some (cI, .int)) (nw : List Cond) (N : Nat) (ad : Nat → Nat) (R : va_W) {r0 : Int32} {g0 : dl_Sg} (C : dl_Cx p s m args c A D TY nw cX12_way 7 yX12_way.cls wsX12_way) (hQ : dl_RtI p l e (headSpec wsX12_way { frames := 5, cells := 0, slots := 0, locals := 117 }).room s m args below meth c Q A D cX12_way 7 0 0 .int (fun r u => r = r0 ∧ u = mm_w cI ad g0 ++ R)) {k39 : Int32 → Int32 → Int32 → Int32 → dl_Sg → Option (Int32 × dl_Sg)} (hk39 : ∀ (x2 : Int32) (x3 : Int32) (x4 : Int32) (x5 : Int32) (g : dl_Sg), k39 x2 x3 x4 x5 g = some (r0, g0) → dl_At p l e (headSpec wsX12_way { frames := 5, cells := 0, slots := 0, locals := 117 }).room s m args below meth c Q A D 7 0 0 39 [(0, .ref (ad 0)), (2, .int x2), (3, .int x3), (4, .int x4), (5, .int x5)] [] (mm_w cI ad g ++ R)) : ∀ (n : Nat) (x2 : Int32) (x3 : Int32) (x4 : Int32) (x5 : Int32) (x6 : Int32) (g : dl_Sg), mo_way_b56 N k39 n x2 x3 x4 x5 x6 g = some (r0, g0) → dl_At p l e (headSpec wsX12_way { frames := 5, cells := 0, slots := 0, locals := 117 }).room s m args below meth c Q A D 7 0 0 56 [(0, .ref (ad 0)), (2, .int x2), (3, .int x3), (4, .int x4), (5, .int x5), (6, .int x6)] [] (mm_w cI ad g ++ R) := by
  intro n
  induction n with
  | zero => exact fun _ _ _ _ _ _ h => absurd (show (none : Option (Int32 × dl_Sg)) = some _ from h) (by intro q; cases q)
  | succ n ih =>
    intro x2 x3 x4 x5 x6 g h
    rw [mo_way_b56] at h
    refine dl_iload (pc := 56) C 5 dX12_way_56 rfl ?_
    refine dl_iload (pc := 58) C 3 dX12_way_58 rfl ?_
    refine dl_icmp_eq (pc := 60) C 82 dX12_way_60 (by decide) h (fun q5 h => ?_) (fun q5 h => ?_)
    · refine dl_sub [0, 1, 2, 3, 4, 5] rfl ?_
      exact mo_way_t82 l D cI TY hTY nw N ad R C hQ hk39 ih  _ _ _ _ _ _ h
    · refine dl_aload_n (pc := 63) C 0 dX12_way_63 rfl rfl ?_
      refine dl_iload (pc := 64) C 3 dX12_way_64 rfl ?_
      refine dl_iload (pc := 66) C 5 dX12_way_66 rfl ?_
      refine dl_iload_n (pc := 68) C 1 dX12_way_68 rfl rfl ?_
      obtain ⟨r1, h1, h⟩ := dl_bi_some h
      refine dl_vI0 (pc := 69) C (cmo_goes l D cI TY hTY nw N ad R _ _ _ _ h1) (cwV 3 C.2.2.2.2.1 gX12_way_X12_goes rfl rfl rfl (by decide +kernel) ⟨Nat.le_of_ble_eq_true rfl, Nat.le_of_ble_eq_true rfl⟩) 0 12 mm_a0 rfl rfl rfl (Nat.le_of_ble_eq_true rfl) dX12_way_69 ⟨Nat.zero_le _, Nat.zero_le _⟩ (fun r u hp => ?_)
      obtain ⟨rfl, rfl⟩ := hp
      refine dl_aload_n (pc := 72) C 0 dX12_way_72 rfl rfl ?_
      refine dl_get (pc := 73) C hin_X12_way_X12 0 mm_a0 rfl 26 (by decide) lk_X12_way_53 rfl rfl dX12_way_73 ?_
      refine dl_iload (pc := 76) C 3 dX12_way_76 rfl ?_
      obtain ⟨h0, h⟩ := dl_gd_some h
      refine dl_iald (pc := 78) C 15 0 mm_a26 hTY h0 dX12_way_78 ?_
      refine dl_icmp_eq (pc := 79) C 88 dX12_way_79 (by decide) h (fun q4 h => ?_) (fun q4 h => ?_)
      · refine dl_iload (pc := 88) C 5 dX12_way_88 rfl ?_
        refine dl_istore (pc := 90) C (fun v2 => [(4, .int v2), (0, .ref (ad 0)), (2, .int x2), (3, .int x3), (5, .int x5), (6, .int x6)]) dX12_way_90 (by decide) (fun _ => rfl) h (fun v2 h => ?_)
        refine dl_iinc (pc := 92) C 4 (fun v3 => [(5, .int v3), (4, .int v2), (0, .ref (ad 0)), (2, .int x2), (3, .int x3), (6, .int x6)]) dX12_way_92 rfl rfl (by decide) (fun _ => rfl) h (fun v3 h => ?_)
        refine dl_goto (pc := 95) C 39 dX12_way_95 (by decide) ?_
        refine dl_sub [2, 3, 4, 1, 0] rfl ?_
        exact hk39 _ _ _ _ _ h
      · refine dl_sub [0, 1, 2, 3, 4, 5] rfl ?_
        exact mo_way_t82 l D cI TY hTY nw N ad R C hQ hk39 ih  _ _ _ _ _ _ h
set_option maxHeartbeats 4000000 in
set_option maxRecDepth 100000 in
theorem mo_way_t39 {p : Program} {e : Env} {s : State} {m : MethodId} {args : Array Value} {below : List Frame} {meth : Method} {c : Code} {Q : State → Prop} {A : Nat → Prop} (l : Launch) (D : va_G) (cI : ClassId) (TY : dl_TY) (hTY : TY[0]? = some (cI, .int)) (nw : List Cond) (N : Nat) (ad : Nat → Nat) (R : va_W) {r0 : Int32} {g0 : dl_Sg} (C : dl_Cx p s m args c A D TY nw cX12_way 7 yX12_way.cls wsX12_way) (hQ : dl_RtI p l e (headSpec wsX12_way { frames := 5, cells := 0, slots := 0, locals := 117 }).room s m args below meth c Q A D cX12_way 7 0 0 .int (fun r u => r = r0 ∧ u = mm_w cI ad g0 ++ R)) : ∀ (n : Nat) (x2 : Int32) (x3 : Int32) (x4 : Int32) (x5 : Int32) (g : dl_Sg), mo_way_b39 N n x2 x3 x4 x5 g = some (r0, g0) → dl_At p l e (headSpec wsX12_way { frames := 5, cells := 0, slots := 0, locals := 117 }).room s m args below meth c Q A D 7 0 0 39 [(0, .ref (ad 0)), (2, .int x2), (3, .int x3), (4, .int x4), (5, .int x5)] [] (mm_w cI ad g ++ R) := by
  intro n
  induction n with
  | zero => exact fun _ _ _ _ _ h => absurd (show (none : Option (Int32 × dl_Sg)) = some _ from h) (by intro q; cases q)
  | succ n ih =>
    intro x2 x3 x4 x5 g h
    rw [mo_way_b39] at h
    refine dl_iload (pc := 39) C 4 dX12_way_39 rfl ?_
    refine dl_iload_n (pc := 41) C 2 dX12_way_41 rfl rfl ?_
    refine dl_icmp_ge (pc := 42) C 98 dX12_way_42 (by decide) h (fun q3 h => ?_) (fun q3 h => ?_)
    · refine dl_iload (pc := 98) C 3 dX12_way_98 rfl ?_
      exact hQ 100 _ _ _ ⟨(dl_r2 h).1, by rw [(dl_r2 h).2]⟩ (vp_nar_int _) dX12_way_100
    · refine dl_iload (pc := 45) C 3 dX12_way_45 rfl ?_
      refine dl_iload_n (pc := 47) C 1 dX12_way_47 rfl rfl ?_
      refine dl_icmp_ne (pc := 48) C 53 dX12_way_48 (by decide) h (fun q2 h => ?_) (fun q2 h => ?_)
      · refine dl_iconst (pc := 51) C (-1) dX12_way_51 (by decide) ?_
        exact hQ 52 _ _ _ ⟨(dl_r2 h).1, by rw [(dl_r2 h).2]⟩ (vp_nar_int _) dX12_way_52
      · refine dl_iconst (pc := 53) C 0 dX12_way_53 (by decide) ?_
        refine dl_istore (pc := 54) C (fun v1 => [(6, .int v1), (0, .ref (ad 0)), (2, .int x2), (3, .int x3), (4, .int x4), (5, .int x5)]) dX12_way_54 (by decide) (fun _ => rfl) h (fun v1 h => ?_)
        refine dl_sub [1, 2, 3, 4, 5, 0] rfl ?_
        exact mo_way_t56 l D cI TY hTY nw N ad R C hQ ih N _ _ _ _ _ _ h
set_option maxHeartbeats 4000000 in
set_option maxRecDepth 100000 in
theorem cmo_way (l : Launch) (D : va_G) (cI : ClassId) (TY : dl_TY) (hTY : TY[0]? = some (cI, .int)) (nw : List Cond) (N : Nat) (ad : Nat → Nat) (R : va_W) (g : dl_Sg) (x1 : Int32) (x2 : Int32) (x3 : Int32) {r0 : Int32} {g0 : dl_Sg} (h : mo_way N g x1 x2 x3 = some (r0, g0)) : dl_CtI l D TY nw yX12_way wsX12_way { frames := 5, cells := 0, slots := 0, locals := 117 } 0 0 [.ref (ad 0), .int x1, .int x2, .int x3] (mm_w cI ad g ++ R) (fun r u => r = r0 ∧ u = mm_w cI ad g0 ++ R) := by
  refine dl_metI (ty := .int) [(0, .ref (ad 0)), (1, .int x1), (2, .int x2), (3, .int x3)] (by decide) rfl (Nat.le_of_ble_eq_true rfl) rfl ?_
  intro p e s m args below meth c Q A C hQ
  unfold mo_way at h
  refine dl_aload_n (pc := 0) C 0 dX12_way_0 rfl rfl ?_
  refine dl_iload_n (pc := 1) C 1 dX12_way_1 rfl rfl ?_
  obtain ⟨r1, h1, h⟩ := dl_bi_some h
  refine dl_vI0 (pc := 2) C (cmo_isPlace l D cI TY hTY nw ad R _ _ h1) (cwV 1 C.2.2.2.2.1 gX12_way_X12_isPlace rfl rfl rfl (by decide +kernel) ⟨Nat.le_of_ble_eq_true rfl, Nat.le_of_ble_eq_true rfl⟩) 0 12 mm_a0 rfl rfl rfl (Nat.le_of_ble_eq_true rfl) dX12_way_2 ⟨Nat.zero_le _, Nat.zero_le _⟩ (fun r u hp => ?_)
  obtain ⟨rfl, rfl⟩ := hp
  refine dl_if_eq (pc := 5) C 31 dX12_way_5 (by decide) h (fun q10 h => ?_) (fun q10 h => ?_)
  · refine dl_iconst (pc := 31) C (-1) dX12_way_31 (by decide) ?_
    exact hQ 32 _ _ _ ⟨(dl_r2 h).1, by rw [(dl_r2 h).2]⟩ (vp_nar_int _) dX12_way_32
  · refine dl_aload_n (pc := 8) C 0 dX12_way_8 rfl rfl ?_
    refine dl_iload_n (pc := 9) C 2 dX12_way_9 rfl rfl ?_
    obtain ⟨r2, h1, h⟩ := dl_bi_some h
    refine dl_vI0 (pc := 10) C (cmo_isPlace l D cI TY hTY nw ad R _ _ h1) (cwV 1 C.2.2.2.2.1 gX12_way_X12_isPlace rfl rfl rfl (by decide +kernel) ⟨Nat.le_of_ble_eq_true rfl, Nat.le_of_ble_eq_true rfl⟩) 0 12 mm_a0 rfl rfl rfl (Nat.le_of_ble_eq_true rfl) dX12_way_10 ⟨Nat.zero_le _, Nat.zero_le _⟩ (fun r u hp => ?_)
    obtain ⟨rfl, rfl⟩ := hp
    refine dl_if_eq (pc := 13) C 31 dX12_way_13 (by decide) h (fun q9 h => ?_) (fun q9 h => ?_)
    · refine dl_iconst (pc := 31) C (-1) dX12_way_31 (by decide) ?_
      exact hQ 32 _ _ _ ⟨(dl_r2 h).1, by rw [(dl_r2 h).2]⟩ (vp_nar_int _) dX12_way_32
    · refine dl_iload_n (pc := 16) C 3 dX12_way_16 rfl rfl ?_
      refine dl_if_lt (pc := 17) C 31 dX12_way_17 (by decide) h (fun q8 h => ?_) (fun q8 h => ?_)
      · refine dl_iconst (pc := 31) C (-1) dX12_way_31 (by decide) ?_
        exact hQ 32 _ _ _ ⟨(dl_r2 h).1, by rw [(dl_r2 h).2]⟩ (vp_nar_int _) dX12_way_32
      · refine dl_aload_n (pc := 20) C 0 dX12_way_20 rfl rfl ?_
        refine dl_iload_n (pc := 21) C 1 dX12_way_21 rfl rfl ?_
        refine dl_iload_n (pc := 22) C 2 dX12_way_22 rfl rfl ?_
        obtain ⟨r3, g4, h1, h⟩ := dl_b2_some h
        refine dl_vI0 (pc := 23) C (cmo_apart0 l D cI TY hTY nw N ad R _ _ _ h1) (cwV 2 C.2.2.2.2.1 gX12_way_X12_apart0 rfl rfl rfl (by decide +kernel) ⟨Nat.le_of_ble_eq_true rfl, Nat.le_of_ble_eq_true rfl⟩) 0 12 mm_a0 rfl rfl rfl (Nat.le_of_ble_eq_true rfl) dX12_way_23 ⟨Nat.zero_le _, Nat.zero_le _⟩ (fun r u hp => ?_)
        obtain ⟨rfl, rfl⟩ := hp
        refine dl_ldc (pc := 26) C 100000000 (by decide +kernel) dX12_way_26 ?_
        refine dl_icmp_ne (pc := 28) C 33 dX12_way_28 (by decide) h (fun q7 h => ?_) (fun q7 h => ?_)
        · refine dl_iconst (pc := 31) C (-1) dX12_way_31 (by decide) ?_
          exact hQ 32 _ _ _ ⟨(dl_r2 h).1, by rw [(dl_r2 h).2]⟩ (vp_nar_int _) dX12_way_32
        · refine dl_iload_n (pc := 33) C 1 dX12_way_33 rfl rfl ?_
          refine dl_istore (pc := 34) C (fun v5 => [(4, .int v5), (0, .ref (ad 0)), (1, .int x1), (2, .int x2), (3, .int x3)]) dX12_way_34 (by decide) (fun _ => rfl) h (fun v5 h => ?_)
          refine dl_iconst (pc := 36) C 0 dX12_way_36 (by decide) ?_
          refine dl_istore (pc := 37) C (fun v6 => [(5, .int v6), (4, .int v5), (0, .ref (ad 0)), (1, .int x1), (2, .int x2), (3, .int x3)]) dX12_way_37 (by decide) (fun _ => rfl) h (fun v6 h => ?_)
          refine dl_sub [2, 4, 5, 1, 0] rfl ?_
          exact mo_way_t39 l D cI TY hTY nw N ad R C hQ N _ _ _ _ _ h
theorem hin_X12_span_X12 : ∀ w ∈ u_ws RX12 TX12 32, w ∈ wsX12_span := fun _ h => List.mem_cons_of_mem _ (List.mem_append_right _ h)
theorem lk_X12_span_53 : Cond.fieldLink (yX12_span).cls 53 "DripLinesModel" (TX12 26).2.1 (TX12 26).2.2.1 ∈ wsX12_span := by decide +kernel
theorem lk_X12_span_69 : Cond.fieldLink (yX12_span).cls 69 "DripLinesModel" (TX12 0).2.1 (TX12 0).2.2.1 ∈ wsX12_span := by decide +kernel
set_option maxHeartbeats 4000000 in
set_option maxRecDepth 100000 in
theorem mo_span_t133 {p : Program} {e : Env} {s : State} {m : MethodId} {args : Array Value} {below : List Frame} {meth : Method} {c : Code} {Q : State → Prop} {A : Nat → Prop} (l : Launch) (D : va_G) (cI : ClassId) (TY : dl_TY) (hTY : TY[0]? = some (cI, .int)) (nw : List Cond) (N : Nat) (ad : Nat → Nat) (R : va_W) {r0 : Int32} {g0 : dl_Sg} (C : dl_Cx p s m args c A D TY nw cX12_span 9 yX12_span.cls wsX12_span) (hQ : dl_RtI p l e (headSpec wsX12_span { frames := 4, cells := 0, slots := 0, locals := 95 }).room s m args below meth c Q A D cX12_span 9 0 0 .int (fun r u => r = r0 ∧ u = mm_w cI ad g0 ++ R)) {k19 : Int32 → Int32 → Int32 → dl_Sg → Option (Int32 × dl_Sg)} (hk19 : ∀ (x1 : Int32) (x2 : Int32) (x3 : Int32) (g : dl_Sg), k19 x1 x2 x3 g = some (r0, g0) → dl_At p l e (headSpec wsX12_span { frames := 4, cells := 0, slots := 0, locals := 95 }).room s m args below meth c Q A D 9 0 0 19 [(0, .ref (ad 0)), (1, .int x1), (2, .int x2), (3, .int x3)] [] (mm_w cI ad g ++ R)) {k34 : Int32 → Int32 → Int32 → Int32 → Int32 → Int32 → dl_Sg → Option (Int32 × dl_Sg)} (hk34 : ∀ (x1 : Int32) (x2 : Int32) (x3 : Int32) (x4 : Int32) (x5 : Int32) (x6 : Int32) (g : dl_Sg), k34 x1 x2 x3 x4 x5 x6 g = some (r0, g0) → dl_At p l e (headSpec wsX12_span { frames := 4, cells := 0, slots := 0, locals := 95 }).room s m args below meth c Q A D 9 0 0 34 [(0, .ref (ad 0)), (1, .int x1), (2, .int x2), (3, .int x3), (4, .int x4), (5, .int x5), (6, .int x6)] [] (mm_w cI ad g ++ R)) {k52 : Int32 → Int32 → Int32 → Int32 → Int32 → Int32 → Int32 → dl_Sg → Option (Int32 × dl_Sg)} (hk52 : ∀ (x1 : Int32) (x2 : Int32) (x3 : Int32) (x4 : Int32) (x5 : Int32) (x6 : Int32) (x7 : Int32) (g : dl_Sg), k52 x1 x2 x3 x4 x5 x6 x7 g = some (r0, g0) → dl_At p l e (headSpec wsX12_span { frames := 4, cells := 0, slots := 0, locals := 95 }).room s m args below meth c Q A D 9 0 0 52 [(0, .ref (ad 0)), (1, .int x1), (2, .int x2), (3, .int x3), (4, .int x4), (5, .int x5), (6, .int x6), (7, .int x7)] [] (mm_w cI ad g ++ R)) (x1 : Int32) (x2 : Int32) (x3 : Int32) (x4 : Int32) (x6 : Int32) (x7 : Int32) (y0 : Int32) (g : dl_Sg) (h : mo_span_b133 N k19 k34 k52 x1 x2 x3 x4 x6 x7 y0 g = some (r0, g0)) : dl_At p l e (headSpec wsX12_span { frames := 4, cells := 0, slots := 0, locals := 95 }).room s m args below meth c Q A D 9 0 0 133 [(0, .ref (ad 0)), (1, .int x1), (2, .int x2), (3, .int x3), (4, .int x4), (6, .int x6), (7, .int x7)] [.int y0] (mm_w cI ad g ++ R) := by
  unfold mo_span_b133 at h
  refine dl_istore (pc := 133) C (fun v1 => [(5, .int v1), (0, .ref (ad 0)), (1, .int x1), (2, .int x2), (3, .int x3), (4, .int x4), (6, .int x6), (7, .int x7)]) dX12_span_133 (by decide) (fun _ => rfl) h (fun v1 h => ?_)
  refine dl_iinc (pc := 135) C 7 (fun v2 => [(7, .int v2), (5, .int v1), (0, .ref (ad 0)), (1, .int x1), (2, .int x2), (3, .int x3), (4, .int x4), (6, .int x6)]) dX12_span_135 rfl rfl (by decide) (fun _ => rfl) h (fun v2 h => ?_)
  refine dl_goto (pc := 138) C 52 dX12_span_138 (by decide) ?_
  refine dl_sub [2, 3, 4, 5, 6, 1, 7, 0] rfl ?_
  exact hk52 _ _ _ _ _ _ _ _ h
set_option maxHeartbeats 4000000 in
set_option maxRecDepth 100000 in
theorem mo_span_t119 {p : Program} {e : Env} {s : State} {m : MethodId} {args : Array Value} {below : List Frame} {meth : Method} {c : Code} {Q : State → Prop} {A : Nat → Prop} (l : Launch) (D : va_G) (cI : ClassId) (TY : dl_TY) (hTY : TY[0]? = some (cI, .int)) (nw : List Cond) (N : Nat) (ad : Nat → Nat) (R : va_W) {r0 : Int32} {g0 : dl_Sg} (C : dl_Cx p s m args c A D TY nw cX12_span 9 yX12_span.cls wsX12_span) (hQ : dl_RtI p l e (headSpec wsX12_span { frames := 4, cells := 0, slots := 0, locals := 95 }).room s m args below meth c Q A D cX12_span 9 0 0 .int (fun r u => r = r0 ∧ u = mm_w cI ad g0 ++ R)) {k19 : Int32 → Int32 → Int32 → dl_Sg → Option (Int32 × dl_Sg)} (hk19 : ∀ (x1 : Int32) (x2 : Int32) (x3 : Int32) (g : dl_Sg), k19 x1 x2 x3 g = some (r0, g0) → dl_At p l e (headSpec wsX12_span { frames := 4, cells := 0, slots := 0, locals := 95 }).room s m args below meth c Q A D 9 0 0 19 [(0, .ref (ad 0)), (1, .int x1), (2, .int x2), (3, .int x3)] [] (mm_w cI ad g ++ R)) {k34 : Int32 → Int32 → Int32 → Int32 → Int32 → Int32 → dl_Sg → Option (Int32 × dl_Sg)} (hk34 : ∀ (x1 : Int32) (x2 : Int32) (x3 : Int32) (x4 : Int32) (x5 : Int32) (x6 : Int32) (g : dl_Sg), k34 x1 x2 x3 x4 x5 x6 g = some (r0, g0) → dl_At p l e (headSpec wsX12_span { frames := 4, cells := 0, slots := 0, locals := 95 }).room s m args below meth c Q A D 9 0 0 34 [(0, .ref (ad 0)), (1, .int x1), (2, .int x2), (3, .int x3), (4, .int x4), (5, .int x5), (6, .int x6)] [] (mm_w cI ad g ++ R)) {k52 : Int32 → Int32 → Int32 → Int32 → Int32 → Int32 → Int32 → dl_Sg → Option (Int32 × dl_Sg)} (hk52 : ∀ (x1 : Int32) (x2 : Int32) (x3 : Int32) (x4 : Int32) (x5 : Int32) (x6 : Int32) (x7 : Int32) (g : dl_Sg), k52 x1 x2 x3 x4 x5 x6 x7 g = some (r0, g0) → dl_At p l e (headSpec wsX12_span { frames := 4, cells := 0, slots := 0, locals := 95 }).room s m args below meth c Q A D 9 0 0 52 [(0, .ref (ad 0)), (1, .int x1), (2, .int x2), (3, .int x3), (4, .int x4), (5, .int x5), (6, .int x6), (7, .int x7)] [] (mm_w cI ad g ++ R)) (x1 : Int32) (x2 : Int32) (x3 : Int32) (x5 : Int32) (x6 : Int32) (x7 : Int32) (x8 : Int32) (y0 : Int32) (g : dl_Sg) (h : mo_span_b119 N k19 k34 k52 x1 x2 x3 x5 x6 x7 x8 y0 g = some (r0, g0)) : dl_At p l e (headSpec wsX12_span { frames := 4, cells := 0, slots := 0, locals := 95 }).room s m args below meth c Q A D 9 0 0 119 [(0, .ref (ad 0)), (1, .int x1), (2, .int x2), (3, .int x3), (5, .int x5), (6, .int x6), (7, .int x7), (8, .int x8)] [.int y0] (mm_w cI ad g ++ R) := by
  unfold mo_span_b119 at h
  refine dl_istore (pc := 119) C (fun v1 => [(4, .int v1), (0, .ref (ad 0)), (1, .int x1), (2, .int x2), (3, .int x3), (5, .int x5), (6, .int x6), (7, .int x7), (8, .int x8)]) dX12_span_119 (by decide) (fun _ => rfl) h (fun v1 h => ?_)
  refine dl_iload (pc := 121) C 8 dX12_span_121 rfl ?_
  refine dl_if_eq (pc := 123) C 131 dX12_span_123 (by decide) h (fun q2 h => ?_) (fun q2 h => ?_)
  · refine dl_iload (pc := 131) C 5 dX12_span_131 rfl ?_
    refine dl_sub [1, 2, 3, 4, 0, 6, 7] rfl ?_
    exact mo_span_t133 l D cI TY hTY nw N ad R C hQ hk19 hk34 hk52  _ _ _ _ _ _ _ _ h
  · refine dl_iload (pc := 126) C 7 dX12_span_126 rfl ?_
    refine dl_goto (pc := 128) C 133 dX12_span_128 (by decide) ?_
    refine dl_sub [1, 2, 3, 4, 0, 6, 7] rfl ?_
    exact mo_span_t133 l D cI TY hTY nw N ad R C hQ hk19 hk34 hk52  _ _ _ _ _ _ _ _ h
set_option maxHeartbeats 4000000 in
set_option maxRecDepth 100000 in
theorem mo_span_t100 {p : Program} {e : Env} {s : State} {m : MethodId} {args : Array Value} {below : List Frame} {meth : Method} {c : Code} {Q : State → Prop} {A : Nat → Prop} (l : Launch) (D : va_G) (cI : ClassId) (TY : dl_TY) (hTY : TY[0]? = some (cI, .int)) (nw : List Cond) (N : Nat) (ad : Nat → Nat) (R : va_W) {r0 : Int32} {g0 : dl_Sg} (C : dl_Cx p s m args c A D TY nw cX12_span 9 yX12_span.cls wsX12_span) (hQ : dl_RtI p l e (headSpec wsX12_span { frames := 4, cells := 0, slots := 0, locals := 95 }).room s m args below meth c Q A D cX12_span 9 0 0 .int (fun r u => r = r0 ∧ u = mm_w cI ad g0 ++ R)) {k19 : Int32 → Int32 → Int32 → dl_Sg → Option (Int32 × dl_Sg)} (hk19 : ∀ (x1 : Int32) (x2 : Int32) (x3 : Int32) (g : dl_Sg), k19 x1 x2 x3 g = some (r0, g0) → dl_At p l e (headSpec wsX12_span { frames := 4, cells := 0, slots := 0, locals := 95 }).room s m args below meth c Q A D 9 0 0 19 [(0, .ref (ad 0)), (1, .int x1), (2, .int x2), (3, .int x3)] [] (mm_w cI ad g ++ R)) {k34 : Int32 → Int32 → Int32 → Int32 → Int32 → Int32 → dl_Sg → Option (Int32 × dl_Sg)} (hk34 : ∀ (x1 : Int32) (x2 : Int32) (x3 : Int32) (x4 : Int32) (x5 : Int32) (x6 : Int32) (g : dl_Sg), k34 x1 x2 x3 x4 x5 x6 g = some (r0, g0) → dl_At p l e (headSpec wsX12_span { frames := 4, cells := 0, slots := 0, locals := 95 }).room s m args below meth c Q A D 9 0 0 34 [(0, .ref (ad 0)), (1, .int x1), (2, .int x2), (3, .int x3), (4, .int x4), (5, .int x5), (6, .int x6)] [] (mm_w cI ad g ++ R)) {k52 : Int32 → Int32 → Int32 → Int32 → Int32 → Int32 → Int32 → dl_Sg → Option (Int32 × dl_Sg)} (hk52 : ∀ (x1 : Int32) (x2 : Int32) (x3 : Int32) (x4 : Int32) (x5 : Int32) (x6 : Int32) (x7 : Int32) (g : dl_Sg), k52 x1 x2 x3 x4 x5 x6 x7 g = some (r0, g0) → dl_At p l e (headSpec wsX12_span { frames := 4, cells := 0, slots := 0, locals := 95 }).room s m args below meth c Q A D 9 0 0 52 [(0, .ref (ad 0)), (1, .int x1), (2, .int x2), (3, .int x3), (4, .int x4), (5, .int x5), (6, .int x6), (7, .int x7)] [] (mm_w cI ad g ++ R)) (x1 : Int32) (x2 : Int32) (x3 : Int32) (x4 : Int32) (x5 : Int32) (x6 : Int32) (x7 : Int32) (y0 : Int32) (g : dl_Sg) (h : mo_span_b100 N k19 k34 k52 x1 x2 x3 x4 x5 x6 x7 y0 g = some (r0, g0)) : dl_At p l e (headSpec wsX12_span { frames := 4, cells := 0, slots := 0, locals := 95 }).room s m args below meth c Q A D 9 0 0 100 [(0, .ref (ad 0)), (1, .int x1), (2, .int x2), (3, .int x3), (4, .int x4), (5, .int x5), (6, .int x6), (7, .int x7)] [.int y0] (mm_w cI ad g ++ R) := by
  unfold mo_span_b100 at h
  refine dl_istore (pc := 100) C (fun v1 => [(8, .int v1), (0, .ref (ad 0)), (1, .int x1), (2, .int x2), (3, .int x3), (4, .int x4), (5, .int x5), (6, .int x6), (7, .int x7)]) dX12_span_100 (by decide) (fun _ => rfl) h (fun v1 h => ?_)
  refine dl_iload (pc := 102) C 0 dX12_span_102 rfl ?_
  refine dl_if_eq (pc := 104) C 117 dX12_span_104 (by decide) h (fun q2 h => ?_) (fun q2 h => ?_)
  · refine dl_iload (pc := 117) C 5 dX12_span_117 rfl ?_
    refine dl_sub [1, 2, 3, 4, 6, 7, 8, 0] rfl ?_
    exact mo_span_t119 l D cI TY hTY nw N ad R C hQ hk19 hk34 hk52  _ _ _ _ _ _ _ _ _ h
  · refine dl_aload_n (pc := 107) C 1 dX12_span_107 rfl rfl ?_
    refine dl_get (pc := 108) C hin_X12_span_X12 0 mm_a0 rfl 26 (by decide) lk_X12_span_53 rfl rfl dX12_span_108 ?_
    refine dl_iload (pc := 111) C 8 dX12_span_111 rfl ?_
    obtain ⟨h0, h⟩ := dl_gd_some h
    refine dl_iald (pc := 113) C 15 0 mm_a26 hTY h0 dX12_span_113 ?_
    refine dl_goto (pc := 114) C 119 dX12_span_114 (by decide) ?_
    refine dl_sub [1, 2, 3, 4, 6, 7, 8, 0] rfl ?_
    exact mo_span_t119 l D cI TY hTY nw N ad R C hQ hk19 hk34 hk52  _ _ _ _ _ _ _ _ _ h
set_option maxHeartbeats 4000000 in
set_option maxRecDepth 100000 in
theorem mo_span_t99 {p : Program} {e : Env} {s : State} {m : MethodId} {args : Array Value} {below : List Frame} {meth : Method} {c : Code} {Q : State → Prop} {A : Nat → Prop} (l : Launch) (D : va_G) (cI : ClassId) (TY : dl_TY) (hTY : TY[0]? = some (cI, .int)) (nw : List Cond) (N : Nat) (ad : Nat → Nat) (R : va_W) {r0 : Int32} {g0 : dl_Sg} (C : dl_Cx p s m args c A D TY nw cX12_span 9 yX12_span.cls wsX12_span) (hQ : dl_RtI p l e (headSpec wsX12_span { frames := 4, cells := 0, slots := 0, locals := 95 }).room s m args below meth c Q A D cX12_span 9 0 0 .int (fun r u => r = r0 ∧ u = mm_w cI ad g0 ++ R)) {k19 : Int32 → Int32 → Int32 → dl_Sg → Option (Int32 × dl_Sg)} (hk19 : ∀ (x1 : Int32) (x2 : Int32) (x3 : Int32) (g : dl_Sg), k19 x1 x2 x3 g = some (r0, g0) → dl_At p l e (headSpec wsX12_span { frames := 4, cells := 0, slots := 0, locals := 95 }).room s m args below meth c Q A D 9 0 0 19 [(0, .ref (ad 0)), (1, .int x1), (2, .int x2), (3, .int x3)] [] (mm_w cI ad g ++ R)) {k34 : Int32 → Int32 → Int32 → Int32 → Int32 → Int32 → dl_Sg → Option (Int32 × dl_Sg)} (hk34 : ∀ (x1 : Int32) (x2 : Int32) (x3 : Int32) (x4 : Int32) (x5 : Int32) (x6 : Int32) (g : dl_Sg), k34 x1 x2 x3 x4 x5 x6 g = some (r0, g0) → dl_At p l e (headSpec wsX12_span { frames := 4, cells := 0, slots := 0, locals := 95 }).room s m args below meth c Q A D 9 0 0 34 [(0, .ref (ad 0)), (1, .int x1), (2, .int x2), (3, .int x3), (4, .int x4), (5, .int x5), (6, .int x6)] [] (mm_w cI ad g ++ R)) {k52 : Int32 → Int32 → Int32 → Int32 → Int32 → Int32 → Int32 → dl_Sg → Option (Int32 × dl_Sg)} (hk52 : ∀ (x1 : Int32) (x2 : Int32) (x3 : Int32) (x4 : Int32) (x5 : Int32) (x6 : Int32) (x7 : Int32) (g : dl_Sg), k52 x1 x2 x3 x4 x5 x6 x7 g = some (r0, g0) → dl_At p l e (headSpec wsX12_span { frames := 4, cells := 0, slots := 0, locals := 95 }).room s m args below meth c Q A D 9 0 0 52 [(0, .ref (ad 0)), (1, .int x1), (2, .int x2), (3, .int x3), (4, .int x4), (5, .int x5), (6, .int x6), (7, .int x7)] [] (mm_w cI ad g ++ R)) (x1 : Int32) (x2 : Int32) (x3 : Int32) (x4 : Int32) (x5 : Int32) (x6 : Int32) (x7 : Int32) (g : dl_Sg) (h : mo_span_b99 N k19 k34 k52 x1 x2 x3 x4 x5 x6 x7 g = some (r0, g0)) : dl_At p l e (headSpec wsX12_span { frames := 4, cells := 0, slots := 0, locals := 95 }).room s m args below meth c Q A D 9 0 0 99 [(0, .ref (ad 0)), (1, .int x1), (2, .int x2), (3, .int x3), (4, .int x4), (5, .int x5), (6, .int x6), (7, .int x7)] [] (mm_w cI ad g ++ R) := by
  unfold mo_span_b99 at h
  refine dl_iconst (pc := 99) C 0 dX12_span_99 (by decide) ?_
  refine dl_sub [0, 1, 2, 3, 4, 5, 6, 7] rfl ?_
  exact mo_span_t100 l D cI TY hTY nw N ad R C hQ hk19 hk34 hk52  _ _ _ _ _ _ _ _ _ h
set_option maxHeartbeats 4000000 in
set_option maxRecDepth 100000 in
theorem mo_span_t52 {p : Program} {e : Env} {s : State} {m : MethodId} {args : Array Value} {below : List Frame} {meth : Method} {c : Code} {Q : State → Prop} {A : Nat → Prop} (l : Launch) (D : va_G) (cI : ClassId) (TY : dl_TY) (hTY : TY[0]? = some (cI, .int)) (nw : List Cond) (N : Nat) (ad : Nat → Nat) (R : va_W) {r0 : Int32} {g0 : dl_Sg} (C : dl_Cx p s m args c A D TY nw cX12_span 9 yX12_span.cls wsX12_span) (hQ : dl_RtI p l e (headSpec wsX12_span { frames := 4, cells := 0, slots := 0, locals := 95 }).room s m args below meth c Q A D cX12_span 9 0 0 .int (fun r u => r = r0 ∧ u = mm_w cI ad g0 ++ R)) {k19 : Int32 → Int32 → Int32 → dl_Sg → Option (Int32 × dl_Sg)} (hk19 : ∀ (x1 : Int32) (x2 : Int32) (x3 : Int32) (g : dl_Sg), k19 x1 x2 x3 g = some (r0, g0) → dl_At p l e (headSpec wsX12_span { frames := 4, cells := 0, slots := 0, locals := 95 }).room s m args below meth c Q A D 9 0 0 19 [(0, .ref (ad 0)), (1, .int x1), (2, .int x2), (3, .int x3)] [] (mm_w cI ad g ++ R)) {k34 : Int32 → Int32 → Int32 → Int32 → Int32 → Int32 → dl_Sg → Option (Int32 × dl_Sg)} (hk34 : ∀ (x1 : Int32) (x2 : Int32) (x3 : Int32) (x4 : Int32) (x5 : Int32) (x6 : Int32) (g : dl_Sg), k34 x1 x2 x3 x4 x5 x6 g = some (r0, g0) → dl_At p l e (headSpec wsX12_span { frames := 4, cells := 0, slots := 0, locals := 95 }).room s m args below meth c Q A D 9 0 0 34 [(0, .ref (ad 0)), (1, .int x1), (2, .int x2), (3, .int x3), (4, .int x4), (5, .int x5), (6, .int x6)] [] (mm_w cI ad g ++ R)) : ∀ (n : Nat) (x1 : Int32) (x2 : Int32) (x3 : Int32) (x4 : Int32) (x5 : Int32) (x6 : Int32) (x7 : Int32) (g : dl_Sg), mo_span_b52 N k19 k34 n x1 x2 x3 x4 x5 x6 x7 g = some (r0, g0) → dl_At p l e (headSpec wsX12_span { frames := 4, cells := 0, slots := 0, locals := 95 }).room s m args below meth c Q A D 9 0 0 52 [(0, .ref (ad 0)), (1, .int x1), (2, .int x2), (3, .int x3), (4, .int x4), (5, .int x5), (6, .int x6), (7, .int x7)] [] (mm_w cI ad g ++ R) := by
  intro n
  induction n with
  | zero => exact fun _ _ _ _ _ _ _ _ h => absurd (show (none : Option (Int32 × dl_Sg)) = some _ from h) (by intro q; cases q)
  | succ n ih =>
    intro x1 x2 x3 x4 x5 x6 x7 g h
    rw [mo_span_b52] at h
    refine dl_iload (pc := 52) C 7 dX12_span_52 rfl ?_
    refine dl_aload_n (pc := 54) C 0 dX12_span_54 rfl rfl ?_
    refine dl_get (pc := 55) C hin_X12_span_X12 0 mm_a0 rfl 0 (by decide) lk_X12_span_69 rfl rfl dX12_span_55 ?_
    refine dl_icmp_ge (pc := 58) C 141 dX12_span_58 (by decide) h (fun q7 h => ?_) (fun q7 h => ?_)
    · refine dl_iinc (pc := 141) C 6 (fun v1 => [(6, .int v1), (0, .ref (ad 0)), (1, .int x1), (2, .int x2), (3, .int x3), (4, .int x4), (5, .int x5), (7, .int x7)]) dX12_span_141 rfl rfl (by decide) (fun _ => rfl) h (fun v1 h => ?_)
      refine dl_goto (pc := 144) C 34 dX12_span_144 (by decide) ?_
      refine dl_sub [1, 2, 3, 4, 5, 6, 0] rfl ?_
      exact hk34 _ _ _ _ _ _ _ h
    · refine dl_iload_n (pc := 61) C 1 dX12_span_61 rfl rfl ?_
      refine dl_iload_n (pc := 62) C 2 dX12_span_62 rfl rfl ?_
      refine dl_iconst (pc := 63) C (-1) dX12_span_63 (by decide) ?_
      refine dl_ixor (pc := 64) C dX12_span_64 ?_
      refine dl_iand (pc := 65) C dX12_span_65 ?_
      refine dl_iload (pc := 66) C 7 dX12_span_66 rfl ?_
      obtain ⟨r2, h1, h⟩ := dl_bi_some h
      refine dl_sI0 (pc := 68) C (cmo_has l D TY nw _ _ _ h1) (va_cwS 2 C.2.2.2.2.1 gX12_span_X12_has rfl rfl rfl (by decide +kernel) ⟨Nat.le_of_ble_eq_true rfl, Nat.le_of_ble_eq_true rfl⟩) rfl rfl (Nat.le_of_ble_eq_true rfl) dX12_span_68 ⟨Nat.zero_le _, Nat.zero_le _⟩ (fun r u hp => ?_)
      obtain ⟨rfl, hu⟩ := hp
      rw [hu]
      clear hu
      refine dl_if_eq (pc := 71) C 99 dX12_span_71 (by decide) h (fun q6 h => ?_) (fun q6 h => ?_)
      · refine dl_sub [0, 1, 2, 3, 4, 5, 6, 7] rfl ?_
        exact mo_span_t99 l D cI TY hTY nw N ad R C hQ hk19 hk34 ih  _ _ _ _ _ _ _ _ h
      · refine dl_iload_n (pc := 74) C 2 dX12_span_74 rfl rfl ?_
        refine dl_iload (pc := 75) C 6 dX12_span_75 rfl ?_
        obtain ⟨r3, h1, h⟩ := dl_bi_some h
        refine dl_sI0 (pc := 77) C (cmo_has l D TY nw _ _ _ h1) (va_cwS 2 C.2.2.2.2.1 gX12_span_X12_has rfl rfl rfl (by decide +kernel) ⟨Nat.le_of_ble_eq_true rfl, Nat.le_of_ble_eq_true rfl⟩) rfl rfl (Nat.le_of_ble_eq_true rfl) dX12_span_77 ⟨Nat.zero_le _, Nat.zero_le _⟩ (fun r u hp => ?_)
        obtain ⟨rfl, hu⟩ := hp
        rw [hu]
        clear hu
        refine dl_if_eq (pc := 80) C 99 dX12_span_80 (by decide) h (fun q5 h => ?_) (fun q5 h => ?_)
        · refine dl_sub [0, 1, 2, 3, 4, 5, 6, 7] rfl ?_
          exact mo_span_t99 l D cI TY hTY nw N ad R C hQ hk19 hk34 ih  _ _ _ _ _ _ _ _ h
        · refine dl_aload_n (pc := 83) C 0 dX12_span_83 rfl rfl ?_
          refine dl_get (pc := 84) C hin_X12_span_X12 0 mm_a0 rfl 26 (by decide) lk_X12_span_53 rfl rfl dX12_span_84 ?_
          refine dl_iload (pc := 87) C 7 dX12_span_87 rfl ?_
          obtain ⟨h0, h⟩ := dl_gd_some h
          refine dl_iald (pc := 89) C 15 0 mm_a26 hTY h0 dX12_span_89 ?_
          refine dl_iload (pc := 90) C 4 dX12_span_90 rfl ?_
          refine dl_icmp_ge (pc := 92) C 99 dX12_span_92 (by decide) h (fun q4 h => ?_) (fun q4 h => ?_)
          · refine dl_sub [0, 1, 2, 3, 4, 5, 6, 7] rfl ?_
            exact mo_span_t99 l D cI TY hTY nw N ad R C hQ hk19 hk34 ih  _ _ _ _ _ _ _ _ h
          · refine dl_iconst (pc := 95) C 1 dX12_span_95 (by decide) ?_
            refine dl_goto (pc := 96) C 100 dX12_span_96 (by decide) ?_
            refine dl_sub [0, 1, 2, 3, 4, 5, 6, 7] rfl ?_
            exact mo_span_t100 l D cI TY hTY nw N ad R C hQ hk19 hk34 ih  _ _ _ _ _ _ _ _ _ h
set_option maxHeartbeats 4000000 in
set_option maxRecDepth 100000 in
theorem mo_span_t34 {p : Program} {e : Env} {s : State} {m : MethodId} {args : Array Value} {below : List Frame} {meth : Method} {c : Code} {Q : State → Prop} {A : Nat → Prop} (l : Launch) (D : va_G) (cI : ClassId) (TY : dl_TY) (hTY : TY[0]? = some (cI, .int)) (nw : List Cond) (N : Nat) (ad : Nat → Nat) (R : va_W) {r0 : Int32} {g0 : dl_Sg} (C : dl_Cx p s m args c A D TY nw cX12_span 9 yX12_span.cls wsX12_span) (hQ : dl_RtI p l e (headSpec wsX12_span { frames := 4, cells := 0, slots := 0, locals := 95 }).room s m args below meth c Q A D cX12_span 9 0 0 .int (fun r u => r = r0 ∧ u = mm_w cI ad g0 ++ R)) {k19 : Int32 → Int32 → Int32 → dl_Sg → Option (Int32 × dl_Sg)} (hk19 : ∀ (x1 : Int32) (x2 : Int32) (x3 : Int32) (g : dl_Sg), k19 x1 x2 x3 g = some (r0, g0) → dl_At p l e (headSpec wsX12_span { frames := 4, cells := 0, slots := 0, locals := 95 }).room s m args below meth c Q A D 9 0 0 19 [(0, .ref (ad 0)), (1, .int x1), (2, .int x2), (3, .int x3)] [] (mm_w cI ad g ++ R)) : ∀ (n : Nat) (x1 : Int32) (x2 : Int32) (x3 : Int32) (x4 : Int32) (x5 : Int32) (x6 : Int32) (g : dl_Sg), mo_span_b34 N k19 n x1 x2 x3 x4 x5 x6 g = some (r0, g0) → dl_At p l e (headSpec wsX12_span { frames := 4, cells := 0, slots := 0, locals := 95 }).room s m args below meth c Q A D 9 0 0 34 [(0, .ref (ad 0)), (1, .int x1), (2, .int x2), (3, .int x3), (4, .int x4), (5, .int x5), (6, .int x6)] [] (mm_w cI ad g ++ R) := by
  intro n
  induction n with
  | zero => exact fun _ _ _ _ _ _ _ h => absurd (show (none : Option (Int32 × dl_Sg)) = some _ from h) (by intro q; cases q)
  | succ n ih =>
    intro x1 x2 x3 x4 x5 x6 g h
    rw [mo_span_b34] at h
    refine dl_iload (pc := 34) C 6 dX12_span_34 rfl ?_
    refine dl_aload_n (pc := 36) C 0 dX12_span_36 rfl rfl ?_
    refine dl_get (pc := 37) C hin_X12_span_X12 0 mm_a0 rfl 0 (by decide) lk_X12_span_69 rfl rfl dX12_span_37 ?_
    refine dl_icmp_ge (pc := 40) C 147 dX12_span_40 (by decide) h (fun q6 h => ?_) (fun q6 h => ?_)
    · refine dl_iload (pc := 147) C 5 dX12_span_147 rfl ?_
      refine dl_iconst (pc := 149) C (-1) dX12_span_149 (by decide) ?_
      refine dl_icmp_ne (pc := 150) C 156 dX12_span_150 (by decide) h (fun q3 h => ?_) (fun q3 h => ?_)
      · refine dl_ldc (pc := 153) C (-1000000) (by decide +kernel) dX12_span_153 ?_
        exact hQ 155 _ _ _ ⟨(dl_r2 h).1, by rw [(dl_r2 h).2]⟩ (vp_nar_int _) dX12_span_155
      · refine dl_iload_n (pc := 156) C 2 dX12_span_156 rfl rfl ?_
        refine dl_iconst (pc := 157) C 1 dX12_span_157 (by decide) ?_
        refine dl_iload (pc := 158) C 5 dX12_span_158 rfl ?_
        refine dl_ishl (pc := 160) C dX12_span_160 ?_
        refine dl_ior (pc := 161) C dX12_span_161 ?_
        refine dl_istore_n (pc := 162) C (fun v1 => [(2, .int v1), (0, .ref (ad 0)), (1, .int x1), (3, .int x3), (4, .int x4), (5, .int x5), (6, .int x6)]) dX12_span_162 rfl (by decide) (fun _ => rfl) h (fun v1 h => ?_)
        refine dl_iload_n (pc := 163) C 3 dX12_span_163 rfl rfl ?_
        refine dl_iload (pc := 164) C 4 dX12_span_164 rfl ?_
        refine dl_iadd (pc := 166) C dX12_span_166 ?_
        refine dl_istore_n (pc := 167) C (fun v2 => [(3, .int v2), (2, .int v1), (0, .ref (ad 0)), (1, .int x1), (4, .int x4), (5, .int x5), (6, .int x6)]) dX12_span_167 rfl (by decide) (fun _ => rfl) h (fun v2 h => ?_)
        refine dl_goto (pc := 168) C 19 dX12_span_168 (by decide) ?_
        refine dl_sub [2, 3, 1, 0] rfl ?_
        exact hk19 _ _ _ _ h
    · refine dl_aload_n (pc := 43) C 0 dX12_span_43 rfl rfl ?_
      refine dl_iload (pc := 44) C 6 dX12_span_44 rfl ?_
      obtain ⟨g4, h1, h⟩ := dl_bi_some h
      refine dl_vV0 (pc := 46) C (cmo_fars l D cI TY hTY nw N ad R _ _ h1) (cwV 1 C.2.2.2.2.1 gX12_span_X12_fars rfl rfl rfl (by decide +kernel) ⟨Nat.le_of_ble_eq_true rfl, Nat.le_of_ble_eq_true rfl⟩) 0 12 mm_a0 rfl rfl rfl (Nat.le_of_ble_eq_true rfl) dX12_span_46 ⟨Nat.zero_le _, Nat.zero_le _⟩ (fun u hp => ?_)
      subst hp
      refine dl_iconst (pc := 49) C 0 dX12_span_49 (by decide) ?_
      refine dl_istore (pc := 50) C (fun v5 => [(7, .int v5), (0, .ref (ad 0)), (1, .int x1), (2, .int x2), (3, .int x3), (4, .int x4), (5, .int x5), (6, .int x6)]) dX12_span_50 (by decide) (fun _ => rfl) h (fun v5 h => ?_)
      refine dl_sub [1, 2, 3, 4, 5, 6, 7, 0] rfl ?_
      exact mo_span_t52 l D cI TY hTY nw N ad R C hQ hk19 ih N _ _ _ _ _ _ _ _ h
set_option maxHeartbeats 4000000 in
set_option maxRecDepth 100000 in
theorem mo_span_t19 {p : Program} {e : Env} {s : State} {m : MethodId} {args : Array Value} {below : List Frame} {meth : Method} {c : Code} {Q : State → Prop} {A : Nat → Prop} (l : Launch) (D : va_G) (cI : ClassId) (TY : dl_TY) (hTY : TY[0]? = some (cI, .int)) (nw : List Cond) (N : Nat) (ad : Nat → Nat) (R : va_W) {r0 : Int32} {g0 : dl_Sg} (C : dl_Cx p s m args c A D TY nw cX12_span 9 yX12_span.cls wsX12_span) (hQ : dl_RtI p l e (headSpec wsX12_span { frames := 4, cells := 0, slots := 0, locals := 95 }).room s m args below meth c Q A D cX12_span 9 0 0 .int (fun r u => r = r0 ∧ u = mm_w cI ad g0 ++ R)) : ∀ (n : Nat) (x1 : Int32) (x2 : Int32) (x3 : Int32) (g : dl_Sg), mo_span_b19 N n x1 x2 x3 g = some (r0, g0) → dl_At p l e (headSpec wsX12_span { frames := 4, cells := 0, slots := 0, locals := 95 }).room s m args below meth c Q A D 9 0 0 19 [(0, .ref (ad 0)), (1, .int x1), (2, .int x2), (3, .int x3)] [] (mm_w cI ad g ++ R) := by
  intro n
  induction n with
  | zero => exact fun _ _ _ _ h => absurd (show (none : Option (Int32 × dl_Sg)) = some _ from h) (by intro q; cases q)
  | succ n ih =>
    intro x1 x2 x3 g h
    rw [mo_span_b19] at h
    refine dl_iload_n (pc := 19) C 2 dX12_span_19 rfl rfl ?_
    refine dl_iload_n (pc := 20) C 1 dX12_span_20 rfl rfl ?_
    refine dl_icmp_eq (pc := 21) C 171 dX12_span_21 (by decide) h (fun q4 h => ?_) (fun q4 h => ?_)
    · refine dl_iload_n (pc := 171) C 3 dX12_span_171 rfl rfl ?_
      exact hQ 172 _ _ _ ⟨(dl_r2 h).1, by rw [(dl_r2 h).2]⟩ (vp_nar_int _) dX12_span_172
    · refine dl_ldc (pc := 24) C 100000000 (by decide +kernel) dX12_span_24 ?_
      refine dl_istore (pc := 26) C (fun v1 => [(4, .int v1), (0, .ref (ad 0)), (1, .int x1), (2, .int x2), (3, .int x3)]) dX12_span_26 (by decide) (fun _ => rfl) h (fun v1 h => ?_)
      refine dl_iconst (pc := 28) C (-1) dX12_span_28 (by decide) ?_
      refine dl_istore (pc := 29) C (fun v2 => [(5, .int v2), (4, .int v1), (0, .ref (ad 0)), (1, .int x1), (2, .int x2), (3, .int x3)]) dX12_span_29 (by decide) (fun _ => rfl) h (fun v2 h => ?_)
      refine dl_iconst (pc := 31) C 0 dX12_span_31 (by decide) ?_
      refine dl_istore (pc := 32) C (fun v3 => [(6, .int v3), (5, .int v2), (4, .int v1), (0, .ref (ad 0)), (1, .int x1), (2, .int x2), (3, .int x3)]) dX12_span_32 (by decide) (fun _ => rfl) h (fun v3 h => ?_)
      refine dl_sub [3, 4, 5, 6, 2, 1, 0] rfl ?_
      exact mo_span_t34 l D cI TY hTY nw N ad R C hQ ih N _ _ _ _ _ _ _ h
set_option maxHeartbeats 4000000 in
set_option maxRecDepth 100000 in
theorem cmo_span (l : Launch) (D : va_G) (cI : ClassId) (TY : dl_TY) (hTY : TY[0]? = some (cI, .int)) (nw : List Cond) (N : Nat) (ad : Nat → Nat) (R : va_W) (g : dl_Sg) {r0 : Int32} {g0 : dl_Sg} (h : mo_span N g  = some (r0, g0)) : dl_CtI l D TY nw yX12_span wsX12_span { frames := 4, cells := 0, slots := 0, locals := 95 } 0 0 [.ref (ad 0)] (mm_w cI ad g ++ R) (fun r u => r = r0 ∧ u = mm_w cI ad g0 ++ R) := by
  refine dl_metI (ty := .int) [(0, .ref (ad 0))] (by decide) rfl (Nat.le_of_ble_eq_true rfl) rfl ?_
  intro p e s m args below meth c Q A C hQ
  unfold mo_span at h
  refine dl_aload_n (pc := 0) C 0 dX12_span_0 rfl rfl ?_
  obtain ⟨r1, h1, h⟩ := dl_bi_some h
  refine dl_vI0 (pc := 1) C (cmo_taps l D cI TY hTY nw N ad R _ h1) (cwV 0 C.2.2.2.2.1 gX12_span_X12_taps rfl rfl rfl (by decide +kernel) ⟨Nat.le_of_ble_eq_true rfl, Nat.le_of_ble_eq_true rfl⟩) 0 12 mm_a0 rfl rfl rfl (Nat.le_of_ble_eq_true rfl) dX12_span_1 ⟨Nat.zero_le _, Nat.zero_le _⟩ (fun r u hp => ?_)
  obtain ⟨rfl, rfl⟩ := hp
  refine dl_istore_n (pc := 4) C (fun v2 => [(1, .int v2), (0, .ref (ad 0))]) dX12_span_4 rfl (by decide) (fun _ => rfl) h (fun v2 h => ?_)
  refine dl_iload_n (pc := 5) C 0 dX12_span_5 rfl rfl ?_
  refine dl_if_ne (pc := 6) C 12 dX12_span_6 (by decide) h (fun q5 h => ?_) (fun q5 h => ?_)
  · refine dl_ldc (pc := 9) C (-1000000) (by decide +kernel) dX12_span_9 ?_
    exact hQ 11 _ _ _ ⟨(dl_r2 h).1, by rw [(dl_r2 h).2]⟩ (vp_nar_int _) dX12_span_11
  · refine dl_iload_n (pc := 12) C 0 dX12_span_12 rfl rfl ?_
    refine dl_iload_n (pc := 13) C 0 dX12_span_13 rfl rfl ?_
    refine dl_ineg (pc := 14) C dX12_span_14 ?_
    refine dl_iand (pc := 15) C dX12_span_15 ?_
    refine dl_istore_n (pc := 16) C (fun v3 => [(2, .int v3), (1, .int v2), (0, .ref (ad 0))]) dX12_span_16 rfl (by decide) (fun _ => rfl) h (fun v3 h => ?_)
    refine dl_iconst (pc := 17) C 0 dX12_span_17 (by decide) ?_
    refine dl_istore_n (pc := 18) C (fun v4 => [(3, .int v4), (2, .int v3), (1, .int v2), (0, .ref (ad 0))]) dX12_span_18 rfl (by decide) (fun _ => rfl) h (fun v4 h => ?_)
    refine dl_sub [3, 2, 1, 0] rfl ?_
    exact mo_span_t19 l D cI TY hTY nw N ad R C hQ N _ _ _ _ h
