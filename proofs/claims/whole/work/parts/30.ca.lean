set_option maxHeartbeats 4000000 in
set_option maxRecDepth 100000 in
theorem cjd_lowestOneBit (l : Launch) (D : va_G) (TY : dl_TY) (nw : List Cond) (R : va_W) (x0 : Int32) {r0 : Int32} (h : jd_lowestOneBit x0 = some r0) : dl_CtI l D TY nw yJ6_lowestOneBit_0f7a4 wsJ6_lowestOneBit_0f7a4 { frames := 0, cells := 0, slots := 0, locals := 0 } 0 0 [.int x0] (R) (fun r u => r = r0 ∧ u = R) := by
  refine dl_metI (ty := .int) [(0, .int x0)] (by decide) rfl (Nat.le_of_ble_eq_true rfl) rfl ?_
  intro p e s m args below meth c Q A C hQ
  unfold jd_lowestOneBit at h
  refine dl_iload_n (pc := 0) C 0 dJ6_lowestOneBit_0f7a4_0 rfl rfl ?_
  refine dl_iload_n (pc := 1) C 0 dJ6_lowestOneBit_0f7a4_1 rfl rfl ?_
  refine dl_ineg (pc := 2) C dJ6_lowestOneBit_0f7a4_2 ?_
  refine dl_iand (pc := 3) C dJ6_lowestOneBit_0f7a4_3 ?_
  exact hQ 4 _ _ _ ⟨Option.some.inj h, rfl⟩ (vp_nar_int _) dJ6_lowestOneBit_0f7a4_4
set_option maxHeartbeats 4000000 in
set_option maxRecDepth 100000 in
theorem jd_numberOfTrailingZeros_t74 {p : Program} {e : Env} {s : State} {m : MethodId} {args : Array Value} {below : List Frame} {meth : Method} {c : Code} {Q : State → Prop} {A : Nat → Prop} (l : Launch) (D : va_G) (TY : dl_TY) (nw : List Cond) (R : va_W) {r0 : Int32} (C : dl_Cx p s m args c A D TY nw cJ6_numberOfTrailingZeros_0f7a4 2 yJ6_numberOfTrailingZeros_0f7a4.cls wsJ6_numberOfTrailingZeros_0f7a4) (hQ : dl_RtI p l e (headSpec wsJ6_numberOfTrailingZeros_0f7a4 { frames := 0, cells := 0, slots := 0, locals := 0 }).room s m args below meth c Q A D cJ6_numberOfTrailingZeros_0f7a4 2 0 0 .int (fun r u => r = r0 ∧ u = R)) (x0 : Int32) (x1 : Int32) (h : jd_numberOfTrailingZeros_b74 x0 x1 = some r0) : dl_At p l e (headSpec wsJ6_numberOfTrailingZeros_0f7a4 { frames := 0, cells := 0, slots := 0, locals := 0 }).room s m args below meth c Q A D 2 0 0 74 [(0, .int x0), (1, .int x1)] [] (R) := by
  unfold jd_numberOfTrailingZeros_b74 at h
  refine dl_iload_n (pc := 74) C 1 dJ6_numberOfTrailingZeros_0f7a4_74 rfl rfl ?_
  refine dl_iload_n (pc := 75) C 0 dJ6_numberOfTrailingZeros_0f7a4_75 rfl rfl ?_
  refine dl_iconst (pc := 76) C 1 dJ6_numberOfTrailingZeros_0f7a4_76 (by decide) ?_
  refine dl_iushr (pc := 77) C dJ6_numberOfTrailingZeros_0f7a4_77 ?_
  refine dl_iadd (pc := 78) C dJ6_numberOfTrailingZeros_0f7a4_78 ?_
  exact hQ 79 _ _ _ ⟨Option.some.inj h, rfl⟩ (vp_nar_int _) dJ6_numberOfTrailingZeros_0f7a4_79
set_option maxHeartbeats 4000000 in
set_option maxRecDepth 100000 in
theorem jd_numberOfTrailingZeros_t62 {p : Program} {e : Env} {s : State} {m : MethodId} {args : Array Value} {below : List Frame} {meth : Method} {c : Code} {Q : State → Prop} {A : Nat → Prop} (l : Launch) (D : va_G) (TY : dl_TY) (nw : List Cond) (R : va_W) {r0 : Int32} (C : dl_Cx p s m args c A D TY nw cJ6_numberOfTrailingZeros_0f7a4 2 yJ6_numberOfTrailingZeros_0f7a4.cls wsJ6_numberOfTrailingZeros_0f7a4) (hQ : dl_RtI p l e (headSpec wsJ6_numberOfTrailingZeros_0f7a4 { frames := 0, cells := 0, slots := 0, locals := 0 }).room s m args below meth c Q A D cJ6_numberOfTrailingZeros_0f7a4 2 0 0 .int (fun r u => r = r0 ∧ u = R)) (x0 : Int32) (x1 : Int32) (h : jd_numberOfTrailingZeros_b62 x0 x1 = some r0) : dl_At p l e (headSpec wsJ6_numberOfTrailingZeros_0f7a4 { frames := 0, cells := 0, slots := 0, locals := 0 }).room s m args below meth c Q A D 2 0 0 62 [(0, .int x0), (1, .int x1)] [] (R) := by
  unfold jd_numberOfTrailingZeros_b62 at h
  refine dl_iload_n (pc := 62) C 0 dJ6_numberOfTrailingZeros_0f7a4_62 rfl rfl ?_
  refine dl_iconst (pc := 63) C 4 dJ6_numberOfTrailingZeros_0f7a4_63 (by decide) ?_
  refine dl_icmp_le (pc := 64) C 74 dJ6_numberOfTrailingZeros_0f7a4_64 (by decide) h (fun q3 h => ?_) (fun q3 h => ?_)
  · refine dl_sub [0, 1] rfl ?_
    exact jd_numberOfTrailingZeros_t74 l D TY nw R C hQ  _ _ h
  · refine dl_iinc (pc := 67) C 1 (fun v1 => [(1, .int v1), (0, .int x0)]) dJ6_numberOfTrailingZeros_0f7a4_67 rfl rfl (by decide) (fun _ => rfl) h (fun v1 h => ?_)
    refine dl_iload_n (pc := 70) C 1 dJ6_numberOfTrailingZeros_0f7a4_70 rfl rfl ?_
    refine dl_iconst (pc := 71) C 2 dJ6_numberOfTrailingZeros_0f7a4_71 (by decide) ?_
    refine dl_iushr (pc := 72) C dJ6_numberOfTrailingZeros_0f7a4_72 ?_
    refine dl_istore_n (pc := 73) C (fun v2 => [(0, .int v2), (1, .int v1)]) dJ6_numberOfTrailingZeros_0f7a4_73 rfl (by decide) (fun _ => rfl) h (fun v2 h => ?_)
    refine dl_sub [0, 1] rfl ?_
    exact jd_numberOfTrailingZeros_t74 l D TY nw R C hQ  _ _ h
set_option maxHeartbeats 4000000 in
set_option maxRecDepth 100000 in
theorem jd_numberOfTrailingZeros_t49 {p : Program} {e : Env} {s : State} {m : MethodId} {args : Array Value} {below : List Frame} {meth : Method} {c : Code} {Q : State → Prop} {A : Nat → Prop} (l : Launch) (D : va_G) (TY : dl_TY) (nw : List Cond) (R : va_W) {r0 : Int32} (C : dl_Cx p s m args c A D TY nw cJ6_numberOfTrailingZeros_0f7a4 2 yJ6_numberOfTrailingZeros_0f7a4.cls wsJ6_numberOfTrailingZeros_0f7a4) (hQ : dl_RtI p l e (headSpec wsJ6_numberOfTrailingZeros_0f7a4 { frames := 0, cells := 0, slots := 0, locals := 0 }).room s m args below meth c Q A D cJ6_numberOfTrailingZeros_0f7a4 2 0 0 .int (fun r u => r = r0 ∧ u = R)) (x0 : Int32) (x1 : Int32) (h : jd_numberOfTrailingZeros_b49 x0 x1 = some r0) : dl_At p l e (headSpec wsJ6_numberOfTrailingZeros_0f7a4 { frames := 0, cells := 0, slots := 0, locals := 0 }).room s m args below meth c Q A D 2 0 0 49 [(0, .int x0), (1, .int x1)] [] (R) := by
  unfold jd_numberOfTrailingZeros_b49 at h
  refine dl_iload_n (pc := 49) C 0 dJ6_numberOfTrailingZeros_0f7a4_49 rfl rfl ?_
  refine dl_bipush (pc := 50) C 16 dJ6_numberOfTrailingZeros_0f7a4_50 (by decide) ?_
  refine dl_icmp_le (pc := 52) C 62 dJ6_numberOfTrailingZeros_0f7a4_52 (by decide) h (fun q3 h => ?_) (fun q3 h => ?_)
  · refine dl_sub [0, 1] rfl ?_
    exact jd_numberOfTrailingZeros_t62 l D TY nw R C hQ  _ _ h
  · refine dl_iinc (pc := 55) C 1 (fun v1 => [(1, .int v1), (0, .int x0)]) dJ6_numberOfTrailingZeros_0f7a4_55 rfl rfl (by decide) (fun _ => rfl) h (fun v1 h => ?_)
    refine dl_iload_n (pc := 58) C 1 dJ6_numberOfTrailingZeros_0f7a4_58 rfl rfl ?_
    refine dl_iconst (pc := 59) C 4 dJ6_numberOfTrailingZeros_0f7a4_59 (by decide) ?_
    refine dl_iushr (pc := 60) C dJ6_numberOfTrailingZeros_0f7a4_60 ?_
    refine dl_istore_n (pc := 61) C (fun v2 => [(0, .int v2), (1, .int v1)]) dJ6_numberOfTrailingZeros_0f7a4_61 rfl (by decide) (fun _ => rfl) h (fun v2 h => ?_)
    refine dl_sub [0, 1] rfl ?_
    exact jd_numberOfTrailingZeros_t62 l D TY nw R C hQ  _ _ h
set_option maxHeartbeats 4000000 in
set_option maxRecDepth 100000 in
theorem jd_numberOfTrailingZeros_t34 {p : Program} {e : Env} {s : State} {m : MethodId} {args : Array Value} {below : List Frame} {meth : Method} {c : Code} {Q : State → Prop} {A : Nat → Prop} (l : Launch) (D : va_G) (TY : dl_TY) (nw : List Cond) (R : va_W) {r0 : Int32} (C : dl_Cx p s m args c A D TY nw cJ6_numberOfTrailingZeros_0f7a4 2 yJ6_numberOfTrailingZeros_0f7a4.cls wsJ6_numberOfTrailingZeros_0f7a4) (hQ : dl_RtI p l e (headSpec wsJ6_numberOfTrailingZeros_0f7a4 { frames := 0, cells := 0, slots := 0, locals := 0 }).room s m args below meth c Q A D cJ6_numberOfTrailingZeros_0f7a4 2 0 0 .int (fun r u => r = r0 ∧ u = R)) (x0 : Int32) (x1 : Int32) (h : jd_numberOfTrailingZeros_b34 x0 x1 = some r0) : dl_At p l e (headSpec wsJ6_numberOfTrailingZeros_0f7a4 { frames := 0, cells := 0, slots := 0, locals := 0 }).room s m args below meth c Q A D 2 0 0 34 [(0, .int x0), (1, .int x1)] [] (R) := by
  unfold jd_numberOfTrailingZeros_b34 at h
  refine dl_iload_n (pc := 34) C 0 dJ6_numberOfTrailingZeros_0f7a4_34 rfl rfl ?_
  refine dl_sipush (pc := 35) C 256 dJ6_numberOfTrailingZeros_0f7a4_35 (by decide) ?_
  refine dl_icmp_le (pc := 38) C 49 dJ6_numberOfTrailingZeros_0f7a4_38 (by decide) h (fun q3 h => ?_) (fun q3 h => ?_)
  · refine dl_sub [0, 1] rfl ?_
    exact jd_numberOfTrailingZeros_t49 l D TY nw R C hQ  _ _ h
  · refine dl_iinc (pc := 41) C 1 (fun v1 => [(1, .int v1), (0, .int x0)]) dJ6_numberOfTrailingZeros_0f7a4_41 rfl rfl (by decide) (fun _ => rfl) h (fun v1 h => ?_)
    refine dl_iload_n (pc := 44) C 1 dJ6_numberOfTrailingZeros_0f7a4_44 rfl rfl ?_
    refine dl_bipush (pc := 45) C 8 dJ6_numberOfTrailingZeros_0f7a4_45 (by decide) ?_
    refine dl_iushr (pc := 47) C dJ6_numberOfTrailingZeros_0f7a4_47 ?_
    refine dl_istore_n (pc := 48) C (fun v2 => [(0, .int v2), (1, .int v1)]) dJ6_numberOfTrailingZeros_0f7a4_48 rfl (by decide) (fun _ => rfl) h (fun v2 h => ?_)
    refine dl_sub [0, 1] rfl ?_
    exact jd_numberOfTrailingZeros_t49 l D TY nw R C hQ  _ _ h
set_option maxHeartbeats 4000000 in
set_option maxRecDepth 100000 in
theorem cjd_numberOfTrailingZeros (l : Launch) (D : va_G) (TY : dl_TY) (nw : List Cond) (R : va_W) (x0 : Int32) {r0 : Int32} (h : jd_numberOfTrailingZeros x0 = some r0) : dl_CtI l D TY nw yJ6_numberOfTrailingZeros_0f7a4 wsJ6_numberOfTrailingZeros_0f7a4 { frames := 0, cells := 0, slots := 0, locals := 0 } 0 0 [.int x0] (R) (fun r u => r = r0 ∧ u = R) := by
  refine dl_metI (ty := .int) [(0, .int x0)] (by decide) rfl (Nat.le_of_ble_eq_true rfl) rfl ?_
  intro p e s m args below meth c Q A C hQ
  unfold jd_numberOfTrailingZeros at h
  refine dl_iload_n (pc := 0) C 0 dJ6_numberOfTrailingZeros_0f7a4_0 rfl rfl ?_
  refine dl_iconst (pc := 1) C (-1) dJ6_numberOfTrailingZeros_0f7a4_1 (by decide) ?_
  refine dl_ixor (pc := 2) C dJ6_numberOfTrailingZeros_0f7a4_2 ?_
  refine dl_iload_n (pc := 3) C 0 dJ6_numberOfTrailingZeros_0f7a4_3 rfl rfl ?_
  refine dl_iconst (pc := 4) C 1 dJ6_numberOfTrailingZeros_0f7a4_4 (by decide) ?_
  refine dl_isub (pc := 5) C dJ6_numberOfTrailingZeros_0f7a4_5 ?_
  refine dl_iand (pc := 6) C dJ6_numberOfTrailingZeros_0f7a4_6 ?_
  refine dl_istore_n (pc := 7) C (fun v1 => [(0, .int v1)]) dJ6_numberOfTrailingZeros_0f7a4_7 rfl (by decide) (fun _ => rfl) h (fun v1 h => ?_)
  refine dl_iload_n (pc := 8) C 0 dJ6_numberOfTrailingZeros_0f7a4_8 rfl rfl ?_
  refine dl_if_gt (pc := 9) C 17 dJ6_numberOfTrailingZeros_0f7a4_9 (by decide) h (fun q6 h => ?_) (fun q6 h => ?_)
  · refine dl_iconst (pc := 17) C 1 dJ6_numberOfTrailingZeros_0f7a4_17 (by decide) ?_
    refine dl_istore_n (pc := 18) C (fun v2 => [(1, .int v2), (0, .int v1)]) dJ6_numberOfTrailingZeros_0f7a4_18 rfl (by decide) (fun _ => rfl) h (fun v2 h => ?_)
    refine dl_iload_n (pc := 19) C 1 dJ6_numberOfTrailingZeros_0f7a4_19 rfl rfl ?_
    refine dl_ldcw (pc := 20) C 65536 (by decide +kernel) dJ6_numberOfTrailingZeros_0f7a4_20 ?_
    refine dl_icmp_le (pc := 23) C 34 dJ6_numberOfTrailingZeros_0f7a4_23 (by decide) h (fun q5 h => ?_) (fun q5 h => ?_)
    · refine dl_sub [1, 0] rfl ?_
      exact jd_numberOfTrailingZeros_t34 l D TY nw R C hQ  _ _ h
    · refine dl_iinc (pc := 26) C 0 (fun v3 => [(1, .int v3), (0, .int v1)]) dJ6_numberOfTrailingZeros_0f7a4_26 rfl rfl (by decide) (fun _ => rfl) h (fun v3 h => ?_)
      refine dl_iload_n (pc := 29) C 1 dJ6_numberOfTrailingZeros_0f7a4_29 rfl rfl ?_
      refine dl_bipush (pc := 30) C 16 dJ6_numberOfTrailingZeros_0f7a4_30 (by decide) ?_
      refine dl_iushr (pc := 32) C dJ6_numberOfTrailingZeros_0f7a4_32 ?_
      refine dl_istore_n (pc := 33) C (fun v4 => [(0, .int v4), (1, .int v3)]) dJ6_numberOfTrailingZeros_0f7a4_33 rfl (by decide) (fun _ => rfl) h (fun v4 h => ?_)
      refine dl_sub [0, 1] rfl ?_
      exact jd_numberOfTrailingZeros_t34 l D TY nw R C hQ  _ _ h
  · refine dl_iload_n (pc := 12) C 0 dJ6_numberOfTrailingZeros_0f7a4_12 rfl rfl ?_
    refine dl_bipush (pc := 13) C 32 dJ6_numberOfTrailingZeros_0f7a4_13 (by decide) ?_
    refine dl_iand (pc := 15) C dJ6_numberOfTrailingZeros_0f7a4_15 ?_
    exact hQ 16 _ _ _ ⟨Option.some.inj h, rfl⟩ (vp_nar_int _) dJ6_numberOfTrailingZeros_0f7a4_16
set_option maxHeartbeats 4000000 in
set_option maxRecDepth 100000 in
theorem cjd_bitCount (l : Launch) (D : va_G) (TY : dl_TY) (nw : List Cond) (R : va_W) (x0 : Int32) {r0 : Int32} (h : jd_bitCount x0 = some r0) : dl_CtI l D TY nw yJ6_bitCount_0f7a4 wsJ6_bitCount_0f7a4 { frames := 0, cells := 0, slots := 0, locals := 0 } 0 0 [.int x0] (R) (fun r u => r = r0 ∧ u = R) := by
  refine dl_metI (ty := .int) [(0, .int x0)] (by decide) rfl (Nat.le_of_ble_eq_true rfl) rfl ?_
  intro p e s m args below meth c Q A C hQ
  unfold jd_bitCount at h
  refine dl_iload_n (pc := 0) C 0 dJ6_bitCount_0f7a4_0 rfl rfl ?_
  refine dl_iload_n (pc := 1) C 0 dJ6_bitCount_0f7a4_1 rfl rfl ?_
  refine dl_iconst (pc := 2) C 1 dJ6_bitCount_0f7a4_2 (by decide) ?_
  refine dl_iushr (pc := 3) C dJ6_bitCount_0f7a4_3 ?_
  refine dl_ldcw (pc := 4) C 1431655765 (by decide +kernel) dJ6_bitCount_0f7a4_4 ?_
  refine dl_iand (pc := 7) C dJ6_bitCount_0f7a4_7 ?_
  refine dl_isub (pc := 8) C dJ6_bitCount_0f7a4_8 ?_
  refine dl_istore_n (pc := 9) C (fun v1 => [(0, .int v1)]) dJ6_bitCount_0f7a4_9 rfl (by decide) (fun _ => rfl) h (fun v1 h => ?_)
  refine dl_iload_n (pc := 10) C 0 dJ6_bitCount_0f7a4_10 rfl rfl ?_
  refine dl_ldcw (pc := 11) C 858993459 (by decide +kernel) dJ6_bitCount_0f7a4_11 ?_
  refine dl_iand (pc := 14) C dJ6_bitCount_0f7a4_14 ?_
  refine dl_iload_n (pc := 15) C 0 dJ6_bitCount_0f7a4_15 rfl rfl ?_
  refine dl_iconst (pc := 16) C 2 dJ6_bitCount_0f7a4_16 (by decide) ?_
  refine dl_iushr (pc := 17) C dJ6_bitCount_0f7a4_17 ?_
  refine dl_ldcw (pc := 18) C 858993459 (by decide +kernel) dJ6_bitCount_0f7a4_18 ?_
  refine dl_iand (pc := 21) C dJ6_bitCount_0f7a4_21 ?_
  refine dl_iadd (pc := 22) C dJ6_bitCount_0f7a4_22 ?_
  refine dl_istore_n (pc := 23) C (fun v2 => [(0, .int v2)]) dJ6_bitCount_0f7a4_23 rfl (by decide) (fun _ => rfl) h (fun v2 h => ?_)
  refine dl_iload_n (pc := 24) C 0 dJ6_bitCount_0f7a4_24 rfl rfl ?_
  refine dl_iload_n (pc := 25) C 0 dJ6_bitCount_0f7a4_25 rfl rfl ?_
  refine dl_iconst (pc := 26) C 4 dJ6_bitCount_0f7a4_26 (by decide) ?_
  refine dl_iushr (pc := 27) C dJ6_bitCount_0f7a4_27 ?_
  refine dl_iadd (pc := 28) C dJ6_bitCount_0f7a4_28 ?_
  refine dl_ldcw (pc := 29) C 252645135 (by decide +kernel) dJ6_bitCount_0f7a4_29 ?_
  refine dl_iand (pc := 32) C dJ6_bitCount_0f7a4_32 ?_
  refine dl_istore_n (pc := 33) C (fun v3 => [(0, .int v3)]) dJ6_bitCount_0f7a4_33 rfl (by decide) (fun _ => rfl) h (fun v3 h => ?_)
  refine dl_iload_n (pc := 34) C 0 dJ6_bitCount_0f7a4_34 rfl rfl ?_
  refine dl_iload_n (pc := 35) C 0 dJ6_bitCount_0f7a4_35 rfl rfl ?_
  refine dl_bipush (pc := 36) C 8 dJ6_bitCount_0f7a4_36 (by decide) ?_
  refine dl_iushr (pc := 38) C dJ6_bitCount_0f7a4_38 ?_
  refine dl_iadd (pc := 39) C dJ6_bitCount_0f7a4_39 ?_
  refine dl_istore_n (pc := 40) C (fun v4 => [(0, .int v4)]) dJ6_bitCount_0f7a4_40 rfl (by decide) (fun _ => rfl) h (fun v4 h => ?_)
  refine dl_iload_n (pc := 41) C 0 dJ6_bitCount_0f7a4_41 rfl rfl ?_
  refine dl_iload_n (pc := 42) C 0 dJ6_bitCount_0f7a4_42 rfl rfl ?_
  refine dl_bipush (pc := 43) C 16 dJ6_bitCount_0f7a4_43 (by decide) ?_
  refine dl_iushr (pc := 45) C dJ6_bitCount_0f7a4_45 ?_
  refine dl_iadd (pc := 46) C dJ6_bitCount_0f7a4_46 ?_
  refine dl_istore_n (pc := 47) C (fun v5 => [(0, .int v5)]) dJ6_bitCount_0f7a4_47 rfl (by decide) (fun _ => rfl) h (fun v5 h => ?_)
  refine dl_iload_n (pc := 48) C 0 dJ6_bitCount_0f7a4_48 rfl rfl ?_
  refine dl_bipush (pc := 49) C 63 dJ6_bitCount_0f7a4_49 (by decide) ?_
  refine dl_iand (pc := 51) C dJ6_bitCount_0f7a4_51 ?_
  exact hQ 52 _ _ _ ⟨Option.some.inj h, rfl⟩ (vp_nar_int _) dJ6_bitCount_0f7a4_52
set_option maxHeartbeats 4000000 in
set_option maxRecDepth 100000 in
theorem ccl11_bitAt (l : Launch) (D : va_G) (TY : dl_TY) (nw : List Cond) (R : va_W) (x0 : Int32) (x1 : Int32) {r0 : Int32} (h : cl11_bitAt x0 x1 = some r0) : dl_CtI l D TY nw yX11_bitAt wsX11_bitAt { frames := 0, cells := 0, slots := 0, locals := 0 } 0 0 [.int x0, .int x1] (R) (fun r u => r = r0 ∧ u = R) := by
  refine dl_metI (ty := .int) [(0, .int x0), (1, .int x1)] (by decide) rfl (Nat.le_of_ble_eq_true rfl) rfl ?_
  intro p e s m args below meth c Q A C hQ
  unfold cl11_bitAt at h
  refine dl_iload_n (pc := 0) C 0 dX11_bitAt_0 rfl rfl ?_
  refine dl_iload_n (pc := 1) C 1 dX11_bitAt_1 rfl rfl ?_
  refine dl_ishr (pc := 2) C dX11_bitAt_2 ?_
  refine dl_iconst (pc := 3) C 1 dX11_bitAt_3 (by decide) ?_
  refine dl_iand (pc := 4) C dX11_bitAt_4 ?_
  exact hQ 5 _ _ _ ⟨Option.some.inj h, rfl⟩ (vp_nar_int _) dX11_bitAt_5
set_option maxHeartbeats 4000000 in
set_option maxRecDepth 100000 in
theorem ccl11_isAmount (l : Launch) (D : va_G) (TY : dl_TY) (nw : List Cond) (R : va_W) (x0 : Int32) {r0 : Int32} (h : cl11_isAmount x0 = some r0) : dl_CtI l D TY nw yX11_isAmount wsX11_isAmount { frames := 0, cells := 0, slots := 0, locals := 0 } 0 0 [.int x0] (R) (fun r u => r = r0 ∧ u = R) := by
  refine dl_metI (ty := .boolean) [(0, .int x0)] (by decide) rfl (Nat.le_of_ble_eq_true rfl) rfl ?_
  intro p e s m args below meth c Q A C hQ
  unfold cl11_isAmount at h
  refine dl_iload_n (pc := 0) C 0 dX11_isAmount_0 rfl rfl ?_
  refine dl_iconst (pc := 1) C 1 dX11_isAmount_1 (by decide) ?_
  refine dl_icmp_lt (pc := 2) C 15 dX11_isAmount_2 (by decide) h (fun q2 h => ?_) (fun q2 h => ?_)
  · refine dl_iconst (pc := 15) C 0 dX11_isAmount_15 (by decide) ?_
    exact hQ 16 _ _ _ ⟨Option.some.inj h, rfl⟩ rfl dX11_isAmount_16
  · refine dl_iload_n (pc := 5) C 0 dX11_isAmount_5 rfl rfl ?_
    refine dl_bipush (pc := 6) C 100 dX11_isAmount_6 (by decide) ?_
    refine dl_icmp_gt (pc := 8) C 15 dX11_isAmount_8 (by decide) h (fun q1 h => ?_) (fun q1 h => ?_)
    · refine dl_iconst (pc := 15) C 0 dX11_isAmount_15 (by decide) ?_
      exact hQ 16 _ _ _ ⟨Option.some.inj h, rfl⟩ rfl dX11_isAmount_16
    · refine dl_iconst (pc := 11) C 1 dX11_isAmount_11 (by decide) ?_
      refine dl_goto (pc := 12) C 16 dX11_isAmount_12 (by decide) ?_
      exact hQ 16 _ _ _ ⟨Option.some.inj h, rfl⟩ rfl dX11_isAmount_16
set_option maxHeartbeats 4000000 in
set_option maxRecDepth 100000 in
theorem ccl11_isMap (l : Launch) (D : va_G) (TY : dl_TY) (nw : List Cond) (R : va_W) (x0 : Int32) {r0 : Int32} (h : cl11_isMap x0 = some r0) : dl_CtI l D TY nw yX11_isMap wsX11_isMap { frames := 0, cells := 0, slots := 0, locals := 0 } 0 0 [.int x0] (R) (fun r u => r = r0 ∧ u = R) := by
  refine dl_metI (ty := .boolean) [(0, .int x0)] (by decide) rfl (Nat.le_of_ble_eq_true rfl) rfl ?_
  intro p e s m args below meth c Q A C hQ
  unfold cl11_isMap at h
  refine dl_iload_n (pc := 0) C 0 dX11_isMap_0 rfl rfl ?_
  refine dl_if_lt (pc := 1) C 13 dX11_isMap_1 (by decide) h (fun q2 h => ?_) (fun q2 h => ?_)
  · refine dl_iconst (pc := 13) C 0 dX11_isMap_13 (by decide) ?_
    exact hQ 14 _ _ _ ⟨Option.some.inj h, rfl⟩ rfl dX11_isMap_14
  · refine dl_iload_n (pc := 4) C 0 dX11_isMap_4 rfl rfl ?_
    refine dl_iconst (pc := 5) C 5 dX11_isMap_5 (by decide) ?_
    refine dl_icmp_ge (pc := 6) C 13 dX11_isMap_6 (by decide) h (fun q1 h => ?_) (fun q1 h => ?_)
    · refine dl_iconst (pc := 13) C 0 dX11_isMap_13 (by decide) ?_
      exact hQ 14 _ _ _ ⟨Option.some.inj h, rfl⟩ rfl dX11_isMap_14
    · refine dl_iconst (pc := 9) C 1 dX11_isMap_9 (by decide) ?_
      refine dl_goto (pc := 10) C 14 dX11_isMap_10 (by decide) ?_
      exact hQ 14 _ _ _ ⟨Option.some.inj h, rfl⟩ rfl dX11_isMap_14
set_option maxHeartbeats 4000000 in
set_option maxRecDepth 100000 in
theorem cl11_hasWorth_t10 {p : Program} {e : Env} {s : State} {m : MethodId} {args : Array Value} {below : List Frame} {meth : Method} {c : Code} {Q : State → Prop} {A : Nat → Prop} (l : Launch) (D : va_G) (TY : dl_TY) (nw : List Cond) (R : va_W) {r0 : Int32} (C : dl_Cx p s m args c A D TY nw cX11_hasWorth 1 yX11_hasWorth.cls wsX11_hasWorth) (hQ : dl_RtI p l e (headSpec wsX11_hasWorth { frames := 0, cells := 0, slots := 0, locals := 0 }).room s m args below meth c Q A D cX11_hasWorth 1 0 0 .boolean (fun r u => r = r0 ∧ u = R)) (h : cl11_hasWorth_b10  = some r0) : dl_At p l e (headSpec wsX11_hasWorth { frames := 0, cells := 0, slots := 0, locals := 0 }).room s m args below meth c Q A D 1 0 0 10 [] [] (R) := by
  unfold cl11_hasWorth_b10 at h
  refine dl_iconst (pc := 10) C 1 dX11_hasWorth_10 (by decide) ?_
  refine dl_goto (pc := 11) C 15 dX11_hasWorth_11 (by decide) ?_
  exact hQ 15 _ _ _ ⟨Option.some.inj h, rfl⟩ rfl dX11_hasWorth_15
set_option maxHeartbeats 4000000 in
set_option maxRecDepth 100000 in
theorem ccl11_hasWorth (l : Launch) (D : va_G) (TY : dl_TY) (nw : List Cond) (R : va_W) (x0 : Int32) {r0 : Int32} (h : cl11_hasWorth x0 = some r0) : dl_CtI l D TY nw yX11_hasWorth wsX11_hasWorth { frames := 0, cells := 0, slots := 0, locals := 0 } 0 0 [.int x0] (R) (fun r u => r = r0 ∧ u = R) := by
  refine dl_metI (ty := .boolean) [(0, .int x0)] (by decide) rfl (Nat.le_of_ble_eq_true rfl) rfl ?_
  intro p e s m args below meth c Q A C hQ
  unfold cl11_hasWorth at h
  refine dl_iload_n (pc := 0) C 0 dX11_hasWorth_0 rfl rfl ?_
  refine dl_iconst (pc := 1) C 2 dX11_hasWorth_1 (by decide) ?_
  refine dl_icmp_eq (pc := 2) C 10 dX11_hasWorth_2 (by decide) h (fun q2 h => ?_) (fun q2 h => ?_)
  · refine dl_sub [] rfl ?_
    exact cl11_hasWorth_t10 l D TY nw R C hQ  h
  · refine dl_iload_n (pc := 5) C 0 dX11_hasWorth_5 rfl rfl ?_
    refine dl_iconst (pc := 6) C 4 dX11_hasWorth_6 (by decide) ?_
    refine dl_icmp_ne (pc := 7) C 14 dX11_hasWorth_7 (by decide) h (fun q1 h => ?_) (fun q1 h => ?_)
    · refine dl_sub [] rfl ?_
      exact cl11_hasWorth_t10 l D TY nw R C hQ  h
    · refine dl_iconst (pc := 14) C 0 dX11_hasWorth_14 (by decide) ?_
      exact hQ 15 _ _ _ ⟨Option.some.inj h, rfl⟩ rfl dX11_hasWorth_15
theorem hin_X5_ran_X5 : ∀ w ∈ u_ws RX5 TX5 2, w ∈ wsX5_ran := fun _ h => List.mem_cons_of_mem _ (List.mem_append_right _ h)
theorem lk_X5_ran_9 : Cond.fieldLink (yX5_ran).cls 9 "DripLines$Trace" (TX5 0).2.1 (TX5 0).2.2.1 ∈ wsX5_ran := by decide +kernel
theorem lk_X5_ran_15 : Cond.fieldLink (yX5_ran).cls 15 "DripLines$Trace" (TX5 1).2.1 (TX5 1).2.2.1 ∈ wsX5_ran := by decide +kernel
set_option maxHeartbeats 4000000 in
set_option maxRecDepth 100000 in
theorem ccl5_ran (l : Launch) (D : va_G) (cI cP cII : ClassId) (TY : dl_TY) (hTY : TY[0]? = some (cI, .int)) (ad : Nat → Nat) (pr : Nat → Option Nat) (R : va_W) (g : dl_Sg) (x1 : Int32) {g0 : dl_Sg} (h : cl5_ran g x1 = some g0) : dl_CtV l D TY cc_nw yX5_ran wsX5_ran { frames := 0, cells := 0, slots := 0, locals := 0 } 0 0 [.ref (ad 6), .int x1] (cc_w cI cP cII ad pr g ++ R) (fun u => u = cc_w cI cP cII ad pr g0 ++ R) := by
  refine dl_metV [(0, .ref (ad 6)), (1, .int x1)] (by decide) rfl (Nat.le_of_ble_eq_true rfl) rfl ?_
  intro p e s m args below meth c Q A C hQ
  unfold cl5_ran at h
  refine dl_aload_n (pc := 0) C 0 dX5_ran_0 rfl rfl ?_
  refine dl_get (pc := 1) C hin_X5_ran_X5 6 cc_a6 rfl 1 (by decide) lk_X5_ran_15 rfl rfl dX5_ran_1 ?_
  refine dl_bipush (pc := 4) C 50 dX5_ran_4 (by decide) ?_
  refine dl_icmp_ge (pc := 6) C 29 dX5_ran_6 (by decide) h (fun q3 h => ?_) (fun q3 h => ?_)
  · exact hQ 29 _ _ (by rw [Option.some.inj h]) dX5_ran_29
  · refine dl_aload_n (pc := 9) C 0 dX5_ran_9 rfl rfl ?_
    refine dl_get (pc := 10) C hin_X5_ran_X5 6 cc_a6 rfl 0 (by decide) lk_X5_ran_9 rfl rfl dX5_ran_10 ?_
    refine dl_aload_n (pc := 13) C 0 dX5_ran_13 rfl rfl ?_
    refine dl_get (pc := 14) C hin_X5_ran_X5 6 cc_a6 rfl 1 (by decide) lk_X5_ran_15 rfl rfl dX5_ran_14 ?_
    refine dl_iload_n (pc := 17) C 1 dX5_ran_17 rfl rfl ?_
    obtain ⟨h0, h⟩ := dl_gd_some h
    refine dl_iast (pc := 18) C 24 0 cc_a27 hTY h0 dX5_ran_18 cc_s27 ?_
    obtain ⟨g1, h, hg⟩ := dl_nm_some h
    rw [← hg]
    clear hg
    refine dl_aload_n (pc := 19) C 0 dX5_ran_19 rfl rfl ?_
    refine dl_dup (pc := 20) C dX5_ran_20 rfl ?_
    refine dl_get (pc := 21) C hin_X5_ran_X5 6 cc_a6 rfl 1 (by decide) lk_X5_ran_15 rfl rfl dX5_ran_21 ?_
    refine dl_iconst (pc := 24) C 1 dX5_ran_24 (by decide) ?_
    refine dl_iadd (pc := 25) C dX5_ran_25 ?_
    refine dl_put (pc := 26) C hin_X5_ran_X5 tyX5 tyX5_ok nmX5 6 cc_a6 rfl 1 (by decide) lk_X5_ran_15 rfl rfl (ty := .int) rfl (vp_nar_int _) rfl (Nat.le_of_ble_eq_true rfl) dX5_ran_26 cc_p6_1 ?_
    obtain ⟨g2, h, hg⟩ := dl_nm_some h
    rw [← hg]
    clear hg
    exact hQ 29 _ _ (by rw [Option.some.inj h]) dX5_ran_29
theorem hin_X5_bodyAt_X5 : ∀ w ∈ u_ws RX5 TX5 2, w ∈ wsX5_bodyAt := fun _ h => List.mem_cons_of_mem _ (List.mem_append_right _ h)
theorem lk_X5_bodyAt_9 : Cond.fieldLink (yX5_bodyAt).cls 9 "DripLines$Trace" (TX5 0).2.1 (TX5 0).2.2.1 ∈ wsX5_bodyAt := by decide +kernel
theorem lk_X5_bodyAt_15 : Cond.fieldLink (yX5_bodyAt).cls 15 "DripLines$Trace" (TX5 1).2.1 (TX5 1).2.2.1 ∈ wsX5_bodyAt := by decide +kernel
set_option maxHeartbeats 4000000 in
set_option maxRecDepth 100000 in
theorem ccl5_bodyAt (l : Launch) (D : va_G) (cI cP cII : ClassId) (TY : dl_TY) (hTY : TY[0]? = some (cI, .int)) (ad : Nat → Nat) (pr : Nat → Option Nat) (R : va_W) (g : dl_Sg) (x1 : Int32) {r0 : Int32} (h : cl5_bodyAt g x1 = some r0) : dl_CtI l D TY cc_nw yX5_bodyAt wsX5_bodyAt { frames := 0, cells := 0, slots := 0, locals := 0 } 0 0 [.ref (ad 6), .int x1] (cc_w cI cP cII ad pr g ++ R) (fun r u => r = r0 ∧ u = cc_w cI cP cII ad pr g ++ R) := by
  refine dl_metI (ty := .int) [(0, .ref (ad 6)), (1, .int x1)] (by decide) rfl (Nat.le_of_ble_eq_true rfl) rfl ?_
  intro p e s m args below meth c Q A C hQ
  unfold cl5_bodyAt at h
  refine dl_iload_n (pc := 0) C 1 dX5_bodyAt_0 rfl rfl ?_
  refine dl_if_lt (pc := 1) C 21 dX5_bodyAt_1 (by decide) h (fun q2 h => ?_) (fun q2 h => ?_)
  · refine dl_iconst (pc := 21) C (-1) dX5_bodyAt_21 (by decide) ?_
    exact hQ 22 _ _ _ ⟨Option.some.inj h, rfl⟩ (vp_nar_int _) dX5_bodyAt_22
  · refine dl_iload_n (pc := 4) C 1 dX5_bodyAt_4 rfl rfl ?_
    refine dl_aload_n (pc := 5) C 0 dX5_bodyAt_5 rfl rfl ?_
    refine dl_get (pc := 6) C hin_X5_bodyAt_X5 6 cc_a6 rfl 1 (by decide) lk_X5_bodyAt_15 rfl rfl dX5_bodyAt_6 ?_
    refine dl_icmp_ge (pc := 9) C 21 dX5_bodyAt_9 (by decide) h (fun q1 h => ?_) (fun q1 h => ?_)
    · refine dl_iconst (pc := 21) C (-1) dX5_bodyAt_21 (by decide) ?_
      exact hQ 22 _ _ _ ⟨Option.some.inj h, rfl⟩ (vp_nar_int _) dX5_bodyAt_22
    · refine dl_aload_n (pc := 12) C 0 dX5_bodyAt_12 rfl rfl ?_
      refine dl_get (pc := 13) C hin_X5_bodyAt_X5 6 cc_a6 rfl 0 (by decide) lk_X5_bodyAt_9 rfl rfl dX5_bodyAt_13 ?_
      refine dl_iload_n (pc := 16) C 1 dX5_bodyAt_16 rfl rfl ?_
      obtain ⟨h0, h⟩ := dl_gd_some h
      refine dl_iald (pc := 17) C 24 0 cc_a27 hTY h0 dX5_bodyAt_17 ?_
      refine dl_goto (pc := 18) C 22 dX5_bodyAt_18 (by decide) ?_
      exact hQ 22 _ _ _ ⟨Option.some.inj h, rfl⟩ (vp_nar_int _) dX5_bodyAt_22
theorem hin_X1_refusal_X1 : ∀ w ∈ u_ws RX1 TX1 3, w ∈ wsX1_refusal := fun _ h => List.mem_cons_of_mem _ (List.mem_append_right _ h)
theorem lk_X1_refusal_9 : Cond.fieldLink (yX1_refusal).cls 9 "DripLines$Maps" (TX1 0).2.1 (TX1 0).2.2.1 ∈ wsX1_refusal := by decide +kernel
theorem lk_X1_refusal_15 : Cond.fieldLink (yX1_refusal).cls 15 "DripLines$Maps" (TX1 1).2.1 (TX1 1).2.2.1 ∈ wsX1_refusal := by decide +kernel
set_option maxHeartbeats 4000000 in
set_option maxRecDepth 100000 in
theorem ccl1_refusal (l : Launch) (D : va_G) (cI cP cII : ClassId) (TY : dl_TY) (hTY : TY[0]? = some (cI, .int)) (ad : Nat → Nat) (pr : Nat → Option Nat) (R : va_W) (g : dl_Sg) (x1 : Int32) (x2 : Int32) (x3 : Int32) (x4 : Int32) {r0 : Int32} (h : cl1_refusal g x1 x2 x3 x4 = some r0) : dl_CtI l D TY cc_nw yX1_refusal wsX1_refusal { frames := 0, cells := 0, slots := 0, locals := 0 } 0 0 [.ref (ad 5), .int x1, .int x2, .int x3, .int x4] (cc_w cI cP cII ad pr g ++ R) (fun r u => r = r0 ∧ u = cc_w cI cP cII ad pr g ++ R) := by
  refine dl_metI (ty := .int) [(0, .ref (ad 5)), (1, .int x1), (2, .int x2), (3, .int x3), (4, .int x4)] (by decide) rfl (Nat.le_of_ble_eq_true rfl) rfl ?_
  intro p e s m args below meth c Q A C hQ
  unfold cl1_refusal at h
  refine dl_aload_n (pc := 0) C 0 dX1_refusal_0 rfl rfl ?_
  refine dl_get (pc := 1) C hin_X1_refusal_X1 5 cc_a5 rfl 0 (by decide) lk_X1_refusal_9 rfl rfl dX1_refusal_1 ?_
  refine dl_iload_n (pc := 4) C 1 dX1_refusal_4 rfl rfl ?_
  obtain ⟨h0, h⟩ := dl_gd_some h
  refine dl_iald (pc := 5) C 22 0 cc_a25 hTY h0 dX1_refusal_5 ?_
  refine dl_iconst (pc := 6) C (-1) dX1_refusal_6 (by decide) ?_
  refine dl_icmp_ne (pc := 7) C 13 dX1_refusal_7 (by decide) h (fun q5 h => ?_) (fun q5 h => ?_)
  · refine dl_bipush (pc := 10) C 10 dX1_refusal_10 (by decide) ?_
    exact hQ 12 _ _ _ ⟨Option.some.inj h, rfl⟩ (vp_nar_int _) dX1_refusal_12
  · refine dl_aload_n (pc := 13) C 0 dX1_refusal_13 rfl rfl ?_
    refine dl_get (pc := 14) C hin_X1_refusal_X1 5 cc_a5 rfl 0 (by decide) lk_X1_refusal_9 rfl rfl dX1_refusal_14 ?_
    refine dl_iload_n (pc := 17) C 1 dX1_refusal_17 rfl rfl ?_
    obtain ⟨h0, h⟩ := dl_gd_some h
    refine dl_iald (pc := 18) C 22 0 cc_a25 hTY h0 dX1_refusal_18 ?_
    refine dl_iload_n (pc := 19) C 2 dX1_refusal_19 rfl rfl ?_
    refine dl_icmp_eq (pc := 20) C 26 dX1_refusal_20 (by decide) h (fun q4 h => ?_) (fun q4 h => ?_)
    · refine dl_iload_n (pc := 26) C 3 dX1_refusal_26 rfl rfl ?_
      refine dl_if_lt (pc := 27) C 48 dX1_refusal_27 (by decide) h (fun q3 h => ?_) (fun q3 h => ?_)
      · refine dl_bipush (pc := 48) C 12 dX1_refusal_48 (by decide) ?_
        exact hQ 50 _ _ _ ⟨Option.some.inj h, rfl⟩ (vp_nar_int _) dX1_refusal_50
      · refine dl_iload (pc := 30) C 4 dX1_refusal_30 rfl ?_
        refine dl_if_lt (pc := 32) C 48 dX1_refusal_32 (by decide) h (fun q2 h => ?_) (fun q2 h => ?_)
        · refine dl_bipush (pc := 48) C 12 dX1_refusal_48 (by decide) ?_
          exact hQ 50 _ _ _ ⟨Option.some.inj h, rfl⟩ (vp_nar_int _) dX1_refusal_50
        · refine dl_iload_n (pc := 35) C 3 dX1_refusal_35 rfl rfl ?_
          refine dl_aload_n (pc := 36) C 0 dX1_refusal_36 rfl rfl ?_
          refine dl_get (pc := 37) C hin_X1_refusal_X1 5 cc_a5 rfl 1 (by decide) lk_X1_refusal_15 rfl rfl dX1_refusal_37 ?_
          refine dl_iload_n (pc := 40) C 1 dX1_refusal_40 rfl rfl ?_
          obtain ⟨h0, h⟩ := dl_gd_some h
          refine dl_iald (pc := 41) C 23 0 cc_a26 hTY h0 dX1_refusal_41 ?_
          refine dl_iload (pc := 42) C 4 dX1_refusal_42 rfl ?_
          refine dl_isub (pc := 44) C dX1_refusal_44 ?_
          refine dl_icmp_le (pc := 45) C 51 dX1_refusal_45 (by decide) h (fun q1 h => ?_) (fun q1 h => ?_)
          · refine dl_iconst (pc := 51) C 0 dX1_refusal_51 (by decide) ?_
            exact hQ 52 _ _ _ ⟨Option.some.inj h, rfl⟩ (vp_nar_int _) dX1_refusal_52
          · refine dl_bipush (pc := 48) C 12 dX1_refusal_48 (by decide) ?_
            exact hQ 50 _ _ _ ⟨Option.some.inj h, rfl⟩ (vp_nar_int _) dX1_refusal_50
    · refine dl_bipush (pc := 23) C 11 dX1_refusal_23 (by decide) ?_
      exact hQ 25 _ _ _ ⟨Option.some.inj h, rfl⟩ (vp_nar_int _) dX1_refusal_25
theorem hin_X2_hasPlace_X2 : ∀ w ∈ u_ws RX2 TX2 18, w ∈ wsX2_hasPlace := fun _ h => List.mem_cons_of_mem _ (List.mem_append_right _ h)
theorem lk_X2_hasPlace_53 : Cond.fieldLink (yX2_hasPlace).cls 53 "DripLines$Net" (TX2 10).2.1 (TX2 10).2.2.1 ∈ wsX2_hasPlace := by decide +kernel
set_option maxHeartbeats 4000000 in
set_option maxRecDepth 100000 in
theorem ccl2_hasPlace (l : Launch) (D : va_G) (cI cP cII : ClassId) (TY : dl_TY) (hTY : TY[0]? = some (cI, .int)) (ad : Nat → Nat) (pr : Nat → Option Nat) (R : va_W) (g : dl_Sg) (x1 : Int32) {r0 : Int32} (h : cl2_hasPlace g x1 = some r0) : dl_CtI l D TY cc_nw yX2_hasPlace wsX2_hasPlace { frames := 0, cells := 0, slots := 0, locals := 0 } 0 0 [.ref (ad 1), .int x1] (cc_w cI cP cII ad pr g ++ R) (fun r u => r = r0 ∧ u = cc_w cI cP cII ad pr g ++ R) := by
  refine dl_metI (ty := .boolean) [(0, .ref (ad 1)), (1, .int x1)] (by decide) rfl (Nat.le_of_ble_eq_true rfl) rfl ?_
  intro p e s m args below meth c Q A C hQ
  unfold cl2_hasPlace at h
  refine dl_iload_n (pc := 0) C 1 dX2_hasPlace_0 rfl rfl ?_
  refine dl_if_lt (pc := 1) C 16 dX2_hasPlace_1 (by decide) h (fun q2 h => ?_) (fun q2 h => ?_)
  · refine dl_iconst (pc := 16) C 0 dX2_hasPlace_16 (by decide) ?_
    exact hQ 17 _ _ _ ⟨Option.some.inj h, rfl⟩ rfl dX2_hasPlace_17
  · refine dl_iload_n (pc := 4) C 1 dX2_hasPlace_4 rfl rfl ?_
    refine dl_aload_n (pc := 5) C 0 dX2_hasPlace_5 rfl rfl ?_
    refine dl_get (pc := 6) C hin_X2_hasPlace_X2 1 cc_a1 rfl 10 (by decide) lk_X2_hasPlace_53 rfl rfl dX2_hasPlace_6 ?_
    refine dl_icmp_ge (pc := 9) C 16 dX2_hasPlace_9 (by decide) h (fun q1 h => ?_) (fun q1 h => ?_)
    · refine dl_iconst (pc := 16) C 0 dX2_hasPlace_16 (by decide) ?_
      exact hQ 17 _ _ _ ⟨Option.some.inj h, rfl⟩ rfl dX2_hasPlace_17
    · refine dl_iconst (pc := 12) C 1 dX2_hasPlace_12 (by decide) ?_
      refine dl_goto (pc := 13) C 17 dX2_hasPlace_13 (by decide) ?_
      exact hQ 17 _ _ _ ⟨Option.some.inj h, rfl⟩ rfl dX2_hasPlace_17
theorem hin_X2_hasStreet_X2 : ∀ w ∈ u_ws RX2 TX2 18, w ∈ wsX2_hasStreet := fun _ h => List.mem_cons_of_mem _ (List.mem_append_right _ h)
theorem lk_X2_hasStreet_56 : Cond.fieldLink (yX2_hasStreet).cls 56 "DripLines$Net" (TX2 11).2.1 (TX2 11).2.2.1 ∈ wsX2_hasStreet := by decide +kernel
set_option maxHeartbeats 4000000 in
set_option maxRecDepth 100000 in
theorem ccl2_hasStreet (l : Launch) (D : va_G) (cI cP cII : ClassId) (TY : dl_TY) (hTY : TY[0]? = some (cI, .int)) (ad : Nat → Nat) (pr : Nat → Option Nat) (R : va_W) (g : dl_Sg) (x1 : Int32) {r0 : Int32} (h : cl2_hasStreet g x1 = some r0) : dl_CtI l D TY cc_nw yX2_hasStreet wsX2_hasStreet { frames := 0, cells := 0, slots := 0, locals := 0 } 0 0 [.ref (ad 1), .int x1] (cc_w cI cP cII ad pr g ++ R) (fun r u => r = r0 ∧ u = cc_w cI cP cII ad pr g ++ R) := by
  refine dl_metI (ty := .boolean) [(0, .ref (ad 1)), (1, .int x1)] (by decide) rfl (Nat.le_of_ble_eq_true rfl) rfl ?_
  intro p e s m args below meth c Q A C hQ
  unfold cl2_hasStreet at h
  refine dl_iload_n (pc := 0) C 1 dX2_hasStreet_0 rfl rfl ?_
  refine dl_if_lt (pc := 1) C 16 dX2_hasStreet_1 (by decide) h (fun q2 h => ?_) (fun q2 h => ?_)
  · refine dl_iconst (pc := 16) C 0 dX2_hasStreet_16 (by decide) ?_
    exact hQ 17 _ _ _ ⟨Option.some.inj h, rfl⟩ rfl dX2_hasStreet_17
  · refine dl_iload_n (pc := 4) C 1 dX2_hasStreet_4 rfl rfl ?_
    refine dl_aload_n (pc := 5) C 0 dX2_hasStreet_5 rfl rfl ?_
    refine dl_get (pc := 6) C hin_X2_hasStreet_X2 1 cc_a1 rfl 11 (by decide) lk_X2_hasStreet_56 rfl rfl dX2_hasStreet_6 ?_
    refine dl_icmp_ge (pc := 9) C 16 dX2_hasStreet_9 (by decide) h (fun q1 h => ?_) (fun q1 h => ?_)
    · refine dl_iconst (pc := 16) C 0 dX2_hasStreet_16 (by decide) ?_
      exact hQ 17 _ _ _ ⟨Option.some.inj h, rfl⟩ rfl dX2_hasStreet_17
    · refine dl_iconst (pc := 12) C 1 dX2_hasStreet_12 (by decide) ?_
      refine dl_goto (pc := 13) C 17 dX2_hasStreet_13 (by decide) ?_
      exact hQ 17 _ _ _ ⟨Option.some.inj h, rfl⟩ rfl dX2_hasStreet_17
theorem hin_X2_isThere_X2 : ∀ w ∈ u_ws RX2 TX2 18, w ∈ wsX2_isThere := fun _ h => List.mem_cons_of_mem _ (List.mem_append_right _ h)
theorem lk_X2_isThere_59 : Cond.fieldLink (yX2_isThere).cls 59 "DripLines$Net" (TX2 14).2.1 (TX2 14).2.2.1 ∈ wsX2_isThere := by decide +kernel
set_option maxHeartbeats 4000000 in
set_option maxRecDepth 100000 in
theorem ccl2_isThere (l : Launch) (D : va_G) (cI cP cII : ClassId) (TY : dl_TY) (hTY : TY[0]? = some (cI, .int)) (ad : Nat → Nat) (pr : Nat → Option Nat) (R : va_W) (g : dl_Sg) (x1 : Int32) {r0 : Int32} (h : cl2_isThere g x1 = some r0) : dl_CtI l D TY cc_nw yX2_isThere wsX2_isThere { frames := 1, cells := 0, slots := 0, locals := 21 } 0 0 [.ref (ad 1), .int x1] (cc_w cI cP cII ad pr g ++ R) (fun r u => r = r0 ∧ u = cc_w cI cP cII ad pr g ++ R) := by
  refine dl_metI (ty := .boolean) [(0, .ref (ad 1)), (1, .int x1)] (by decide) rfl (Nat.le_of_ble_eq_true rfl) rfl ?_
  intro p e s m args below meth c Q A C hQ
  unfold cl2_isThere at h
  refine dl_aload_n (pc := 0) C 0 dX2_isThere_0 rfl rfl ?_
  refine dl_get (pc := 1) C hin_X2_isThere_X2 1 cc_a1 rfl 14 (by decide) lk_X2_isThere_59 rfl rfl dX2_isThere_1 ?_
  refine dl_iload_n (pc := 4) C 1 dX2_isThere_4 rfl rfl ?_
  obtain ⟨r1, h1, h⟩ := dl_bi_some h
  refine dl_sIN0 (n := 2) (pc := 5) C (ccl11_bitAt l D TY cc_nw _ _ _ h1) ggX2_isThere_X11_bitAt rfl rfl rfl nk_RX2_62 (by decide +kernel) (by decide +kernel) (by decide +kernel) ⟨Nat.le_of_ble_eq_true rfl, Nat.le_of_ble_eq_true rfl⟩ rfl rfl (Nat.le_of_ble_eq_true rfl) dX2_isThere_5 ⟨Nat.zero_le _, Nat.zero_le _⟩ (fun r u hp => ?_)
  obtain ⟨rfl, hu⟩ := hp
  rw [hu]
  clear hu
  refine dl_iconst (pc := 8) C 1 dX2_isThere_8 (by decide) ?_
  refine dl_icmp_ne (pc := 9) C 16 dX2_isThere_9 (by decide) h (fun q2 h => ?_) (fun q2 h => ?_)
  · refine dl_iconst (pc := 12) C 1 dX2_isThere_12 (by decide) ?_
    refine dl_goto (pc := 13) C 17 dX2_isThere_13 (by decide) ?_
    exact hQ 17 _ _ _ ⟨Option.some.inj h, rfl⟩ rfl dX2_isThere_17
  · refine dl_iconst (pc := 16) C 0 dX2_isThere_16 (by decide) ?_
    exact hQ 17 _ _ _ ⟨Option.some.inj h, rfl⟩ rfl dX2_isThere_17
theorem hin_X2_isTap_X2 : ∀ w ∈ u_ws RX2 TX2 18, w ∈ wsX2_isTap := fun _ h => List.mem_cons_of_mem _ (List.mem_append_right _ h)
theorem lk_X2_isTap_66 : Cond.fieldLink (yX2_isTap).cls 66 "DripLines$Net" (TX2 12).2.1 (TX2 12).2.2.1 ∈ wsX2_isTap := by decide +kernel
set_option maxHeartbeats 4000000 in
set_option maxRecDepth 100000 in
theorem ccl2_isTap (l : Launch) (D : va_G) (cI cP cII : ClassId) (TY : dl_TY) (hTY : TY[0]? = some (cI, .int)) (ad : Nat → Nat) (pr : Nat → Option Nat) (R : va_W) (g : dl_Sg) (x1 : Int32) {r0 : Int32} (h : cl2_isTap g x1 = some r0) : dl_CtI l D TY cc_nw yX2_isTap wsX2_isTap { frames := 1, cells := 0, slots := 0, locals := 21 } 0 0 [.ref (ad 1), .int x1] (cc_w cI cP cII ad pr g ++ R) (fun r u => r = r0 ∧ u = cc_w cI cP cII ad pr g ++ R) := by
  refine dl_metI (ty := .boolean) [(0, .ref (ad 1)), (1, .int x1)] (by decide) rfl (Nat.le_of_ble_eq_true rfl) rfl ?_
  intro p e s m args below meth c Q A C hQ
  unfold cl2_isTap at h
  refine dl_aload_n (pc := 0) C 0 dX2_isTap_0 rfl rfl ?_
  refine dl_get (pc := 1) C hin_X2_isTap_X2 1 cc_a1 rfl 12 (by decide) lk_X2_isTap_66 rfl rfl dX2_isTap_1 ?_
  refine dl_iload_n (pc := 4) C 1 dX2_isTap_4 rfl rfl ?_
  obtain ⟨r1, h1, h⟩ := dl_bi_some h
  refine dl_sIN0 (n := 2) (pc := 5) C (ccl11_bitAt l D TY cc_nw _ _ _ h1) ggX2_isTap_X11_bitAt rfl rfl rfl nk_RX2_62 (by decide +kernel) (by decide +kernel) (by decide +kernel) ⟨Nat.le_of_ble_eq_true rfl, Nat.le_of_ble_eq_true rfl⟩ rfl rfl (Nat.le_of_ble_eq_true rfl) dX2_isTap_5 ⟨Nat.zero_le _, Nat.zero_le _⟩ (fun r u hp => ?_)
  obtain ⟨rfl, hu⟩ := hp
  rw [hu]
  clear hu
  refine dl_iconst (pc := 8) C 1 dX2_isTap_8 (by decide) ?_
  refine dl_icmp_ne (pc := 9) C 16 dX2_isTap_9 (by decide) h (fun q2 h => ?_) (fun q2 h => ?_)
  · refine dl_iconst (pc := 12) C 1 dX2_isTap_12 (by decide) ?_
    refine dl_goto (pc := 13) C 17 dX2_isTap_13 (by decide) ?_
    exact hQ 17 _ _ _ ⟨Option.some.inj h, rfl⟩ rfl dX2_isTap_17
  · refine dl_iconst (pc := 16) C 0 dX2_isTap_16 (by decide) ?_
    exact hQ 17 _ _ _ ⟨Option.some.inj h, rfl⟩ rfl dX2_isTap_17
theorem hin_X2_streetsAt_X2 : ∀ w ∈ u_ws RX2 TX2 18, w ∈ wsX2_streetsAt := fun _ h => List.mem_cons_of_mem _ (List.mem_append_right _ h)
theorem lk_X2_streetsAt_24 : Cond.fieldLink (yX2_streetsAt).cls 24 "DripLines$Net" (TX2 3).2.1 (TX2 3).2.2.1 ∈ wsX2_streetsAt := by decide +kernel
set_option maxHeartbeats 4000000 in
set_option maxRecDepth 100000 in
theorem ccl2_streetsAt (l : Launch) (D : va_G) (cI cP cII : ClassId) (TY : dl_TY) (hTY : TY[0]? = some (cI, .int)) (ad : Nat → Nat) (pr : Nat → Option Nat) (R : va_W) (g : dl_Sg) (x1 : Int32) {r0 : Int32} (h : cl2_streetsAt g x1 = some r0) : dl_CtI l D TY cc_nw yX2_streetsAt wsX2_streetsAt { frames := 1, cells := 0, slots := 0, locals := 20 } 0 0 [.ref (ad 1), .int x1] (cc_w cI cP cII ad pr g ++ R) (fun r u => r = r0 ∧ u = cc_w cI cP cII ad pr g ++ R) := by
  refine dl_metI (ty := .int) [(0, .ref (ad 1)), (1, .int x1)] (by decide) rfl (Nat.le_of_ble_eq_true rfl) rfl ?_
  intro p e s m args below meth c Q A C hQ
  unfold cl2_streetsAt at h
  refine dl_aload_n (pc := 0) C 0 dX2_streetsAt_0 rfl rfl ?_
  refine dl_get (pc := 1) C hin_X2_streetsAt_X2 1 cc_a1 rfl 3 (by decide) lk_X2_streetsAt_24 rfl rfl dX2_streetsAt_1 ?_
  refine dl_iload_n (pc := 4) C 1 dX2_streetsAt_4 rfl rfl ?_
  obtain ⟨h0, h⟩ := dl_gd_some h
  refine dl_iald (pc := 5) C 9 0 cc_a12 hTY h0 dX2_streetsAt_5 ?_
  obtain ⟨r1, h1, h⟩ := dl_bi_some h
  refine dl_sI0 (pc := 6) C (cjd_bitCount l D TY cc_nw _ _ h1) (va_cwS 1 C.2.2.2.2.1 gX2_streetsAt_J6_bitCount_0f7a4 rfl rfl rfl (by decide +kernel) ⟨Nat.le_of_ble_eq_true rfl, Nat.le_of_ble_eq_true rfl⟩) rfl rfl (Nat.le_of_ble_eq_true rfl) dX2_streetsAt_6 ⟨Nat.zero_le _, Nat.zero_le _⟩ (fun r u hp => ?_)
  obtain ⟨rfl, hu⟩ := hp
  rw [hu]
  clear hu
  exact hQ 9 _ _ _ ⟨Option.some.inj h, rfl⟩ (vp_nar_int _) dX2_streetsAt_9
set_option maxHeartbeats 4000000 in
set_option maxRecDepth 100000 in
theorem ccl2_mayJoin (l : Launch) (D : va_G) (cI cP cII : ClassId) (TY : dl_TY) (hTY : TY[0]? = some (cI, .int)) (ad : Nat → Nat) (pr : Nat → Option Nat) (R : va_W) (g : dl_Sg) (x1 : Int32) (x2 : Int32) (x3 : Int32) {r0 : Int32} (h : cl2_mayJoin g x1 x2 x3 = some r0) : dl_CtI l D TY cc_nw yX2_mayJoin wsX2_mayJoin { frames := 1, cells := 0, slots := 0, locals := 21 } 0 0 [.ref (ad 1), .int x1, .int x2, .int x3] (cc_w cI cP cII ad pr g ++ R) (fun r u => r = r0 ∧ u = cc_w cI cP cII ad pr g ++ R) := by
  refine dl_metI (ty := .boolean) [(0, .ref (ad 1)), (1, .int x1), (2, .int x2), (3, .int x3)] (by decide) rfl (Nat.le_of_ble_eq_true rfl) rfl ?_
  intro p e s m args below meth c Q A C hQ
  unfold cl2_mayJoin at h
  refine dl_aload_n (pc := 0) C 0 dX2_mayJoin_0 rfl rfl ?_
  refine dl_iload_n (pc := 1) C 1 dX2_mayJoin_1 rfl rfl ?_
  obtain ⟨r1, h1, h⟩ := dl_bi_some h
  refine dl_vI0 (pc := 2) C (ccl2_hasPlace l D cI cP cII TY hTY ad pr R _ _ h1) (cwV 1 C.2.2.2.2.1 gX2_mayJoin_X2_hasPlace rfl rfl rfl (by decide +kernel) ⟨Nat.le_of_ble_eq_true rfl, Nat.le_of_ble_eq_true rfl⟩) 1 2 cc_a1 rfl rfl rfl (Nat.le_of_ble_eq_true rfl) dX2_mayJoin_2 ⟨Nat.zero_le _, Nat.zero_le _⟩ (fun r u hp => ?_)
  obtain ⟨rfl, rfl⟩ := hp
  refine dl_if_eq (pc := 5) C 32 dX2_mayJoin_5 (by decide) h (fun q7 h => ?_) (fun q7 h => ?_)
  · refine dl_iconst (pc := 32) C 0 dX2_mayJoin_32 (by decide) ?_
    exact hQ 33 _ _ _ ⟨Option.some.inj h, rfl⟩ rfl dX2_mayJoin_33
  · refine dl_aload_n (pc := 8) C 0 dX2_mayJoin_8 rfl rfl ?_
    refine dl_iload_n (pc := 9) C 2 dX2_mayJoin_9 rfl rfl ?_
    obtain ⟨r2, h1, h⟩ := dl_bi_some h
    refine dl_vI0 (pc := 10) C (ccl2_hasPlace l D cI cP cII TY hTY ad pr R _ _ h1) (cwV 1 C.2.2.2.2.1 gX2_mayJoin_X2_hasPlace rfl rfl rfl (by decide +kernel) ⟨Nat.le_of_ble_eq_true rfl, Nat.le_of_ble_eq_true rfl⟩) 1 2 cc_a1 rfl rfl rfl (Nat.le_of_ble_eq_true rfl) dX2_mayJoin_10 ⟨Nat.zero_le _, Nat.zero_le _⟩ (fun r u hp => ?_)
    obtain ⟨rfl, rfl⟩ := hp
    refine dl_if_eq (pc := 13) C 32 dX2_mayJoin_13 (by decide) h (fun q6 h => ?_) (fun q6 h => ?_)
    · refine dl_iconst (pc := 32) C 0 dX2_mayJoin_32 (by decide) ?_
      exact hQ 33 _ _ _ ⟨Option.some.inj h, rfl⟩ rfl dX2_mayJoin_33
    · refine dl_iload_n (pc := 16) C 1 dX2_mayJoin_16 rfl rfl ?_
      refine dl_iload_n (pc := 17) C 2 dX2_mayJoin_17 rfl rfl ?_
      refine dl_icmp_eq (pc := 18) C 32 dX2_mayJoin_18 (by decide) h (fun q5 h => ?_) (fun q5 h => ?_)
      · refine dl_iconst (pc := 32) C 0 dX2_mayJoin_32 (by decide) ?_
        exact hQ 33 _ _ _ ⟨Option.some.inj h, rfl⟩ rfl dX2_mayJoin_33
      · refine dl_iload_n (pc := 21) C 3 dX2_mayJoin_21 rfl rfl ?_
        obtain ⟨r3, h1, h⟩ := dl_bi_some h
        refine dl_sIN0 (n := 1) (pc := 22) C (ccl11_isAmount l D TY cc_nw _ _ h1) ggX2_mayJoin_X11_isAmount rfl rfl rfl nk_RX2_79 (by decide +kernel) (by decide +kernel) (by decide +kernel) ⟨Nat.le_of_ble_eq_true rfl, Nat.le_of_ble_eq_true rfl⟩ rfl rfl (Nat.le_of_ble_eq_true rfl) dX2_mayJoin_22 ⟨Nat.zero_le _, Nat.zero_le _⟩ (fun r u hp => ?_)
        obtain ⟨rfl, hu⟩ := hp
        rw [hu]
        clear hu
        refine dl_if_eq (pc := 25) C 32 dX2_mayJoin_25 (by decide) h (fun q4 h => ?_) (fun q4 h => ?_)
        · refine dl_iconst (pc := 32) C 0 dX2_mayJoin_32 (by decide) ?_
          exact hQ 33 _ _ _ ⟨Option.some.inj h, rfl⟩ rfl dX2_mayJoin_33
        · refine dl_iconst (pc := 28) C 1 dX2_mayJoin_28 (by decide) ?_
          refine dl_goto (pc := 29) C 33 dX2_mayJoin_29 (by decide) ?_
          exact hQ 33 _ _ _ ⟨Option.some.inj h, rfl⟩ rfl dX2_mayJoin_33
theorem hin_X2_open_X2 : ∀ w ∈ u_ws RX2 TX2 18, w ∈ wsX2_open := fun _ h => List.mem_cons_of_mem _ (List.mem_append_right _ h)
theorem lk_X2_open_24 : Cond.fieldLink (yX2_open).cls 24 "DripLines$Net" (TX2 3).2.1 (TX2 3).2.2.1 ∈ wsX2_open := by decide +kernel
theorem lk_X2_open_27 : Cond.fieldLink (yX2_open).cls 27 "DripLines$Net" (TX2 4).2.1 (TX2 4).2.2.1 ∈ wsX2_open := by decide +kernel
theorem lk_X2_open_30 : Cond.fieldLink (yX2_open).cls 30 "DripLines$Net" (TX2 5).2.1 (TX2 5).2.2.1 ∈ wsX2_open := by decide +kernel
theorem lk_X2_open_59 : Cond.fieldLink (yX2_open).cls 59 "DripLines$Net" (TX2 14).2.1 (TX2 14).2.2.1 ∈ wsX2_open := by decide +kernel
set_option maxHeartbeats 4000000 in
set_option maxRecDepth 100000 in
theorem ccl2_open (l : Launch) (D : va_G) (cI cP cII : ClassId) (TY : dl_TY) (hTY : TY[0]? = some (cI, .int)) (ad : Nat → Nat) (pr : Nat → Option Nat) (R : va_W) (g : dl_Sg) (x1 : Int32) {g0 : dl_Sg} (h : cl2_open g x1 = some g0) : dl_CtV l D TY cc_nw yX2_open wsX2_open { frames := 0, cells := 0, slots := 0, locals := 0 } 0 0 [.ref (ad 1), .int x1] (cc_w cI cP cII ad pr g ++ R) (fun u => u = cc_w cI cP cII ad pr g0 ++ R) := by
  refine dl_metV [(0, .ref (ad 1)), (1, .int x1)] (by decide) rfl (Nat.le_of_ble_eq_true rfl) rfl ?_
  intro p e s m args below meth c Q A C hQ
  unfold cl2_open at h
  refine dl_aload_n (pc := 0) C 0 dX2_open_0 rfl rfl ?_
  refine dl_dup (pc := 1) C dX2_open_1 rfl ?_
  refine dl_get (pc := 2) C hin_X2_open_X2 1 cc_a1 rfl 14 (by decide) lk_X2_open_59 rfl rfl dX2_open_2 ?_
  refine dl_iconst (pc := 5) C 1 dX2_open_5 (by decide) ?_
  refine dl_iload_n (pc := 6) C 1 dX2_open_6 rfl rfl ?_
  refine dl_ishl (pc := 7) C dX2_open_7 ?_
  refine dl_ior (pc := 8) C dX2_open_8 ?_
  refine dl_put (pc := 9) C hin_X2_open_X2 tyX2 tyX2_ok nmX2 1 cc_a1 rfl 14 (by decide) lk_X2_open_59 rfl rfl (ty := .int) rfl (vp_nar_int _) rfl (Nat.le_of_ble_eq_true rfl) dX2_open_9 cc_p1_14 ?_
  obtain ⟨g1, h, hg⟩ := dl_nm_some h
  rw [← hg]
  clear hg
  refine dl_aload_n (pc := 12) C 0 dX2_open_12 rfl rfl ?_
  refine dl_get (pc := 13) C hin_X2_open_X2 1 cc_a1 rfl 3 (by decide) lk_X2_open_24 rfl rfl dX2_open_13 ?_
  refine dl_aload_n (pc := 16) C 0 dX2_open_16 rfl rfl ?_
  refine dl_get (pc := 17) C hin_X2_open_X2 1 cc_a1 rfl 4 (by decide) lk_X2_open_27 rfl rfl dX2_open_17 ?_
  refine dl_iload_n (pc := 20) C 1 dX2_open_20 rfl rfl ?_
  obtain ⟨h0, h⟩ := dl_gd_some h
  refine dl_iald (pc := 21) C 10 0 cc_a13 hTY h0 dX2_open_21 ?_
  refine dl_dup2 (pc := 22) C dX2_open_22 rfl rfl ?_
  obtain ⟨h0, h⟩ := dl_gd_some h
  refine dl_iald (pc := 23) C 9 0 cc_a12 hTY h0 dX2_open_23 ?_
  refine dl_iconst (pc := 24) C 1 dX2_open_24 (by decide) ?_
  refine dl_iload_n (pc := 25) C 1 dX2_open_25 rfl rfl ?_
  refine dl_ishl (pc := 26) C dX2_open_26 ?_
  refine dl_ior (pc := 27) C dX2_open_27 ?_
  obtain ⟨h0, h⟩ := dl_gd_some h
  refine dl_iast (pc := 28) C 9 0 cc_a12 hTY h0 dX2_open_28 cc_s12 ?_
  obtain ⟨g2, h, hg⟩ := dl_nm_some h
  rw [← hg]
  clear hg
  refine dl_aload_n (pc := 29) C 0 dX2_open_29 rfl rfl ?_
  refine dl_get (pc := 30) C hin_X2_open_X2 1 cc_a1 rfl 3 (by decide) lk_X2_open_24 rfl rfl dX2_open_30 ?_
  refine dl_aload_n (pc := 33) C 0 dX2_open_33 rfl rfl ?_
  refine dl_get (pc := 34) C hin_X2_open_X2 1 cc_a1 rfl 5 (by decide) lk_X2_open_30 rfl rfl dX2_open_34 ?_
  refine dl_iload_n (pc := 37) C 1 dX2_open_37 rfl rfl ?_
  obtain ⟨h0, h⟩ := dl_gd_some h
  refine dl_iald (pc := 38) C 11 0 cc_a14 hTY h0 dX2_open_38 ?_
  refine dl_dup2 (pc := 39) C dX2_open_39 rfl rfl ?_
  obtain ⟨h0, h⟩ := dl_gd_some h
  refine dl_iald (pc := 40) C 9 0 cc_a12 hTY h0 dX2_open_40 ?_
  refine dl_iconst (pc := 41) C 1 dX2_open_41 (by decide) ?_
  refine dl_iload_n (pc := 42) C 1 dX2_open_42 rfl rfl ?_
  refine dl_ishl (pc := 43) C dX2_open_43 ?_
  refine dl_ior (pc := 44) C dX2_open_44 ?_
  obtain ⟨h0, h⟩ := dl_gd_some h
  refine dl_iast (pc := 45) C 9 0 cc_a12 hTY h0 dX2_open_45 cc_s12 ?_
  obtain ⟨g3, h, hg⟩ := dl_nm_some h
  rw [← hg]
  clear hg
  exact hQ 46 _ _ (by rw [Option.some.inj h]) dX2_open_46
theorem hin_X2_close_X2 : ∀ w ∈ u_ws RX2 TX2 18, w ∈ wsX2_close := fun _ h => List.mem_cons_of_mem _ (List.mem_append_right _ h)
theorem lk_X2_close_24 : Cond.fieldLink (yX2_close).cls 24 "DripLines$Net" (TX2 3).2.1 (TX2 3).2.2.1 ∈ wsX2_close := by decide +kernel
theorem lk_X2_close_27 : Cond.fieldLink (yX2_close).cls 27 "DripLines$Net" (TX2 4).2.1 (TX2 4).2.2.1 ∈ wsX2_close := by decide +kernel
theorem lk_X2_close_30 : Cond.fieldLink (yX2_close).cls 30 "DripLines$Net" (TX2 5).2.1 (TX2 5).2.2.1 ∈ wsX2_close := by decide +kernel
theorem lk_X2_close_59 : Cond.fieldLink (yX2_close).cls 59 "DripLines$Net" (TX2 14).2.1 (TX2 14).2.2.1 ∈ wsX2_close := by decide +kernel
set_option maxHeartbeats 4000000 in
set_option maxRecDepth 100000 in
theorem ccl2_close (l : Launch) (D : va_G) (cI cP cII : ClassId) (TY : dl_TY) (hTY : TY[0]? = some (cI, .int)) (ad : Nat → Nat) (pr : Nat → Option Nat) (R : va_W) (g : dl_Sg) (x1 : Int32) {g0 : dl_Sg} (h : cl2_close g x1 = some g0) : dl_CtV l D TY cc_nw yX2_close wsX2_close { frames := 0, cells := 0, slots := 0, locals := 0 } 0 0 [.ref (ad 1), .int x1] (cc_w cI cP cII ad pr g ++ R) (fun u => u = cc_w cI cP cII ad pr g0 ++ R) := by
  refine dl_metV [(0, .ref (ad 1)), (1, .int x1)] (by decide) rfl (Nat.le_of_ble_eq_true rfl) rfl ?_
  intro p e s m args below meth c Q A C hQ
  unfold cl2_close at h
  refine dl_aload_n (pc := 0) C 0 dX2_close_0 rfl rfl ?_
  refine dl_dup (pc := 1) C dX2_close_1 rfl ?_
  refine dl_get (pc := 2) C hin_X2_close_X2 1 cc_a1 rfl 14 (by decide) lk_X2_close_59 rfl rfl dX2_close_2 ?_
  refine dl_iconst (pc := 5) C 1 dX2_close_5 (by decide) ?_
  refine dl_iload_n (pc := 6) C 1 dX2_close_6 rfl rfl ?_
  refine dl_ishl (pc := 7) C dX2_close_7 ?_
  refine dl_iconst (pc := 8) C (-1) dX2_close_8 (by decide) ?_
  refine dl_ixor (pc := 9) C dX2_close_9 ?_
  refine dl_iand (pc := 10) C dX2_close_10 ?_
  refine dl_put (pc := 11) C hin_X2_close_X2 tyX2 tyX2_ok nmX2 1 cc_a1 rfl 14 (by decide) lk_X2_close_59 rfl rfl (ty := .int) rfl (vp_nar_int _) rfl (Nat.le_of_ble_eq_true rfl) dX2_close_11 cc_p1_14 ?_
  obtain ⟨g1, h, hg⟩ := dl_nm_some h
  rw [← hg]
  clear hg
  refine dl_aload_n (pc := 14) C 0 dX2_close_14 rfl rfl ?_
  refine dl_get (pc := 15) C hin_X2_close_X2 1 cc_a1 rfl 3 (by decide) lk_X2_close_24 rfl rfl dX2_close_15 ?_
  refine dl_aload_n (pc := 18) C 0 dX2_close_18 rfl rfl ?_
  refine dl_get (pc := 19) C hin_X2_close_X2 1 cc_a1 rfl 4 (by decide) lk_X2_close_27 rfl rfl dX2_close_19 ?_
  refine dl_iload_n (pc := 22) C 1 dX2_close_22 rfl rfl ?_
  obtain ⟨h0, h⟩ := dl_gd_some h
  refine dl_iald (pc := 23) C 10 0 cc_a13 hTY h0 dX2_close_23 ?_
  refine dl_dup2 (pc := 24) C dX2_close_24 rfl rfl ?_
  obtain ⟨h0, h⟩ := dl_gd_some h
  refine dl_iald (pc := 25) C 9 0 cc_a12 hTY h0 dX2_close_25 ?_
  refine dl_iconst (pc := 26) C 1 dX2_close_26 (by decide) ?_
  refine dl_iload_n (pc := 27) C 1 dX2_close_27 rfl rfl ?_
  refine dl_ishl (pc := 28) C dX2_close_28 ?_
  refine dl_iconst (pc := 29) C (-1) dX2_close_29 (by decide) ?_
  refine dl_ixor (pc := 30) C dX2_close_30 ?_
  refine dl_iand (pc := 31) C dX2_close_31 ?_
  obtain ⟨h0, h⟩ := dl_gd_some h
  refine dl_iast (pc := 32) C 9 0 cc_a12 hTY h0 dX2_close_32 cc_s12 ?_
  obtain ⟨g2, h, hg⟩ := dl_nm_some h
  rw [← hg]
  clear hg
  refine dl_aload_n (pc := 33) C 0 dX2_close_33 rfl rfl ?_
  refine dl_get (pc := 34) C hin_X2_close_X2 1 cc_a1 rfl 3 (by decide) lk_X2_close_24 rfl rfl dX2_close_34 ?_
  refine dl_aload_n (pc := 37) C 0 dX2_close_37 rfl rfl ?_
  refine dl_get (pc := 38) C hin_X2_close_X2 1 cc_a1 rfl 5 (by decide) lk_X2_close_30 rfl rfl dX2_close_38 ?_
  refine dl_iload_n (pc := 41) C 1 dX2_close_41 rfl rfl ?_
  obtain ⟨h0, h⟩ := dl_gd_some h
  refine dl_iald (pc := 42) C 11 0 cc_a14 hTY h0 dX2_close_42 ?_
  refine dl_dup2 (pc := 43) C dX2_close_43 rfl rfl ?_
  obtain ⟨h0, h⟩ := dl_gd_some h
  refine dl_iald (pc := 44) C 9 0 cc_a12 hTY h0 dX2_close_44 ?_
  refine dl_iconst (pc := 45) C 1 dX2_close_45 (by decide) ?_
  refine dl_iload_n (pc := 46) C 1 dX2_close_46 rfl rfl ?_
  refine dl_ishl (pc := 47) C dX2_close_47 ?_
  refine dl_iconst (pc := 48) C (-1) dX2_close_48 (by decide) ?_
  refine dl_ixor (pc := 49) C dX2_close_49 ?_
  refine dl_iand (pc := 50) C dX2_close_50 ?_
  obtain ⟨h0, h⟩ := dl_gd_some h
  refine dl_iast (pc := 51) C 9 0 cc_a12 hTY h0 dX2_close_51 cc_s12 ?_
  obtain ⟨g3, h, hg⟩ := dl_nm_some h
  rw [← hg]
  clear hg
  exact hQ 52 _ _ (by rw [Option.some.inj h]) dX2_close_52
theorem hin_X2_note_X2 : ∀ w ∈ u_ws RX2 TX2 18, w ∈ wsX2_note := fun _ h => List.mem_cons_of_mem _ (List.mem_append_right _ h)
theorem lk_X2_note_39 : Cond.fieldLink (yX2_note).cls 39 "DripLines$Net" (TX2 8).2.1 (TX2 8).2.2.1 ∈ wsX2_note := by decide +kernel
theorem lk_X2_note_114 : Cond.fieldLink (yX2_note).cls 114 "DripLines$Net" (TX2 16).2.1 (TX2 16).2.2.1 ∈ wsX2_note := by decide +kernel
theorem lk_X2_note_120 : Cond.fieldLink (yX2_note).cls 120 "DripLines$Net" (TX2 17).2.1 (TX2 17).2.2.1 ∈ wsX2_note := by decide +kernel
set_option maxHeartbeats 4000000 in
set_option maxRecDepth 100000 in
theorem cl2_note_t30 {p : Program} {e : Env} {s : State} {m : MethodId} {args : Array Value} {below : List Frame} {meth : Method} {c : Code} {Q : State → Prop} {A : Nat → Prop} (l : Launch) (D : va_G) (cI cP cII : ClassId) (TY : dl_TY) (hTY : TY[0]? = some (cI, .int)) (ad : Nat → Nat) (pr : Nat → Option Nat) (R : va_W) {g0 : dl_Sg} (C : dl_Cx p s m args c A D TY cc_nw cX2_note 2 yX2_note.cls wsX2_note) (hQ : dl_RtV p l e (headSpec wsX2_note { frames := 1, cells := 0, slots := 0, locals := 60 }).room s m args below meth c Q A D cX2_note 2 0 0 (fun u => u = cc_w cI cP cII ad pr g0 ++ R)) (x1 : Int32) (g : dl_Sg) (h : cl2_note_b30 x1 g = some g0) : dl_At p l e (headSpec wsX2_note { frames := 1, cells := 0, slots := 0, locals := 60 }).room s m args below meth c Q A D 2 0 0 30 [(0, .ref (ad 1)), (1, .int x1)] [] (cc_w cI cP cII ad pr g ++ R) := by
  unfold cl2_note_b30 at h
  refine dl_aload_n (pc := 30) C 0 dX2_note_30 rfl rfl ?_
  refine dl_get (pc := 31) C hin_X2_note_X2 1 cc_a1 rfl 8 (by decide) lk_X2_note_39 rfl rfl dX2_note_31 ?_
  refine dl_aload_n (pc := 34) C 0 dX2_note_34 rfl rfl ?_
  refine dl_get (pc := 35) C hin_X2_note_X2 1 cc_a1 rfl 16 (by decide) lk_X2_note_114 rfl rfl dX2_note_35 ?_
  refine dl_iload_n (pc := 38) C 1 dX2_note_38 rfl rfl ?_
  obtain ⟨h0, h⟩ := dl_gd_some h
  refine dl_iast (pc := 39) C 14 0 cc_a17 hTY h0 dX2_note_39 cc_s17 ?_
  obtain ⟨g1, h, hg⟩ := dl_nm_some h
  rw [← hg]
  clear hg
  refine dl_aload_n (pc := 40) C 0 dX2_note_40 rfl rfl ?_
  refine dl_dup (pc := 41) C dX2_note_41 rfl ?_
  refine dl_get (pc := 42) C hin_X2_note_X2 1 cc_a1 rfl 16 (by decide) lk_X2_note_114 rfl rfl dX2_note_42 ?_
  refine dl_iconst (pc := 45) C 1 dX2_note_45 (by decide) ?_
  refine dl_iadd (pc := 46) C dX2_note_46 ?_
  refine dl_put (pc := 47) C hin_X2_note_X2 tyX2 tyX2_ok nmX2 1 cc_a1 rfl 16 (by decide) lk_X2_note_114 rfl rfl (ty := .int) rfl (vp_nar_int _) rfl (Nat.le_of_ble_eq_true rfl) dX2_note_47 cc_p1_16 ?_
  obtain ⟨g2, h, hg⟩ := dl_nm_some h
  rw [← hg]
  clear hg
  refine dl_aload_n (pc := 50) C 0 dX2_note_50 rfl rfl ?_
  refine dl_dup (pc := 51) C dX2_note_51 rfl ?_
  refine dl_get (pc := 52) C hin_X2_note_X2 1 cc_a1 rfl 17 (by decide) lk_X2_note_120 rfl rfl dX2_note_52 ?_
  refine dl_iconst (pc := 55) C 1 dX2_note_55 (by decide) ?_
  refine dl_iadd (pc := 56) C dX2_note_56 ?_
  refine dl_put (pc := 57) C hin_X2_note_X2 tyX2 tyX2_ok nmX2 1 cc_a1 rfl 17 (by decide) lk_X2_note_120 rfl rfl (ty := .int) rfl (vp_nar_int _) rfl (Nat.le_of_ble_eq_true rfl) dX2_note_57 cc_p1_17 ?_
  obtain ⟨g3, h, hg⟩ := dl_nm_some h
  rw [← hg]
  clear hg
  exact hQ 60 _ _ (by rw [Option.some.inj h]) dX2_note_60
set_option maxHeartbeats 4000000 in
set_option maxRecDepth 100000 in
theorem ccl2_note (l : Launch) (D : va_G) (cI cP cII : ClassId) (TY : dl_TY) (hTY : TY[0]? = some (cI, .int)) (ad : Nat → Nat) (pr : Nat → Option Nat) (R : va_W) (g : dl_Sg) (x1 : Int32) {g0 : dl_Sg} (h : cl2_note g x1 = some g0) : dl_CtV l D TY cc_nw yX2_note wsX2_note { frames := 1, cells := 0, slots := 0, locals := 60 } 0 0 [.ref (ad 1), .int x1] (cc_w cI cP cII ad pr g ++ R) (fun u => u = cc_w cI cP cII ad pr g0 ++ R) := by
  refine dl_metV [(0, .ref (ad 1)), (1, .int x1)] (by decide) rfl (Nat.le_of_ble_eq_true rfl) rfl ?_
  intro p e s m args below meth c Q A C hQ
  unfold cl2_note at h
  refine dl_aload_n (pc := 0) C 0 dX2_note_0 rfl rfl ?_
  refine dl_get (pc := 1) C hin_X2_note_X2 1 cc_a1 rfl 16 (by decide) lk_X2_note_114 rfl rfl dX2_note_1 ?_
  refine dl_bipush (pc := 4) C 10 dX2_note_4 (by decide) ?_
  refine dl_icmp_lt (pc := 6) C 30 dX2_note_6 (by decide) h (fun q3 h => ?_) (fun q3 h => ?_)
  · refine dl_sub [0, 1] rfl ?_
    exact cl2_note_t30 l D cI cP cII TY hTY ad pr R C hQ  _ _ h
  · refine dl_aload_n (pc := 9) C 0 dX2_note_9 rfl rfl ?_
    refine dl_get (pc := 10) C hin_X2_note_X2 1 cc_a1 rfl 8 (by decide) lk_X2_note_39 rfl rfl dX2_note_10 ?_
    refine dl_iconst (pc := 13) C 1 dX2_note_13 (by decide) ?_
    refine dl_aload_n (pc := 14) C 0 dX2_note_14 rfl rfl ?_
    refine dl_get (pc := 15) C hin_X2_note_X2 1 cc_a1 rfl 8 (by decide) lk_X2_note_39 rfl rfl dX2_note_15 ?_
    refine dl_iconst (pc := 18) C 0 dX2_note_18 (by decide) ?_
    refine dl_bipush (pc := 19) C 9 dX2_note_19 (by decide) ?_
    obtain ⟨h0, h⟩ := dl_gd_some h
    refine dl_copyi (pc := 21) C 14 14 0 (by decide +kernel) (by decide +kernel) (by decide +kernel) (by decide +kernel) cc_a17 cc_a17 hTY h0 (Nat.le_of_ble_eq_true rfl) (Nat.le_of_ble_eq_true rfl) dX2_note_21 cc_c17 ?_
    obtain ⟨g1, h, hg⟩ := dl_nm_some h
    rw [← hg]
    clear hg
    refine dl_aload_n (pc := 24) C 0 dX2_note_24 rfl rfl ?_
    refine dl_bipush (pc := 25) C 9 dX2_note_25 (by decide) ?_
    refine dl_put (pc := 27) C hin_X2_note_X2 tyX2 tyX2_ok nmX2 1 cc_a1 rfl 16 (by decide) lk_X2_note_114 rfl rfl (ty := .int) rfl (vp_nar_int _) rfl (Nat.le_of_ble_eq_true rfl) dX2_note_27 cc_p1_16 ?_
    obtain ⟨g2, h, hg⟩ := dl_nm_some h
    rw [← hg]
    clear hg
    refine dl_sub [0, 1] rfl ?_
    exact cl2_note_t30 l D cI cP cII TY hTY ad pr R C hQ  _ _ h
theorem hin_X2_addStreet_X2 : ∀ w ∈ u_ws RX2 TX2 18, w ∈ wsX2_addStreet := fun _ h => List.mem_cons_of_mem _ (List.mem_append_right _ h)
theorem lk_X2_addStreet_27 : Cond.fieldLink (yX2_addStreet).cls 27 "DripLines$Net" (TX2 4).2.1 (TX2 4).2.2.1 ∈ wsX2_addStreet := by decide +kernel
theorem lk_X2_addStreet_30 : Cond.fieldLink (yX2_addStreet).cls 30 "DripLines$Net" (TX2 5).2.1 (TX2 5).2.2.1 ∈ wsX2_addStreet := by decide +kernel
theorem lk_X2_addStreet_33 : Cond.fieldLink (yX2_addStreet).cls 33 "DripLines$Net" (TX2 6).2.1 (TX2 6).2.2.1 ∈ wsX2_addStreet := by decide +kernel
theorem lk_X2_addStreet_36 : Cond.fieldLink (yX2_addStreet).cls 36 "DripLines$Net" (TX2 7).2.1 (TX2 7).2.2.1 ∈ wsX2_addStreet := by decide +kernel
theorem lk_X2_addStreet_56 : Cond.fieldLink (yX2_addStreet).cls 56 "DripLines$Net" (TX2 11).2.1 (TX2 11).2.2.1 ∈ wsX2_addStreet := by decide +kernel
set_option maxHeartbeats 4000000 in
set_option maxRecDepth 100000 in
theorem ccl2_addStreet (l : Launch) (D : va_G) (cI cP cII : ClassId) (TY : dl_TY) (hTY : TY[0]? = some (cI, .int)) (ad : Nat → Nat) (pr : Nat → Option Nat) (R : va_W) (g : dl_Sg) (x1 : Int32) (x2 : Int32) (x3 : Int32) {r0 : Int32} {g0 : dl_Sg} (h : cl2_addStreet g x1 x2 x3 = some (r0, g0)) : dl_CtI l D TY cc_nw yX2_addStreet wsX2_addStreet { frames := 2, cells := 0, slots := 0, locals := 81 } 0 0 [.ref (ad 1), .int x1, .int x2, .int x3] (cc_w cI cP cII ad pr g ++ R) (fun r u => r = r0 ∧ u = cc_w cI cP cII ad pr g0 ++ R) := by
  refine dl_metI (ty := .int) [(0, .ref (ad 1)), (1, .int x1), (2, .int x2), (3, .int x3)] (by decide) rfl (Nat.le_of_ble_eq_true rfl) rfl ?_
  intro p e s m args below meth c Q A C hQ
  unfold cl2_addStreet at h
  refine dl_aload_n (pc := 0) C 0 dX2_addStreet_0 rfl rfl ?_
  refine dl_get (pc := 1) C hin_X2_addStreet_X2 1 cc_a1 rfl 11 (by decide) lk_X2_addStreet_56 rfl rfl dX2_addStreet_1 ?_
  refine dl_istore (pc := 4) C (fun v1 => [(4, .int v1), (0, .ref (ad 1)), (1, .int x1), (2, .int x2), (3, .int x3)]) dX2_addStreet_4 (by decide) (fun _ => rfl) h (fun v1 h => ?_)
  refine dl_aload_n (pc := 6) C 1 dX2_addStreet_6 rfl rfl ?_
  refine dl_get (pc := 7) C hin_X2_addStreet_X2 1 cc_a1 rfl 4 (by decide) lk_X2_addStreet_27 rfl rfl dX2_addStreet_7 ?_
  refine dl_iload (pc := 10) C 0 dX2_addStreet_10 rfl ?_
  refine dl_iload_n (pc := 12) C 2 dX2_addStreet_12 rfl rfl ?_
  obtain ⟨h0, h⟩ := dl_gd_some h
  refine dl_iast (pc := 13) C 10 0 cc_a13 hTY h0 dX2_addStreet_13 cc_s13 ?_
  obtain ⟨g2, h, hg⟩ := dl_nm_some h
  rw [← hg]
  clear hg
  refine dl_aload_n (pc := 14) C 1 dX2_addStreet_14 rfl rfl ?_
  refine dl_get (pc := 15) C hin_X2_addStreet_X2 1 cc_a1 rfl 5 (by decide) lk_X2_addStreet_30 rfl rfl dX2_addStreet_15 ?_
  refine dl_iload (pc := 18) C 0 dX2_addStreet_18 rfl ?_
  refine dl_iload_n (pc := 20) C 3 dX2_addStreet_20 rfl rfl ?_
  obtain ⟨h0, h⟩ := dl_gd_some h
  refine dl_iast (pc := 21) C 11 0 cc_a14 hTY h0 dX2_addStreet_21 cc_s14 ?_
  obtain ⟨g3, h, hg⟩ := dl_nm_some h
  rw [← hg]
  clear hg
  refine dl_aload_n (pc := 22) C 1 dX2_addStreet_22 rfl rfl ?_
  refine dl_get (pc := 23) C hin_X2_addStreet_X2 1 cc_a1 rfl 6 (by decide) lk_X2_addStreet_33 rfl rfl dX2_addStreet_23 ?_
  refine dl_iload (pc := 26) C 0 dX2_addStreet_26 rfl ?_
  refine dl_iload_n (pc := 28) C 4 dX2_addStreet_28 rfl rfl ?_
  obtain ⟨h0, h⟩ := dl_gd_some h
  refine dl_iast (pc := 29) C 12 0 cc_a15 hTY h0 dX2_addStreet_29 cc_s15 ?_
  obtain ⟨g4, h, hg⟩ := dl_nm_some h
  rw [← hg]
  clear hg
  refine dl_aload_n (pc := 30) C 1 dX2_addStreet_30 rfl rfl ?_
  refine dl_get (pc := 31) C hin_X2_addStreet_X2 1 cc_a1 rfl 7 (by decide) lk_X2_addStreet_36 rfl rfl dX2_addStreet_31 ?_
  refine dl_iload (pc := 34) C 0 dX2_addStreet_34 rfl ?_
  refine dl_iconst (pc := 36) C 1 dX2_addStreet_36 (by decide) ?_
  refine dl_iload_n (pc := 37) C 2 dX2_addStreet_37 rfl rfl ?_
  refine dl_ishl (pc := 38) C dX2_addStreet_38 ?_
  refine dl_iconst (pc := 39) C 1 dX2_addStreet_39 (by decide) ?_
  refine dl_iload_n (pc := 40) C 3 dX2_addStreet_40 rfl rfl ?_
  refine dl_ishl (pc := 41) C dX2_addStreet_41 ?_
  refine dl_ior (pc := 42) C dX2_addStreet_42 ?_
  obtain ⟨h0, h⟩ := dl_gd_some h
  refine dl_iast (pc := 43) C 13 0 cc_a16 hTY h0 dX2_addStreet_43 cc_s16 ?_
  obtain ⟨g5, h, hg⟩ := dl_nm_some h
  rw [← hg]
  clear hg
  refine dl_aload_n (pc := 44) C 1 dX2_addStreet_44 rfl rfl ?_
  refine dl_iload (pc := 45) C 0 dX2_addStreet_45 rfl ?_
  obtain ⟨g6, h1, h⟩ := dl_bi_some h
  refine dl_vV0 (pc := 47) C (ccl2_open l D cI cP cII TY hTY ad pr R _ _ h1) (cwV 1 C.2.2.2.2.1 gX2_addStreet_X2_open rfl rfl rfl (by decide +kernel) ⟨Nat.le_of_ble_eq_true rfl, Nat.le_of_ble_eq_true rfl⟩) 1 2 cc_a1 rfl rfl rfl (Nat.le_of_ble_eq_true rfl) dX2_addStreet_47 ⟨Nat.zero_le _, Nat.zero_le _⟩ (fun u hp => ?_)
  subst hp
  refine dl_aload_n (pc := 50) C 1 dX2_addStreet_50 rfl rfl ?_
  refine dl_dup (pc := 51) C dX2_addStreet_51 rfl ?_
  refine dl_get (pc := 52) C hin_X2_addStreet_X2 1 cc_a1 rfl 11 (by decide) lk_X2_addStreet_56 rfl rfl dX2_addStreet_52 ?_
  refine dl_iconst (pc := 55) C 1 dX2_addStreet_55 (by decide) ?_
  refine dl_iadd (pc := 56) C dX2_addStreet_56 ?_
  refine dl_put (pc := 57) C hin_X2_addStreet_X2 tyX2 tyX2_ok nmX2 1 cc_a1 rfl 11 (by decide) lk_X2_addStreet_56 rfl rfl (ty := .int) rfl (vp_nar_int _) rfl (Nat.le_of_ble_eq_true rfl) dX2_addStreet_57 cc_p1_11 ?_
  obtain ⟨g7, h, hg⟩ := dl_nm_some h
  rw [← hg]
  clear hg
  refine dl_aload_n (pc := 60) C 1 dX2_addStreet_60 rfl rfl ?_
  refine dl_bipush (pc := 61) C (-2) dX2_addStreet_61 (by decide) ?_
  obtain ⟨g8, h1, h⟩ := dl_bi_some h
  refine dl_vV0 (pc := 63) C (ccl2_note l D cI cP cII TY hTY ad pr R _ _ h1) (cwV 1 C.2.2.2.2.1 gX2_addStreet_X2_note rfl rfl rfl (by decide +kernel) ⟨Nat.le_of_ble_eq_true rfl, Nat.le_of_ble_eq_true rfl⟩) 1 2 cc_a1 rfl rfl rfl (Nat.le_of_ble_eq_true rfl) dX2_addStreet_63 ⟨Nat.zero_le _, Nat.zero_le _⟩ (fun u hp => ?_)
  subst hp
  refine dl_iload (pc := 66) C 0 dX2_addStreet_66 rfl ?_
  exact hQ 68 _ _ _ ⟨(dl_r2 h).1, by rw [(dl_r2 h).2]⟩ (vp_nar_int _) dX2_addStreet_68
theorem hin_X2_dropStreet_X2 : ∀ w ∈ u_ws RX2 TX2 18, w ∈ wsX2_dropStreet := fun _ h => List.mem_cons_of_mem _ (List.mem_append_right _ h)
theorem lk_X2_dropStreet_111 : Cond.fieldLink (yX2_dropStreet).cls 111 "DripLines$Net" (TX2 15).2.1 (TX2 15).2.2.1 ∈ wsX2_dropStreet := by decide +kernel
set_option maxHeartbeats 4000000 in
set_option maxRecDepth 100000 in
theorem ccl2_dropStreet (l : Launch) (D : va_G) (cI cP cII : ClassId) (TY : dl_TY) (hTY : TY[0]? = some (cI, .int)) (ad : Nat → Nat) (pr : Nat → Option Nat) (R : va_W) (g : dl_Sg) (x1 : Int32) {g0 : dl_Sg} (h : cl2_dropStreet g x1 = some g0) : dl_CtV l D TY cc_nw yX2_dropStreet wsX2_dropStreet { frames := 2, cells := 0, slots := 0, locals := 81 } 0 0 [.ref (ad 1), .int x1] (cc_w cI cP cII ad pr g ++ R) (fun u => u = cc_w cI cP cII ad pr g0 ++ R) := by
  refine dl_metV [(0, .ref (ad 1)), (1, .int x1)] (by decide) rfl (Nat.le_of_ble_eq_true rfl) rfl ?_
  intro p e s m args below meth c Q A C hQ
  unfold cl2_dropStreet at h
  refine dl_aload_n (pc := 0) C 0 dX2_dropStreet_0 rfl rfl ?_
  refine dl_iload_n (pc := 1) C 1 dX2_dropStreet_1 rfl rfl ?_
  obtain ⟨g1, h1, h⟩ := dl_bi_some h
  refine dl_vV0 (pc := 2) C (ccl2_close l D cI cP cII TY hTY ad pr R _ _ h1) (cwV 1 C.2.2.2.2.1 gX2_dropStreet_X2_close rfl rfl rfl (by decide +kernel) ⟨Nat.le_of_ble_eq_true rfl, Nat.le_of_ble_eq_true rfl⟩) 1 2 cc_a1 rfl rfl rfl (Nat.le_of_ble_eq_true rfl) dX2_dropStreet_2 ⟨Nat.zero_le _, Nat.zero_le _⟩ (fun u hp => ?_)
  subst hp
  refine dl_aload_n (pc := 5) C 0 dX2_dropStreet_5 rfl rfl ?_
  refine dl_dup (pc := 6) C dX2_dropStreet_6 rfl ?_
  refine dl_get (pc := 7) C hin_X2_dropStreet_X2 1 cc_a1 rfl 15 (by decide) lk_X2_dropStreet_111 rfl rfl dX2_dropStreet_7 ?_
  refine dl_iconst (pc := 10) C 1 dX2_dropStreet_10 (by decide) ?_
  refine dl_iload_n (pc := 11) C 1 dX2_dropStreet_11 rfl rfl ?_
  refine dl_ishl (pc := 12) C dX2_dropStreet_12 ?_
  refine dl_iconst (pc := 13) C (-1) dX2_dropStreet_13 (by decide) ?_
  refine dl_ixor (pc := 14) C dX2_dropStreet_14 ?_
  refine dl_iand (pc := 15) C dX2_dropStreet_15 ?_
  refine dl_put (pc := 16) C hin_X2_dropStreet_X2 tyX2 tyX2_ok nmX2 1 cc_a1 rfl 15 (by decide) lk_X2_dropStreet_111 rfl rfl (ty := .int) rfl (vp_nar_int _) rfl (Nat.le_of_ble_eq_true rfl) dX2_dropStreet_16 cc_p1_15 ?_
  obtain ⟨g2, h, hg⟩ := dl_nm_some h
  rw [← hg]
  clear hg
  refine dl_aload_n (pc := 19) C 0 dX2_dropStreet_19 rfl rfl ?_
  refine dl_iload_n (pc := 20) C 1 dX2_dropStreet_20 rfl rfl ?_
  obtain ⟨g3, h1, h⟩ := dl_bi_some h
  refine dl_vV0 (pc := 21) C (ccl2_note l D cI cP cII TY hTY ad pr R _ _ h1) (cwV 1 C.2.2.2.2.1 gX2_dropStreet_X2_note rfl rfl rfl (by decide +kernel) ⟨Nat.le_of_ble_eq_true rfl, Nat.le_of_ble_eq_true rfl⟩) 1 2 cc_a1 rfl rfl rfl (Nat.le_of_ble_eq_true rfl) dX2_dropStreet_21 ⟨Nat.zero_le _, Nat.zero_le _⟩ (fun u hp => ?_)
  subst hp
  exact hQ 24 _ _ (by rw [Option.some.inj h]) dX2_dropStreet_24
theorem hin_X8_sumBy_X2 : ∀ w ∈ u_ws RX2 TX2 18, w ∈ wsX8_sumBy := fun _ h => List.mem_cons_of_mem _ (List.mem_append_right _ h)
theorem hin_X8_sumBy_X8 : ∀ w ∈ u_ws RX8 TX8 3, w ∈ wsX8_sumBy := fun _ h => List.mem_cons_of_mem _ (List.mem_append_left _ (List.mem_append_right _ h))
theorem lk_X8_sumBy_9 : Cond.fieldLink (yX8_sumBy).cls 9 "DripLines$Ways" (TX8 1).2.1 (TX8 1).2.2.1 ∈ wsX8_sumBy := by decide +kernel
theorem lk_X8_sumBy_18 : Cond.fieldLink (yX8_sumBy).cls 18 "DripLines$Ways" (TX8 0).2.1 (TX8 0).2.2.1 ∈ wsX8_sumBy := by decide +kernel
set_option maxHeartbeats 4000000 in
set_option maxRecDepth 100000 in
theorem cl8_sumBy_t18 {p : Program} {e : Env} {s : State} {m : MethodId} {args : Array Value} {below : List Frame} {meth : Method} {c : Code} {Q : State → Prop} {A : Nat → Prop} (l : Launch) (D : va_G) (cI cP cII : ClassId) (TY : dl_TY) (hTY : TY[0]? = some (cI, .int)) (ad : Nat → Nat) (pr : Nat → Option Nat) (R : va_W) (g : dl_Sg) {r0 : Int32} (C : dl_Cx p s m args c A D TY cc_nw cX8_sumBy 5 yX8_sumBy.cls wsX8_sumBy) (hQ : dl_RtI p l e (headSpec wsX8_sumBy { frames := 0, cells := 0, slots := 0, locals := 0 }).room s m args below meth c Q A D cX8_sumBy 5 0 0 .int (fun r u => r = r0 ∧ u = cc_w cI cP cII ad pr g ++ R)) (x1 : Int32) (x2 : Int32) (y0 : Int32) (h : cl8_sumBy_b18 g x1 x2 y0 = some r0) : dl_At p l e (headSpec wsX8_sumBy { frames := 0, cells := 0, slots := 0, locals := 0 }).room s m args below meth c Q A D 5 0 0 18 [(0, .ref (ad 2)), (1, .int x1), (2, .int x2)] [.int y0] (cc_w cI cP cII ad pr g ++ R) := by
  unfold cl8_sumBy_b18 at h
  refine dl_istore (pc := 18) C (fun v1 => [(4, .int v1), (0, .ref (ad 2)), (1, .int x1), (2, .int x2)]) dX8_sumBy_18 (by decide) (fun _ => rfl) h (fun v1 h => ?_)
  refine dl_aload_n (pc := 20) C 1 dX8_sumBy_20 rfl rfl ?_
  refine dl_get (pc := 21) C hin_X8_sumBy_X8 2 cc_a2 rfl 0 (by decide) lk_X8_sumBy_18 rfl rfl dX8_sumBy_21 ?_
  refine dl_getN (pc := 24) C hin_X8_sumBy_X2 1 cc_a1 rfl 6 (by decide) nk_RX8_91 rfl rfl dX8_sumBy_24 ?_
  refine dl_iload_n (pc := 27) C 2 dX8_sumBy_27 rfl rfl ?_
  obtain ⟨h0, h⟩ := dl_gd_some h
  refine dl_iald (pc := 28) C 12 0 cc_a15 hTY h0 dX8_sumBy_28 ?_
  refine dl_iload (pc := 29) C 0 dX8_sumBy_29 rfl ?_
  refine dl_iadd (pc := 31) C dX8_sumBy_31 ?_
  refine dl_aload_n (pc := 32) C 1 dX8_sumBy_32 rfl rfl ?_
  refine dl_get (pc := 33) C hin_X8_sumBy_X8 2 cc_a2 rfl 1 (by decide) lk_X8_sumBy_9 rfl rfl dX8_sumBy_33 ?_
  refine dl_iload_n (pc := 36) C 3 dX8_sumBy_36 rfl rfl ?_
  obtain ⟨h0, h⟩ := dl_gd_some h
  refine dl_iald (pc := 37) C 15 0 cc_a18 hTY h0 dX8_sumBy_37 ?_
  refine dl_iadd (pc := 38) C dX8_sumBy_38 ?_
  exact hQ 39 _ _ _ ⟨Option.some.inj h, rfl⟩ (vp_nar_int _) dX8_sumBy_39
set_option maxHeartbeats 4000000 in
set_option maxRecDepth 100000 in
theorem ccl8_sumBy (l : Launch) (D : va_G) (cI cP cII : ClassId) (TY : dl_TY) (hTY : TY[0]? = some (cI, .int)) (ad : Nat → Nat) (pr : Nat → Option Nat) (R : va_W) (g : dl_Sg) (x1 : Int32) (x2 : Int32) (x3 : Int32) {r0 : Int32} (h : cl8_sumBy g x1 x2 x3 = some r0) : dl_CtI l D TY cc_nw yX8_sumBy wsX8_sumBy { frames := 0, cells := 0, slots := 0, locals := 0 } 0 0 [.ref (ad 2), .int x1, .int x2, .int x3] (cc_w cI cP cII ad pr g ++ R) (fun r u => r = r0 ∧ u = cc_w cI cP cII ad pr g ++ R) := by
  refine dl_metI (ty := .int) [(0, .ref (ad 2)), (1, .int x1), (2, .int x2), (3, .int x3)] (by decide) rfl (Nat.le_of_ble_eq_true rfl) rfl ?_
  intro p e s m args below meth c Q A C hQ
  unfold cl8_sumBy at h
  refine dl_iload_n (pc := 0) C 2 dX8_sumBy_0 rfl rfl ?_
  refine dl_iload_n (pc := 1) C 3 dX8_sumBy_1 rfl rfl ?_
  refine dl_icmp_ne (pc := 2) C 9 dX8_sumBy_2 (by decide) h (fun q1 h => ?_) (fun q1 h => ?_)
  · refine dl_iconst (pc := 5) C 0 dX8_sumBy_5 (by decide) ?_
    refine dl_goto (pc := 6) C 18 dX8_sumBy_6 (by decide) ?_
    refine dl_sub [0, 1, 2] rfl ?_
    exact cl8_sumBy_t18 l D cI cP cII TY hTY ad pr R g C hQ  _ _ _ h
  · refine dl_aload_n (pc := 9) C 0 dX8_sumBy_9 rfl rfl ?_
    refine dl_get (pc := 10) C hin_X8_sumBy_X8 2 cc_a2 rfl 0 (by decide) lk_X8_sumBy_18 rfl rfl dX8_sumBy_10 ?_
    refine dl_getN (pc := 13) C hin_X8_sumBy_X2 1 cc_a1 rfl 1 (by decide) nk_RX8_88 rfl rfl dX8_sumBy_13 ?_
    refine dl_iload_n (pc := 16) C 2 dX8_sumBy_16 rfl rfl ?_
    obtain ⟨h0, h⟩ := dl_gd_some h
    refine dl_iald (pc := 17) C 7 0 cc_a10 hTY h0 dX8_sumBy_17 ?_
    refine dl_sub [0, 1, 2] rfl ?_
    exact cl8_sumBy_t18 l D cI cP cII TY hTY ad pr R g C hQ  _ _ _ h
theorem hin_X8_shorten_X8 : ∀ w ∈ u_ws RX8 TX8 3, w ∈ wsX8_shorten := fun _ h => List.mem_cons_of_mem _ (List.mem_append_left _ (List.mem_append_right _ h))
theorem lk_X8_shorten_9 : Cond.fieldLink (yX8_shorten).cls 9 "DripLines$Ways" (TX8 1).2.1 (TX8 1).2.2.1 ∈ wsX8_shorten := by decide +kernel
set_option maxHeartbeats 4000000 in
set_option maxRecDepth 100000 in
theorem ccl8_shorten (l : Launch) (D : va_G) (cI cP cII : ClassId) (TY : dl_TY) (hTY : TY[0]? = some (cI, .int)) (ad : Nat → Nat) (pr : Nat → Option Nat) (R : va_W) (g : dl_Sg) (x1 : Int32) (x2 : Int32) (x3 : Int32) (x4 : Int32) {r0 : Int32} {g0 : dl_Sg} (h : cl8_shorten g x1 x2 x3 x4 = some (r0, g0)) : dl_CtI l D TY cc_nw yX8_shorten wsX8_shorten { frames := 1, cells := 0, slots := 0, locals := 24 } 0 0 [.ref (ad 2), .int x1, .int x2, .int x3, .int x4] (cc_w cI cP cII ad pr g ++ R) (fun r u => r = r0 ∧ u = cc_w cI cP cII ad pr g0 ++ R) := by
  refine dl_metI (ty := .boolean) [(0, .ref (ad 2)), (1, .int x1), (2, .int x2), (3, .int x3), (4, .int x4)] (by decide) rfl (Nat.le_of_ble_eq_true rfl) rfl ?_
  intro p e s m args below meth c Q A C hQ
  unfold cl8_shorten at h
  refine dl_aload_n (pc := 0) C 0 dX8_shorten_0 rfl rfl ?_
  refine dl_iload_n (pc := 1) C 2 dX8_shorten_1 rfl rfl ?_
  refine dl_iload_n (pc := 2) C 3 dX8_shorten_2 rfl rfl ?_
  refine dl_iload (pc := 3) C 4 dX8_shorten_3 rfl ?_
  obtain ⟨r1, h1, h⟩ := dl_bi_some h
  refine dl_vI0 (pc := 5) C (ccl8_sumBy l D cI cP cII TY hTY ad pr R _ _ _ _ h1) (cwV 3 C.2.2.2.2.1 gX8_shorten_X8_sumBy rfl rfl rfl (by decide +kernel) ⟨Nat.le_of_ble_eq_true rfl, Nat.le_of_ble_eq_true rfl⟩) 2 8 cc_a2 rfl rfl rfl (Nat.le_of_ble_eq_true rfl) dX8_shorten_5 ⟨Nat.zero_le _, Nat.zero_le _⟩ (fun r u hp => ?_)
  obtain ⟨rfl, rfl⟩ := hp
  refine dl_istore (pc := 8) C (fun v2 => [(5, .int v2), (0, .ref (ad 2)), (1, .int x1), (2, .int x2), (3, .int x3), (4, .int x4)]) dX8_shorten_8 (by decide) (fun _ => rfl) h (fun v2 h => ?_)
  refine dl_iload (pc := 10) C 0 dX8_shorten_10 rfl ?_
  refine dl_aload_n (pc := 12) C 1 dX8_shorten_12 rfl rfl ?_
  refine dl_get (pc := 13) C hin_X8_shorten_X8 2 cc_a2 rfl 1 (by decide) lk_X8_shorten_9 rfl rfl dX8_shorten_13 ?_
  refine dl_iload_n (pc := 16) C 2 dX8_shorten_16 rfl rfl ?_
  obtain ⟨h0, h⟩ := dl_gd_some h
  refine dl_iald (pc := 17) C 15 0 cc_a18 hTY h0 dX8_shorten_17 ?_
  refine dl_icmp_lt (pc := 18) C 23 dX8_shorten_18 (by decide) h (fun q4 h => ?_) (fun q4 h => ?_)
  · refine dl_aload_n (pc := 23) C 1 dX8_shorten_23 rfl rfl ?_
    refine dl_get (pc := 24) C hin_X8_shorten_X8 2 cc_a2 rfl 1 (by decide) lk_X8_shorten_9 rfl rfl dX8_shorten_24 ?_
    refine dl_iload_n (pc := 27) C 2 dX8_shorten_27 rfl rfl ?_
    refine dl_iload (pc := 28) C 0 dX8_shorten_28 rfl ?_
    obtain ⟨h0, h⟩ := dl_gd_some h
    refine dl_iast (pc := 30) C 15 0 cc_a18 hTY h0 dX8_shorten_30 cc_s18 ?_
    obtain ⟨g3, h, hg⟩ := dl_nm_some h
    rw [← hg]
    clear hg
    refine dl_iconst (pc := 31) C 1 dX8_shorten_31 (by decide) ?_
    exact hQ 32 _ _ _ ⟨(dl_r2 h).1, by rw [(dl_r2 h).2]⟩ rfl dX8_shorten_32
  · refine dl_iconst (pc := 21) C 0 dX8_shorten_21 (by decide) ?_
    exact hQ 22 _ _ _ ⟨(dl_r2 h).1, by rw [(dl_r2 h).2]⟩ rfl dX8_shorten_22
theorem hin_X8_measure_X2 : ∀ w ∈ u_ws RX2 TX2 18, w ∈ wsX8_measure := fun _ h => List.mem_cons_of_mem _ (List.mem_append_right _ h)
theorem hin_X8_measure_X8 : ∀ w ∈ u_ws RX8 TX8 3, w ∈ wsX8_measure := fun _ h => List.mem_cons_of_mem _ (List.mem_append_left _ (List.mem_append_right _ h))
theorem lk_X8_measure_9 : Cond.fieldLink (yX8_measure).cls 9 "DripLines$Ways" (TX8 1).2.1 (TX8 1).2.2.1 ∈ wsX8_measure := by decide +kernel
theorem lk_X8_measure_18 : Cond.fieldLink (yX8_measure).cls 18 "DripLines$Ways" (TX8 0).2.1 (TX8 0).2.2.1 ∈ wsX8_measure := by decide +kernel
set_option maxHeartbeats 4000000 in
set_option maxRecDepth 100000 in
theorem cl8_measure_t137 {p : Program} {e : Env} {s : State} {m : MethodId} {args : Array Value} {below : List Frame} {meth : Method} {c : Code} {Q : State → Prop} {A : Nat → Prop} (l : Launch) (D : va_G) (cI cP cII : ClassId) (TY : dl_TY) (hTY : TY[0]? = some (cI, .int)) (N : Nat) (ad : Nat → Nat) (pr : Nat → Option Nat) (R : va_W) {g0 : dl_Sg} (C : dl_Cx p s m args c A D TY cc_nw cX8_measure 7 yX8_measure.cls wsX8_measure) (hQ : dl_RtV p l e (headSpec wsX8_measure { frames := 2, cells := 0, slots := 0, locals := 49 }).room s m args below meth c Q A D cX8_measure 7 0 0 (fun u => u = cc_w cI cP cII ad pr g0 ++ R)) {k20 : Int32 → Int32 → Int32 → dl_Sg → Option dl_Sg} (hk20 : ∀ (x1 : Int32) (x2 : Int32) (x3 : Int32) (g : dl_Sg), k20 x1 x2 x3 g = some g0 → dl_At p l e (headSpec wsX8_measure { frames := 2, cells := 0, slots := 0, locals := 49 }).room s m args below meth c Q A D 7 0 0 20 [(0, .ref (ad 2)), (1, .int x1), (2, .int x2), (3, .int x3)] [] (cc_w cI cP cII ad pr g ++ R)) {k35 : Int32 → Int32 → Int32 → Int32 → dl_Sg → Option dl_Sg} (hk35 : ∀ (x1 : Int32) (x2 : Int32) (x3 : Int32) (x4 : Int32) (g : dl_Sg), k35 x1 x2 x3 x4 g = some g0 → dl_At p l e (headSpec wsX8_measure { frames := 2, cells := 0, slots := 0, locals := 49 }).room s m args below meth c Q A D 7 0 0 35 [(0, .ref (ad 2)), (1, .int x1), (2, .int x2), (3, .int x3), (4, .int x4)] [] (cc_w cI cP cII ad pr g ++ R)) (x1 : Int32) (x2 : Int32) (x3 : Int32) (x4 : Int32) (g : dl_Sg) (h : cl8_measure_b137 N k20 k35 x1 x2 x3 x4 g = some g0) : dl_At p l e (headSpec wsX8_measure { frames := 2, cells := 0, slots := 0, locals := 49 }).room s m args below meth c Q A D 7 0 0 137 [(0, .ref (ad 2)), (1, .int x1), (2, .int x2), (3, .int x3), (4, .int x4)] [] (cc_w cI cP cII ad pr g ++ R) := by
  unfold cl8_measure_b137 at h
  refine dl_iinc (pc := 137) C 4 (fun v1 => [(4, .int v1), (0, .ref (ad 2)), (1, .int x1), (2, .int x2), (3, .int x3)]) dX8_measure_137 rfl rfl (by decide) (fun _ => rfl) h (fun v1 h => ?_)
  refine dl_goto (pc := 140) C 35 dX8_measure_140 (by decide) ?_
  refine dl_sub [1, 2, 3, 4, 0] rfl ?_
  exact hk35 _ _ _ _ _ h
set_option maxHeartbeats 4000000 in
set_option maxRecDepth 100000 in
theorem cl8_measure_t136 {p : Program} {e : Env} {s : State} {m : MethodId} {args : Array Value} {below : List Frame} {meth : Method} {c : Code} {Q : State → Prop} {A : Nat → Prop} (l : Launch) (D : va_G) (cI cP cII : ClassId) (TY : dl_TY) (hTY : TY[0]? = some (cI, .int)) (N : Nat) (ad : Nat → Nat) (pr : Nat → Option Nat) (R : va_W) {g0 : dl_Sg} (C : dl_Cx p s m args c A D TY cc_nw cX8_measure 7 yX8_measure.cls wsX8_measure) (hQ : dl_RtV p l e (headSpec wsX8_measure { frames := 2, cells := 0, slots := 0, locals := 49 }).room s m args below meth c Q A D cX8_measure 7 0 0 (fun u => u = cc_w cI cP cII ad pr g0 ++ R)) {k20 : Int32 → Int32 → Int32 → dl_Sg → Option dl_Sg} (hk20 : ∀ (x1 : Int32) (x2 : Int32) (x3 : Int32) (g : dl_Sg), k20 x1 x2 x3 g = some g0 → dl_At p l e (headSpec wsX8_measure { frames := 2, cells := 0, slots := 0, locals := 49 }).room s m args below meth c Q A D 7 0 0 20 [(0, .ref (ad 2)), (1, .int x1), (2, .int x2), (3, .int x3)] [] (cc_w cI cP cII ad pr g ++ R)) {k35 : Int32 → Int32 → Int32 → Int32 → dl_Sg → Option dl_Sg} (hk35 : ∀ (x1 : Int32) (x2 : Int32) (x3 : Int32) (x4 : Int32) (g : dl_Sg), k35 x1 x2 x3 x4 g = some g0 → dl_At p l e (headSpec wsX8_measure { frames := 2, cells := 0, slots := 0, locals := 49 }).room s m args below meth c Q A D 7 0 0 35 [(0, .ref (ad 2)), (1, .int x1), (2, .int x2), (3, .int x3), (4, .int x4)] [] (cc_w cI cP cII ad pr g ++ R)) (x1 : Int32) (x3 : Int32) (x4 : Int32) (y0 : Int32) (g : dl_Sg) (h : cl8_measure_b136 N k20 k35 x1 x3 x4 y0 g = some g0) : dl_At p l e (headSpec wsX8_measure { frames := 2, cells := 0, slots := 0, locals := 49 }).room s m args below meth c Q A D 7 0 0 136 [(0, .ref (ad 2)), (1, .int x1), (3, .int x3), (4, .int x4)] [.int y0] (cc_w cI cP cII ad pr g ++ R) := by
  unfold cl8_measure_b136 at h
  refine dl_istore_n (pc := 136) C (fun v1 => [(2, .int v1), (0, .ref (ad 2)), (1, .int x1), (3, .int x3), (4, .int x4)]) dX8_measure_136 rfl (by decide) (fun _ => rfl) h (fun v1 h => ?_)
  refine dl_sub [1, 2, 0, 3, 4] rfl ?_
  exact cl8_measure_t137 l D cI cP cII TY hTY N ad pr R C hQ hk20 hk35  _ _ _ _ _ h
set_option maxHeartbeats 4000000 in
set_option maxRecDepth 100000 in
theorem cl8_measure_t131 {p : Program} {e : Env} {s : State} {m : MethodId} {args : Array Value} {below : List Frame} {meth : Method} {c : Code} {Q : State → Prop} {A : Nat → Prop} (l : Launch) (D : va_G) (cI cP cII : ClassId) (TY : dl_TY) (hTY : TY[0]? = some (cI, .int)) (N : Nat) (ad : Nat → Nat) (pr : Nat → Option Nat) (R : va_W) {g0 : dl_Sg} (C : dl_Cx p s m args c A D TY cc_nw cX8_measure 7 yX8_measure.cls wsX8_measure) (hQ : dl_RtV p l e (headSpec wsX8_measure { frames := 2, cells := 0, slots := 0, locals := 49 }).room s m args below meth c Q A D cX8_measure 7 0 0 (fun u => u = cc_w cI cP cII ad pr g0 ++ R)) {k20 : Int32 → Int32 → Int32 → dl_Sg → Option dl_Sg} (hk20 : ∀ (x1 : Int32) (x2 : Int32) (x3 : Int32) (g : dl_Sg), k20 x1 x2 x3 g = some g0 → dl_At p l e (headSpec wsX8_measure { frames := 2, cells := 0, slots := 0, locals := 49 }).room s m args below meth c Q A D 7 0 0 20 [(0, .ref (ad 2)), (1, .int x1), (2, .int x2), (3, .int x3)] [] (cc_w cI cP cII ad pr g ++ R)) {k35 : Int32 → Int32 → Int32 → Int32 → dl_Sg → Option dl_Sg} (hk35 : ∀ (x1 : Int32) (x2 : Int32) (x3 : Int32) (x4 : Int32) (g : dl_Sg), k35 x1 x2 x3 x4 g = some g0 → dl_At p l e (headSpec wsX8_measure { frames := 2, cells := 0, slots := 0, locals := 49 }).room s m args below meth c Q A D 7 0 0 35 [(0, .ref (ad 2)), (1, .int x1), (2, .int x2), (3, .int x3), (4, .int x4)] [] (cc_w cI cP cII ad pr g ++ R)) (x1 : Int32) (x3 : Int32) (x4 : Int32) (g : dl_Sg) (h : cl8_measure_b131 N k20 k35 x1 x3 x4 g = some g0) : dl_At p l e (headSpec wsX8_measure { frames := 2, cells := 0, slots := 0, locals := 49 }).room s m args below meth c Q A D 7 0 0 131 [(0, .ref (ad 2)), (1, .int x1), (3, .int x3), (4, .int x4)] [] (cc_w cI cP cII ad pr g ++ R) := by
  unfold cl8_measure_b131 at h
  refine dl_iconst (pc := 131) C 1 dX8_measure_131 (by decide) ?_
  refine dl_goto (pc := 132) C 136 dX8_measure_132 (by decide) ?_
  refine dl_sub [0, 1, 2, 3] rfl ?_
  exact cl8_measure_t136 l D cI cP cII TY hTY N ad pr R C hQ hk20 hk35  _ _ _ _ _ h
set_option maxHeartbeats 4000000 in
set_option maxRecDepth 100000 in
theorem cl8_measure_t35 {p : Program} {e : Env} {s : State} {m : MethodId} {args : Array Value} {below : List Frame} {meth : Method} {c : Code} {Q : State → Prop} {A : Nat → Prop} (l : Launch) (D : va_G) (cI cP cII : ClassId) (TY : dl_TY) (hTY : TY[0]? = some (cI, .int)) (N : Nat) (ad : Nat → Nat) (pr : Nat → Option Nat) (R : va_W) {g0 : dl_Sg} (C : dl_Cx p s m args c A D TY cc_nw cX8_measure 7 yX8_measure.cls wsX8_measure) (hQ : dl_RtV p l e (headSpec wsX8_measure { frames := 2, cells := 0, slots := 0, locals := 49 }).room s m args below meth c Q A D cX8_measure 7 0 0 (fun u => u = cc_w cI cP cII ad pr g0 ++ R)) {k20 : Int32 → Int32 → Int32 → dl_Sg → Option dl_Sg} (hk20 : ∀ (x1 : Int32) (x2 : Int32) (x3 : Int32) (g : dl_Sg), k20 x1 x2 x3 g = some g0 → dl_At p l e (headSpec wsX8_measure { frames := 2, cells := 0, slots := 0, locals := 49 }).room s m args below meth c Q A D 7 0 0 20 [(0, .ref (ad 2)), (1, .int x1), (2, .int x2), (3, .int x3)] [] (cc_w cI cP cII ad pr g ++ R)) : ∀ (n : Nat) (x1 : Int32) (x2 : Int32) (x3 : Int32) (x4 : Int32) (g : dl_Sg), cl8_measure_b35 N k20 n x1 x2 x3 x4 g = some g0 → dl_At p l e (headSpec wsX8_measure { frames := 2, cells := 0, slots := 0, locals := 49 }).room s m args below meth c Q A D 7 0 0 35 [(0, .ref (ad 2)), (1, .int x1), (2, .int x2), (3, .int x3), (4, .int x4)] [] (cc_w cI cP cII ad pr g ++ R) := by
  intro n
  induction n with
  | zero => exact fun _ _ _ _ _ h => absurd (show (none : Option dl_Sg) = some _ from h) (by intro q; cases q)
  | succ n ih =>
    intro x1 x2 x3 x4 g h
    rw [cl8_measure_b35] at h
    refine dl_iload (pc := 35) C 4 dX8_measure_35 rfl ?_
    refine dl_aload_n (pc := 37) C 0 dX8_measure_37 rfl rfl ?_
    refine dl_get (pc := 38) C hin_X8_measure_X8 2 cc_a2 rfl 0 (by decide) lk_X8_measure_18 rfl rfl dX8_measure_38 ?_
    refine dl_getN (pc := 41) C hin_X8_measure_X2 1 cc_a1 rfl 11 (by decide) nk_RX8_67 rfl rfl dX8_measure_41 ?_
    refine dl_icmp_ge (pc := 44) C 143 dX8_measure_44 (by decide) h (fun q13 h => ?_) (fun q13 h => ?_)
    · refine dl_iinc (pc := 143) C 3 (fun v1 => [(3, .int v1), (0, .ref (ad 2)), (1, .int x1), (2, .int x2), (4, .int x4)]) dX8_measure_143 rfl rfl (by decide) (fun _ => rfl) h (fun v1 h => ?_)
      refine dl_goto (pc := 146) C 20 dX8_measure_146 (by decide) ?_
      refine dl_sub [1, 2, 3, 0] rfl ?_
      exact hk20 _ _ _ _ h
    · refine dl_aload_n (pc := 47) C 0 dX8_measure_47 rfl rfl ?_
      refine dl_get (pc := 48) C hin_X8_measure_X8 2 cc_a2 rfl 0 (by decide) lk_X8_measure_18 rfl rfl dX8_measure_48 ?_
      refine dl_iload (pc := 51) C 4 dX8_measure_51 rfl ?_
      obtain ⟨r2, h1, h⟩ := dl_bi_some h
      refine dl_vI0 (pc := 53) C (ccl2_isThere l D cI cP cII TY hTY ad pr R _ _ h1) (cwV 1 C.2.2.2.2.1 gX8_measure_X2_isThere rfl rfl rfl (by decide +kernel) ⟨Nat.le_of_ble_eq_true rfl, Nat.le_of_ble_eq_true rfl⟩) 1 2 cc_a1 rfl rfl rfl (Nat.le_of_ble_eq_true rfl) dX8_measure_53 ⟨Nat.zero_le _, Nat.zero_le _⟩ (fun r u hp => ?_)
      obtain ⟨rfl, rfl⟩ := hp
      refine dl_if_eq (pc := 56) C 137 dX8_measure_56 (by decide) h (fun q12 h => ?_) (fun q12 h => ?_)
      · refine dl_sub [0, 1, 2, 3, 4] rfl ?_
        exact cl8_measure_t137 l D cI cP cII TY hTY N ad pr R C hQ hk20 ih  _ _ _ _ _ h
      · refine dl_aload_n (pc := 59) C 0 dX8_measure_59 rfl rfl ?_
        refine dl_aload_n (pc := 60) C 0 dX8_measure_60 rfl rfl ?_
        refine dl_get (pc := 61) C hin_X8_measure_X8 2 cc_a2 rfl 0 (by decide) lk_X8_measure_18 rfl rfl dX8_measure_61 ?_
        refine dl_getN (pc := 64) C hin_X8_measure_X2 1 cc_a1 rfl 4 (by decide) nk_RX8_74 rfl rfl dX8_measure_64 ?_
        refine dl_iload (pc := 67) C 4 dX8_measure_67 rfl ?_
        obtain ⟨h0, h⟩ := dl_gd_some h
        refine dl_iald (pc := 69) C 10 0 cc_a13 hTY h0 dX8_measure_69 ?_
        refine dl_iload (pc := 70) C 4 dX8_measure_70 rfl ?_
        refine dl_aload_n (pc := 72) C 0 dX8_measure_72 rfl rfl ?_
        refine dl_get (pc := 73) C hin_X8_measure_X8 2 cc_a2 rfl 0 (by decide) lk_X8_measure_18 rfl rfl dX8_measure_73 ?_
        refine dl_getN (pc := 76) C hin_X8_measure_X2 1 cc_a1 rfl 5 (by decide) nk_RX8_77 rfl rfl dX8_measure_76 ?_
        refine dl_iload (pc := 79) C 4 dX8_measure_79 rfl ?_
        obtain ⟨h0, h⟩ := dl_gd_some h
        refine dl_iald (pc := 81) C 11 0 cc_a14 hTY h0 dX8_measure_81 ?_
        refine dl_iload_n (pc := 82) C 1 dX8_measure_82 rfl rfl ?_
        obtain ⟨r3, g4, h1, h⟩ := dl_b2_some h
        refine dl_vI0 (pc := 83) C (ccl8_shorten l D cI cP cII TY hTY ad pr R _ _ _ _ _ h1) (cwV 4 C.2.2.2.2.1 gX8_measure_X8_shorten rfl rfl rfl (by decide +kernel) ⟨Nat.le_of_ble_eq_true rfl, Nat.le_of_ble_eq_true rfl⟩) 2 8 cc_a2 rfl rfl rfl (Nat.le_of_ble_eq_true rfl) dX8_measure_83 ⟨Nat.zero_le _, Nat.zero_le _⟩ (fun r u hp => ?_)
        obtain ⟨rfl, rfl⟩ := hp
        refine dl_istore (pc := 86) C (fun v5 => [(5, .int v5), (0, .ref (ad 2)), (1, .int x1), (2, .int x2), (3, .int x3), (4, .int x4)]) dX8_measure_86 (by decide) (fun _ => rfl) h (fun v5 h => ?_)
        refine dl_aload_n (pc := 88) C 1 dX8_measure_88 rfl rfl ?_
        refine dl_aload_n (pc := 89) C 1 dX8_measure_89 rfl rfl ?_
        refine dl_get (pc := 90) C hin_X8_measure_X8 2 cc_a2 rfl 0 (by decide) lk_X8_measure_18 rfl rfl dX8_measure_90 ?_
        refine dl_getN (pc := 93) C hin_X8_measure_X2 1 cc_a1 rfl 5 (by decide) nk_RX8_77 rfl rfl dX8_measure_93 ?_
        refine dl_iload (pc := 96) C 5 dX8_measure_96 rfl ?_
        obtain ⟨h0, h⟩ := dl_gd_some h
        refine dl_iald (pc := 98) C 11 0 cc_a14 hTY h0 dX8_measure_98 ?_
        refine dl_iload (pc := 99) C 5 dX8_measure_99 rfl ?_
        refine dl_aload_n (pc := 101) C 1 dX8_measure_101 rfl rfl ?_
        refine dl_get (pc := 102) C hin_X8_measure_X8 2 cc_a2 rfl 0 (by decide) lk_X8_measure_18 rfl rfl dX8_measure_102 ?_
        refine dl_getN (pc := 105) C hin_X8_measure_X2 1 cc_a1 rfl 4 (by decide) nk_RX8_74 rfl rfl dX8_measure_105 ?_
        refine dl_iload (pc := 108) C 5 dX8_measure_108 rfl ?_
        obtain ⟨h0, h⟩ := dl_gd_some h
        refine dl_iald (pc := 110) C 10 0 cc_a13 hTY h0 dX8_measure_110 ?_
        refine dl_iload_n (pc := 111) C 2 dX8_measure_111 rfl rfl ?_
        obtain ⟨r6, g7, h1, h⟩ := dl_b2_some h
        refine dl_vI0 (pc := 112) C (ccl8_shorten l D cI cP cII TY hTY ad pr R _ _ _ _ _ h1) (cwV 4 C.2.2.2.2.1 gX8_measure_X8_shorten rfl rfl rfl (by decide +kernel) ⟨Nat.le_of_ble_eq_true rfl, Nat.le_of_ble_eq_true rfl⟩) 2 8 cc_a2 rfl rfl rfl (Nat.le_of_ble_eq_true rfl) dX8_measure_112 ⟨Nat.zero_le _, Nat.zero_le _⟩ (fun r u hp => ?_)
        obtain ⟨rfl, rfl⟩ := hp
        refine dl_istore (pc := 115) C (fun v8 => [(6, .int v8), (5, .int v5), (0, .ref (ad 2)), (1, .int x1), (2, .int x2), (3, .int x3), (4, .int x4)]) dX8_measure_115 (by decide) (fun _ => rfl) h (fun v8 h => ?_)
        refine dl_iload_n (pc := 117) C 4 dX8_measure_117 rfl rfl ?_
        refine dl_if_ne (pc := 118) C 131 dX8_measure_118 (by decide) h (fun q11 h => ?_) (fun q11 h => ?_)
        · refine dl_iload (pc := 121) C 1 dX8_measure_121 rfl ?_
          refine dl_if_ne (pc := 123) C 131 dX8_measure_123 (by decide) h (fun q10 h => ?_) (fun q10 h => ?_)
          · refine dl_iload (pc := 126) C 0 dX8_measure_126 rfl ?_
            refine dl_if_eq (pc := 128) C 135 dX8_measure_128 (by decide) h (fun q9 h => ?_) (fun q9 h => ?_)
            · refine dl_iconst (pc := 135) C 0 dX8_measure_135 (by decide) ?_
              refine dl_sub [2, 3, 5, 6] rfl ?_
              exact cl8_measure_t136 l D cI cP cII TY hTY N ad pr R C hQ hk20 ih  _ _ _ _ _ h
            · refine dl_sub [2, 3, 5, 6] rfl ?_
              exact cl8_measure_t131 l D cI cP cII TY hTY N ad pr R C hQ hk20 ih  _ _ _ _ h
          · refine dl_sub [2, 3, 5, 6] rfl ?_
            exact cl8_measure_t131 l D cI cP cII TY hTY N ad pr R C hQ hk20 ih  _ _ _ _ h
        · refine dl_sub [2, 3, 5, 6] rfl ?_
          exact cl8_measure_t131 l D cI cP cII TY hTY N ad pr R C hQ hk20 ih  _ _ _ _ h
set_option maxHeartbeats 4000000 in
set_option maxRecDepth 100000 in
theorem cl8_measure_t20 {p : Program} {e : Env} {s : State} {m : MethodId} {args : Array Value} {below : List Frame} {meth : Method} {c : Code} {Q : State → Prop} {A : Nat → Prop} (l : Launch) (D : va_G) (cI cP cII : ClassId) (TY : dl_TY) (hTY : TY[0]? = some (cI, .int)) (N : Nat) (ad : Nat → Nat) (pr : Nat → Option Nat) (R : va_W) {g0 : dl_Sg} (C : dl_Cx p s m args c A D TY cc_nw cX8_measure 7 yX8_measure.cls wsX8_measure) (hQ : dl_RtV p l e (headSpec wsX8_measure { frames := 2, cells := 0, slots := 0, locals := 49 }).room s m args below meth c Q A D cX8_measure 7 0 0 (fun u => u = cc_w cI cP cII ad pr g0 ++ R)) : ∀ (n : Nat) (x1 : Int32) (x2 : Int32) (x3 : Int32) (g : dl_Sg), cl8_measure_b20 N n x1 x2 x3 g = some g0 → dl_At p l e (headSpec wsX8_measure { frames := 2, cells := 0, slots := 0, locals := 49 }).room s m args below meth c Q A D 7 0 0 20 [(0, .ref (ad 2)), (1, .int x1), (2, .int x2), (3, .int x3)] [] (cc_w cI cP cII ad pr g ++ R) := by
  intro n
  induction n with
  | zero => exact fun _ _ _ _ h => absurd (show (none : Option dl_Sg) = some _ from h) (by intro q; cases q)
  | succ n ih =>
    intro x1 x2 x3 g h
    rw [cl8_measure_b20] at h
    refine dl_iload_n (pc := 20) C 3 dX8_measure_20 rfl rfl ?_
    refine dl_bipush (pc := 21) C 10 dX8_measure_21 (by decide) ?_
    refine dl_icmp_ge (pc := 23) C 149 dX8_measure_23 (by decide) h (fun q4 h => ?_) (fun q4 h => ?_)
    · exact hQ 149 _ _ (by rw [Option.some.inj h]) dX8_measure_149
    · refine dl_iload_n (pc := 26) C 2 dX8_measure_26 rfl rfl ?_
      refine dl_if_eq (pc := 27) C 149 dX8_measure_27 (by decide) h (fun q3 h => ?_) (fun q3 h => ?_)
      · exact hQ 149 _ _ (by rw [Option.some.inj h]) dX8_measure_149
      · refine dl_iconst (pc := 30) C 0 dX8_measure_30 (by decide) ?_
        refine dl_istore_n (pc := 31) C (fun v1 => [(2, .int v1), (0, .ref (ad 2)), (1, .int x1), (3, .int x3)]) dX8_measure_31 rfl (by decide) (fun _ => rfl) h (fun v1 h => ?_)
        refine dl_iconst (pc := 32) C 0 dX8_measure_32 (by decide) ?_
        refine dl_istore (pc := 33) C (fun v2 => [(4, .int v2), (2, .int v1), (0, .ref (ad 2)), (1, .int x1), (3, .int x3)]) dX8_measure_33 (by decide) (fun _ => rfl) h (fun v2 h => ?_)
        refine dl_sub [2, 3, 1, 4, 0] rfl ?_
        exact cl8_measure_t35 l D cI cP cII TY hTY N ad pr R C hQ ih N _ _ _ _ _ h
set_option maxHeartbeats 4000000 in
set_option maxRecDepth 100000 in
theorem ccl8_measure (l : Launch) (D : va_G) (cI cP cII : ClassId) (TY : dl_TY) (hTY : TY[0]? = some (cI, .int)) (N : Nat) (ad : Nat → Nat) (pr : Nat → Option Nat) (R : va_W) (g : dl_Sg) (x1 : Int32) {g0 : dl_Sg} (h : cl8_measure N g x1 = some g0) : dl_CtV l D TY cc_nw yX8_measure wsX8_measure { frames := 2, cells := 0, slots := 0, locals := 49 } 0 0 [.ref (ad 2), .int x1] (cc_w cI cP cII ad pr g ++ R) (fun u => u = cc_w cI cP cII ad pr g0 ++ R) := by
  refine dl_metV [(0, .ref (ad 2)), (1, .int x1)] (by decide) rfl (Nat.le_of_ble_eq_true rfl) rfl ?_
  intro p e s m args below meth c Q A C hQ
  unfold cl8_measure at h
  refine dl_aload_n (pc := 0) C 0 dX8_measure_0 rfl rfl ?_
  refine dl_get (pc := 1) C hin_X8_measure_X8 2 cc_a2 rfl 1 (by decide) lk_X8_measure_9 rfl rfl dX8_measure_1 ?_
  refine dl_ldc (pc := 4) C 100000000 (by decide +kernel) dX8_measure_4 ?_
  refine dl_sV0 (pc := 6) C (c_fill l D cI TY hTY cc_nw _ 15 (ad 18) 10 _ cc_a18 (by decide) _) (va_cwS 2 C.2.2.2.2.1 gX8_measure_J7_fill_53178 rfl rfl rfl (by decide +kernel) ⟨Nat.le_of_ble_eq_true rfl, Nat.le_of_ble_eq_true rfl⟩) rfl rfl (Nat.le_of_ble_eq_true rfl) dX8_measure_6 ⟨Nat.zero_le _, Nat.zero_le _⟩ (fun u hp => ?_)
  rw [hp, cc_z18]
  clear hp
  obtain ⟨g1, h, hg⟩ := dl_nm_some h
  rw [← hg]
  clear hg
  refine dl_aload_n (pc := 9) C 0 dX8_measure_9 rfl rfl ?_
  refine dl_get (pc := 10) C hin_X8_measure_X8 2 cc_a2 rfl 1 (by decide) lk_X8_measure_9 rfl rfl dX8_measure_10 ?_
  refine dl_iload_n (pc := 13) C 1 dX8_measure_13 rfl rfl ?_
  refine dl_iconst (pc := 14) C 0 dX8_measure_14 (by decide) ?_
  obtain ⟨h0, h⟩ := dl_gd_some h
  refine dl_iast (pc := 15) C 15 0 cc_a18 hTY h0 dX8_measure_15 cc_s18 ?_
  obtain ⟨g2, h, hg⟩ := dl_nm_some h
  rw [← hg]
  clear hg
  refine dl_iconst (pc := 16) C 1 dX8_measure_16 (by decide) ?_
  refine dl_istore_n (pc := 17) C (fun v3 => [(2, .int v3), (0, .ref (ad 2)), (1, .int x1)]) dX8_measure_17 rfl (by decide) (fun _ => rfl) h (fun v3 h => ?_)
  refine dl_iconst (pc := 18) C 0 dX8_measure_18 (by decide) ?_
  refine dl_istore_n (pc := 19) C (fun v4 => [(3, .int v4), (2, .int v3), (0, .ref (ad 2)), (1, .int x1)]) dX8_measure_19 rfl (by decide) (fun _ => rfl) h (fun v4 h => ?_)
  refine dl_sub [2, 3, 1, 0] rfl ?_
  exact cl8_measure_t20 l D cI cP cII TY hTY N ad pr R C hQ N _ _ _ _ h
theorem hin_X8_sumOf_X8 : ∀ w ∈ u_ws RX8 TX8 3, w ∈ wsX8_sumOf := fun _ h => List.mem_cons_of_mem _ (List.mem_append_left _ (List.mem_append_right _ h))
theorem lk_X8_sumOf_9 : Cond.fieldLink (yX8_sumOf).cls 9 "DripLines$Ways" (TX8 1).2.1 (TX8 1).2.2.1 ∈ wsX8_sumOf := by decide +kernel
set_option maxHeartbeats 4000000 in
set_option maxRecDepth 100000 in
theorem ccl8_sumOf (l : Launch) (D : va_G) (cI cP cII : ClassId) (TY : dl_TY) (hTY : TY[0]? = some (cI, .int)) (N : Nat) (ad : Nat → Nat) (pr : Nat → Option Nat) (R : va_W) (g : dl_Sg) (x1 : Int32) (x2 : Int32) {r0 : Int32} {g0 : dl_Sg} (h : cl8_sumOf N g x1 x2 = some (r0, g0)) : dl_CtI l D TY cc_nw yX8_sumOf wsX8_sumOf { frames := 3, cells := 0, slots := 0, locals := 75 } 0 0 [.ref (ad 2), .int x1, .int x2] (cc_w cI cP cII ad pr g ++ R) (fun r u => r = r0 ∧ u = cc_w cI cP cII ad pr g0 ++ R) := by
  refine dl_metI (ty := .int) [(0, .ref (ad 2)), (1, .int x1), (2, .int x2)] (by decide) rfl (Nat.le_of_ble_eq_true rfl) rfl ?_
  intro p e s m args below meth c Q A C hQ
  unfold cl8_sumOf at h
  refine dl_aload_n (pc := 0) C 0 dX8_sumOf_0 rfl rfl ?_
  refine dl_iload_n (pc := 1) C 2 dX8_sumOf_1 rfl rfl ?_
  obtain ⟨g1, h1, h⟩ := dl_bi_some h
  refine dl_vV0 (pc := 2) C (ccl8_measure l D cI cP cII TY hTY N ad pr R _ _ h1) (cwV 1 C.2.2.2.2.1 gX8_sumOf_X8_measure rfl rfl rfl (by decide +kernel) ⟨Nat.le_of_ble_eq_true rfl, Nat.le_of_ble_eq_true rfl⟩) 2 8 cc_a2 rfl rfl rfl (Nat.le_of_ble_eq_true rfl) dX8_sumOf_2 ⟨Nat.zero_le _, Nat.zero_le _⟩ (fun u hp => ?_)
  subst hp
  refine dl_aload_n (pc := 5) C 0 dX8_sumOf_5 rfl rfl ?_
  refine dl_get (pc := 6) C hin_X8_sumOf_X8 2 cc_a2 rfl 1 (by decide) lk_X8_sumOf_9 rfl rfl dX8_sumOf_6 ?_
  refine dl_iload_n (pc := 9) C 1 dX8_sumOf_9 rfl rfl ?_
  obtain ⟨h0, h⟩ := dl_gd_some h
  refine dl_iald (pc := 10) C 15 0 cc_a18 hTY h0 dX8_sumOf_10 ?_
  refine dl_ldc (pc := 11) C 100000000 (by decide +kernel) dX8_sumOf_11 ?_
  refine dl_icmp_ge (pc := 13) C 25 dX8_sumOf_13 (by decide) h (fun q2 h => ?_) (fun q2 h => ?_)
  · refine dl_ldc (pc := 25) C (-1000000) (by decide +kernel) dX8_sumOf_25 ?_
    exact hQ 27 _ _ _ ⟨(dl_r2 h).1, by rw [(dl_r2 h).2]⟩ (vp_nar_int _) dX8_sumOf_27
  · refine dl_aload_n (pc := 16) C 0 dX8_sumOf_16 rfl rfl ?_
    refine dl_get (pc := 17) C hin_X8_sumOf_X8 2 cc_a2 rfl 1 (by decide) lk_X8_sumOf_9 rfl rfl dX8_sumOf_17 ?_
    refine dl_iload_n (pc := 20) C 1 dX8_sumOf_20 rfl rfl ?_
    obtain ⟨h0, h⟩ := dl_gd_some h
    refine dl_iald (pc := 21) C 15 0 cc_a18 hTY h0 dX8_sumOf_21 ?_
    refine dl_goto (pc := 22) C 27 dX8_sumOf_22 (by decide) ?_
    exact hQ 27 _ _ _ ⟨(dl_r2 h).1, by rw [(dl_r2 h).2]⟩ (vp_nar_int _) dX8_sumOf_27
theorem hin_X8_nextOf_X2 : ∀ w ∈ u_ws RX2 TX2 18, w ∈ wsX8_nextOf := fun _ h => List.mem_cons_of_mem _ (List.mem_append_right _ h)
theorem hin_X8_nextOf_X8 : ∀ w ∈ u_ws RX8 TX8 3, w ∈ wsX8_nextOf := fun _ h => List.mem_cons_of_mem _ (List.mem_append_left _ (List.mem_append_right _ h))
theorem lk_X8_nextOf_9 : Cond.fieldLink (yX8_nextOf).cls 9 "DripLines$Ways" (TX8 1).2.1 (TX8 1).2.2.1 ∈ wsX8_nextOf := by decide +kernel
theorem lk_X8_nextOf_18 : Cond.fieldLink (yX8_nextOf).cls 18 "DripLines$Ways" (TX8 0).2.1 (TX8 0).2.2.1 ∈ wsX8_nextOf := by decide +kernel
set_option maxHeartbeats 4000000 in
set_option maxRecDepth 100000 in
theorem cl8_nextOf_t118 {p : Program} {e : Env} {s : State} {m : MethodId} {args : Array Value} {below : List Frame} {meth : Method} {c : Code} {Q : State → Prop} {A : Nat → Prop} (l : Launch) (D : va_G) (cI cP cII : ClassId) (TY : dl_TY) (hTY : TY[0]? = some (cI, .int)) (N : Nat) (ad : Nat → Nat) (pr : Nat → Option Nat) (R : va_W) (g : dl_Sg) {r0 : Int32} (C : dl_Cx p s m args c A D TY cc_nw cX8_nextOf 7 yX8_nextOf.cls wsX8_nextOf) (hQ : dl_RtI p l e (headSpec wsX8_nextOf { frames := 1, cells := 0, slots := 0, locals := 24 }).room s m args below meth c Q A D cX8_nextOf 7 0 0 .int (fun r u => r = r0 ∧ u = cc_w cI cP cII ad pr g ++ R)) {k5 : Int32 → Int32 → Int32 → Int32 → Option Int32} (hk5 : ∀ (x1 : Int32) (x2 : Int32) (x3 : Int32) (x4 : Int32), k5 x1 x2 x3 x4 = some r0 → dl_At p l e (headSpec wsX8_nextOf { frames := 1, cells := 0, slots := 0, locals := 24 }).room s m args below meth c Q A D 7 0 0 5 [(0, .ref (ad 2)), (1, .int x1), (2, .int x2), (3, .int x3), (4, .int x4)] [] (cc_w cI cP cII ad pr g ++ R)) (x1 : Int32) (x2 : Int32) (x3 : Int32) (x4 : Int32) (h : cl8_nextOf_b118 N g k5 x1 x2 x3 x4 = some r0) : dl_At p l e (headSpec wsX8_nextOf { frames := 1, cells := 0, slots := 0, locals := 24 }).room s m args below meth c Q A D 7 0 0 118 [(0, .ref (ad 2)), (1, .int x1), (2, .int x2), (3, .int x3), (4, .int x4)] [] (cc_w cI cP cII ad pr g ++ R) := by
  unfold cl8_nextOf_b118 at h
  refine dl_iinc (pc := 118) C 4 (fun v1 => [(4, .int v1), (0, .ref (ad 2)), (1, .int x1), (2, .int x2), (3, .int x3)]) dX8_nextOf_118 rfl rfl (by decide) (fun _ => rfl) h (fun v1 h => ?_)
  refine dl_goto (pc := 121) C 5 dX8_nextOf_121 (by decide) ?_
  refine dl_sub [1, 2, 3, 4, 0] rfl ?_
  exact hk5 _ _ _ _ h
set_option maxHeartbeats 4000000 in
set_option maxRecDepth 100000 in
theorem cl8_nextOf_t115 {p : Program} {e : Env} {s : State} {m : MethodId} {args : Array Value} {below : List Frame} {meth : Method} {c : Code} {Q : State → Prop} {A : Nat → Prop} (l : Launch) (D : va_G) (cI cP cII : ClassId) (TY : dl_TY) (hTY : TY[0]? = some (cI, .int)) (N : Nat) (ad : Nat → Nat) (pr : Nat → Option Nat) (R : va_W) (g : dl_Sg) {r0 : Int32} (C : dl_Cx p s m args c A D TY cc_nw cX8_nextOf 7 yX8_nextOf.cls wsX8_nextOf) (hQ : dl_RtI p l e (headSpec wsX8_nextOf { frames := 1, cells := 0, slots := 0, locals := 24 }).room s m args below meth c Q A D cX8_nextOf 7 0 0 .int (fun r u => r = r0 ∧ u = cc_w cI cP cII ad pr g ++ R)) {k5 : Int32 → Int32 → Int32 → Int32 → Option Int32} (hk5 : ∀ (x1 : Int32) (x2 : Int32) (x3 : Int32) (x4 : Int32), k5 x1 x2 x3 x4 = some r0 → dl_At p l e (headSpec wsX8_nextOf { frames := 1, cells := 0, slots := 0, locals := 24 }).room s m args below meth c Q A D 7 0 0 5 [(0, .ref (ad 2)), (1, .int x1), (2, .int x2), (3, .int x3), (4, .int x4)] [] (cc_w cI cP cII ad pr g ++ R)) (x1 : Int32) (x2 : Int32) (x4 : Int32) (x5 : Int32) (h : cl8_nextOf_b115 N g k5 x1 x2 x4 x5 = some r0) : dl_At p l e (headSpec wsX8_nextOf { frames := 1, cells := 0, slots := 0, locals := 24 }).room s m args below meth c Q A D 7 0 0 115 [(0, .ref (ad 2)), (1, .int x1), (2, .int x2), (4, .int x4), (5, .int x5)] [] (cc_w cI cP cII ad pr g ++ R) := by
  unfold cl8_nextOf_b115 at h
  refine dl_iload (pc := 115) C 4 dX8_nextOf_115 rfl ?_
  refine dl_istore_n (pc := 117) C (fun v1 => [(3, .int v1), (0, .ref (ad 2)), (1, .int x1), (2, .int x2), (4, .int x4), (5, .int x5)]) dX8_nextOf_117 rfl (by decide) (fun _ => rfl) h (fun v1 h => ?_)
  refine dl_sub [1, 2, 3, 0, 4] rfl ?_
  exact cl8_nextOf_t118 l D cI cP cII TY hTY N ad pr R g C hQ hk5  _ _ _ _ h
set_option maxHeartbeats 4000000 in
set_option maxRecDepth 100000 in
theorem cl8_nextOf_t97 {p : Program} {e : Env} {s : State} {m : MethodId} {args : Array Value} {below : List Frame} {meth : Method} {c : Code} {Q : State → Prop} {A : Nat → Prop} (l : Launch) (D : va_G) (cI cP cII : ClassId) (TY : dl_TY) (hTY : TY[0]? = some (cI, .int)) (N : Nat) (ad : Nat → Nat) (pr : Nat → Option Nat) (R : va_W) (g : dl_Sg) {r0 : Int32} (C : dl_Cx p s m args c A D TY cc_nw cX8_nextOf 7 yX8_nextOf.cls wsX8_nextOf) (hQ : dl_RtI p l e (headSpec wsX8_nextOf { frames := 1, cells := 0, slots := 0, locals := 24 }).room s m args below meth c Q A D cX8_nextOf 7 0 0 .int (fun r u => r = r0 ∧ u = cc_w cI cP cII ad pr g ++ R)) {k5 : Int32 → Int32 → Int32 → Int32 → Option Int32} (hk5 : ∀ (x1 : Int32) (x2 : Int32) (x3 : Int32) (x4 : Int32), k5 x1 x2 x3 x4 = some r0 → dl_At p l e (headSpec wsX8_nextOf { frames := 1, cells := 0, slots := 0, locals := 24 }).room s m args below meth c Q A D 7 0 0 5 [(0, .ref (ad 2)), (1, .int x1), (2, .int x2), (3, .int x3), (4, .int x4)] [] (cc_w cI cP cII ad pr g ++ R)) (x1 : Int32) (x2 : Int32) (x3 : Int32) (x4 : Int32) (x5 : Int32) (y0 : Int32) (h : cl8_nextOf_b97 N g k5 x1 x2 x3 x4 x5 y0 = some r0) : dl_At p l e (headSpec wsX8_nextOf { frames := 1, cells := 0, slots := 0, locals := 24 }).room s m args below meth c Q A D 7 0 0 97 [(0, .ref (ad 2)), (1, .int x1), (2, .int x2), (3, .int x3), (4, .int x4), (5, .int x5)] [.int y0] (cc_w cI cP cII ad pr g ++ R) := by
  unfold cl8_nextOf_b97 at h
  refine dl_istore (pc := 97) C (fun v1 => [(6, .int v1), (0, .ref (ad 2)), (1, .int x1), (2, .int x2), (3, .int x3), (4, .int x4), (5, .int x5)]) dX8_nextOf_97 (by decide) (fun _ => rfl) h (fun v1 h => ?_)
  refine dl_iload (pc := 99) C 0 dX8_nextOf_99 rfl ?_
  refine dl_if_eq (pc := 101) C 118 dX8_nextOf_101 (by decide) h (fun q4 h => ?_) (fun q4 h => ?_)
  · refine dl_sub [1, 2, 3, 4, 5] rfl ?_
    exact cl8_nextOf_t118 l D cI cP cII TY hTY N ad pr R g C hQ hk5  _ _ _ _ h
  · refine dl_iload_n (pc := 104) C 4 dX8_nextOf_104 rfl rfl ?_
    refine dl_iconst (pc := 105) C (-1) dX8_nextOf_105 (by decide) ?_
    refine dl_icmp_eq (pc := 106) C 115 dX8_nextOf_106 (by decide) h (fun q3 h => ?_) (fun q3 h => ?_)
    · refine dl_sub [1, 2, 3, 5, 6] rfl ?_
      exact cl8_nextOf_t115 l D cI cP cII TY hTY N ad pr R g C hQ hk5  _ _ _ _ h
    · refine dl_iload (pc := 109) C 6 dX8_nextOf_109 rfl ?_
      refine dl_iload_n (pc := 111) C 4 dX8_nextOf_111 rfl rfl ?_
      refine dl_icmp_ge (pc := 112) C 118 dX8_nextOf_112 (by decide) h (fun q2 h => ?_) (fun q2 h => ?_)
      · refine dl_sub [1, 2, 3, 4, 5] rfl ?_
        exact cl8_nextOf_t118 l D cI cP cII TY hTY N ad pr R g C hQ hk5  _ _ _ _ h
      · refine dl_sub [1, 2, 3, 5, 6] rfl ?_
        exact cl8_nextOf_t115 l D cI cP cII TY hTY N ad pr R g C hQ hk5  _ _ _ _ h
set_option maxHeartbeats 4000000 in
set_option maxRecDepth 100000 in
theorem cl8_nextOf_t72 {p : Program} {e : Env} {s : State} {m : MethodId} {args : Array Value} {below : List Frame} {meth : Method} {c : Code} {Q : State → Prop} {A : Nat → Prop} (l : Launch) (D : va_G) (cI cP cII : ClassId) (TY : dl_TY) (hTY : TY[0]? = some (cI, .int)) (N : Nat) (ad : Nat → Nat) (pr : Nat → Option Nat) (R : va_W) (g : dl_Sg) {r0 : Int32} (C : dl_Cx p s m args c A D TY cc_nw cX8_nextOf 7 yX8_nextOf.cls wsX8_nextOf) (hQ : dl_RtI p l e (headSpec wsX8_nextOf { frames := 1, cells := 0, slots := 0, locals := 24 }).room s m args below meth c Q A D cX8_nextOf 7 0 0 .int (fun r u => r = r0 ∧ u = cc_w cI cP cII ad pr g ++ R)) {k5 : Int32 → Int32 → Int32 → Int32 → Option Int32} (hk5 : ∀ (x1 : Int32) (x2 : Int32) (x3 : Int32) (x4 : Int32), k5 x1 x2 x3 x4 = some r0 → dl_At p l e (headSpec wsX8_nextOf { frames := 1, cells := 0, slots := 0, locals := 24 }).room s m args below meth c Q A D 7 0 0 5 [(0, .ref (ad 2)), (1, .int x1), (2, .int x2), (3, .int x3), (4, .int x4)] [] (cc_w cI cP cII ad pr g ++ R)) (x1 : Int32) (x2 : Int32) (x3 : Int32) (x4 : Int32) (y0 : Int32) (h : cl8_nextOf_b72 N g k5 x1 x2 x3 x4 y0 = some r0) : dl_At p l e (headSpec wsX8_nextOf { frames := 1, cells := 0, slots := 0, locals := 24 }).room s m args below meth c Q A D 7 0 0 72 [(0, .ref (ad 2)), (1, .int x1), (2, .int x2), (3, .int x3), (4, .int x4)] [.int y0] (cc_w cI cP cII ad pr g ++ R) := by
  unfold cl8_nextOf_b72 at h
  refine dl_istore (pc := 72) C (fun v1 => [(5, .int v1), (0, .ref (ad 2)), (1, .int x1), (2, .int x2), (3, .int x3), (4, .int x4)]) dX8_nextOf_72 (by decide) (fun _ => rfl) h (fun v1 h => ?_)
  refine dl_aload_n (pc := 74) C 1 dX8_nextOf_74 rfl rfl ?_
  refine dl_iload (pc := 75) C 5 dX8_nextOf_75 rfl ?_
  refine dl_iload (pc := 77) C 0 dX8_nextOf_77 rfl ?_
  refine dl_iload_n (pc := 79) C 3 dX8_nextOf_79 rfl rfl ?_
  obtain ⟨r2, h1, h⟩ := dl_bi_some h
  refine dl_vI0 (pc := 80) C (ccl8_sumBy l D cI cP cII TY hTY ad pr R _ _ _ _ h1) (cwV 3 C.2.2.2.2.1 gX8_nextOf_X8_sumBy rfl rfl rfl (by decide +kernel) ⟨Nat.le_of_ble_eq_true rfl, Nat.le_of_ble_eq_true rfl⟩) 2 8 cc_a2 rfl rfl rfl (Nat.le_of_ble_eq_true rfl) dX8_nextOf_80 ⟨Nat.zero_le _, Nat.zero_le _⟩ (fun r u hp => ?_)
  obtain ⟨rfl, rfl⟩ := hp
  refine dl_aload_n (pc := 83) C 1 dX8_nextOf_83 rfl rfl ?_
  refine dl_get (pc := 84) C hin_X8_nextOf_X8 2 cc_a2 rfl 1 (by decide) lk_X8_nextOf_9 rfl rfl dX8_nextOf_84 ?_
  refine dl_iload_n (pc := 87) C 2 dX8_nextOf_87 rfl rfl ?_
  obtain ⟨h0, h⟩ := dl_gd_some h
  refine dl_iald (pc := 88) C 15 0 cc_a18 hTY h0 dX8_nextOf_88 ?_
  refine dl_icmp_ne (pc := 89) C 96 dX8_nextOf_89 (by decide) h (fun q3 h => ?_) (fun q3 h => ?_)
  · refine dl_iconst (pc := 92) C 1 dX8_nextOf_92 (by decide) ?_
    refine dl_goto (pc := 93) C 97 dX8_nextOf_93 (by decide) ?_
    refine dl_sub [1, 2, 3, 4, 5, 0] rfl ?_
    exact cl8_nextOf_t97 l D cI cP cII TY hTY N ad pr R g C hQ hk5  _ _ _ _ _ _ h
  · refine dl_iconst (pc := 96) C 0 dX8_nextOf_96 (by decide) ?_
    refine dl_sub [1, 2, 3, 4, 5, 0] rfl ?_
    exact cl8_nextOf_t97 l D cI cP cII TY hTY N ad pr R g C hQ hk5  _ _ _ _ _ _ h
set_option maxHeartbeats 4000000 in
set_option maxRecDepth 100000 in
theorem cl8_nextOf_t5 {p : Program} {e : Env} {s : State} {m : MethodId} {args : Array Value} {below : List Frame} {meth : Method} {c : Code} {Q : State → Prop} {A : Nat → Prop} (l : Launch) (D : va_G) (cI cP cII : ClassId) (TY : dl_TY) (hTY : TY[0]? = some (cI, .int)) (N : Nat) (ad : Nat → Nat) (pr : Nat → Option Nat) (R : va_W) (g : dl_Sg) {r0 : Int32} (C : dl_Cx p s m args c A D TY cc_nw cX8_nextOf 7 yX8_nextOf.cls wsX8_nextOf) (hQ : dl_RtI p l e (headSpec wsX8_nextOf { frames := 1, cells := 0, slots := 0, locals := 24 }).room s m args below meth c Q A D cX8_nextOf 7 0 0 .int (fun r u => r = r0 ∧ u = cc_w cI cP cII ad pr g ++ R)) : ∀ (n : Nat) (x1 : Int32) (x2 : Int32) (x3 : Int32) (x4 : Int32), cl8_nextOf_b5 N g n x1 x2 x3 x4 = some r0 → dl_At p l e (headSpec wsX8_nextOf { frames := 1, cells := 0, slots := 0, locals := 24 }).room s m args below meth c Q A D 7 0 0 5 [(0, .ref (ad 2)), (1, .int x1), (2, .int x2), (3, .int x3), (4, .int x4)] [] (cc_w cI cP cII ad pr g ++ R) := by
  intro n
  induction n with
  | zero => exact fun _ _ _ _ h => absurd (show (none : Option Int32) = some _ from h) (by intro q; cases q)
  | succ n ih =>
    intro x1 x2 x3 x4 h
    rw [cl8_nextOf_b5] at h
    refine dl_iload (pc := 5) C 4 dX8_nextOf_5 rfl ?_
    refine dl_aload_n (pc := 7) C 0 dX8_nextOf_7 rfl rfl ?_
    refine dl_get (pc := 8) C hin_X8_nextOf_X8 2 cc_a2 rfl 0 (by decide) lk_X8_nextOf_18 rfl rfl dX8_nextOf_8 ?_
    refine dl_getN (pc := 11) C hin_X8_nextOf_X2 1 cc_a1 rfl 11 (by decide) nk_RX8_67 rfl rfl dX8_nextOf_11 ?_
    refine dl_icmp_ge (pc := 14) C 124 dX8_nextOf_14 (by decide) h (fun q4 h => ?_) (fun q4 h => ?_)
    · refine dl_iload_n (pc := 124) C 3 dX8_nextOf_124 rfl rfl ?_
      exact hQ 125 _ _ _ ⟨Option.some.inj h, rfl⟩ (vp_nar_int _) dX8_nextOf_125
    · refine dl_aload_n (pc := 17) C 0 dX8_nextOf_17 rfl rfl ?_
      refine dl_get (pc := 18) C hin_X8_nextOf_X8 2 cc_a2 rfl 0 (by decide) lk_X8_nextOf_18 rfl rfl dX8_nextOf_18 ?_
      refine dl_getN (pc := 21) C hin_X8_nextOf_X2 1 cc_a1 rfl 3 (by decide) nk_RX8_94 rfl rfl dX8_nextOf_21 ?_
      refine dl_iload_n (pc := 24) C 1 dX8_nextOf_24 rfl rfl ?_
      obtain ⟨h0, h⟩ := dl_gd_some h
      refine dl_iald (pc := 25) C 9 0 cc_a12 hTY h0 dX8_nextOf_25 ?_
      refine dl_iload (pc := 26) C 4 dX8_nextOf_26 rfl ?_
      obtain ⟨r1, h1, h⟩ := dl_bi_some h
      refine dl_sIN0 (n := 2) (pc := 28) C (ccl11_bitAt l D TY cc_nw _ _ _ h1) ggX8_nextOf_X11_bitAt rfl rfl rfl nk_RX8_64 (by decide +kernel) (by decide +kernel) (by decide +kernel) ⟨Nat.le_of_ble_eq_true rfl, Nat.le_of_ble_eq_true rfl⟩ rfl rfl (Nat.le_of_ble_eq_true rfl) dX8_nextOf_28 ⟨Nat.zero_le _, Nat.zero_le _⟩ (fun r u hp => ?_)
      obtain ⟨rfl, hu⟩ := hp
      rw [hu]
      clear hu
      refine dl_iconst (pc := 31) C 1 dX8_nextOf_31 (by decide) ?_
      refine dl_icmp_ne (pc := 32) C 118 dX8_nextOf_32 (by decide) h (fun q3 h => ?_) (fun q3 h => ?_)
      · refine dl_aload_n (pc := 35) C 0 dX8_nextOf_35 rfl rfl ?_
        refine dl_get (pc := 36) C hin_X8_nextOf_X8 2 cc_a2 rfl 0 (by decide) lk_X8_nextOf_18 rfl rfl dX8_nextOf_36 ?_
        refine dl_getN (pc := 39) C hin_X8_nextOf_X2 1 cc_a1 rfl 4 (by decide) nk_RX8_74 rfl rfl dX8_nextOf_39 ?_
        refine dl_iload (pc := 42) C 4 dX8_nextOf_42 rfl ?_
        obtain ⟨h0, h⟩ := dl_gd_some h
        refine dl_iald (pc := 44) C 10 0 cc_a13 hTY h0 dX8_nextOf_44 ?_
        refine dl_iload_n (pc := 45) C 1 dX8_nextOf_45 rfl rfl ?_
        refine dl_icmp_ne (pc := 46) C 62 dX8_nextOf_46 (by decide) h (fun q2 h => ?_) (fun q2 h => ?_)
        · refine dl_aload_n (pc := 49) C 0 dX8_nextOf_49 rfl rfl ?_
          refine dl_get (pc := 50) C hin_X8_nextOf_X8 2 cc_a2 rfl 0 (by decide) lk_X8_nextOf_18 rfl rfl dX8_nextOf_50 ?_
          refine dl_getN (pc := 53) C hin_X8_nextOf_X2 1 cc_a1 rfl 5 (by decide) nk_RX8_77 rfl rfl dX8_nextOf_53 ?_
          refine dl_iload (pc := 56) C 4 dX8_nextOf_56 rfl ?_
          obtain ⟨h0, h⟩ := dl_gd_some h
          refine dl_iald (pc := 58) C 11 0 cc_a14 hTY h0 dX8_nextOf_58 ?_
          refine dl_goto (pc := 59) C 72 dX8_nextOf_59 (by decide) ?_
          refine dl_sub [0, 1, 2, 3, 4] rfl ?_
          exact cl8_nextOf_t72 l D cI cP cII TY hTY N ad pr R g C hQ ih  _ _ _ _ _ h
        · refine dl_aload_n (pc := 62) C 0 dX8_nextOf_62 rfl rfl ?_
          refine dl_get (pc := 63) C hin_X8_nextOf_X8 2 cc_a2 rfl 0 (by decide) lk_X8_nextOf_18 rfl rfl dX8_nextOf_63 ?_
          refine dl_getN (pc := 66) C hin_X8_nextOf_X2 1 cc_a1 rfl 4 (by decide) nk_RX8_74 rfl rfl dX8_nextOf_66 ?_
          refine dl_iload (pc := 69) C 4 dX8_nextOf_69 rfl ?_
          obtain ⟨h0, h⟩ := dl_gd_some h
          refine dl_iald (pc := 71) C 10 0 cc_a13 hTY h0 dX8_nextOf_71 ?_
          refine dl_sub [0, 1, 2, 3, 4] rfl ?_
          exact cl8_nextOf_t72 l D cI cP cII TY hTY N ad pr R g C hQ ih  _ _ _ _ _ h
      · refine dl_sub [0, 1, 2, 3, 4] rfl ?_
        exact cl8_nextOf_t118 l D cI cP cII TY hTY N ad pr R g C hQ ih  _ _ _ _ h
set_option maxHeartbeats 4000000 in
set_option maxRecDepth 100000 in
theorem ccl8_nextOf (l : Launch) (D : va_G) (cI cP cII : ClassId) (TY : dl_TY) (hTY : TY[0]? = some (cI, .int)) (N : Nat) (ad : Nat → Nat) (pr : Nat → Option Nat) (R : va_W) (g : dl_Sg) (x1 : Int32) (x2 : Int32) {r0 : Int32} (h : cl8_nextOf N g x1 x2 = some r0) : dl_CtI l D TY cc_nw yX8_nextOf wsX8_nextOf { frames := 1, cells := 0, slots := 0, locals := 24 } 0 0 [.ref (ad 2), .int x1, .int x2] (cc_w cI cP cII ad pr g ++ R) (fun r u => r = r0 ∧ u = cc_w cI cP cII ad pr g ++ R) := by
  refine dl_metI (ty := .int) [(0, .ref (ad 2)), (1, .int x1), (2, .int x2)] (by decide) rfl (Nat.le_of_ble_eq_true rfl) rfl ?_
  intro p e s m args below meth c Q A C hQ
  unfold cl8_nextOf at h
  refine dl_iconst (pc := 0) C (-1) dX8_nextOf_0 (by decide) ?_
  refine dl_istore_n (pc := 1) C (fun v1 => [(3, .int v1), (0, .ref (ad 2)), (1, .int x1), (2, .int x2)]) dX8_nextOf_1 rfl (by decide) (fun _ => rfl) h (fun v1 h => ?_)
  refine dl_iconst (pc := 2) C 0 dX8_nextOf_2 (by decide) ?_
  refine dl_istore (pc := 3) C (fun v2 => [(4, .int v2), (3, .int v1), (0, .ref (ad 2)), (1, .int x1), (2, .int x2)]) dX8_nextOf_3 (by decide) (fun _ => rfl) h (fun v2 h => ?_)
  refine dl_sub [2, 3, 4, 1, 0] rfl ?_
  exact cl8_nextOf_t5 l D cI cP cII TY hTY N ad pr R g C hQ N _ _ _ _ h
