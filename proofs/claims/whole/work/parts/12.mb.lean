theorem hin_X12_count_X12 : ∀ w ∈ u_ws RX12 TX12 32, w ∈ wsX12_count := fun _ h => List.mem_cons_of_mem _ (List.mem_append_right _ h)
theorem lk_X12_count_69 : Cond.fieldLink (yX12_count).cls 69 "DripLinesModel" (TX12 0).2.1 (TX12 0).2.2.1 ∈ wsX12_count := by decide +kernel
theorem lk_X12_count_76 : Cond.fieldLink (yX12_count).cls 76 "DripLinesModel" (TX12 3).2.1 (TX12 3).2.2.1 ∈ wsX12_count := by decide +kernel
theorem lk_X12_count_83 : Cond.fieldLink (yX12_count).cls 83 "DripLinesModel" (TX12 9).2.1 (TX12 9).2.2.1 ∈ wsX12_count := by decide +kernel
theorem lk_X12_count_101 : Cond.fieldLink (yX12_count).cls 101 "DripLinesModel" (TX12 7).2.1 (TX12 7).2.2.1 ∈ wsX12_count := by decide +kernel
theorem lk_X12_count_121 : Cond.fieldLink (yX12_count).cls 121 "DripLinesModel" (TX12 8).2.1 (TX12 8).2.2.1 ∈ wsX12_count := by decide +kernel
theorem lk_X12_count_135 : Cond.fieldLink (yX12_count).cls 135 "DripLinesModel" (TX12 16).2.1 (TX12 16).2.2.1 ∈ wsX12_count := by decide +kernel
set_option maxHeartbeats 4000000 in
set_option maxRecDepth 100000 in
theorem cmo_count (l : Launch) (D : va_G) (cI : ClassId) (TY : dl_TY) (hTY : TY[0]? = some (cI, .int)) (nw : List Cond) (N : Nat) (ad : Nat → Nat) (R : va_W) (g : dl_Sg) (x1 : Int32) {r0 : Int32} (h : mo_count N g x1 = some r0) : dl_CtI l D TY nw yX12_count wsX12_count { frames := 2, cells := 0, slots := 0, locals := 43 } 0 0 [.ref (ad 0), .int x1] (mm_w cI ad g ++ R) (fun r u => r = r0 ∧ u = mm_w cI ad g ++ R) := by
  refine dl_metI (ty := .int) [(0, .ref (ad 0)), (1, .int x1)] (by decide) rfl (Nat.le_of_ble_eq_true rfl) rfl ?_
  intro p e s m args below meth c Q A C hQ
  unfold mo_count at h
  refine dl_iload_n (pc := 0) C 1 dX12_count_0 rfl rfl ?_
  by_cases q5 : x1 = 0
  · rw [if_pos q5] at h
    refine dl_tabIn (pc := 1) C 43 44 dX12_count_1 (by rw [q5]; decide) (by rw [q5]; decide) (by rw [q5]; rfl) (by decide) ?_
    refine dl_aload_n (pc := 44) C 0 dX12_count_44 rfl rfl ?_
    refine dl_get (pc := 45) C hin_X12_count_X12 0 mm_a0 rfl 0 (by decide) lk_X12_count_69 rfl rfl dX12_count_45 ?_
    exact hQ 48 _ _ _ ⟨Option.some.inj h, rfl⟩ (vp_nar_int _) dX12_count_48
  rw [if_neg q5] at h
  by_cases q6 : x1 = 1
  · rw [if_pos q6] at h
    refine dl_tabIn (pc := 1) C 48 49 dX12_count_1 (by rw [q6]; decide) (by rw [q6]; decide) (by rw [q6]; rfl) (by decide) ?_
    refine dl_aload_n (pc := 49) C 0 dX12_count_49 rfl rfl ?_
    refine dl_get (pc := 50) C hin_X12_count_X12 0 mm_a0 rfl 3 (by decide) lk_X12_count_76 rfl rfl dX12_count_50 ?_
    exact hQ 53 _ _ _ ⟨Option.some.inj h, rfl⟩ (vp_nar_int _) dX12_count_53
  rw [if_neg q6] at h
  by_cases q7 : x1 = 2
  · rw [if_pos q7] at h
    refine dl_tabIn (pc := 1) C 53 54 dX12_count_1 (by rw [q7]; decide) (by rw [q7]; decide) (by rw [q7]; rfl) (by decide) ?_
    refine dl_aload_n (pc := 54) C 0 dX12_count_54 rfl rfl ?_
    refine dl_get (pc := 55) C hin_X12_count_X12 0 mm_a0 rfl 7 (by decide) lk_X12_count_101 rfl rfl dX12_count_55 ?_
    obtain ⟨r1, h1, h⟩ := dl_bi_some h
    refine dl_sI0 (pc := 58) C (cmo_bits l D TY nw N _ _ h1) (va_cwS 1 C.2.2.2.2.1 gX12_count_X12_bits rfl rfl rfl (by decide +kernel) ⟨Nat.le_of_ble_eq_true rfl, Nat.le_of_ble_eq_true rfl⟩) rfl rfl (Nat.le_of_ble_eq_true rfl) dX12_count_58 ⟨Nat.zero_le _, Nat.zero_le _⟩ (fun r u hp => ?_)
    obtain ⟨rfl, hu⟩ := hp
    rw [hu]
    clear hu
    exact hQ 61 _ _ _ ⟨Option.some.inj h, rfl⟩ (vp_nar_int _) dX12_count_61
  rw [if_neg q7] at h
  by_cases q8 : x1 = 3
  · rw [if_pos q8] at h
    refine dl_tabIn (pc := 1) C 61 62 dX12_count_1 (by rw [q8]; decide) (by rw [q8]; decide) (by rw [q8]; rfl) (by decide) ?_
    refine dl_aload_n (pc := 62) C 0 dX12_count_62 rfl rfl ?_
    obtain ⟨r2, h1, h⟩ := dl_bi_some h
    refine dl_vI0 (pc := 63) C (cmo_taps l D cI TY hTY nw N ad R _ h1) (cwV 0 C.2.2.2.2.1 gX12_count_X12_taps rfl rfl rfl (by decide +kernel) ⟨Nat.le_of_ble_eq_true rfl, Nat.le_of_ble_eq_true rfl⟩) 0 12 mm_a0 rfl rfl rfl (Nat.le_of_ble_eq_true rfl) dX12_count_63 ⟨Nat.zero_le _, Nat.zero_le _⟩ (fun r u hp => ?_)
    obtain ⟨rfl, rfl⟩ := hp
    obtain ⟨r3, h1, h⟩ := dl_bi_some h
    refine dl_sI0 (pc := 66) C (cmo_bits l D TY nw N _ _ h1) (va_cwS 1 C.2.2.2.2.1 gX12_count_X12_bits rfl rfl rfl (by decide +kernel) ⟨Nat.le_of_ble_eq_true rfl, Nat.le_of_ble_eq_true rfl⟩) rfl rfl (Nat.le_of_ble_eq_true rfl) dX12_count_66 ⟨Nat.zero_le _, Nat.zero_le _⟩ (fun r u hp => ?_)
    obtain ⟨rfl, hu⟩ := hp
    rw [hu]
    clear hu
    exact hQ 69 _ _ _ ⟨Option.some.inj h, rfl⟩ (vp_nar_int _) dX12_count_69
  rw [if_neg q8] at h
  by_cases q9 : x1 = 4
  · rw [if_pos q9] at h
    refine dl_tabIn (pc := 1) C 69 70 dX12_count_1 (by rw [q9]; decide) (by rw [q9]; decide) (by rw [q9]; rfl) (by decide) ?_
    refine dl_aload_n (pc := 70) C 0 dX12_count_70 rfl rfl ?_
    refine dl_get (pc := 71) C hin_X12_count_X12 0 mm_a0 rfl 8 (by decide) lk_X12_count_121 rfl rfl dX12_count_71 ?_
    obtain ⟨r4, h1, h⟩ := dl_bi_some h
    refine dl_sI0 (pc := 74) C (cmo_bits l D TY nw N _ _ h1) (va_cwS 1 C.2.2.2.2.1 gX12_count_X12_bits rfl rfl rfl (by decide +kernel) ⟨Nat.le_of_ble_eq_true rfl, Nat.le_of_ble_eq_true rfl⟩) rfl rfl (Nat.le_of_ble_eq_true rfl) dX12_count_74 ⟨Nat.zero_le _, Nat.zero_le _⟩ (fun r u hp => ?_)
    obtain ⟨rfl, hu⟩ := hp
    rw [hu]
    clear hu
    exact hQ 77 _ _ _ ⟨Option.some.inj h, rfl⟩ (vp_nar_int _) dX12_count_77
  rw [if_neg q9] at h
  by_cases q10 : x1 = 5
  · rw [if_pos q10] at h
    refine dl_tabIn (pc := 1) C 77 78 dX12_count_1 (by rw [q10]; decide) (by rw [q10]; decide) (by rw [q10]; rfl) (by decide) ?_
    refine dl_aload_n (pc := 78) C 0 dX12_count_78 rfl rfl ?_
    refine dl_get (pc := 79) C hin_X12_count_X12 0 mm_a0 rfl 16 (by decide) lk_X12_count_135 rfl rfl dX12_count_79 ?_
    exact hQ 82 _ _ _ ⟨Option.some.inj h, rfl⟩ (vp_nar_int _) dX12_count_82
  rw [if_neg q10] at h
  by_cases q11 : x1 = 6
  · rw [if_pos q11] at h
    refine dl_tabIn (pc := 1) C 82 83 dX12_count_1 (by rw [q11]; decide) (by rw [q11]; decide) (by rw [q11]; rfl) (by decide) ?_
    refine dl_aload_n (pc := 83) C 0 dX12_count_83 rfl rfl ?_
    refine dl_get (pc := 84) C hin_X12_count_X12 0 mm_a0 rfl 9 (by decide) lk_X12_count_83 rfl rfl dX12_count_84 ?_
    exact hQ 87 _ _ _ ⟨Option.some.inj h, rfl⟩ (vp_nar_int _) dX12_count_87
  rw [if_neg q11] at h
  refine dl_tabOut (pc := 1) C 88 dX12_count_1 (by have eq5 : (x1).toInt ≠ 0 := fun w => q5 (Int32.toInt_inj.mp w); have eq6 : (x1).toInt ≠ 1 := fun w => q6 (Int32.toInt_inj.mp w); have eq7 : (x1).toInt ≠ 2 := fun w => q7 (Int32.toInt_inj.mp w); have eq8 : (x1).toInt ≠ 3 := fun w => q8 (Int32.toInt_inj.mp w); have eq9 : (x1).toInt ≠ 4 := fun w => q9 (Int32.toInt_inj.mp w); have eq10 : (x1).toInt ≠ 5 := fun w => q10 (Int32.toInt_inj.mp w); have eq11 : (x1).toInt ≠ 6 := fun w => q11 (Int32.toInt_inj.mp w); omega) (by decide) ?_
  refine dl_iconst (pc := 88) C (-1) dX12_count_88 (by decide) ?_
  exact hQ 89 _ _ _ ⟨Option.some.inj h, rfl⟩ (vp_nar_int _) dX12_count_89
theorem hin_X12_treeOf_X12 : ∀ w ∈ u_ws RX12 TX12 32, w ∈ wsX12_treeOf := fun _ h => List.mem_cons_of_mem _ (List.mem_append_right _ h)
theorem lk_X12_treeOf_16 : Cond.fieldLink (yX12_treeOf).cls 16 "DripLinesModel" (TX12 4).2.1 (TX12 4).2.2.1 ∈ wsX12_treeOf := by decide +kernel
theorem lk_X12_treeOf_19 : Cond.fieldLink (yX12_treeOf).cls 19 "DripLinesModel" (TX12 5).2.1 (TX12 5).2.2.1 ∈ wsX12_treeOf := by decide +kernel
theorem lk_X12_treeOf_40 : Cond.fieldLink (yX12_treeOf).cls 40 "DripLinesModel" (TX12 17).2.1 (TX12 17).2.2.1 ∈ wsX12_treeOf := by decide +kernel
theorem lk_X12_treeOf_69 : Cond.fieldLink (yX12_treeOf).cls 69 "DripLinesModel" (TX12 0).2.1 (TX12 0).2.2.1 ∈ wsX12_treeOf := by decide +kernel
theorem lk_X12_treeOf_76 : Cond.fieldLink (yX12_treeOf).cls 76 "DripLinesModel" (TX12 3).2.1 (TX12 3).2.2.1 ∈ wsX12_treeOf := by decide +kernel
theorem lk_X12_treeOf_138 : Cond.fieldLink (yX12_treeOf).cls 138 "DripLinesModel" (TX12 18).2.1 (TX12 18).2.2.1 ∈ wsX12_treeOf := by decide +kernel
set_option maxHeartbeats 4000000 in
set_option maxRecDepth 100000 in
theorem mo_treeOf_t226 {p : Program} {e : Env} {s : State} {m : MethodId} {args : Array Value} {below : List Frame} {meth : Method} {c : Code} {Q : State → Prop} {A : Nat → Prop} (l : Launch) (D : va_G) (cI : ClassId) (TY : dl_TY) (hTY : TY[0]? = some (cI, .int)) (nw : List Cond) (N : Nat) (ad : Nat → Nat) (R : va_W) {r0 : Int32} {g0 : dl_Sg} (C : dl_Cx p s m args c A D TY nw cX12_treeOf 7 yX12_treeOf.cls wsX12_treeOf) (hQ : dl_RtI p l e (headSpec wsX12_treeOf { frames := 2, cells := 0, slots := 0, locals := 43 }).room s m args below meth c Q A D cX12_treeOf 7 0 0 .int (fun r u => r = r0 ∧ u = mm_w cI ad g0 ++ R)) (g : dl_Sg) (h : mo_treeOf_b226 N  g = some (r0, g0)) : dl_At p l e (headSpec wsX12_treeOf { frames := 2, cells := 0, slots := 0, locals := 43 }).room s m args below meth c Q A D 7 0 0 226 [(0, .ref (ad 0))] [] (mm_w cI ad g ++ R) := by
  unfold mo_treeOf_b226 at h
  refine dl_iconst (pc := 226) C 3 dX12_treeOf_226 (by decide) ?_
  refine dl_goto (pc := 227) C 231 dX12_treeOf_227 (by decide) ?_
  exact hQ 231 _ _ _ ⟨(dl_r2 h).1, by rw [(dl_r2 h).2]⟩ (vp_nar_int _) dX12_treeOf_231
set_option maxHeartbeats 4000000 in
set_option maxRecDepth 100000 in
theorem mo_treeOf_t211 {p : Program} {e : Env} {s : State} {m : MethodId} {args : Array Value} {below : List Frame} {meth : Method} {c : Code} {Q : State → Prop} {A : Nat → Prop} (l : Launch) (D : va_G) (cI : ClassId) (TY : dl_TY) (hTY : TY[0]? = some (cI, .int)) (nw : List Cond) (N : Nat) (ad : Nat → Nat) (R : va_W) {r0 : Int32} {g0 : dl_Sg} (C : dl_Cx p s m args c A D TY nw cX12_treeOf 7 yX12_treeOf.cls wsX12_treeOf) (hQ : dl_RtI p l e (headSpec wsX12_treeOf { frames := 2, cells := 0, slots := 0, locals := 43 }).room s m args below meth c Q A D cX12_treeOf 7 0 0 .int (fun r u => r = r0 ∧ u = mm_w cI ad g0 ++ R)) (x3 : Int32) (g : dl_Sg) (h : mo_treeOf_b211 N x3 g = some (r0, g0)) : dl_At p l e (headSpec wsX12_treeOf { frames := 2, cells := 0, slots := 0, locals := 43 }).room s m args below meth c Q A D 7 0 0 211 [(0, .ref (ad 0)), (3, .int x3)] [] (mm_w cI ad g ++ R) := by
  unfold mo_treeOf_b211 at h
  refine dl_iload_n (pc := 211) C 1 dX12_treeOf_211 rfl rfl ?_
  refine dl_if_eq (pc := 212) C 226 dX12_treeOf_212 (by decide) h (fun q2 h => ?_) (fun q2 h => ?_)
  · refine dl_sub [0] rfl ?_
    exact mo_treeOf_t226 l D cI TY hTY nw N ad R C hQ  _ h
  · refine dl_iload_n (pc := 215) C 1 dX12_treeOf_215 rfl rfl ?_
    refine dl_aload_n (pc := 216) C 0 dX12_treeOf_216 rfl rfl ?_
    refine dl_get (pc := 217) C hin_X12_treeOf_X12 0 mm_a0 rfl 18 (by decide) lk_X12_treeOf_138 rfl rfl dX12_treeOf_217 ?_
    refine dl_iconst (pc := 220) C (-1) dX12_treeOf_220 (by decide) ?_
    refine dl_ixor (pc := 221) C dX12_treeOf_221 ?_
    refine dl_iand (pc := 222) C dX12_treeOf_222 ?_
    refine dl_if_eq (pc := 223) C 230 dX12_treeOf_223 (by decide) h (fun q1 h => ?_) (fun q1 h => ?_)
    · refine dl_iconst (pc := 230) C 0 dX12_treeOf_230 (by decide) ?_
      exact hQ 231 _ _ _ ⟨(dl_r2 h).1, by rw [(dl_r2 h).2]⟩ (vp_nar_int _) dX12_treeOf_231
    · refine dl_sub [0] rfl ?_
      exact mo_treeOf_t226 l D cI TY hTY nw N ad R C hQ  _ h
set_option maxHeartbeats 4000000 in
set_option maxRecDepth 100000 in
theorem mo_treeOf_t190 {p : Program} {e : Env} {s : State} {m : MethodId} {args : Array Value} {below : List Frame} {meth : Method} {c : Code} {Q : State → Prop} {A : Nat → Prop} (l : Launch) (D : va_G) (cI : ClassId) (TY : dl_TY) (hTY : TY[0]? = some (cI, .int)) (nw : List Cond) (N : Nat) (ad : Nat → Nat) (R : va_W) {r0 : Int32} {g0 : dl_Sg} (C : dl_Cx p s m args c A D TY nw cX12_treeOf 7 yX12_treeOf.cls wsX12_treeOf) (hQ : dl_RtI p l e (headSpec wsX12_treeOf { frames := 2, cells := 0, slots := 0, locals := 43 }).room s m args below meth c Q A D cX12_treeOf 7 0 0 .int (fun r u => r = r0 ∧ u = mm_w cI ad g0 ++ R)) (x3 : Int32) (y1 : Int32) (g : dl_Sg) (h : mo_treeOf_b190 N x3 y1 g = some (r0, g0)) : dl_At p l e (headSpec wsX12_treeOf { frames := 2, cells := 0, slots := 0, locals := 43 }).room s m args below meth c Q A D 7 0 0 190 [(0, .ref (ad 0)), (3, .int x3)] [.int y1, .ref (ad 0)] (mm_w cI ad g ++ R) := by
  unfold mo_treeOf_b190 at h
  refine dl_put (pc := 190) C hin_X12_treeOf_X12 tyX12 tyX12_ok nmX12 0 mm_a0 rfl 18 (by decide) lk_X12_treeOf_138 rfl rfl (ty := .int) rfl (vp_nar_int _) rfl (Nat.le_of_ble_eq_true rfl) dX12_treeOf_190 mm_p0_18 ?_
  obtain ⟨g1, h, hg⟩ := dl_nm_some h
  rw [← hg]
  clear hg
  refine dl_goto (pc := 193) C 211 dX12_treeOf_193 (by decide) ?_
  refine dl_sub [0, 1] rfl ?_
  exact mo_treeOf_t211 l D cI TY hTY nw N ad R C hQ  _ _ h
set_option maxHeartbeats 4000000 in
set_option maxRecDepth 100000 in
theorem mo_treeOf_t161 {p : Program} {e : Env} {s : State} {m : MethodId} {args : Array Value} {below : List Frame} {meth : Method} {c : Code} {Q : State → Prop} {A : Nat → Prop} (l : Launch) (D : va_G) (cI : ClassId) (TY : dl_TY) (hTY : TY[0]? = some (cI, .int)) (nw : List Cond) (N : Nat) (ad : Nat → Nat) (R : va_W) {r0 : Int32} {g0 : dl_Sg} (C : dl_Cx p s m args c A D TY nw cX12_treeOf 7 yX12_treeOf.cls wsX12_treeOf) (hQ : dl_RtI p l e (headSpec wsX12_treeOf { frames := 2, cells := 0, slots := 0, locals := 43 }).room s m args below meth c Q A D cX12_treeOf 7 0 0 .int (fun r u => r = r0 ∧ u = mm_w cI ad g0 ++ R)) {k32 : Int32 → Int32 → Int32 → dl_Sg → Option (Int32 × dl_Sg)} (hk32 : ∀ (x1 : Int32) (x2 : Int32) (x3 : Int32) (g : dl_Sg), k32 x1 x2 x3 g = some (r0, g0) → dl_At p l e (headSpec wsX12_treeOf { frames := 2, cells := 0, slots := 0, locals := 43 }).room s m args below meth c Q A D 7 0 0 32 [(0, .ref (ad 0)), (1, .int x1), (2, .int x2), (3, .int x3)] [] (mm_w cI ad g ++ R)) (x1 : Int32) (x2 : Int32) (x3 : Int32) (g : dl_Sg) (h : mo_treeOf_b161 N k32 x1 x2 x3 g = some (r0, g0)) : dl_At p l e (headSpec wsX12_treeOf { frames := 2, cells := 0, slots := 0, locals := 43 }).room s m args below meth c Q A D 7 0 0 161 [(0, .ref (ad 0)), (1, .int x1), (2, .int x2), (3, .int x3)] [] (mm_w cI ad g ++ R) := by
  unfold mo_treeOf_b161 at h
  refine dl_iinc (pc := 161) C 3 (fun v1 => [(3, .int v1), (0, .ref (ad 0)), (1, .int x1), (2, .int x2)]) dX12_treeOf_161 rfl rfl (by decide) (fun _ => rfl) h (fun v1 h => ?_)
  refine dl_goto (pc := 164) C 32 dX12_treeOf_164 (by decide) ?_
  refine dl_sub [1, 2, 3, 0] rfl ?_
  exact hk32 _ _ _ _ h
set_option maxHeartbeats 4000000 in
set_option maxRecDepth 100000 in
theorem mo_treeOf_t125 {p : Program} {e : Env} {s : State} {m : MethodId} {args : Array Value} {below : List Frame} {meth : Method} {c : Code} {Q : State → Prop} {A : Nat → Prop} (l : Launch) (D : va_G) (cI : ClassId) (TY : dl_TY) (hTY : TY[0]? = some (cI, .int)) (nw : List Cond) (N : Nat) (ad : Nat → Nat) (R : va_W) {r0 : Int32} {g0 : dl_Sg} (C : dl_Cx p s m args c A D TY nw cX12_treeOf 7 yX12_treeOf.cls wsX12_treeOf) (hQ : dl_RtI p l e (headSpec wsX12_treeOf { frames := 2, cells := 0, slots := 0, locals := 43 }).room s m args below meth c Q A D cX12_treeOf 7 0 0 .int (fun r u => r = r0 ∧ u = mm_w cI ad g0 ++ R)) {k32 : Int32 → Int32 → Int32 → dl_Sg → Option (Int32 × dl_Sg)} (hk32 : ∀ (x1 : Int32) (x2 : Int32) (x3 : Int32) (g : dl_Sg), k32 x1 x2 x3 g = some (r0, g0) → dl_At p l e (headSpec wsX12_treeOf { frames := 2, cells := 0, slots := 0, locals := 43 }).room s m args below meth c Q A D 7 0 0 32 [(0, .ref (ad 0)), (1, .int x1), (2, .int x2), (3, .int x3)] [] (mm_w cI ad g ++ R)) {k86 : Int32 → Int32 → Int32 → Int32 → Int32 → Int32 → dl_Sg → Option (Int32 × dl_Sg)} (hk86 : ∀ (x1 : Int32) (x2 : Int32) (x3 : Int32) (x4 : Int32) (x5 : Int32) (x6 : Int32) (g : dl_Sg), k86 x1 x2 x3 x4 x5 x6 g = some (r0, g0) → dl_At p l e (headSpec wsX12_treeOf { frames := 2, cells := 0, slots := 0, locals := 43 }).room s m args below meth c Q A D 7 0 0 86 [(0, .ref (ad 0)), (1, .int x1), (2, .int x2), (3, .int x3), (4, .int x4), (5, .int x5), (6, .int x6)] [] (mm_w cI ad g ++ R)) (x1 : Int32) (x2 : Int32) (x3 : Int32) (x4 : Int32) (x5 : Int32) (x6 : Int32) (y1 : Int32) (y2 : Int32) (g : dl_Sg) (h : mo_treeOf_b125 N k32 k86 x1 x2 x3 x4 x5 x6 y1 y2 g = some (r0, g0)) : dl_At p l e (headSpec wsX12_treeOf { frames := 2, cells := 0, slots := 0, locals := 43 }).room s m args below meth c Q A D 7 0 0 125 [(0, .ref (ad 0)), (1, .int x1), (2, .int x2), (3, .int x3), (4, .int x4), (5, .int x5), (6, .int x6)] [.int y2, .int y1, .ref (ad 17)] (mm_w cI ad g ++ R) := by
  unfold mo_treeOf_b125 at h
  obtain ⟨h0, h⟩ := dl_gd_some h
  refine dl_iast (pc := 125) C 11 0 mm_a17 hTY h0 dX12_treeOf_125 mm_s17 ?_
  obtain ⟨g1, h, hg⟩ := dl_nm_some h
  rw [← hg]
  clear hg
  refine dl_iinc (pc := 126) C 6 (fun v2 => [(6, .int v2), (0, .ref (ad 0)), (1, .int x1), (2, .int x2), (3, .int x3), (4, .int x4), (5, .int x5)]) dX12_treeOf_126 rfl rfl (by decide) (fun _ => rfl) h (fun v2 h => ?_)
  refine dl_goto (pc := 129) C 86 dX12_treeOf_129 (by decide) ?_
  refine dl_sub [1, 2, 3, 4, 5, 6, 0] rfl ?_
  exact hk86 _ _ _ _ _ _ _ h
set_option maxHeartbeats 4000000 in
set_option maxRecDepth 100000 in
theorem mo_treeOf_t86 {p : Program} {e : Env} {s : State} {m : MethodId} {args : Array Value} {below : List Frame} {meth : Method} {c : Code} {Q : State → Prop} {A : Nat → Prop} (l : Launch) (D : va_G) (cI : ClassId) (TY : dl_TY) (hTY : TY[0]? = some (cI, .int)) (nw : List Cond) (N : Nat) (ad : Nat → Nat) (R : va_W) {r0 : Int32} {g0 : dl_Sg} (C : dl_Cx p s m args c A D TY nw cX12_treeOf 7 yX12_treeOf.cls wsX12_treeOf) (hQ : dl_RtI p l e (headSpec wsX12_treeOf { frames := 2, cells := 0, slots := 0, locals := 43 }).room s m args below meth c Q A D cX12_treeOf 7 0 0 .int (fun r u => r = r0 ∧ u = mm_w cI ad g0 ++ R)) {k32 : Int32 → Int32 → Int32 → dl_Sg → Option (Int32 × dl_Sg)} (hk32 : ∀ (x1 : Int32) (x2 : Int32) (x3 : Int32) (g : dl_Sg), k32 x1 x2 x3 g = some (r0, g0) → dl_At p l e (headSpec wsX12_treeOf { frames := 2, cells := 0, slots := 0, locals := 43 }).room s m args below meth c Q A D 7 0 0 32 [(0, .ref (ad 0)), (1, .int x1), (2, .int x2), (3, .int x3)] [] (mm_w cI ad g ++ R)) : ∀ (n : Nat) (x1 : Int32) (x2 : Int32) (x3 : Int32) (x4 : Int32) (x5 : Int32) (x6 : Int32) (g : dl_Sg), mo_treeOf_b86 N k32 n x1 x2 x3 x4 x5 x6 g = some (r0, g0) → dl_At p l e (headSpec wsX12_treeOf { frames := 2, cells := 0, slots := 0, locals := 43 }).room s m args below meth c Q A D 7 0 0 86 [(0, .ref (ad 0)), (1, .int x1), (2, .int x2), (3, .int x3), (4, .int x4), (5, .int x5), (6, .int x6)] [] (mm_w cI ad g ++ R) := by
  intro n
  induction n with
  | zero => exact fun _ _ _ _ _ _ _ h => absurd (show (none : Option (Int32 × dl_Sg)) = some _ from h) (by intro q; cases q)
  | succ n ih =>
    intro x1 x2 x3 x4 x5 x6 g h
    rw [mo_treeOf_b86] at h
    refine dl_iload (pc := 86) C 6 dX12_treeOf_86 rfl ?_
    refine dl_aload_n (pc := 88) C 0 dX12_treeOf_88 rfl rfl ?_
    refine dl_get (pc := 89) C hin_X12_treeOf_X12 0 mm_a0 rfl 0 (by decide) lk_X12_treeOf_69 rfl rfl dX12_treeOf_89 ?_
    refine dl_icmp_ge (pc := 92) C 132 dX12_treeOf_92 (by decide) h (fun q4 h => ?_) (fun q4 h => ?_)
    · refine dl_aload_n (pc := 132) C 0 dX12_treeOf_132 rfl rfl ?_
      refine dl_dup (pc := 133) C dX12_treeOf_133 rfl ?_
      refine dl_get (pc := 134) C hin_X12_treeOf_X12 0 mm_a0 rfl 18 (by decide) lk_X12_treeOf_138 rfl rfl dX12_treeOf_134 ?_
      refine dl_iconst (pc := 137) C 1 dX12_treeOf_137 (by decide) ?_
      refine dl_aload_n (pc := 138) C 0 dX12_treeOf_138 rfl rfl ?_
      refine dl_get (pc := 139) C hin_X12_treeOf_X12 0 mm_a0 rfl 4 (by decide) lk_X12_treeOf_16 rfl rfl dX12_treeOf_139 ?_
      refine dl_iload_n (pc := 142) C 3 dX12_treeOf_142 rfl rfl ?_
      obtain ⟨h0, h⟩ := dl_gd_some h
      refine dl_iald (pc := 143) C 3 0 mm_a4 hTY h0 dX12_treeOf_143 ?_
      refine dl_ishl (pc := 144) C dX12_treeOf_144 ?_
      refine dl_iconst (pc := 145) C 1 dX12_treeOf_145 (by decide) ?_
      refine dl_aload_n (pc := 146) C 0 dX12_treeOf_146 rfl rfl ?_
      refine dl_get (pc := 147) C hin_X12_treeOf_X12 0 mm_a0 rfl 5 (by decide) lk_X12_treeOf_19 rfl rfl dX12_treeOf_147 ?_
      refine dl_iload_n (pc := 150) C 3 dX12_treeOf_150 rfl rfl ?_
      obtain ⟨h0, h⟩ := dl_gd_some h
      refine dl_iald (pc := 151) C 4 0 mm_a5 hTY h0 dX12_treeOf_151 ?_
      refine dl_ishl (pc := 152) C dX12_treeOf_152 ?_
      refine dl_ior (pc := 153) C dX12_treeOf_153 ?_
      refine dl_ior (pc := 154) C dX12_treeOf_154 ?_
      refine dl_put (pc := 155) C hin_X12_treeOf_X12 tyX12 tyX12_ok nmX12 0 mm_a0 rfl 18 (by decide) lk_X12_treeOf_138 rfl rfl (ty := .int) rfl (vp_nar_int _) rfl (Nat.le_of_ble_eq_true rfl) dX12_treeOf_155 mm_p0_18 ?_
      obtain ⟨g1, h, hg⟩ := dl_nm_some h
      rw [← hg]
      clear hg
      refine dl_iinc (pc := 158) C 2 (fun v2 => [(2, .int v2), (0, .ref (ad 0)), (1, .int x1), (3, .int x3), (4, .int x4), (5, .int x5), (6, .int x6)]) dX12_treeOf_158 rfl rfl (by decide) (fun _ => rfl) h (fun v2 h => ?_)
      refine dl_sub [1, 2, 0, 3] rfl ?_
      exact mo_treeOf_t161 l D cI TY hTY nw N ad R C hQ hk32  _ _ _ _ h
    · refine dl_aload_n (pc := 95) C 0 dX12_treeOf_95 rfl rfl ?_
      refine dl_get (pc := 96) C hin_X12_treeOf_X12 0 mm_a0 rfl 17 (by decide) lk_X12_treeOf_40 rfl rfl dX12_treeOf_96 ?_
      refine dl_iload (pc := 99) C 6 dX12_treeOf_99 rfl ?_
      refine dl_aload_n (pc := 101) C 0 dX12_treeOf_101 rfl rfl ?_
      refine dl_get (pc := 102) C hin_X12_treeOf_X12 0 mm_a0 rfl 17 (by decide) lk_X12_treeOf_40 rfl rfl dX12_treeOf_102 ?_
      refine dl_iload (pc := 105) C 6 dX12_treeOf_105 rfl ?_
      obtain ⟨h0, h⟩ := dl_gd_some h
      refine dl_iald (pc := 107) C 11 0 mm_a17 hTY h0 dX12_treeOf_107 ?_
      refine dl_iload (pc := 108) C 4 dX12_treeOf_108 rfl ?_
      refine dl_icmp_ne (pc := 110) C 118 dX12_treeOf_110 (by decide) h (fun q3 h => ?_) (fun q3 h => ?_)
      · refine dl_iload (pc := 113) C 5 dX12_treeOf_113 rfl ?_
        refine dl_goto (pc := 115) C 125 dX12_treeOf_115 (by decide) ?_
        refine dl_sub [0, 1, 2, 3, 4, 5, 6] rfl ?_
        exact mo_treeOf_t125 l D cI TY hTY nw N ad R C hQ hk32 ih  _ _ _ _ _ _ _ _ _ h
      · refine dl_aload_n (pc := 118) C 0 dX12_treeOf_118 rfl rfl ?_
        refine dl_get (pc := 119) C hin_X12_treeOf_X12 0 mm_a0 rfl 17 (by decide) lk_X12_treeOf_40 rfl rfl dX12_treeOf_119 ?_
        refine dl_iload (pc := 122) C 6 dX12_treeOf_122 rfl ?_
        obtain ⟨h0, h⟩ := dl_gd_some h
        refine dl_iald (pc := 124) C 11 0 mm_a17 hTY h0 dX12_treeOf_124 ?_
        refine dl_sub [0, 1, 2, 3, 4, 5, 6] rfl ?_
        exact mo_treeOf_t125 l D cI TY hTY nw N ad R C hQ hk32 ih  _ _ _ _ _ _ _ _ _ h
set_option maxHeartbeats 4000000 in
set_option maxRecDepth 100000 in
theorem mo_treeOf_t32 {p : Program} {e : Env} {s : State} {m : MethodId} {args : Array Value} {below : List Frame} {meth : Method} {c : Code} {Q : State → Prop} {A : Nat → Prop} (l : Launch) (D : va_G) (cI : ClassId) (TY : dl_TY) (hTY : TY[0]? = some (cI, .int)) (nw : List Cond) (N : Nat) (ad : Nat → Nat) (R : va_W) {r0 : Int32} {g0 : dl_Sg} (C : dl_Cx p s m args c A D TY nw cX12_treeOf 7 yX12_treeOf.cls wsX12_treeOf) (hQ : dl_RtI p l e (headSpec wsX12_treeOf { frames := 2, cells := 0, slots := 0, locals := 43 }).room s m args below meth c Q A D cX12_treeOf 7 0 0 .int (fun r u => r = r0 ∧ u = mm_w cI ad g0 ++ R)) : ∀ (n : Nat) (x1 : Int32) (x2 : Int32) (x3 : Int32) (g : dl_Sg), mo_treeOf_b32 N n x1 x2 x3 g = some (r0, g0) → dl_At p l e (headSpec wsX12_treeOf { frames := 2, cells := 0, slots := 0, locals := 43 }).room s m args below meth c Q A D 7 0 0 32 [(0, .ref (ad 0)), (1, .int x1), (2, .int x2), (3, .int x3)] [] (mm_w cI ad g ++ R) := by
  intro n
  induction n with
  | zero => exact fun _ _ _ _ h => absurd (show (none : Option (Int32 × dl_Sg)) = some _ from h) (by intro q; cases q)
  | succ n ih =>
    intro x1 x2 x3 g h
    rw [mo_treeOf_b32] at h
    refine dl_iload_n (pc := 32) C 3 dX12_treeOf_32 rfl rfl ?_
    refine dl_aload_n (pc := 33) C 0 dX12_treeOf_33 rfl rfl ?_
    refine dl_get (pc := 34) C hin_X12_treeOf_X12 0 mm_a0 rfl 3 (by decide) lk_X12_treeOf_76 rfl rfl dX12_treeOf_34 ?_
    refine dl_icmp_ge (pc := 37) C 167 dX12_treeOf_37 (by decide) h (fun q14 h => ?_) (fun q14 h => ?_)
    · refine dl_aload_n (pc := 167) C 0 dX12_treeOf_167 rfl rfl ?_
      obtain ⟨r1, h1, h⟩ := dl_bi_some h
      refine dl_vI0 (pc := 168) C (cmo_taps l D cI TY hTY nw N ad R _ h1) (cwV 0 C.2.2.2.2.1 gX12_treeOf_X12_taps rfl rfl rfl (by decide +kernel) ⟨Nat.le_of_ble_eq_true rfl, Nat.le_of_ble_eq_true rfl⟩) 0 12 mm_a0 rfl rfl rfl (Nat.le_of_ble_eq_true rfl) dX12_treeOf_168 ⟨Nat.zero_le _, Nat.zero_le _⟩ (fun r u hp => ?_)
      obtain ⟨rfl, rfl⟩ := hp
      refine dl_istore_n (pc := 171) C (fun v2 => [(3, .int v2), (0, .ref (ad 0)), (1, .int x1), (2, .int x2)]) dX12_treeOf_171 rfl (by decide) (fun _ => rfl) h (fun v2 h => ?_)
      refine dl_iload_n (pc := 172) C 3 dX12_treeOf_172 rfl rfl ?_
      refine dl_if_ne (pc := 173) C 196 dX12_treeOf_173 (by decide) h (fun q7 h => ?_) (fun q7 h => ?_)
      · refine dl_aload_n (pc := 176) C 1 dX12_treeOf_176 rfl rfl ?_
        refine dl_iload_n (pc := 177) C 0 dX12_treeOf_177 rfl rfl ?_
        obtain ⟨r3, h1, h⟩ := dl_bi_some h
        refine dl_sI0 (pc := 178) C (cmo_bits l D TY nw N _ _ h1) (va_cwS 1 C.2.2.2.2.1 gX12_treeOf_X12_bits rfl rfl rfl (by decide +kernel) ⟨Nat.le_of_ble_eq_true rfl, Nat.le_of_ble_eq_true rfl⟩) rfl rfl (Nat.le_of_ble_eq_true rfl) dX12_treeOf_178 ⟨Nat.zero_le _, Nat.zero_le _⟩ (fun r u hp => ?_)
        obtain ⟨rfl, hu⟩ := hp
        rw [hu]
        clear hu
        refine dl_iconst (pc := 181) C 1 dX12_treeOf_181 (by decide) ?_
        refine dl_icmp_ne (pc := 182) C 189 dX12_treeOf_182 (by decide) h (fun q4 h => ?_) (fun q4 h => ?_)
        · refine dl_iload_n (pc := 185) C 0 dX12_treeOf_185 rfl rfl ?_
          refine dl_goto (pc := 186) C 190 dX12_treeOf_186 (by decide) ?_
          refine dl_sub [1, 0] rfl ?_
          exact mo_treeOf_t190 l D cI TY hTY nw N ad R C hQ  _ _ _ h
        · refine dl_iconst (pc := 189) C 0 dX12_treeOf_189 (by decide) ?_
          refine dl_sub [1, 0] rfl ?_
          exact mo_treeOf_t190 l D cI TY hTY nw N ad R C hQ  _ _ _ h
      · refine dl_aload_n (pc := 196) C 1 dX12_treeOf_196 rfl rfl ?_
        refine dl_get (pc := 197) C hin_X12_treeOf_X12 0 mm_a0 rfl 18 (by decide) lk_X12_treeOf_138 rfl rfl dX12_treeOf_197 ?_
        obtain ⟨r5, h1, h⟩ := dl_bi_some h
        refine dl_sI0 (pc := 200) C (cmo_bits l D TY nw N _ _ h1) (va_cwS 1 C.2.2.2.2.1 gX12_treeOf_X12_bits rfl rfl rfl (by decide +kernel) ⟨Nat.le_of_ble_eq_true rfl, Nat.le_of_ble_eq_true rfl⟩) rfl rfl (Nat.le_of_ble_eq_true rfl) dX12_treeOf_200 ⟨Nat.zero_le _, Nat.zero_le _⟩ (fun r u hp => ?_)
        obtain ⟨rfl, hu⟩ := hp
        rw [hu]
        clear hu
        refine dl_iload_n (pc := 203) C 3 dX12_treeOf_203 rfl rfl ?_
        refine dl_iconst (pc := 204) C 1 dX12_treeOf_204 (by decide) ?_
        refine dl_iadd (pc := 205) C dX12_treeOf_205 ?_
        refine dl_icmp_eq (pc := 206) C 211 dX12_treeOf_206 (by decide) h (fun q6 h => ?_) (fun q6 h => ?_)
        · refine dl_sub [1, 0] rfl ?_
          exact mo_treeOf_t211 l D cI TY hTY nw N ad R C hQ  _ _ h
        · refine dl_iconst (pc := 209) C 2 dX12_treeOf_209 (by decide) ?_
          exact hQ 210 _ _ _ ⟨(dl_r2 h).1, by rw [(dl_r2 h).2]⟩ (vp_nar_int _) dX12_treeOf_210
    · refine dl_iload_n (pc := 40) C 1 dX12_treeOf_40 rfl rfl ?_
      refine dl_iload_n (pc := 41) C 3 dX12_treeOf_41 rfl rfl ?_
      obtain ⟨r8, h1, h⟩ := dl_bi_some h
      refine dl_sI0 (pc := 42) C (cmo_has l D TY nw _ _ _ h1) (va_cwS 2 C.2.2.2.2.1 gX12_treeOf_X12_has rfl rfl rfl (by decide +kernel) ⟨Nat.le_of_ble_eq_true rfl, Nat.le_of_ble_eq_true rfl⟩) rfl rfl (Nat.le_of_ble_eq_true rfl) dX12_treeOf_42 ⟨Nat.zero_le _, Nat.zero_le _⟩ (fun r u hp => ?_)
      obtain ⟨rfl, hu⟩ := hp
      rw [hu]
      clear hu
      refine dl_if_eq (pc := 45) C 161 dX12_treeOf_45 (by decide) h (fun q13 h => ?_) (fun q13 h => ?_)
      · refine dl_sub [0, 1, 2, 3] rfl ?_
        exact mo_treeOf_t161 l D cI TY hTY nw N ad R C hQ ih  _ _ _ _ h
      · refine dl_aload_n (pc := 48) C 0 dX12_treeOf_48 rfl rfl ?_
        refine dl_get (pc := 49) C hin_X12_treeOf_X12 0 mm_a0 rfl 17 (by decide) lk_X12_treeOf_40 rfl rfl dX12_treeOf_49 ?_
        refine dl_aload_n (pc := 52) C 0 dX12_treeOf_52 rfl rfl ?_
        refine dl_get (pc := 53) C hin_X12_treeOf_X12 0 mm_a0 rfl 4 (by decide) lk_X12_treeOf_16 rfl rfl dX12_treeOf_53 ?_
        refine dl_iload_n (pc := 56) C 3 dX12_treeOf_56 rfl rfl ?_
        obtain ⟨h0, h⟩ := dl_gd_some h
        refine dl_iald (pc := 57) C 3 0 mm_a4 hTY h0 dX12_treeOf_57 ?_
        obtain ⟨h0, h⟩ := dl_gd_some h
        refine dl_iald (pc := 58) C 11 0 mm_a17 hTY h0 dX12_treeOf_58 ?_
        refine dl_istore (pc := 59) C (fun v9 => [(4, .int v9), (0, .ref (ad 0)), (1, .int x1), (2, .int x2), (3, .int x3)]) dX12_treeOf_59 (by decide) (fun _ => rfl) h (fun v9 h => ?_)
        refine dl_aload_n (pc := 61) C 1 dX12_treeOf_61 rfl rfl ?_
        refine dl_get (pc := 62) C hin_X12_treeOf_X12 0 mm_a0 rfl 17 (by decide) lk_X12_treeOf_40 rfl rfl dX12_treeOf_62 ?_
        refine dl_aload_n (pc := 65) C 1 dX12_treeOf_65 rfl rfl ?_
        refine dl_get (pc := 66) C hin_X12_treeOf_X12 0 mm_a0 rfl 5 (by decide) lk_X12_treeOf_19 rfl rfl dX12_treeOf_66 ?_
        refine dl_iload_n (pc := 69) C 4 dX12_treeOf_69 rfl rfl ?_
        obtain ⟨h0, h⟩ := dl_gd_some h
        refine dl_iald (pc := 70) C 4 0 mm_a5 hTY h0 dX12_treeOf_70 ?_
        obtain ⟨h0, h⟩ := dl_gd_some h
        refine dl_iald (pc := 71) C 11 0 mm_a17 hTY h0 dX12_treeOf_71 ?_
        refine dl_istore (pc := 72) C (fun v10 => [(5, .int v10), (4, .int v9), (0, .ref (ad 0)), (1, .int x1), (2, .int x2), (3, .int x3)]) dX12_treeOf_72 (by decide) (fun _ => rfl) h (fun v10 h => ?_)
        refine dl_iload (pc := 74) C 1 dX12_treeOf_74 rfl ?_
        refine dl_iload (pc := 76) C 0 dX12_treeOf_76 rfl ?_
        refine dl_icmp_ne (pc := 78) C 83 dX12_treeOf_78 (by decide) h (fun q12 h => ?_) (fun q12 h => ?_)
        · refine dl_iconst (pc := 81) C 1 dX12_treeOf_81 (by decide) ?_
          exact hQ 82 _ _ _ ⟨(dl_r2 h).1, by rw [(dl_r2 h).2]⟩ (vp_nar_int _) dX12_treeOf_82
        · refine dl_iconst (pc := 83) C 0 dX12_treeOf_83 (by decide) ?_
          refine dl_istore (pc := 84) C (fun v11 => [(6, .int v11), (5, .int v10), (4, .int v9), (0, .ref (ad 0)), (1, .int x1), (2, .int x2), (3, .int x3)]) dX12_treeOf_84 (by decide) (fun _ => rfl) h (fun v11 h => ?_)
          refine dl_sub [3, 4, 5, 6, 2, 1, 0] rfl ?_
          exact mo_treeOf_t86 l D cI TY hTY nw N ad R C hQ ih N _ _ _ _ _ _ _ h
set_option maxHeartbeats 4000000 in
set_option maxRecDepth 100000 in
theorem mo_treeOf_t2 {p : Program} {e : Env} {s : State} {m : MethodId} {args : Array Value} {below : List Frame} {meth : Method} {c : Code} {Q : State → Prop} {A : Nat → Prop} (l : Launch) (D : va_G) (cI : ClassId) (TY : dl_TY) (hTY : TY[0]? = some (cI, .int)) (nw : List Cond) (N : Nat) (ad : Nat → Nat) (R : va_W) {r0 : Int32} {g0 : dl_Sg} (C : dl_Cx p s m args c A D TY nw cX12_treeOf 7 yX12_treeOf.cls wsX12_treeOf) (hQ : dl_RtI p l e (headSpec wsX12_treeOf { frames := 2, cells := 0, slots := 0, locals := 43 }).room s m args below meth c Q A D cX12_treeOf 7 0 0 .int (fun r u => r = r0 ∧ u = mm_w cI ad g0 ++ R)) : ∀ (n : Nat) (x1 : Int32) (x2 : Int32) (g : dl_Sg), mo_treeOf_b2 N n x1 x2 g = some (r0, g0) → dl_At p l e (headSpec wsX12_treeOf { frames := 2, cells := 0, slots := 0, locals := 43 }).room s m args below meth c Q A D 7 0 0 2 [(0, .ref (ad 0)), (1, .int x1), (2, .int x2)] [] (mm_w cI ad g ++ R) := by
  intro n
  induction n with
  | zero => exact fun _ _ _ h => absurd (show (none : Option (Int32 × dl_Sg)) = some _ from h) (by intro q; cases q)
  | succ n ih =>
    intro x1 x2 g h
    rw [mo_treeOf_b2] at h
    refine dl_iload_n (pc := 2) C 2 dX12_treeOf_2 rfl rfl ?_
    refine dl_aload_n (pc := 3) C 0 dX12_treeOf_3 rfl rfl ?_
    refine dl_get (pc := 4) C hin_X12_treeOf_X12 0 mm_a0 rfl 0 (by decide) lk_X12_treeOf_69 rfl rfl dX12_treeOf_4 ?_
    refine dl_icmp_ge (pc := 7) C 23 dX12_treeOf_7 (by decide) h (fun q6 h => ?_) (fun q6 h => ?_)
    · refine dl_aload_n (pc := 23) C 0 dX12_treeOf_23 rfl rfl ?_
      refine dl_iconst (pc := 24) C 0 dX12_treeOf_24 (by decide) ?_
      refine dl_put (pc := 25) C hin_X12_treeOf_X12 tyX12 tyX12_ok nmX12 0 mm_a0 rfl 18 (by decide) lk_X12_treeOf_138 rfl rfl (ty := .int) rfl (vp_nar_int _) rfl (Nat.le_of_ble_eq_true rfl) dX12_treeOf_25 mm_p0_18 ?_
      obtain ⟨g1, h, hg⟩ := dl_nm_some h
      rw [← hg]
      clear hg
      refine dl_iconst (pc := 28) C 0 dX12_treeOf_28 (by decide) ?_
      refine dl_istore_n (pc := 29) C (fun v2 => [(2, .int v2), (0, .ref (ad 0)), (1, .int x1)]) dX12_treeOf_29 rfl (by decide) (fun _ => rfl) h (fun v2 h => ?_)
      refine dl_iconst (pc := 30) C 0 dX12_treeOf_30 (by decide) ?_
      refine dl_istore_n (pc := 31) C (fun v3 => [(3, .int v3), (2, .int v2), (0, .ref (ad 0)), (1, .int x1)]) dX12_treeOf_31 rfl (by decide) (fun _ => rfl) h (fun v3 h => ?_)
      refine dl_sub [2, 3, 1, 0] rfl ?_
      exact mo_treeOf_t32 l D cI TY hTY nw N ad R C hQ N _ _ _ _ h
    · refine dl_aload_n (pc := 10) C 0 dX12_treeOf_10 rfl rfl ?_
      refine dl_get (pc := 11) C hin_X12_treeOf_X12 0 mm_a0 rfl 17 (by decide) lk_X12_treeOf_40 rfl rfl dX12_treeOf_11 ?_
      refine dl_iload_n (pc := 14) C 2 dX12_treeOf_14 rfl rfl ?_
      refine dl_iload_n (pc := 15) C 2 dX12_treeOf_15 rfl rfl ?_
      obtain ⟨h0, h⟩ := dl_gd_some h
      refine dl_iast (pc := 16) C 11 0 mm_a17 hTY h0 dX12_treeOf_16 mm_s17 ?_
      obtain ⟨g4, h, hg⟩ := dl_nm_some h
      rw [← hg]
      clear hg
      refine dl_iinc (pc := 17) C 2 (fun v5 => [(2, .int v5), (0, .ref (ad 0)), (1, .int x1)]) dX12_treeOf_17 rfl rfl (by decide) (fun _ => rfl) h (fun v5 h => ?_)
      refine dl_goto (pc := 20) C 2 dX12_treeOf_20 (by decide) ?_
      refine dl_sub [1, 2, 0] rfl ?_
      exact ih _ _ _ h
set_option maxHeartbeats 4000000 in
set_option maxRecDepth 100000 in
theorem cmo_treeOf (l : Launch) (D : va_G) (cI : ClassId) (TY : dl_TY) (hTY : TY[0]? = some (cI, .int)) (nw : List Cond) (N : Nat) (ad : Nat → Nat) (R : va_W) (g : dl_Sg) (x1 : Int32) {r0 : Int32} {g0 : dl_Sg} (h : mo_treeOf N g x1 = some (r0, g0)) : dl_CtI l D TY nw yX12_treeOf wsX12_treeOf { frames := 2, cells := 0, slots := 0, locals := 43 } 0 0 [.ref (ad 0), .int x1] (mm_w cI ad g ++ R) (fun r u => r = r0 ∧ u = mm_w cI ad g0 ++ R) := by
  refine dl_metI (ty := .int) [(0, .ref (ad 0)), (1, .int x1)] (by decide) rfl (Nat.le_of_ble_eq_true rfl) rfl ?_
  intro p e s m args below meth c Q A C hQ
  unfold mo_treeOf at h
  refine dl_iconst (pc := 0) C 0 dX12_treeOf_0 (by decide) ?_
  refine dl_istore_n (pc := 1) C (fun v1 => [(2, .int v1), (0, .ref (ad 0)), (1, .int x1)]) dX12_treeOf_1 rfl (by decide) (fun _ => rfl) h (fun v1 h => ?_)
  refine dl_sub [1, 2, 0] rfl ?_
  exact mo_treeOf_t2 l D cI TY hTY nw N ad R C hQ N _ _ _ h
theorem hin_X12_costOf_X12 : ∀ w ∈ u_ws RX12 TX12 32, w ∈ wsX12_costOf := fun _ h => List.mem_cons_of_mem _ (List.mem_append_right _ h)
theorem lk_X12_costOf_7 : Cond.fieldLink (yX12_costOf).cls 7 "DripLinesModel" (TX12 1).2.1 (TX12 1).2.2.1 ∈ wsX12_costOf := by decide +kernel
theorem lk_X12_costOf_13 : Cond.fieldLink (yX12_costOf).cls 13 "DripLinesModel" (TX12 2).2.1 (TX12 2).2.2.1 ∈ wsX12_costOf := by decide +kernel
theorem lk_X12_costOf_22 : Cond.fieldLink (yX12_costOf).cls 22 "DripLinesModel" (TX12 6).2.1 (TX12 6).2.2.1 ∈ wsX12_costOf := by decide +kernel
theorem lk_X12_costOf_69 : Cond.fieldLink (yX12_costOf).cls 69 "DripLinesModel" (TX12 0).2.1 (TX12 0).2.2.1 ∈ wsX12_costOf := by decide +kernel
theorem lk_X12_costOf_76 : Cond.fieldLink (yX12_costOf).cls 76 "DripLinesModel" (TX12 3).2.1 (TX12 3).2.2.1 ∈ wsX12_costOf := by decide +kernel
theorem lk_X12_costOf_138 : Cond.fieldLink (yX12_costOf).cls 138 "DripLinesModel" (TX12 18).2.1 (TX12 18).2.2.1 ∈ wsX12_costOf := by decide +kernel
set_option maxHeartbeats 4000000 in
set_option maxRecDepth 100000 in
theorem mo_costOf_t81 {p : Program} {e : Env} {s : State} {m : MethodId} {args : Array Value} {below : List Frame} {meth : Method} {c : Code} {Q : State → Prop} {A : Nat → Prop} (l : Launch) (D : va_G) (cI : ClassId) (TY : dl_TY) (hTY : TY[0]? = some (cI, .int)) (nw : List Cond) (N : Nat) (ad : Nat → Nat) (R : va_W) (g : dl_Sg) {r0 : Int32} (C : dl_Cx p s m args c A D TY nw cX12_costOf 4 yX12_costOf.cls wsX12_costOf) (hQ : dl_RtI p l e (headSpec wsX12_costOf { frames := 1, cells := 0, slots := 0, locals := 21 }).room s m args below meth c Q A D cX12_costOf 4 0 0 .int (fun r u => r = r0 ∧ u = mm_w cI ad g ++ R)) {k41 : Int32 → Int32 → Option Int32} (hk41 : ∀ (x2 : Int32) (x3 : Int32), k41 x2 x3 = some r0 → dl_At p l e (headSpec wsX12_costOf { frames := 1, cells := 0, slots := 0, locals := 21 }).room s m args below meth c Q A D 4 0 0 41 [(0, .ref (ad 0)), (2, .int x2), (3, .int x3)] [] (mm_w cI ad g ++ R)) (x3 : Int32) (y0 : Int32) (y1 : Int32) (h : mo_costOf_b81 N g k41 x3 y0 y1 = some r0) : dl_At p l e (headSpec wsX12_costOf { frames := 1, cells := 0, slots := 0, locals := 21 }).room s m args below meth c Q A D 4 0 0 81 [(0, .ref (ad 0)), (3, .int x3)] [.int y1, .int y0] (mm_w cI ad g ++ R) := by
  unfold mo_costOf_b81 at h
  refine dl_iadd (pc := 81) C dX12_costOf_81 ?_
  refine dl_istore_n (pc := 82) C (fun v1 => [(2, .int v1), (0, .ref (ad 0)), (3, .int x3)]) dX12_costOf_82 rfl (by decide) (fun _ => rfl) h (fun v1 h => ?_)
  refine dl_iinc (pc := 83) C 2 (fun v2 => [(3, .int v2), (2, .int v1), (0, .ref (ad 0))]) dX12_costOf_83 rfl rfl (by decide) (fun _ => rfl) h (fun v2 h => ?_)
  refine dl_goto (pc := 86) C 41 dX12_costOf_86 (by decide) ?_
  refine dl_sub [2, 1, 0] rfl ?_
  exact hk41 _ _ h
set_option maxHeartbeats 4000000 in
set_option maxRecDepth 100000 in
theorem mo_costOf_t80 {p : Program} {e : Env} {s : State} {m : MethodId} {args : Array Value} {below : List Frame} {meth : Method} {c : Code} {Q : State → Prop} {A : Nat → Prop} (l : Launch) (D : va_G) (cI : ClassId) (TY : dl_TY) (hTY : TY[0]? = some (cI, .int)) (nw : List Cond) (N : Nat) (ad : Nat → Nat) (R : va_W) (g : dl_Sg) {r0 : Int32} (C : dl_Cx p s m args c A D TY nw cX12_costOf 4 yX12_costOf.cls wsX12_costOf) (hQ : dl_RtI p l e (headSpec wsX12_costOf { frames := 1, cells := 0, slots := 0, locals := 21 }).room s m args below meth c Q A D cX12_costOf 4 0 0 .int (fun r u => r = r0 ∧ u = mm_w cI ad g ++ R)) {k41 : Int32 → Int32 → Option Int32} (hk41 : ∀ (x2 : Int32) (x3 : Int32), k41 x2 x3 = some r0 → dl_At p l e (headSpec wsX12_costOf { frames := 1, cells := 0, slots := 0, locals := 21 }).room s m args below meth c Q A D 4 0 0 41 [(0, .ref (ad 0)), (2, .int x2), (3, .int x3)] [] (mm_w cI ad g ++ R)) (x3 : Int32) (y0 : Int32) (h : mo_costOf_b80 N g k41 x3 y0 = some r0) : dl_At p l e (headSpec wsX12_costOf { frames := 1, cells := 0, slots := 0, locals := 21 }).room s m args below meth c Q A D 4 0 0 80 [(0, .ref (ad 0)), (3, .int x3)] [.int y0] (mm_w cI ad g ++ R) := by
  unfold mo_costOf_b80 at h
  refine dl_iconst (pc := 80) C 0 dX12_costOf_80 (by decide) ?_
  refine dl_sub [0, 1] rfl ?_
  exact mo_costOf_t81 l D cI TY hTY nw N ad R g C hQ hk41  _ _ _ h
set_option maxHeartbeats 4000000 in
set_option maxRecDepth 100000 in
theorem mo_costOf_t41 {p : Program} {e : Env} {s : State} {m : MethodId} {args : Array Value} {below : List Frame} {meth : Method} {c : Code} {Q : State → Prop} {A : Nat → Prop} (l : Launch) (D : va_G) (cI : ClassId) (TY : dl_TY) (hTY : TY[0]? = some (cI, .int)) (nw : List Cond) (N : Nat) (ad : Nat → Nat) (R : va_W) (g : dl_Sg) {r0 : Int32} (C : dl_Cx p s m args c A D TY nw cX12_costOf 4 yX12_costOf.cls wsX12_costOf) (hQ : dl_RtI p l e (headSpec wsX12_costOf { frames := 1, cells := 0, slots := 0, locals := 21 }).room s m args below meth c Q A D cX12_costOf 4 0 0 .int (fun r u => r = r0 ∧ u = mm_w cI ad g ++ R)) : ∀ (n : Nat) (x2 : Int32) (x3 : Int32), mo_costOf_b41 N g n x2 x3 = some r0 → dl_At p l e (headSpec wsX12_costOf { frames := 1, cells := 0, slots := 0, locals := 21 }).room s m args below meth c Q A D 4 0 0 41 [(0, .ref (ad 0)), (2, .int x2), (3, .int x3)] [] (mm_w cI ad g ++ R) := by
  intro n
  induction n with
  | zero => exact fun _ _ h => absurd (show (none : Option Int32) = some _ from h) (by intro q; cases q)
  | succ n ih =>
    intro x2 x3 h
    rw [mo_costOf_b41] at h
    refine dl_iload_n (pc := 41) C 2 dX12_costOf_41 rfl rfl ?_
    refine dl_aload_n (pc := 42) C 0 dX12_costOf_42 rfl rfl ?_
    refine dl_get (pc := 43) C hin_X12_costOf_X12 0 mm_a0 rfl 0 (by decide) lk_X12_costOf_69 rfl rfl dX12_costOf_43 ?_
    refine dl_icmp_ge (pc := 46) C 89 dX12_costOf_46 (by decide) h (fun q4 h => ?_) (fun q4 h => ?_)
    · refine dl_iload_n (pc := 89) C 1 dX12_costOf_89 rfl rfl ?_
      exact hQ 90 _ _ _ ⟨Option.some.inj h, rfl⟩ (vp_nar_int _) dX12_costOf_90
    · refine dl_iload_n (pc := 49) C 1 dX12_costOf_49 rfl rfl ?_
      refine dl_aload_n (pc := 50) C 0 dX12_costOf_50 rfl rfl ?_
      refine dl_get (pc := 51) C hin_X12_costOf_X12 0 mm_a0 rfl 18 (by decide) lk_X12_costOf_138 rfl rfl dX12_costOf_51 ?_
      refine dl_iload_n (pc := 54) C 2 dX12_costOf_54 rfl rfl ?_
      obtain ⟨r1, h1, h⟩ := dl_bi_some h
      refine dl_sI0 (pc := 55) C (cmo_has l D TY nw _ _ _ h1) (va_cwS 2 C.2.2.2.2.1 gX12_costOf_X12_has rfl rfl rfl (by decide +kernel) ⟨Nat.le_of_ble_eq_true rfl, Nat.le_of_ble_eq_true rfl⟩) rfl rfl (Nat.le_of_ble_eq_true rfl) dX12_costOf_55 ⟨Nat.zero_le _, Nat.zero_le _⟩ (fun r u hp => ?_)
      obtain ⟨rfl, hu⟩ := hp
      rw [hu]
      clear hu
      refine dl_if_eq (pc := 58) C 80 dX12_costOf_58 (by decide) h (fun q3 h => ?_) (fun q3 h => ?_)
      · refine dl_sub [0, 2] rfl ?_
        exact mo_costOf_t80 l D cI TY hTY nw N ad R g C hQ ih  _ _ h
      · refine dl_aload_n (pc := 61) C 0 dX12_costOf_61 rfl rfl ?_
        refine dl_get (pc := 62) C hin_X12_costOf_X12 0 mm_a0 rfl 1 (by decide) lk_X12_costOf_7 rfl rfl dX12_costOf_62 ?_
        refine dl_iload_n (pc := 65) C 2 dX12_costOf_65 rfl rfl ?_
        obtain ⟨h0, h⟩ := dl_gd_some h
        refine dl_iald (pc := 66) C 1 0 mm_a1 hTY h0 dX12_costOf_66 ?_
        refine dl_iconst (pc := 67) C 4 dX12_costOf_67 (by decide) ?_
        refine dl_icmp_ne (pc := 68) C 80 dX12_costOf_68 (by decide) h (fun q2 h => ?_) (fun q2 h => ?_)
        · refine dl_aload_n (pc := 71) C 0 dX12_costOf_71 rfl rfl ?_
          refine dl_get (pc := 72) C hin_X12_costOf_X12 0 mm_a0 rfl 2 (by decide) lk_X12_costOf_13 rfl rfl dX12_costOf_72 ?_
          refine dl_iload_n (pc := 75) C 2 dX12_costOf_75 rfl rfl ?_
          obtain ⟨h0, h⟩ := dl_gd_some h
          refine dl_iald (pc := 76) C 2 0 mm_a2 hTY h0 dX12_costOf_76 ?_
          refine dl_goto (pc := 77) C 81 dX12_costOf_77 (by decide) ?_
          refine dl_sub [0, 2] rfl ?_
          exact mo_costOf_t81 l D cI TY hTY nw N ad R g C hQ ih  _ _ _ h
        · refine dl_sub [0, 2] rfl ?_
          exact mo_costOf_t80 l D cI TY hTY nw N ad R g C hQ ih  _ _ h
set_option maxHeartbeats 4000000 in
set_option maxRecDepth 100000 in
theorem mo_costOf_t31 {p : Program} {e : Env} {s : State} {m : MethodId} {args : Array Value} {below : List Frame} {meth : Method} {c : Code} {Q : State → Prop} {A : Nat → Prop} (l : Launch) (D : va_G) (cI : ClassId) (TY : dl_TY) (hTY : TY[0]? = some (cI, .int)) (nw : List Cond) (N : Nat) (ad : Nat → Nat) (R : va_W) (g : dl_Sg) {r0 : Int32} (C : dl_Cx p s m args c A D TY nw cX12_costOf 4 yX12_costOf.cls wsX12_costOf) (hQ : dl_RtI p l e (headSpec wsX12_costOf { frames := 1, cells := 0, slots := 0, locals := 21 }).room s m args below meth c Q A D cX12_costOf 4 0 0 .int (fun r u => r = r0 ∧ u = mm_w cI ad g ++ R)) {k4 : Int32 → Int32 → Int32 → Option Int32} (hk4 : ∀ (x1 : Int32) (x2 : Int32) (x3 : Int32), k4 x1 x2 x3 = some r0 → dl_At p l e (headSpec wsX12_costOf { frames := 1, cells := 0, slots := 0, locals := 21 }).room s m args below meth c Q A D 4 0 0 4 [(0, .ref (ad 0)), (1, .int x1), (2, .int x2), (3, .int x3)] [] (mm_w cI ad g ++ R)) (x1 : Int32) (x3 : Int32) (y0 : Int32) (y1 : Int32) (h : mo_costOf_b31 N g k4 x1 x3 y0 y1 = some r0) : dl_At p l e (headSpec wsX12_costOf { frames := 1, cells := 0, slots := 0, locals := 21 }).room s m args below meth c Q A D 4 0 0 31 [(0, .ref (ad 0)), (1, .int x1), (3, .int x3)] [.int y1, .int y0] (mm_w cI ad g ++ R) := by
  unfold mo_costOf_b31 at h
  refine dl_iadd (pc := 31) C dX12_costOf_31 ?_
  refine dl_istore_n (pc := 32) C (fun v1 => [(2, .int v1), (0, .ref (ad 0)), (1, .int x1), (3, .int x3)]) dX12_costOf_32 rfl (by decide) (fun _ => rfl) h (fun v1 h => ?_)
  refine dl_iinc (pc := 33) C 3 (fun v2 => [(3, .int v2), (2, .int v1), (0, .ref (ad 0)), (1, .int x1)]) dX12_costOf_33 rfl rfl (by decide) (fun _ => rfl) h (fun v2 h => ?_)
  refine dl_goto (pc := 36) C 4 dX12_costOf_36 (by decide) ?_
  refine dl_sub [2, 3, 1, 0] rfl ?_
  exact hk4 _ _ _ h
set_option maxHeartbeats 4000000 in
set_option maxRecDepth 100000 in
theorem mo_costOf_t4 {p : Program} {e : Env} {s : State} {m : MethodId} {args : Array Value} {below : List Frame} {meth : Method} {c : Code} {Q : State → Prop} {A : Nat → Prop} (l : Launch) (D : va_G) (cI : ClassId) (TY : dl_TY) (hTY : TY[0]? = some (cI, .int)) (nw : List Cond) (N : Nat) (ad : Nat → Nat) (R : va_W) (g : dl_Sg) {r0 : Int32} (C : dl_Cx p s m args c A D TY nw cX12_costOf 4 yX12_costOf.cls wsX12_costOf) (hQ : dl_RtI p l e (headSpec wsX12_costOf { frames := 1, cells := 0, slots := 0, locals := 21 }).room s m args below meth c Q A D cX12_costOf 4 0 0 .int (fun r u => r = r0 ∧ u = mm_w cI ad g ++ R)) : ∀ (n : Nat) (x1 : Int32) (x2 : Int32) (x3 : Int32), mo_costOf_b4 N g n x1 x2 x3 = some r0 → dl_At p l e (headSpec wsX12_costOf { frames := 1, cells := 0, slots := 0, locals := 21 }).room s m args below meth c Q A D 4 0 0 4 [(0, .ref (ad 0)), (1, .int x1), (2, .int x2), (3, .int x3)] [] (mm_w cI ad g ++ R) := by
  intro n
  induction n with
  | zero => exact fun _ _ _ h => absurd (show (none : Option Int32) = some _ from h) (by intro q; cases q)
  | succ n ih =>
    intro x1 x2 x3 h
    rw [mo_costOf_b4] at h
    refine dl_iload_n (pc := 4) C 3 dX12_costOf_4 rfl rfl ?_
    refine dl_aload_n (pc := 5) C 0 dX12_costOf_5 rfl rfl ?_
    refine dl_get (pc := 6) C hin_X12_costOf_X12 0 mm_a0 rfl 3 (by decide) lk_X12_costOf_76 rfl rfl dX12_costOf_6 ?_
    refine dl_icmp_ge (pc := 9) C 39 dX12_costOf_9 (by decide) h (fun q4 h => ?_) (fun q4 h => ?_)
    · refine dl_iconst (pc := 39) C 0 dX12_costOf_39 (by decide) ?_
      refine dl_istore_n (pc := 40) C (fun v1 => [(3, .int v1), (0, .ref (ad 0)), (1, .int x1), (2, .int x2)]) dX12_costOf_40 rfl (by decide) (fun _ => rfl) h (fun v1 h => ?_)
      refine dl_sub [1, 3, 0] rfl ?_
      exact mo_costOf_t41 l D cI TY hTY nw N ad R g C hQ N _ _ h
    · refine dl_iload_n (pc := 12) C 2 dX12_costOf_12 rfl rfl ?_
      refine dl_iload_n (pc := 13) C 1 dX12_costOf_13 rfl rfl ?_
      refine dl_iload_n (pc := 14) C 3 dX12_costOf_14 rfl rfl ?_
      obtain ⟨r2, h1, h⟩ := dl_bi_some h
      refine dl_sI0 (pc := 15) C (cmo_has l D TY nw _ _ _ h1) (va_cwS 2 C.2.2.2.2.1 gX12_costOf_X12_has rfl rfl rfl (by decide +kernel) ⟨Nat.le_of_ble_eq_true rfl, Nat.le_of_ble_eq_true rfl⟩) rfl rfl (Nat.le_of_ble_eq_true rfl) dX12_costOf_15 ⟨Nat.zero_le _, Nat.zero_le _⟩ (fun r u hp => ?_)
      obtain ⟨rfl, hu⟩ := hp
      rw [hu]
      clear hu
      refine dl_if_eq (pc := 18) C 30 dX12_costOf_18 (by decide) h (fun q3 h => ?_) (fun q3 h => ?_)
      · refine dl_iconst (pc := 30) C 0 dX12_costOf_30 (by decide) ?_
        refine dl_sub [0, 1, 3] rfl ?_
        exact mo_costOf_t31 l D cI TY hTY nw N ad R g C hQ ih  _ _ _ _ h
      · refine dl_aload_n (pc := 21) C 0 dX12_costOf_21 rfl rfl ?_
        refine dl_get (pc := 22) C hin_X12_costOf_X12 0 mm_a0 rfl 6 (by decide) lk_X12_costOf_22 rfl rfl dX12_costOf_22 ?_
        refine dl_iload_n (pc := 25) C 3 dX12_costOf_25 rfl rfl ?_
        obtain ⟨h0, h⟩ := dl_gd_some h
        refine dl_iald (pc := 26) C 5 0 mm_a6 hTY h0 dX12_costOf_26 ?_
        refine dl_goto (pc := 27) C 31 dX12_costOf_27 (by decide) ?_
        refine dl_sub [0, 1, 3] rfl ?_
        exact mo_costOf_t31 l D cI TY hTY nw N ad R g C hQ ih  _ _ _ _ h
set_option maxHeartbeats 4000000 in
set_option maxRecDepth 100000 in
theorem cmo_costOf (l : Launch) (D : va_G) (cI : ClassId) (TY : dl_TY) (hTY : TY[0]? = some (cI, .int)) (nw : List Cond) (N : Nat) (ad : Nat → Nat) (R : va_W) (g : dl_Sg) (x1 : Int32) {r0 : Int32} (h : mo_costOf N g x1 = some r0) : dl_CtI l D TY nw yX12_costOf wsX12_costOf { frames := 1, cells := 0, slots := 0, locals := 21 } 0 0 [.ref (ad 0), .int x1] (mm_w cI ad g ++ R) (fun r u => r = r0 ∧ u = mm_w cI ad g ++ R) := by
  refine dl_metI (ty := .int) [(0, .ref (ad 0)), (1, .int x1)] (by decide) rfl (Nat.le_of_ble_eq_true rfl) rfl ?_
  intro p e s m args below meth c Q A C hQ
  unfold mo_costOf at h
  refine dl_iconst (pc := 0) C 0 dX12_costOf_0 (by decide) ?_
  refine dl_istore_n (pc := 1) C (fun v1 => [(2, .int v1), (0, .ref (ad 0)), (1, .int x1)]) dX12_costOf_1 rfl (by decide) (fun _ => rfl) h (fun v1 h => ?_)
  refine dl_iconst (pc := 2) C 0 dX12_costOf_2 (by decide) ?_
  refine dl_istore_n (pc := 3) C (fun v2 => [(3, .int v2), (2, .int v1), (0, .ref (ad 0)), (1, .int x1)]) dX12_costOf_3 rfl (by decide) (fun _ => rfl) h (fun v2 h => ?_)
  refine dl_sub [2, 3, 1, 0] rfl ?_
  exact mo_costOf_t4 l D cI TY hTY nw N ad R g C hQ N _ _ _ h
theorem hin_X12_worthOf_X12 : ∀ w ∈ u_ws RX12 TX12 32, w ∈ wsX12_worthOf := fun _ h => List.mem_cons_of_mem _ (List.mem_append_right _ h)
theorem lk_X12_worthOf_7 : Cond.fieldLink (yX12_worthOf).cls 7 "DripLinesModel" (TX12 1).2.1 (TX12 1).2.2.1 ∈ wsX12_worthOf := by decide +kernel
theorem lk_X12_worthOf_13 : Cond.fieldLink (yX12_worthOf).cls 13 "DripLinesModel" (TX12 2).2.1 (TX12 2).2.2.1 ∈ wsX12_worthOf := by decide +kernel
theorem lk_X12_worthOf_69 : Cond.fieldLink (yX12_worthOf).cls 69 "DripLinesModel" (TX12 0).2.1 (TX12 0).2.2.1 ∈ wsX12_worthOf := by decide +kernel
theorem lk_X12_worthOf_138 : Cond.fieldLink (yX12_worthOf).cls 138 "DripLinesModel" (TX12 18).2.1 (TX12 18).2.2.1 ∈ wsX12_worthOf := by decide +kernel
set_option maxHeartbeats 4000000 in
set_option maxRecDepth 100000 in
theorem mo_worthOf_t44 {p : Program} {e : Env} {s : State} {m : MethodId} {args : Array Value} {below : List Frame} {meth : Method} {c : Code} {Q : State → Prop} {A : Nat → Prop} (l : Launch) (D : va_G) (cI : ClassId) (TY : dl_TY) (hTY : TY[0]? = some (cI, .int)) (nw : List Cond) (N : Nat) (ad : Nat → Nat) (R : va_W) (g : dl_Sg) {r0 : Int32} (C : dl_Cx p s m args c A D TY nw cX12_worthOf 3 yX12_worthOf.cls wsX12_worthOf) (hQ : dl_RtI p l e (headSpec wsX12_worthOf { frames := 1, cells := 0, slots := 0, locals := 21 }).room s m args below meth c Q A D cX12_worthOf 3 0 0 .int (fun r u => r = r0 ∧ u = mm_w cI ad g ++ R)) {k4 : Int32 → Int32 → Option Int32} (hk4 : ∀ (x1 : Int32) (x2 : Int32), k4 x1 x2 = some r0 → dl_At p l e (headSpec wsX12_worthOf { frames := 1, cells := 0, slots := 0, locals := 21 }).room s m args below meth c Q A D 3 0 0 4 [(0, .ref (ad 0)), (1, .int x1), (2, .int x2)] [] (mm_w cI ad g ++ R)) (x2 : Int32) (y0 : Int32) (y1 : Int32) (h : mo_worthOf_b44 N g k4 x2 y0 y1 = some r0) : dl_At p l e (headSpec wsX12_worthOf { frames := 1, cells := 0, slots := 0, locals := 21 }).room s m args below meth c Q A D 3 0 0 44 [(0, .ref (ad 0)), (2, .int x2)] [.int y1, .int y0] (mm_w cI ad g ++ R) := by
  unfold mo_worthOf_b44 at h
  refine dl_iadd (pc := 44) C dX12_worthOf_44 ?_
  refine dl_istore_n (pc := 45) C (fun v1 => [(1, .int v1), (0, .ref (ad 0)), (2, .int x2)]) dX12_worthOf_45 rfl (by decide) (fun _ => rfl) h (fun v1 h => ?_)
  refine dl_iinc (pc := 46) C 2 (fun v2 => [(2, .int v2), (1, .int v1), (0, .ref (ad 0))]) dX12_worthOf_46 rfl rfl (by decide) (fun _ => rfl) h (fun v2 h => ?_)
  refine dl_goto (pc := 49) C 4 dX12_worthOf_49 (by decide) ?_
  refine dl_sub [2, 1, 0] rfl ?_
  exact hk4 _ _ h
set_option maxHeartbeats 4000000 in
set_option maxRecDepth 100000 in
theorem mo_worthOf_t43 {p : Program} {e : Env} {s : State} {m : MethodId} {args : Array Value} {below : List Frame} {meth : Method} {c : Code} {Q : State → Prop} {A : Nat → Prop} (l : Launch) (D : va_G) (cI : ClassId) (TY : dl_TY) (hTY : TY[0]? = some (cI, .int)) (nw : List Cond) (N : Nat) (ad : Nat → Nat) (R : va_W) (g : dl_Sg) {r0 : Int32} (C : dl_Cx p s m args c A D TY nw cX12_worthOf 3 yX12_worthOf.cls wsX12_worthOf) (hQ : dl_RtI p l e (headSpec wsX12_worthOf { frames := 1, cells := 0, slots := 0, locals := 21 }).room s m args below meth c Q A D cX12_worthOf 3 0 0 .int (fun r u => r = r0 ∧ u = mm_w cI ad g ++ R)) {k4 : Int32 → Int32 → Option Int32} (hk4 : ∀ (x1 : Int32) (x2 : Int32), k4 x1 x2 = some r0 → dl_At p l e (headSpec wsX12_worthOf { frames := 1, cells := 0, slots := 0, locals := 21 }).room s m args below meth c Q A D 3 0 0 4 [(0, .ref (ad 0)), (1, .int x1), (2, .int x2)] [] (mm_w cI ad g ++ R)) (x2 : Int32) (y0 : Int32) (h : mo_worthOf_b43 N g k4 x2 y0 = some r0) : dl_At p l e (headSpec wsX12_worthOf { frames := 1, cells := 0, slots := 0, locals := 21 }).room s m args below meth c Q A D 3 0 0 43 [(0, .ref (ad 0)), (2, .int x2)] [.int y0] (mm_w cI ad g ++ R) := by
  unfold mo_worthOf_b43 at h
  refine dl_iconst (pc := 43) C 0 dX12_worthOf_43 (by decide) ?_
  refine dl_sub [0, 1] rfl ?_
  exact mo_worthOf_t44 l D cI TY hTY nw N ad R g C hQ hk4  _ _ _ h
set_option maxHeartbeats 4000000 in
set_option maxRecDepth 100000 in
theorem mo_worthOf_t4 {p : Program} {e : Env} {s : State} {m : MethodId} {args : Array Value} {below : List Frame} {meth : Method} {c : Code} {Q : State → Prop} {A : Nat → Prop} (l : Launch) (D : va_G) (cI : ClassId) (TY : dl_TY) (hTY : TY[0]? = some (cI, .int)) (nw : List Cond) (N : Nat) (ad : Nat → Nat) (R : va_W) (g : dl_Sg) {r0 : Int32} (C : dl_Cx p s m args c A D TY nw cX12_worthOf 3 yX12_worthOf.cls wsX12_worthOf) (hQ : dl_RtI p l e (headSpec wsX12_worthOf { frames := 1, cells := 0, slots := 0, locals := 21 }).room s m args below meth c Q A D cX12_worthOf 3 0 0 .int (fun r u => r = r0 ∧ u = mm_w cI ad g ++ R)) : ∀ (n : Nat) (x1 : Int32) (x2 : Int32), mo_worthOf_b4 N g n x1 x2 = some r0 → dl_At p l e (headSpec wsX12_worthOf { frames := 1, cells := 0, slots := 0, locals := 21 }).room s m args below meth c Q A D 3 0 0 4 [(0, .ref (ad 0)), (1, .int x1), (2, .int x2)] [] (mm_w cI ad g ++ R) := by
  intro n
  induction n with
  | zero => exact fun _ _ h => absurd (show (none : Option Int32) = some _ from h) (by intro q; cases q)
  | succ n ih =>
    intro x1 x2 h
    rw [mo_worthOf_b4] at h
    refine dl_iload_n (pc := 4) C 2 dX12_worthOf_4 rfl rfl ?_
    refine dl_aload_n (pc := 5) C 0 dX12_worthOf_5 rfl rfl ?_
    refine dl_get (pc := 6) C hin_X12_worthOf_X12 0 mm_a0 rfl 0 (by decide) lk_X12_worthOf_69 rfl rfl dX12_worthOf_6 ?_
    refine dl_icmp_ge (pc := 9) C 52 dX12_worthOf_9 (by decide) h (fun q4 h => ?_) (fun q4 h => ?_)
    · refine dl_iload_n (pc := 52) C 1 dX12_worthOf_52 rfl rfl ?_
      exact hQ 53 _ _ _ ⟨Option.some.inj h, rfl⟩ (vp_nar_int _) dX12_worthOf_53
    · refine dl_iload_n (pc := 12) C 1 dX12_worthOf_12 rfl rfl ?_
      refine dl_aload_n (pc := 13) C 0 dX12_worthOf_13 rfl rfl ?_
      refine dl_get (pc := 14) C hin_X12_worthOf_X12 0 mm_a0 rfl 18 (by decide) lk_X12_worthOf_138 rfl rfl dX12_worthOf_14 ?_
      refine dl_iload_n (pc := 17) C 2 dX12_worthOf_17 rfl rfl ?_
      obtain ⟨r1, h1, h⟩ := dl_bi_some h
      refine dl_sI0 (pc := 18) C (cmo_has l D TY nw _ _ _ h1) (va_cwS 2 C.2.2.2.2.1 gX12_worthOf_X12_has rfl rfl rfl (by decide +kernel) ⟨Nat.le_of_ble_eq_true rfl, Nat.le_of_ble_eq_true rfl⟩) rfl rfl (Nat.le_of_ble_eq_true rfl) dX12_worthOf_18 ⟨Nat.zero_le _, Nat.zero_le _⟩ (fun r u hp => ?_)
      obtain ⟨rfl, hu⟩ := hp
      rw [hu]
      clear hu
      refine dl_if_eq (pc := 21) C 43 dX12_worthOf_21 (by decide) h (fun q3 h => ?_) (fun q3 h => ?_)
      · refine dl_sub [0, 2] rfl ?_
        exact mo_worthOf_t43 l D cI TY hTY nw N ad R g C hQ ih  _ _ h
      · refine dl_aload_n (pc := 24) C 0 dX12_worthOf_24 rfl rfl ?_
        refine dl_get (pc := 25) C hin_X12_worthOf_X12 0 mm_a0 rfl 1 (by decide) lk_X12_worthOf_7 rfl rfl dX12_worthOf_25 ?_
        refine dl_iload_n (pc := 28) C 2 dX12_worthOf_28 rfl rfl ?_
        obtain ⟨h0, h⟩ := dl_gd_some h
        refine dl_iald (pc := 29) C 1 0 mm_a1 hTY h0 dX12_worthOf_29 ?_
        refine dl_iconst (pc := 30) C 2 dX12_worthOf_30 (by decide) ?_
        refine dl_icmp_ne (pc := 31) C 43 dX12_worthOf_31 (by decide) h (fun q2 h => ?_) (fun q2 h => ?_)
        · refine dl_aload_n (pc := 34) C 0 dX12_worthOf_34 rfl rfl ?_
          refine dl_get (pc := 35) C hin_X12_worthOf_X12 0 mm_a0 rfl 2 (by decide) lk_X12_worthOf_13 rfl rfl dX12_worthOf_35 ?_
          refine dl_iload_n (pc := 38) C 2 dX12_worthOf_38 rfl rfl ?_
          obtain ⟨h0, h⟩ := dl_gd_some h
          refine dl_iald (pc := 39) C 2 0 mm_a2 hTY h0 dX12_worthOf_39 ?_
          refine dl_goto (pc := 40) C 44 dX12_worthOf_40 (by decide) ?_
          refine dl_sub [0, 2] rfl ?_
          exact mo_worthOf_t44 l D cI TY hTY nw N ad R g C hQ ih  _ _ _ h
        · refine dl_sub [0, 2] rfl ?_
          exact mo_worthOf_t43 l D cI TY hTY nw N ad R g C hQ ih  _ _ h
set_option maxHeartbeats 4000000 in
set_option maxRecDepth 100000 in
theorem cmo_worthOf (l : Launch) (D : va_G) (cI : ClassId) (TY : dl_TY) (hTY : TY[0]? = some (cI, .int)) (nw : List Cond) (N : Nat) (ad : Nat → Nat) (R : va_W) (g : dl_Sg) {r0 : Int32} (h : mo_worthOf N g  = some r0) : dl_CtI l D TY nw yX12_worthOf wsX12_worthOf { frames := 1, cells := 0, slots := 0, locals := 21 } 0 0 [.ref (ad 0)] (mm_w cI ad g ++ R) (fun r u => r = r0 ∧ u = mm_w cI ad g ++ R) := by
  refine dl_metI (ty := .int) [(0, .ref (ad 0))] (by decide) rfl (Nat.le_of_ble_eq_true rfl) rfl ?_
  intro p e s m args below meth c Q A C hQ
  unfold mo_worthOf at h
  refine dl_iconst (pc := 0) C 0 dX12_worthOf_0 (by decide) ?_
  refine dl_istore_n (pc := 1) C (fun v1 => [(1, .int v1), (0, .ref (ad 0))]) dX12_worthOf_1 rfl (by decide) (fun _ => rfl) h (fun v1 h => ?_)
  refine dl_iconst (pc := 2) C 0 dX12_worthOf_2 (by decide) ?_
  refine dl_istore_n (pc := 3) C (fun v2 => [(2, .int v2), (1, .int v1), (0, .ref (ad 0))]) dX12_worthOf_3 rfl (by decide) (fun _ => rfl) h (fun v2 h => ?_)
  refine dl_sub [2, 1, 0] rfl ?_
  exact mo_worthOf_t4 l D cI TY hTY nw N ad R g C hQ N _ _ h
set_option maxHeartbeats 4000000 in
set_option maxRecDepth 100000 in
theorem mo_turned_t29 {p : Program} {e : Env} {s : State} {m : MethodId} {args : Array Value} {below : List Frame} {meth : Method} {c : Code} {Q : State → Prop} {A : Nat → Prop} (l : Launch) (D : va_G) (TY : dl_TY) (nw : List Cond) (N : Nat) (R : va_W) {r0 : Int32} (C : dl_Cx p s m args c A D TY nw cX12_turned 3 yX12_turned.cls wsX12_turned) (hQ : dl_RtI p l e (headSpec wsX12_turned { frames := 1, cells := 0, slots := 0, locals := 21 }).room s m args below meth c Q A D cX12_turned 3 0 0 .int (fun r u => r = r0 ∧ u = R)) {k4 : Int32 → Int32 → Int32 → Option Int32} (hk4 : ∀ (x0 : Int32) (x1 : Int32) (x2 : Int32), k4 x0 x1 x2 = some r0 → dl_At p l e (headSpec wsX12_turned { frames := 1, cells := 0, slots := 0, locals := 21 }).room s m args below meth c Q A D 3 0 0 4 [(0, .int x0), (1, .int x1), (2, .int x2)] [] (R)) (x0 : Int32) (x2 : Int32) (y0 : Int32) (y1 : Int32) (h : mo_turned_b29 N k4 x0 x2 y0 y1 = some r0) : dl_At p l e (headSpec wsX12_turned { frames := 1, cells := 0, slots := 0, locals := 21 }).room s m args below meth c Q A D 3 0 0 29 [(0, .int x0), (2, .int x2)] [.int y1, .int y0] (R) := by
  unfold mo_turned_b29 at h
  refine dl_ior (pc := 29) C dX12_turned_29 ?_
  refine dl_istore_n (pc := 30) C (fun v1 => [(1, .int v1), (0, .int x0), (2, .int x2)]) dX12_turned_30 rfl (by decide) (fun _ => rfl) h (fun v1 h => ?_)
  refine dl_iinc (pc := 31) C 2 (fun v2 => [(2, .int v2), (1, .int v1), (0, .int x0)]) dX12_turned_31 rfl rfl (by decide) (fun _ => rfl) h (fun v2 h => ?_)
  refine dl_goto (pc := 34) C 4 dX12_turned_34 (by decide) ?_
  refine dl_sub [2, 1, 0] rfl ?_
  exact hk4 _ _ _ h
set_option maxHeartbeats 4000000 in
set_option maxRecDepth 100000 in
theorem mo_turned_t4 {p : Program} {e : Env} {s : State} {m : MethodId} {args : Array Value} {below : List Frame} {meth : Method} {c : Code} {Q : State → Prop} {A : Nat → Prop} (l : Launch) (D : va_G) (TY : dl_TY) (nw : List Cond) (N : Nat) (R : va_W) {r0 : Int32} (C : dl_Cx p s m args c A D TY nw cX12_turned 3 yX12_turned.cls wsX12_turned) (hQ : dl_RtI p l e (headSpec wsX12_turned { frames := 1, cells := 0, slots := 0, locals := 21 }).room s m args below meth c Q A D cX12_turned 3 0 0 .int (fun r u => r = r0 ∧ u = R)) : ∀ (n : Nat) (x0 : Int32) (x1 : Int32) (x2 : Int32), mo_turned_b4 N n x0 x1 x2 = some r0 → dl_At p l e (headSpec wsX12_turned { frames := 1, cells := 0, slots := 0, locals := 21 }).room s m args below meth c Q A D 3 0 0 4 [(0, .int x0), (1, .int x1), (2, .int x2)] [] (R) := by
  intro n
  induction n with
  | zero => exact fun _ _ _ h => absurd (show (none : Option Int32) = some _ from h) (by intro q; cases q)
  | succ n ih =>
    intro x0 x1 x2 h
    rw [mo_turned_b4] at h
    refine dl_iload_n (pc := 4) C 2 dX12_turned_4 rfl rfl ?_
    refine dl_bipush (pc := 5) C 16 dX12_turned_5 (by decide) ?_
    refine dl_icmp_ge (pc := 7) C 37 dX12_turned_7 (by decide) h (fun q3 h => ?_) (fun q3 h => ?_)
    · refine dl_iload_n (pc := 37) C 1 dX12_turned_37 rfl rfl ?_
      exact hQ 38 _ _ _ ⟨Option.some.inj h, rfl⟩ (vp_nar_int _) dX12_turned_38
    · refine dl_iload_n (pc := 10) C 1 dX12_turned_10 rfl rfl ?_
      refine dl_iload_n (pc := 11) C 0 dX12_turned_11 rfl rfl ?_
      refine dl_iload_n (pc := 12) C 2 dX12_turned_12 rfl rfl ?_
      obtain ⟨r1, h1, h⟩ := dl_bi_some h
      refine dl_sI0 (pc := 13) C (cmo_has l D TY nw _ _ _ h1) (va_cwS 2 C.2.2.2.2.1 gX12_turned_X12_has rfl rfl rfl (by decide +kernel) ⟨Nat.le_of_ble_eq_true rfl, Nat.le_of_ble_eq_true rfl⟩) rfl rfl (Nat.le_of_ble_eq_true rfl) dX12_turned_13 ⟨Nat.zero_le _, Nat.zero_le _⟩ (fun r u hp => ?_)
      obtain ⟨rfl, hu⟩ := hp
      rw [hu]
      clear hu
      refine dl_if_eq (pc := 16) C 28 dX12_turned_16 (by decide) h (fun q2 h => ?_) (fun q2 h => ?_)
      · refine dl_iconst (pc := 28) C 0 dX12_turned_28 (by decide) ?_
        refine dl_sub [0, 2] rfl ?_
        exact mo_turned_t29 l D TY nw N R C hQ ih  _ _ _ _ h
      · refine dl_iconst (pc := 19) C 1 dX12_turned_19 (by decide) ?_
        refine dl_bipush (pc := 20) C 15 dX12_turned_20 (by decide) ?_
        refine dl_iload_n (pc := 22) C 2 dX12_turned_22 rfl rfl ?_
        refine dl_isub (pc := 23) C dX12_turned_23 ?_
        refine dl_ishl (pc := 24) C dX12_turned_24 ?_
        refine dl_goto (pc := 25) C 29 dX12_turned_25 (by decide) ?_
        refine dl_sub [0, 2] rfl ?_
        exact mo_turned_t29 l D TY nw N R C hQ ih  _ _ _ _ h
set_option maxHeartbeats 4000000 in
set_option maxRecDepth 100000 in
theorem cmo_turned (l : Launch) (D : va_G) (TY : dl_TY) (nw : List Cond) (N : Nat) (R : va_W) (x0 : Int32) {r0 : Int32} (h : mo_turned N x0 = some r0) : dl_CtI l D TY nw yX12_turned wsX12_turned { frames := 1, cells := 0, slots := 0, locals := 21 } 0 0 [.int x0] (R) (fun r u => r = r0 ∧ u = R) := by
  refine dl_metI (ty := .int) [(0, .int x0)] (by decide) rfl (Nat.le_of_ble_eq_true rfl) rfl ?_
  intro p e s m args below meth c Q A C hQ
  unfold mo_turned at h
  refine dl_iconst (pc := 0) C 0 dX12_turned_0 (by decide) ?_
  refine dl_istore_n (pc := 1) C (fun v1 => [(1, .int v1), (0, .int x0)]) dX12_turned_1 rfl (by decide) (fun _ => rfl) h (fun v1 h => ?_)
  refine dl_iconst (pc := 2) C 0 dX12_turned_2 (by decide) ?_
  refine dl_istore_n (pc := 3) C (fun v2 => [(2, .int v2), (1, .int v1), (0, .int x0)]) dX12_turned_3 rfl (by decide) (fun _ => rfl) h (fun v2 h => ?_)
  refine dl_sub [2, 1, 0] rfl ?_
  exact mo_turned_t4 l D TY nw N R C hQ N _ _ _ h
theorem hin_X12_know_X12 : ∀ w ∈ u_ws RX12 TX12 32, w ∈ wsX12_know := fun _ h => List.mem_cons_of_mem _ (List.mem_append_right _ h)
theorem lk_X12_know_44 : Cond.fieldLink (yX12_know).cls 44 "DripLinesModel" (TX12 21).2.1 (TX12 21).2.2.1 ∈ wsX12_know := by decide +kernel
theorem lk_X12_know_47 : Cond.fieldLink (yX12_know).cls 47 "DripLinesModel" (TX12 22).2.1 (TX12 22).2.2.1 ∈ wsX12_know := by decide +kernel
theorem lk_X12_know_50 : Cond.fieldLink (yX12_know).cls 50 "DripLinesModel" (TX12 23).2.1 (TX12 23).2.2.1 ∈ wsX12_know := by decide +kernel
theorem lk_X12_know_86 : Cond.fieldLink (yX12_know).cls 86 "DripLinesModel" (TX12 19).2.1 (TX12 19).2.2.1 ∈ wsX12_know := by decide +kernel
theorem lk_X12_know_101 : Cond.fieldLink (yX12_know).cls 101 "DripLinesModel" (TX12 7).2.1 (TX12 7).2.2.1 ∈ wsX12_know := by decide +kernel
theorem lk_X12_know_141 : Cond.fieldLink (yX12_know).cls 141 "DripLinesModel" (TX12 20).2.1 (TX12 20).2.2.1 ∈ wsX12_know := by decide +kernel
theorem lk_X12_know_158 : Cond.fieldLink (yX12_know).cls 158 "DripLinesModel" (TX12 24).2.1 (TX12 24).2.2.1 ∈ wsX12_know := by decide +kernel
theorem lk_X12_know_161 : Cond.fieldLink (yX12_know).cls 161 "DripLinesModel" (TX12 25).2.1 (TX12 25).2.2.1 ∈ wsX12_know := by decide +kernel
set_option maxHeartbeats 4000000 in
set_option maxRecDepth 100000 in
theorem mo_know_t199 {p : Program} {e : Env} {s : State} {m : MethodId} {args : Array Value} {below : List Frame} {meth : Method} {c : Code} {Q : State → Prop} {A : Nat → Prop} (l : Launch) (D : va_G) (cI : ClassId) (TY : dl_TY) (hTY : TY[0]? = some (cI, .int)) (nw : List Cond) (N : Nat) (ad : Nat → Nat) (R : va_W) {g0 : dl_Sg} (C : dl_Cx p s m args c A D TY nw cX12_know 3 yX12_know.cls wsX12_know) (hQ : dl_RtV p l e (headSpec wsX12_know { frames := 3, cells := 0, slots := 0, locals := 69 }).room s m args below meth c Q A D cX12_know 3 0 0 (fun u => u = mm_w cI ad g0 ++ R)) {k115 : Int32 → dl_Sg → Option dl_Sg} (hk115 : ∀ (x1 : Int32) (g : dl_Sg), k115 x1 g = some g0 → dl_At p l e (headSpec wsX12_know { frames := 3, cells := 0, slots := 0, locals := 69 }).room s m args below meth c Q A D 3 0 0 115 [(0, .ref (ad 0)), (1, .int x1)] [] (mm_w cI ad g ++ R)) (x1 : Int32) (y1 : Int32) (g : dl_Sg) (h : mo_know_b199 N k115 x1 y1 g = some g0) : dl_At p l e (headSpec wsX12_know { frames := 3, cells := 0, slots := 0, locals := 69 }).room s m args below meth c Q A D 3 0 0 199 [(0, .ref (ad 0)), (1, .int x1)] [.int y1, .ref (ad 0)] (mm_w cI ad g ++ R) := by
  unfold mo_know_b199 at h
  refine dl_put (pc := 199) C hin_X12_know_X12 tyX12 tyX12_ok nmX12 0 mm_a0 rfl 24 (by decide) lk_X12_know_158 rfl rfl (ty := .int) rfl (vp_nar_int _) rfl (Nat.le_of_ble_eq_true rfl) dX12_know_199 mm_p0_24 ?_
  obtain ⟨g1, h, hg⟩ := dl_nm_some h
  rw [← hg]
  clear hg
  refine dl_iinc (pc := 202) C 1 (fun v2 => [(1, .int v2), (0, .ref (ad 0))]) dX12_know_202 rfl rfl (by decide) (fun _ => rfl) h (fun v2 h => ?_)
  refine dl_goto (pc := 205) C 115 dX12_know_205 (by decide) ?_
  refine dl_sub [1, 0] rfl ?_
  exact hk115 _ _ h
set_option maxHeartbeats 4000000 in
set_option maxRecDepth 100000 in
theorem mo_know_t191 {p : Program} {e : Env} {s : State} {m : MethodId} {args : Array Value} {below : List Frame} {meth : Method} {c : Code} {Q : State → Prop} {A : Nat → Prop} (l : Launch) (D : va_G) (cI : ClassId) (TY : dl_TY) (hTY : TY[0]? = some (cI, .int)) (nw : List Cond) (N : Nat) (ad : Nat → Nat) (R : va_W) {g0 : dl_Sg} (C : dl_Cx p s m args c A D TY nw cX12_know 3 yX12_know.cls wsX12_know) (hQ : dl_RtV p l e (headSpec wsX12_know { frames := 3, cells := 0, slots := 0, locals := 69 }).room s m args below meth c Q A D cX12_know 3 0 0 (fun u => u = mm_w cI ad g0 ++ R)) {k115 : Int32 → dl_Sg → Option dl_Sg} (hk115 : ∀ (x1 : Int32) (g : dl_Sg), k115 x1 g = some g0 → dl_At p l e (headSpec wsX12_know { frames := 3, cells := 0, slots := 0, locals := 69 }).room s m args below meth c Q A D 3 0 0 115 [(0, .ref (ad 0)), (1, .int x1)] [] (mm_w cI ad g ++ R)) (x1 : Int32) (x2 : Int32) (g : dl_Sg) (h : mo_know_b191 N k115 x1 x2 g = some g0) : dl_At p l e (headSpec wsX12_know { frames := 3, cells := 0, slots := 0, locals := 69 }).room s m args below meth c Q A D 3 0 0 191 [(0, .ref (ad 0)), (1, .int x1), (2, .int x2)] [.ref (ad 0)] (mm_w cI ad g ++ R) := by
  unfold mo_know_b191 at h
  refine dl_iload_n (pc := 191) C 2 dX12_know_191 rfl rfl ?_
  refine dl_goto (pc := 192) C 199 dX12_know_192 (by decide) ?_
  refine dl_sub [0, 1] rfl ?_
  exact mo_know_t199 l D cI TY hTY nw N ad R C hQ hk115  _ _ _ h
set_option maxHeartbeats 4000000 in
set_option maxRecDepth 100000 in
theorem mo_know_t175 {p : Program} {e : Env} {s : State} {m : MethodId} {args : Array Value} {below : List Frame} {meth : Method} {c : Code} {Q : State → Prop} {A : Nat → Prop} (l : Launch) (D : va_G) (cI : ClassId) (TY : dl_TY) (hTY : TY[0]? = some (cI, .int)) (nw : List Cond) (N : Nat) (ad : Nat → Nat) (R : va_W) {g0 : dl_Sg} (C : dl_Cx p s m args c A D TY nw cX12_know 3 yX12_know.cls wsX12_know) (hQ : dl_RtV p l e (headSpec wsX12_know { frames := 3, cells := 0, slots := 0, locals := 69 }).room s m args below meth c Q A D cX12_know 3 0 0 (fun u => u = mm_w cI ad g0 ++ R)) {k115 : Int32 → dl_Sg → Option dl_Sg} (hk115 : ∀ (x1 : Int32) (g : dl_Sg), k115 x1 g = some g0 → dl_At p l e (headSpec wsX12_know { frames := 3, cells := 0, slots := 0, locals := 69 }).room s m args below meth c Q A D 3 0 0 115 [(0, .ref (ad 0)), (1, .int x1)] [] (mm_w cI ad g ++ R)) (x1 : Int32) (x2 : Int32) (y1 : Int32) (g : dl_Sg) (h : mo_know_b175 N k115 x1 x2 y1 g = some g0) : dl_At p l e (headSpec wsX12_know { frames := 3, cells := 0, slots := 0, locals := 69 }).room s m args below meth c Q A D 3 0 0 175 [(0, .ref (ad 0)), (1, .int x1), (2, .int x2)] [.int y1, .ref (ad 0)] (mm_w cI ad g ++ R) := by
  unfold mo_know_b175 at h
  refine dl_put (pc := 175) C hin_X12_know_X12 tyX12 tyX12_ok nmX12 0 mm_a0 rfl 25 (by decide) lk_X12_know_161 rfl rfl (ty := .int) rfl (vp_nar_int _) rfl (Nat.le_of_ble_eq_true rfl) dX12_know_175 mm_p0_25 ?_
  obtain ⟨g1, h, hg⟩ := dl_nm_some h
  rw [← hg]
  clear hg
  refine dl_aload_n (pc := 178) C 0 dX12_know_178 rfl rfl ?_
  refine dl_iload_n (pc := 179) C 1 dX12_know_179 rfl rfl ?_
  refine dl_if_eq (pc := 180) C 191 dX12_know_180 (by decide) h (fun q3 h => ?_) (fun q3 h => ?_)
  · refine dl_sub [0, 1, 2] rfl ?_
    exact mo_know_t191 l D cI TY hTY nw N ad R C hQ hk115  _ _ _ h
  · refine dl_iload_n (pc := 183) C 2 dX12_know_183 rfl rfl ?_
    refine dl_aload_n (pc := 184) C 0 dX12_know_184 rfl rfl ?_
    refine dl_get (pc := 185) C hin_X12_know_X12 0 mm_a0 rfl 24 (by decide) lk_X12_know_158 rfl rfl dX12_know_185 ?_
    refine dl_icmp_ge (pc := 188) C 195 dX12_know_188 (by decide) h (fun q2 h => ?_) (fun q2 h => ?_)
    · refine dl_aload_n (pc := 195) C 0 dX12_know_195 rfl rfl ?_
      refine dl_get (pc := 196) C hin_X12_know_X12 0 mm_a0 rfl 24 (by decide) lk_X12_know_158 rfl rfl dX12_know_196 ?_
      refine dl_sub [0, 1] rfl ?_
      exact mo_know_t199 l D cI TY hTY nw N ad R C hQ hk115  _ _ _ h
    · refine dl_sub [0, 1, 2] rfl ?_
      exact mo_know_t191 l D cI TY hTY nw N ad R C hQ hk115  _ _ _ h
set_option maxHeartbeats 4000000 in
set_option maxRecDepth 100000 in
theorem mo_know_t150 {p : Program} {e : Env} {s : State} {m : MethodId} {args : Array Value} {below : List Frame} {meth : Method} {c : Code} {Q : State → Prop} {A : Nat → Prop} (l : Launch) (D : va_G) (cI : ClassId) (TY : dl_TY) (hTY : TY[0]? = some (cI, .int)) (nw : List Cond) (N : Nat) (ad : Nat → Nat) (R : va_W) {g0 : dl_Sg} (C : dl_Cx p s m args c A D TY nw cX12_know 3 yX12_know.cls wsX12_know) (hQ : dl_RtV p l e (headSpec wsX12_know { frames := 3, cells := 0, slots := 0, locals := 69 }).room s m args below meth c Q A D cX12_know 3 0 0 (fun u => u = mm_w cI ad g0 ++ R)) {k115 : Int32 → dl_Sg → Option dl_Sg} (hk115 : ∀ (x1 : Int32) (g : dl_Sg), k115 x1 g = some g0 → dl_At p l e (headSpec wsX12_know { frames := 3, cells := 0, slots := 0, locals := 69 }).room s m args below meth c Q A D 3 0 0 115 [(0, .ref (ad 0)), (1, .int x1)] [] (mm_w cI ad g ++ R)) (x1 : Int32) (x2 : Int32) (g : dl_Sg) (h : mo_know_b150 N k115 x1 x2 g = some g0) : dl_At p l e (headSpec wsX12_know { frames := 3, cells := 0, slots := 0, locals := 69 }).room s m args below meth c Q A D 3 0 0 150 [(0, .ref (ad 0)), (1, .int x1), (2, .int x2)] [.ref (ad 0)] (mm_w cI ad g ++ R) := by
  unfold mo_know_b150 at h
  refine dl_iconst (pc := 150) C 1 dX12_know_150 (by decide) ?_
  refine dl_goto (pc := 151) C 175 dX12_know_151 (by decide) ?_
  refine dl_sub [0, 1, 2] rfl ?_
  exact mo_know_t175 l D cI TY hTY nw N ad R C hQ hk115  _ _ _ _ h
set_option maxHeartbeats 4000000 in
set_option maxRecDepth 100000 in
theorem mo_know_t115 {p : Program} {e : Env} {s : State} {m : MethodId} {args : Array Value} {below : List Frame} {meth : Method} {c : Code} {Q : State → Prop} {A : Nat → Prop} (l : Launch) (D : va_G) (cI : ClassId) (TY : dl_TY) (hTY : TY[0]? = some (cI, .int)) (nw : List Cond) (N : Nat) (ad : Nat → Nat) (R : va_W) {g0 : dl_Sg} (C : dl_Cx p s m args c A D TY nw cX12_know 3 yX12_know.cls wsX12_know) (hQ : dl_RtV p l e (headSpec wsX12_know { frames := 3, cells := 0, slots := 0, locals := 69 }).room s m args below meth c Q A D cX12_know 3 0 0 (fun u => u = mm_w cI ad g0 ++ R)) : ∀ (n : Nat) (x1 : Int32) (g : dl_Sg), mo_know_b115 N n x1 g = some g0 → dl_At p l e (headSpec wsX12_know { frames := 3, cells := 0, slots := 0, locals := 69 }).room s m args below meth c Q A D 3 0 0 115 [(0, .ref (ad 0)), (1, .int x1)] [] (mm_w cI ad g ++ R) := by
  intro n
  induction n with
  | zero => exact fun _ _ h => absurd (show (none : Option dl_Sg) = some _ from h) (by intro q; cases q)
  | succ n ih =>
    intro x1 g h
    rw [mo_know_b115] at h
    refine dl_iload_n (pc := 115) C 1 dX12_know_115 rfl rfl ?_
    refine dl_aload_n (pc := 116) C 0 dX12_know_116 rfl rfl ?_
    refine dl_get (pc := 117) C hin_X12_know_X12 0 mm_a0 rfl 20 (by decide) lk_X12_know_141 rfl rfl dX12_know_117 ?_
    refine dl_icmp_ge (pc := 120) C 208 dX12_know_120 (by decide) h (fun q5 h => ?_) (fun q5 h => ?_)
    · exact hQ 208 _ _ (by rw [Option.some.inj h]) dX12_know_208
    · refine dl_aload_n (pc := 123) C 0 dX12_know_123 rfl rfl ?_
      refine dl_get (pc := 124) C hin_X12_know_X12 0 mm_a0 rfl 22 (by decide) lk_X12_know_47 rfl rfl dX12_know_124 ?_
      refine dl_iload_n (pc := 127) C 1 dX12_know_127 rfl rfl ?_
      obtain ⟨h0, h⟩ := dl_gd_some h
      refine dl_iald (pc := 128) C 13 0 mm_a22 hTY h0 dX12_know_128 ?_
      refine dl_aload_n (pc := 129) C 0 dX12_know_129 rfl rfl ?_
      refine dl_get (pc := 130) C hin_X12_know_X12 0 mm_a0 rfl 23 (by decide) lk_X12_know_50 rfl rfl dX12_know_130 ?_
      refine dl_iload_n (pc := 133) C 1 dX12_know_133 rfl rfl ?_
      obtain ⟨h0, h⟩ := dl_gd_some h
      refine dl_iald (pc := 134) C 14 0 mm_a23 hTY h0 dX12_know_134 ?_
      refine dl_isub (pc := 135) C dX12_know_135 ?_
      refine dl_istore_n (pc := 136) C (fun v1 => [(2, .int v1), (0, .ref (ad 0)), (1, .int x1)]) dX12_know_136 rfl (by decide) (fun _ => rfl) h (fun v1 h => ?_)
      refine dl_aload_n (pc := 137) C 1 dX12_know_137 rfl rfl ?_
      refine dl_iload_n (pc := 138) C 2 dX12_know_138 rfl rfl ?_
      refine dl_if_eq (pc := 139) C 150 dX12_know_139 (by decide) h (fun q4 h => ?_) (fun q4 h => ?_)
      · refine dl_sub [1, 2, 0] rfl ?_
        exact mo_know_t150 l D cI TY hTY nw N ad R C hQ ih  _ _ _ h
      · refine dl_iload_n (pc := 142) C 0 dX12_know_142 rfl rfl ?_
        refine dl_aload_n (pc := 143) C 1 dX12_know_143 rfl rfl ?_
        refine dl_get (pc := 144) C hin_X12_know_X12 0 mm_a0 rfl 24 (by decide) lk_X12_know_158 rfl rfl dX12_know_144 ?_
        refine dl_icmp_ge (pc := 147) C 154 dX12_know_147 (by decide) h (fun q3 h => ?_) (fun q3 h => ?_)
        · refine dl_iload_n (pc := 154) C 0 dX12_know_154 rfl rfl ?_
          refine dl_aload_n (pc := 155) C 1 dX12_know_155 rfl rfl ?_
          refine dl_get (pc := 156) C hin_X12_know_X12 0 mm_a0 rfl 24 (by decide) lk_X12_know_158 rfl rfl dX12_know_156 ?_
          refine dl_icmp_ne (pc := 159) C 171 dX12_know_159 (by decide) h (fun q2 h => ?_) (fun q2 h => ?_)
          · refine dl_aload_n (pc := 162) C 1 dX12_know_162 rfl rfl ?_
            refine dl_get (pc := 163) C hin_X12_know_X12 0 mm_a0 rfl 25 (by decide) lk_X12_know_161 rfl rfl dX12_know_163 ?_
            refine dl_iconst (pc := 166) C 1 dX12_know_166 (by decide) ?_
            refine dl_iadd (pc := 167) C dX12_know_167 ?_
            refine dl_goto (pc := 168) C 175 dX12_know_168 (by decide) ?_
            refine dl_sub [1, 2, 0] rfl ?_
            exact mo_know_t175 l D cI TY hTY nw N ad R C hQ ih  _ _ _ _ h
          · refine dl_aload_n (pc := 171) C 1 dX12_know_171 rfl rfl ?_
            refine dl_get (pc := 172) C hin_X12_know_X12 0 mm_a0 rfl 25 (by decide) lk_X12_know_161 rfl rfl dX12_know_172 ?_
            refine dl_sub [1, 2, 0] rfl ?_
            exact mo_know_t175 l D cI TY hTY nw N ad R C hQ ih  _ _ _ _ h
        · refine dl_sub [1, 2, 0] rfl ?_
          exact mo_know_t150 l D cI TY hTY nw N ad R C hQ ih  _ _ _ h
set_option maxHeartbeats 4000000 in
set_option maxRecDepth 100000 in
theorem mo_know_t96 {p : Program} {e : Env} {s : State} {m : MethodId} {args : Array Value} {below : List Frame} {meth : Method} {c : Code} {Q : State → Prop} {A : Nat → Prop} (l : Launch) (D : va_G) (cI : ClassId) (TY : dl_TY) (hTY : TY[0]? = some (cI, .int)) (nw : List Cond) (N : Nat) (ad : Nat → Nat) (R : va_W) {g0 : dl_Sg} (C : dl_Cx p s m args c A D TY nw cX12_know 3 yX12_know.cls wsX12_know) (hQ : dl_RtV p l e (headSpec wsX12_know { frames := 3, cells := 0, slots := 0, locals := 69 }).room s m args below meth c Q A D cX12_know 3 0 0 (fun u => u = mm_w cI ad g0 ++ R)) {k21 : Int32 → dl_Sg → Option dl_Sg} (hk21 : ∀ (x1 : Int32) (g : dl_Sg), k21 x1 g = some g0 → dl_At p l e (headSpec wsX12_know { frames := 3, cells := 0, slots := 0, locals := 69 }).room s m args below meth c Q A D 3 0 0 21 [(0, .ref (ad 0)), (1, .int x1)] [] (mm_w cI ad g ++ R)) (x1 : Int32) (g : dl_Sg) (h : mo_know_b96 N k21 x1 g = some g0) : dl_At p l e (headSpec wsX12_know { frames := 3, cells := 0, slots := 0, locals := 69 }).room s m args below meth c Q A D 3 0 0 96 [(0, .ref (ad 0)), (1, .int x1)] [] (mm_w cI ad g ++ R) := by
  unfold mo_know_b96 at h
  refine dl_iinc (pc := 96) C 1 (fun v1 => [(1, .int v1), (0, .ref (ad 0))]) dX12_know_96 rfl rfl (by decide) (fun _ => rfl) h (fun v1 h => ?_)
  refine dl_goto (pc := 99) C 21 dX12_know_99 (by decide) ?_
  refine dl_sub [1, 0] rfl ?_
  exact hk21 _ _ h
set_option maxHeartbeats 4000000 in
set_option maxRecDepth 100000 in
theorem mo_know_t21 {p : Program} {e : Env} {s : State} {m : MethodId} {args : Array Value} {below : List Frame} {meth : Method} {c : Code} {Q : State → Prop} {A : Nat → Prop} (l : Launch) (D : va_G) (cI : ClassId) (TY : dl_TY) (hTY : TY[0]? = some (cI, .int)) (nw : List Cond) (N : Nat) (ad : Nat → Nat) (R : va_W) {g0 : dl_Sg} (C : dl_Cx p s m args c A D TY nw cX12_know 3 yX12_know.cls wsX12_know) (hQ : dl_RtV p l e (headSpec wsX12_know { frames := 3, cells := 0, slots := 0, locals := 69 }).room s m args below meth c Q A D cX12_know 3 0 0 (fun u => u = mm_w cI ad g0 ++ R)) : ∀ (n : Nat) (x1 : Int32) (g : dl_Sg), mo_know_b21 N n x1 g = some g0 → dl_At p l e (headSpec wsX12_know { frames := 3, cells := 0, slots := 0, locals := 69 }).room s m args below meth c Q A D 3 0 0 21 [(0, .ref (ad 0)), (1, .int x1)] [] (mm_w cI ad g ++ R) := by
  intro n
  induction n with
  | zero => exact fun _ _ h => absurd (show (none : Option dl_Sg) = some _ from h) (by intro q; cases q)
  | succ n ih =>
    intro x1 g h
    rw [mo_know_b21] at h
    refine dl_iload_n (pc := 21) C 1 dX12_know_21 rfl rfl ?_
    refine dl_if_lt (pc := 22) C 102 dX12_know_22 (by decide) h (fun q16 h => ?_) (fun q16 h => ?_)
    · refine dl_aload_n (pc := 102) C 0 dX12_know_102 rfl rfl ?_
      refine dl_ldc (pc := 103) C (-1000000) (by decide +kernel) dX12_know_103 ?_
      refine dl_put (pc := 105) C hin_X12_know_X12 tyX12 tyX12_ok nmX12 0 mm_a0 rfl 24 (by decide) lk_X12_know_158 rfl rfl (ty := .int) rfl (vp_nar_int _) rfl (Nat.le_of_ble_eq_true rfl) dX12_know_105 mm_p0_24 ?_
      obtain ⟨g1, h, hg⟩ := dl_nm_some h
      rw [← hg]
      clear hg
      refine dl_aload_n (pc := 108) C 0 dX12_know_108 rfl rfl ?_
      refine dl_iconst (pc := 109) C 0 dX12_know_109 (by decide) ?_
      refine dl_put (pc := 110) C hin_X12_know_X12 tyX12 tyX12_ok nmX12 0 mm_a0 rfl 25 (by decide) lk_X12_know_161 rfl rfl (ty := .int) rfl (vp_nar_int _) rfl (Nat.le_of_ble_eq_true rfl) dX12_know_110 mm_p0_25 ?_
      obtain ⟨g2, h, hg⟩ := dl_nm_some h
      rw [← hg]
      clear hg
      refine dl_iconst (pc := 113) C 0 dX12_know_113 (by decide) ?_
      refine dl_istore_n (pc := 114) C (fun v3 => [(1, .int v3), (0, .ref (ad 0))]) dX12_know_114 rfl (by decide) (fun _ => rfl) h (fun v3 h => ?_)
      refine dl_sub [1, 0] rfl ?_
      exact mo_know_t115 l D cI TY hTY nw N ad R C hQ N _ _ h
    · refine dl_iload_n (pc := 25) C 1 dX12_know_25 rfl rfl ?_
      obtain ⟨r4, h1, h⟩ := dl_bi_some h
      refine dl_sI0 (pc := 26) C (cmo_turned l D TY nw N _ _ h1) (va_cwS 1 C.2.2.2.2.1 gX12_know_X12_turned rfl rfl rfl (by decide +kernel) ⟨Nat.le_of_ble_eq_true rfl, Nat.le_of_ble_eq_true rfl⟩) rfl rfl (Nat.le_of_ble_eq_true rfl) dX12_know_26 ⟨Nat.zero_le _, Nat.zero_le _⟩ (fun r u hp => ?_)
      obtain ⟨rfl, hu⟩ := hp
      rw [hu]
      clear hu
      refine dl_istore_n (pc := 29) C (fun v5 => [(2, .int v5), (0, .ref (ad 0)), (1, .int x1)]) dX12_know_29 rfl (by decide) (fun _ => rfl) h (fun v5 h => ?_)
      refine dl_iload_n (pc := 30) C 0 dX12_know_30 rfl rfl ?_
      refine dl_aload_n (pc := 31) C 1 dX12_know_31 rfl rfl ?_
      refine dl_get (pc := 32) C hin_X12_know_X12 0 mm_a0 rfl 7 (by decide) lk_X12_know_101 rfl rfl dX12_know_32 ?_
      refine dl_iconst (pc := 35) C (-1) dX12_know_35 (by decide) ?_
      refine dl_ixor (pc := 36) C dX12_know_36 ?_
      refine dl_iand (pc := 37) C dX12_know_37 ?_
      refine dl_if_ne (pc := 38) C 96 dX12_know_38 (by decide) h (fun q15 h => ?_) (fun q15 h => ?_)
      · refine dl_aload_n (pc := 41) C 1 dX12_know_41 rfl rfl ?_
        refine dl_iload_n (pc := 42) C 0 dX12_know_42 rfl rfl ?_
        obtain ⟨r6, g7, h1, h⟩ := dl_b2_some h
        refine dl_vI0 (pc := 43) C (cmo_treeOf l D cI TY hTY nw N ad R _ _ h1) (cwV 1 C.2.2.2.2.1 gX12_know_X12_treeOf rfl rfl rfl (by decide +kernel) ⟨Nat.le_of_ble_eq_true rfl, Nat.le_of_ble_eq_true rfl⟩) 0 12 mm_a0 rfl rfl rfl (Nat.le_of_ble_eq_true rfl) dX12_know_43 ⟨Nat.zero_le _, Nat.zero_le _⟩ (fun r u hp => ?_)
        obtain ⟨rfl, rfl⟩ := hp
        refine dl_if_ne (pc := 46) C 96 dX12_know_46 (by decide) h (fun q14 h => ?_) (fun q14 h => ?_)
        · refine dl_aload_n (pc := 49) C 1 dX12_know_49 rfl rfl ?_
          refine dl_get (pc := 50) C hin_X12_know_X12 0 mm_a0 rfl 21 (by decide) lk_X12_know_44 rfl rfl dX12_know_50 ?_
          refine dl_aload_n (pc := 53) C 1 dX12_know_53 rfl rfl ?_
          refine dl_get (pc := 54) C hin_X12_know_X12 0 mm_a0 rfl 20 (by decide) lk_X12_know_141 rfl rfl dX12_know_54 ?_
          refine dl_iload_n (pc := 57) C 0 dX12_know_57 rfl rfl ?_
          obtain ⟨h0, h⟩ := dl_gd_some h
          refine dl_iast (pc := 58) C 12 0 mm_a21 hTY h0 dX12_know_58 mm_s21 ?_
          obtain ⟨g8, h, hg⟩ := dl_nm_some h
          rw [← hg]
          clear hg
          refine dl_aload_n (pc := 59) C 1 dX12_know_59 rfl rfl ?_
          refine dl_get (pc := 60) C hin_X12_know_X12 0 mm_a0 rfl 22 (by decide) lk_X12_know_47 rfl rfl dX12_know_60 ?_
          refine dl_aload_n (pc := 63) C 1 dX12_know_63 rfl rfl ?_
          refine dl_get (pc := 64) C hin_X12_know_X12 0 mm_a0 rfl 20 (by decide) lk_X12_know_141 rfl rfl dX12_know_64 ?_
          refine dl_aload_n (pc := 67) C 1 dX12_know_67 rfl rfl ?_
          refine dl_iload_n (pc := 68) C 0 dX12_know_68 rfl rfl ?_
          obtain ⟨r9, h1, h⟩ := dl_bi_some h
          refine dl_vI0 (pc := 69) C (cmo_costOf l D cI TY hTY nw N ad R _ _ h1) (cwV 1 C.2.2.2.2.1 gX12_know_X12_costOf rfl rfl rfl (by decide +kernel) ⟨Nat.le_of_ble_eq_true rfl, Nat.le_of_ble_eq_true rfl⟩) 0 12 mm_a0 rfl rfl rfl (Nat.le_of_ble_eq_true rfl) dX12_know_69 ⟨Nat.zero_le _, Nat.zero_le _⟩ (fun r u hp => ?_)
          obtain ⟨rfl, rfl⟩ := hp
          obtain ⟨h0, h⟩ := dl_gd_some h
          refine dl_iast (pc := 72) C 13 0 mm_a22 hTY h0 dX12_know_72 mm_s22 ?_
          obtain ⟨g10, h, hg⟩ := dl_nm_some h
          rw [← hg]
          clear hg
          refine dl_aload_n (pc := 73) C 1 dX12_know_73 rfl rfl ?_
          refine dl_get (pc := 74) C hin_X12_know_X12 0 mm_a0 rfl 23 (by decide) lk_X12_know_50 rfl rfl dX12_know_74 ?_
          refine dl_aload_n (pc := 77) C 1 dX12_know_77 rfl rfl ?_
          refine dl_get (pc := 78) C hin_X12_know_X12 0 mm_a0 rfl 20 (by decide) lk_X12_know_141 rfl rfl dX12_know_78 ?_
          refine dl_aload_n (pc := 81) C 1 dX12_know_81 rfl rfl ?_
          obtain ⟨r11, h1, h⟩ := dl_bi_some h
          refine dl_vI0 (pc := 82) C (cmo_worthOf l D cI TY hTY nw N ad R _ h1) (cwV 0 C.2.2.2.2.1 gX12_know_X12_worthOf rfl rfl rfl (by decide +kernel) ⟨Nat.le_of_ble_eq_true rfl, Nat.le_of_ble_eq_true rfl⟩) 0 12 mm_a0 rfl rfl rfl (Nat.le_of_ble_eq_true rfl) dX12_know_82 ⟨Nat.zero_le _, Nat.zero_le _⟩ (fun r u hp => ?_)
          obtain ⟨rfl, rfl⟩ := hp
          obtain ⟨h0, h⟩ := dl_gd_some h
          refine dl_iast (pc := 85) C 14 0 mm_a23 hTY h0 dX12_know_85 mm_s23 ?_
          obtain ⟨g12, h, hg⟩ := dl_nm_some h
          rw [← hg]
          clear hg
          refine dl_aload_n (pc := 86) C 1 dX12_know_86 rfl rfl ?_
          refine dl_dup (pc := 87) C dX12_know_87 rfl ?_
          refine dl_get (pc := 88) C hin_X12_know_X12 0 mm_a0 rfl 20 (by decide) lk_X12_know_141 rfl rfl dX12_know_88 ?_
          refine dl_iconst (pc := 91) C 1 dX12_know_91 (by decide) ?_
          refine dl_iadd (pc := 92) C dX12_know_92 ?_
          refine dl_put (pc := 93) C hin_X12_know_X12 tyX12 tyX12_ok nmX12 0 mm_a0 rfl 20 (by decide) lk_X12_know_141 rfl rfl (ty := .int) rfl (vp_nar_int _) rfl (Nat.le_of_ble_eq_true rfl) dX12_know_93 mm_p0_20 ?_
          obtain ⟨g13, h, hg⟩ := dl_nm_some h
          rw [← hg]
          clear hg
          refine dl_sub [1, 2] rfl ?_
          exact mo_know_t96 l D cI TY hTY nw N ad R C hQ ih  _ _ h
        · refine dl_sub [1, 2] rfl ?_
          exact mo_know_t96 l D cI TY hTY nw N ad R C hQ ih  _ _ h
      · refine dl_sub [1, 2] rfl ?_
        exact mo_know_t96 l D cI TY hTY nw N ad R C hQ ih  _ _ h
set_option maxHeartbeats 4000000 in
set_option maxRecDepth 100000 in
theorem cmo_know (l : Launch) (D : va_G) (cI : ClassId) (TY : dl_TY) (hTY : TY[0]? = some (cI, .int)) (nw : List Cond) (N : Nat) (ad : Nat → Nat) (R : va_W) (g : dl_Sg) {g0 : dl_Sg} (h : mo_know N g  = some g0) : dl_CtV l D TY nw yX12_know wsX12_know { frames := 3, cells := 0, slots := 0, locals := 69 } 0 0 [.ref (ad 0)] (mm_w cI ad g ++ R) (fun u => u = mm_w cI ad g0 ++ R) := by
  refine dl_metV [(0, .ref (ad 0))] (by decide) rfl (Nat.le_of_ble_eq_true rfl) rfl ?_
  intro p e s m args below meth c Q A C hQ
  unfold mo_know at h
  refine dl_aload_n (pc := 0) C 0 dX12_know_0 rfl rfl ?_
  refine dl_get (pc := 1) C hin_X12_know_X12 0 mm_a0 rfl 19 (by decide) lk_X12_know_86 rfl rfl dX12_know_1 ?_
  refine dl_if_eq (pc := 4) C 8 dX12_know_4 (by decide) h (fun q4 h => ?_) (fun q4 h => ?_)
  · refine dl_aload_n (pc := 8) C 0 dX12_know_8 rfl rfl ?_
    refine dl_iconst (pc := 9) C 1 dX12_know_9 (by decide) ?_
    refine dl_put (pc := 10) C hin_X12_know_X12 tyX12 tyX12_ok nmX12 0 mm_a0 rfl 19 (by decide) lk_X12_know_86 rfl rfl (ty := .boolean) rfl rfl rfl (Nat.le_of_ble_eq_true rfl) dX12_know_10 mm_p0_19 ?_
    obtain ⟨g1, h, hg⟩ := dl_nm_some h
    rw [← hg]
    clear hg
    refine dl_aload_n (pc := 13) C 0 dX12_know_13 rfl rfl ?_
    refine dl_iconst (pc := 14) C 0 dX12_know_14 (by decide) ?_
    refine dl_put (pc := 15) C hin_X12_know_X12 tyX12 tyX12_ok nmX12 0 mm_a0 rfl 20 (by decide) lk_X12_know_141 rfl rfl (ty := .int) rfl (vp_nar_int _) rfl (Nat.le_of_ble_eq_true rfl) dX12_know_15 mm_p0_20 ?_
    obtain ⟨g2, h, hg⟩ := dl_nm_some h
    rw [← hg]
    clear hg
    refine dl_ldc (pc := 18) C 65535 (by decide +kernel) dX12_know_18 ?_
    refine dl_istore_n (pc := 20) C (fun v3 => [(1, .int v3), (0, .ref (ad 0))]) dX12_know_20 rfl (by decide) (fun _ => rfl) h (fun v3 h => ?_)
    refine dl_sub [1, 0] rfl ?_
    exact mo_know_t21 l D cI TY hTY nw N ad R C hQ N _ _ h
  · exact hQ 7 _ _ (by rw [Option.some.inj h]) dX12_know_7
theorem hin_X12_isBest_X12 : ∀ w ∈ u_ws RX12 TX12 32, w ∈ wsX12_isBest := fun _ h => List.mem_cons_of_mem _ (List.mem_append_right _ h)
theorem lk_X12_isBest_47 : Cond.fieldLink (yX12_isBest).cls 47 "DripLinesModel" (TX12 22).2.1 (TX12 22).2.2.1 ∈ wsX12_isBest := by decide +kernel
theorem lk_X12_isBest_50 : Cond.fieldLink (yX12_isBest).cls 50 "DripLinesModel" (TX12 23).2.1 (TX12 23).2.2.1 ∈ wsX12_isBest := by decide +kernel
theorem lk_X12_isBest_158 : Cond.fieldLink (yX12_isBest).cls 158 "DripLinesModel" (TX12 24).2.1 (TX12 24).2.2.1 ∈ wsX12_isBest := by decide +kernel
set_option maxHeartbeats 4000000 in
set_option maxRecDepth 100000 in
theorem cmo_isBest (l : Launch) (D : va_G) (cI : ClassId) (TY : dl_TY) (hTY : TY[0]? = some (cI, .int)) (nw : List Cond) (ad : Nat → Nat) (R : va_W) (g : dl_Sg) (x1 : Int32) {r0 : Int32} (h : mo_isBest g x1 = some r0) : dl_CtI l D TY nw yX12_isBest wsX12_isBest { frames := 0, cells := 0, slots := 0, locals := 0 } 0 0 [.ref (ad 0), .int x1] (mm_w cI ad g ++ R) (fun r u => r = r0 ∧ u = mm_w cI ad g ++ R) := by
  refine dl_metI (ty := .boolean) [(0, .ref (ad 0)), (1, .int x1)] (by decide) rfl (Nat.le_of_ble_eq_true rfl) rfl ?_
  intro p e s m args below meth c Q A C hQ
  unfold mo_isBest at h
  refine dl_aload_n (pc := 0) C 0 dX12_isBest_0 rfl rfl ?_
  refine dl_get (pc := 1) C hin_X12_isBest_X12 0 mm_a0 rfl 22 (by decide) lk_X12_isBest_47 rfl rfl dX12_isBest_1 ?_
  refine dl_iload_n (pc := 4) C 1 dX12_isBest_4 rfl rfl ?_
  obtain ⟨h0, h⟩ := dl_gd_some h
  refine dl_iald (pc := 5) C 13 0 mm_a22 hTY h0 dX12_isBest_5 ?_
  refine dl_aload_n (pc := 6) C 0 dX12_isBest_6 rfl rfl ?_
  refine dl_get (pc := 7) C hin_X12_isBest_X12 0 mm_a0 rfl 23 (by decide) lk_X12_isBest_50 rfl rfl dX12_isBest_7 ?_
  refine dl_iload_n (pc := 10) C 1 dX12_isBest_10 rfl rfl ?_
  obtain ⟨h0, h⟩ := dl_gd_some h
  refine dl_iald (pc := 11) C 14 0 mm_a23 hTY h0 dX12_isBest_11 ?_
  refine dl_isub (pc := 12) C dX12_isBest_12 ?_
  refine dl_aload_n (pc := 13) C 0 dX12_isBest_13 rfl rfl ?_
  refine dl_get (pc := 14) C hin_X12_isBest_X12 0 mm_a0 rfl 24 (by decide) lk_X12_isBest_158 rfl rfl dX12_isBest_14 ?_
  refine dl_icmp_ne (pc := 17) C 24 dX12_isBest_17 (by decide) h (fun q1 h => ?_) (fun q1 h => ?_)
  · refine dl_iconst (pc := 20) C 1 dX12_isBest_20 (by decide) ?_
    refine dl_goto (pc := 21) C 25 dX12_isBest_21 (by decide) ?_
    exact hQ 25 _ _ _ ⟨Option.some.inj h, rfl⟩ rfl dX12_isBest_25
  · refine dl_iconst (pc := 24) C 0 dX12_isBest_24 (by decide) ?_
    exact hQ 25 _ _ _ ⟨Option.some.inj h, rfl⟩ rfl dX12_isBest_25
theorem hin_X12_least_X12 : ∀ w ∈ u_ws RX12 TX12 32, w ∈ wsX12_least := fun _ h => List.mem_cons_of_mem _ (List.mem_append_right _ h)
theorem lk_X12_least_141 : Cond.fieldLink (yX12_least).cls 141 "DripLinesModel" (TX12 20).2.1 (TX12 20).2.2.1 ∈ wsX12_least := by decide +kernel
theorem lk_X12_least_158 : Cond.fieldLink (yX12_least).cls 158 "DripLinesModel" (TX12 24).2.1 (TX12 24).2.2.1 ∈ wsX12_least := by decide +kernel
set_option maxHeartbeats 4000000 in
set_option maxRecDepth 100000 in
theorem cmo_least (l : Launch) (D : va_G) (cI : ClassId) (TY : dl_TY) (hTY : TY[0]? = some (cI, .int)) (nw : List Cond) (N : Nat) (ad : Nat → Nat) (R : va_W) (g : dl_Sg) {r0 : Int32} {g0 : dl_Sg} (h : mo_least N g  = some (r0, g0)) : dl_CtI l D TY nw yX12_least wsX12_least { frames := 4, cells := 0, slots := 0, locals := 91 } 0 0 [.ref (ad 0)] (mm_w cI ad g ++ R) (fun r u => r = r0 ∧ u = mm_w cI ad g0 ++ R) := by
  refine dl_metI (ty := .int) [(0, .ref (ad 0))] (by decide) rfl (Nat.le_of_ble_eq_true rfl) rfl ?_
  intro p e s m args below meth c Q A C hQ
  unfold mo_least at h
  refine dl_aload_n (pc := 0) C 0 dX12_least_0 rfl rfl ?_
  obtain ⟨g1, h1, h⟩ := dl_bi_some h
  refine dl_vV0 (pc := 1) C (cmo_know l D cI TY hTY nw N ad R _ h1) (cwV 0 C.2.2.2.2.1 gX12_least_X12_know rfl rfl rfl (by decide +kernel) ⟨Nat.le_of_ble_eq_true rfl, Nat.le_of_ble_eq_true rfl⟩) 0 12 mm_a0 rfl rfl rfl (Nat.le_of_ble_eq_true rfl) dX12_least_1 ⟨Nat.zero_le _, Nat.zero_le _⟩ (fun u hp => ?_)
  subst hp
  refine dl_aload_n (pc := 4) C 0 dX12_least_4 rfl rfl ?_
  refine dl_get (pc := 5) C hin_X12_least_X12 0 mm_a0 rfl 20 (by decide) lk_X12_least_141 rfl rfl dX12_least_5 ?_
  refine dl_if_ne (pc := 8) C 16 dX12_least_8 (by decide) h (fun q2 h => ?_) (fun q2 h => ?_)
  · refine dl_ldc (pc := 11) C (-1000000) (by decide +kernel) dX12_least_11 ?_
    refine dl_goto (pc := 13) C 20 dX12_least_13 (by decide) ?_
    exact hQ 20 _ _ _ ⟨(dl_r2 h).1, by rw [(dl_r2 h).2]⟩ (vp_nar_int _) dX12_least_20
  · refine dl_aload_n (pc := 16) C 0 dX12_least_16 rfl rfl ?_
    refine dl_get (pc := 17) C hin_X12_least_X12 0 mm_a0 rfl 24 (by decide) lk_X12_least_158 rfl rfl dX12_least_17 ?_
    exact hQ 20 _ _ _ ⟨(dl_r2 h).1, by rw [(dl_r2 h).2]⟩ (vp_nar_int _) dX12_least_20
theorem hin_X12_many_X12 : ∀ w ∈ u_ws RX12 TX12 32, w ∈ wsX12_many := fun _ h => List.mem_cons_of_mem _ (List.mem_append_right _ h)
theorem lk_X12_many_161 : Cond.fieldLink (yX12_many).cls 161 "DripLinesModel" (TX12 25).2.1 (TX12 25).2.2.1 ∈ wsX12_many := by decide +kernel
set_option maxHeartbeats 4000000 in
set_option maxRecDepth 100000 in
theorem cmo_many (l : Launch) (D : va_G) (cI : ClassId) (TY : dl_TY) (hTY : TY[0]? = some (cI, .int)) (nw : List Cond) (N : Nat) (ad : Nat → Nat) (R : va_W) (g : dl_Sg) {r0 : Int32} {g0 : dl_Sg} (h : mo_many N g  = some (r0, g0)) : dl_CtI l D TY nw yX12_many wsX12_many { frames := 4, cells := 0, slots := 0, locals := 91 } 0 0 [.ref (ad 0)] (mm_w cI ad g ++ R) (fun r u => r = r0 ∧ u = mm_w cI ad g0 ++ R) := by
  refine dl_metI (ty := .int) [(0, .ref (ad 0))] (by decide) rfl (Nat.le_of_ble_eq_true rfl) rfl ?_
  intro p e s m args below meth c Q A C hQ
  unfold mo_many at h
  refine dl_aload_n (pc := 0) C 0 dX12_many_0 rfl rfl ?_
  obtain ⟨g1, h1, h⟩ := dl_bi_some h
  refine dl_vV0 (pc := 1) C (cmo_know l D cI TY hTY nw N ad R _ h1) (cwV 0 C.2.2.2.2.1 gX12_many_X12_know rfl rfl rfl (by decide +kernel) ⟨Nat.le_of_ble_eq_true rfl, Nat.le_of_ble_eq_true rfl⟩) 0 12 mm_a0 rfl rfl rfl (Nat.le_of_ble_eq_true rfl) dX12_many_1 ⟨Nat.zero_le _, Nat.zero_le _⟩ (fun u hp => ?_)
  subst hp
  refine dl_aload_n (pc := 4) C 0 dX12_many_4 rfl rfl ?_
  refine dl_get (pc := 5) C hin_X12_many_X12 0 mm_a0 rfl 25 (by decide) lk_X12_many_161 rfl rfl dX12_many_5 ?_
  exact hQ 8 _ _ _ ⟨(dl_r2 h).1, by rw [(dl_r2 h).2]⟩ (vp_nar_int _) dX12_many_8
set_option maxHeartbeats 4000000 in
set_option maxRecDepth 100000 in
theorem mo_nth_t31 {p : Program} {e : Env} {s : State} {m : MethodId} {args : Array Value} {below : List Frame} {meth : Method} {c : Code} {Q : State → Prop} {A : Nat → Prop} (l : Launch) (D : va_G) (TY : dl_TY) (nw : List Cond) (N : Nat) (R : va_W) {r0 : Int32} (C : dl_Cx p s m args c A D TY nw cX12_nth 4 yX12_nth.cls wsX12_nth) (hQ : dl_RtI p l e (headSpec wsX12_nth { frames := 1, cells := 0, slots := 0, locals := 21 }).room s m args below meth c Q A D cX12_nth 4 0 0 .int (fun r u => r = r0 ∧ u = R)) {k4 : Int32 → Int32 → Int32 → Option Int32} (hk4 : ∀ (x0 : Int32) (x2 : Int32) (x3 : Int32), k4 x0 x2 x3 = some r0 → dl_At p l e (headSpec wsX12_nth { frames := 1, cells := 0, slots := 0, locals := 21 }).room s m args below meth c Q A D 4 0 0 4 [(0, .int x0), (2, .int x2), (3, .int x3)] [] (R)) (x0 : Int32) (x2 : Int32) (x3 : Int32) (h : mo_nth_b31 N k4 x0 x2 x3 = some r0) : dl_At p l e (headSpec wsX12_nth { frames := 1, cells := 0, slots := 0, locals := 21 }).room s m args below meth c Q A D 4 0 0 31 [(0, .int x0), (2, .int x2), (3, .int x3)] [] (R) := by
  unfold mo_nth_b31 at h
  refine dl_iinc (pc := 31) C 2 (fun v1 => [(3, .int v1), (0, .int x0), (2, .int x2)]) dX12_nth_31 rfl rfl (by decide) (fun _ => rfl) h (fun v1 h => ?_)
  refine dl_goto (pc := 34) C 4 dX12_nth_34 (by decide) ?_
  refine dl_sub [1, 2, 0] rfl ?_
  exact hk4 _ _ _ h
set_option maxHeartbeats 4000000 in
set_option maxRecDepth 100000 in
theorem mo_nth_t4 {p : Program} {e : Env} {s : State} {m : MethodId} {args : Array Value} {below : List Frame} {meth : Method} {c : Code} {Q : State → Prop} {A : Nat → Prop} (l : Launch) (D : va_G) (TY : dl_TY) (nw : List Cond) (N : Nat) (R : va_W) {r0 : Int32} (C : dl_Cx p s m args c A D TY nw cX12_nth 4 yX12_nth.cls wsX12_nth) (hQ : dl_RtI p l e (headSpec wsX12_nth { frames := 1, cells := 0, slots := 0, locals := 21 }).room s m args below meth c Q A D cX12_nth 4 0 0 .int (fun r u => r = r0 ∧ u = R)) : ∀ (n : Nat) (x0 : Int32) (x2 : Int32) (x3 : Int32), mo_nth_b4 N n x0 x2 x3 = some r0 → dl_At p l e (headSpec wsX12_nth { frames := 1, cells := 0, slots := 0, locals := 21 }).room s m args below meth c Q A D 4 0 0 4 [(0, .int x0), (2, .int x2), (3, .int x3)] [] (R) := by
  intro n
  induction n with
  | zero => exact fun _ _ _ h => absurd (show (none : Option Int32) = some _ from h) (by intro q; cases q)
  | succ n ih =>
    intro x0 x2 x3 h
    rw [mo_nth_b4] at h
    refine dl_iload_n (pc := 4) C 2 dX12_nth_4 rfl rfl ?_
    refine dl_bipush (pc := 5) C 16 dX12_nth_5 (by decide) ?_
    refine dl_icmp_ge (pc := 7) C 37 dX12_nth_7 (by decide) h (fun q6 h => ?_) (fun q6 h => ?_)
    · refine dl_iconst (pc := 37) C (-1) dX12_nth_37 (by decide) ?_
      exact hQ 38 _ _ _ ⟨Option.some.inj h, rfl⟩ (vp_nar_int _) dX12_nth_38
    · refine dl_iload_n (pc := 10) C 1 dX12_nth_10 rfl rfl ?_
      refine dl_if_lt (pc := 11) C 37 dX12_nth_11 (by decide) h (fun q5 h => ?_) (fun q5 h => ?_)
      · refine dl_iconst (pc := 37) C (-1) dX12_nth_37 (by decide) ?_
        exact hQ 38 _ _ _ ⟨Option.some.inj h, rfl⟩ (vp_nar_int _) dX12_nth_38
      · refine dl_iload_n (pc := 14) C 0 dX12_nth_14 rfl rfl ?_
        refine dl_iload_n (pc := 15) C 2 dX12_nth_15 rfl rfl ?_
        obtain ⟨r1, h1, h⟩ := dl_bi_some h
        refine dl_sI0 (pc := 16) C (cmo_has l D TY nw _ _ _ h1) (va_cwS 2 C.2.2.2.2.1 gX12_nth_X12_has rfl rfl rfl (by decide +kernel) ⟨Nat.le_of_ble_eq_true rfl, Nat.le_of_ble_eq_true rfl⟩) rfl rfl (Nat.le_of_ble_eq_true rfl) dX12_nth_16 ⟨Nat.zero_le _, Nat.zero_le _⟩ (fun r u hp => ?_)
        obtain ⟨rfl, hu⟩ := hp
        rw [hu]
        clear hu
        refine dl_if_eq (pc := 19) C 31 dX12_nth_19 (by decide) h (fun q4 h => ?_) (fun q4 h => ?_)
        · refine dl_sub [0, 1, 2] rfl ?_
          exact mo_nth_t31 l D TY nw N R C hQ ih  _ _ _ h
        · refine dl_iload_n (pc := 22) C 1 dX12_nth_22 rfl rfl ?_
          refine dl_if_ne (pc := 23) C 28 dX12_nth_23 (by decide) h (fun q3 h => ?_) (fun q3 h => ?_)
          · refine dl_iload_n (pc := 26) C 2 dX12_nth_26 rfl rfl ?_
            exact hQ 27 _ _ _ ⟨Option.some.inj h, rfl⟩ (vp_nar_int _) dX12_nth_27
          · refine dl_iinc (pc := 28) C 1 (fun v2 => [(2, .int v2), (0, .int x0), (3, .int x3)]) dX12_nth_28 rfl rfl (by decide) (fun _ => rfl) h (fun v2 h => ?_)
            refine dl_sub [1, 0, 2] rfl ?_
            exact mo_nth_t31 l D TY nw N R C hQ ih  _ _ _ h
set_option maxHeartbeats 4000000 in
set_option maxRecDepth 100000 in
theorem cmo_nth (l : Launch) (D : va_G) (TY : dl_TY) (nw : List Cond) (N : Nat) (R : va_W) (x0 : Int32) (x1 : Int32) {r0 : Int32} (h : mo_nth N x0 x1 = some r0) : dl_CtI l D TY nw yX12_nth wsX12_nth { frames := 1, cells := 0, slots := 0, locals := 21 } 0 0 [.int x0, .int x1] (R) (fun r u => r = r0 ∧ u = R) := by
  refine dl_metI (ty := .int) [(0, .int x0), (1, .int x1)] (by decide) rfl (Nat.le_of_ble_eq_true rfl) rfl ?_
  intro p e s m args below meth c Q A C hQ
  unfold mo_nth at h
  refine dl_iload_n (pc := 0) C 1 dX12_nth_0 rfl rfl ?_
  refine dl_istore_n (pc := 1) C (fun v1 => [(2, .int v1), (0, .int x0), (1, .int x1)]) dX12_nth_1 rfl (by decide) (fun _ => rfl) h (fun v1 h => ?_)
  refine dl_iconst (pc := 2) C 0 dX12_nth_2 (by decide) ?_
  refine dl_istore_n (pc := 3) C (fun v2 => [(3, .int v2), (2, .int v1), (0, .int x0), (1, .int x1)]) dX12_nth_3 rfl (by decide) (fun _ => rfl) h (fun v2 h => ?_)
  refine dl_sub [2, 1, 0] rfl ?_
  exact mo_nth_t4 l D TY nw N R C hQ N _ _ _ h
