def cl6_weigh_b81 (x1 : Int32) (x4 : Int32) (g : dl_Sg) : Option dl_Sg :=
    if x4 = (g 3 5) then (
    dl_bi (cl6_keep g x1) fun g1 =>
    some g1)
    else (
    some g)
def cl6_weigh_b60 (x1 : Int32) (x4 : Int32) (g : dl_Sg) : Option dl_Sg :=
    dl_nm (dl_s2 g 3 5 x4) fun g1 =>
    dl_nm (dl_s2 g1 3 4 (0 : Int32)) fun g2 =>
    dl_nm (dl_s2 g2 3 6 x1) fun g3 =>
    dl_nm (dl_s2 g3 3 7 x1) fun g4 =>
    cl6_weigh_b81 x1 x4 g4
def cl6_weigh_b39 (x1 : Int32) (x2 : Int32) (x3 : Int32) (g : dl_Sg) : Option dl_Sg :=
    dl_nm (x2 - x3) fun v1 =>
    if (g 3 4) = 0 then (
    cl6_weigh_b60 x1 v1 g)
    else (
    if (g 3 5) ≤ v1 then (
    cl6_weigh_b81 x1 v1 g)
    else (
    cl6_weigh_b60 x1 v1 g))
def cl6_weigh_b32 (x1 : Int32) (x2 : Int32) (x3 : Int32) (g : dl_Sg) : Option dl_Sg :=
    dl_gd (dl_in x3 1001) (dl_nm (dl_wr g 21 x3 x2) fun g1 =>
    cl6_weigh_b39 x1 x2 x3 g1)
def cl6_weigh (g : dl_Sg) (x1 : Int32) (x2 : Int32) (x3 : Int32) : Option dl_Sg :=
    if x3 < 0 then (
    some g)
    else (
    if x3 ≤ (1000 : Int32) then (
    dl_gd (dl_in x3 1001) (
    if (g 21 x3.toNatClampNeg) = (-1 : Int32) then (
    cl6_weigh_b32 x1 x2 x3 g)
    else (
    dl_gd (dl_in x3 1001) (
    if (g 21 x3.toNatClampNeg) ≤ x2 then (
    cl6_weigh_b39 x1 x2 x3 g)
    else (
    cl6_weigh_b32 x1 x2 x3 g)))))
    else (
    some g))
theorem hin_X6_weigh_X6 : ∀ w ∈ u_ws RX6 TX6 9, w ∈ wsX6_weigh := fun _ h => List.mem_cons_of_mem _ (List.mem_append_right _ h)
theorem lk_X6_weigh_15 : Cond.fieldLink (yX6_weigh).cls 15 "DripLines$Trees" (TX6 2).2.1 (TX6 2).2.2.1 ∈ wsX6_weigh := by decide +kernel
theorem lk_X6_weigh_103 : Cond.fieldLink (yX6_weigh).cls 103 "DripLines$Trees" (TX6 4).2.1 (TX6 4).2.2.1 ∈ wsX6_weigh := by decide +kernel
theorem lk_X6_weigh_107 : Cond.fieldLink (yX6_weigh).cls 107 "DripLines$Trees" (TX6 5).2.1 (TX6 5).2.2.1 ∈ wsX6_weigh := by decide +kernel
theorem lk_X6_weigh_110 : Cond.fieldLink (yX6_weigh).cls 110 "DripLines$Trees" (TX6 6).2.1 (TX6 6).2.2.1 ∈ wsX6_weigh := by decide +kernel
theorem lk_X6_weigh_113 : Cond.fieldLink (yX6_weigh).cls 113 "DripLines$Trees" (TX6 7).2.1 (TX6 7).2.2.1 ∈ wsX6_weigh := by decide +kernel
set_option maxHeartbeats 4000000 in
set_option maxRecDepth 100000 in
theorem cl6_weigh_m81 {g0 : dl_Sg} (x1 : Int32) (x4 : Int32) (g : dl_Sg) (h : cl6_weigh_b81 x1 x4 g = some g0) : dl_al g ≤ dl_al g0 := by
  unfold cl6_weigh_b81 at h
  by_cases q2 : x4 = (g 3 5)
  · rw [if_pos q2] at h
    obtain ⟨g1, h1, h⟩ := dl_bi_some h
    refine Nat.le_trans (cl6_keep_me _ _ h1) ?_
    exact Nat.le_of_eq (congrArg dl_al (Option.some.inj h))
  · rw [if_neg q2] at h
    exact Nat.le_of_eq (congrArg dl_al (Option.some.inj h))
set_option maxHeartbeats 4000000 in
set_option maxRecDepth 100000 in
theorem cl6_weigh_t81 {p : Program} {e : Env} {s : State} {m : MethodId} {args : Array Value} {below : List Frame} {meth : Method} {c : Code} {Q : State → Prop} {A : Nat → Prop} (l : Launch) (D : va_G) (cI cP cII : ClassId) (TY : dl_TY) (hTY : TY[0]? = some (cI, .int)) (ad : Nat → Nat) (pr : Nat → Option Nat) (R : va_W) {g0 : dl_Sg} (mc ms : Nat) (C : dl_Cx p s m args c A D TY cc_nw cX6_weigh 5 yX6_weigh.cls wsX6_weigh) (hQ : dl_RtV p l e (headSpec wsX6_weigh { frames := 3, cells := mc, slots := ms, locals := 103 }).room s m args below meth c Q A D cX6_weigh 5 mc ms (fun u => ∃ b1, u = cc_w cI cP cII (va_up ad 33 b1) pr g0 ++ R)) (x1 : Int32) (x4 : Int32) (b : Nat) (g : dl_Sg) (c0 s0 : Nat) (he : c0 + (dl_al g0 - dl_al g) ≤ mc ∧ s0 + 2 * (dl_al g0 - dl_al g) ≤ ms) (h : cl6_weigh_b81 x1 x4 g = some g0) : dl_At p l e (headSpec wsX6_weigh { frames := 3, cells := mc, slots := ms, locals := 103 }).room s m args below meth c Q A D 5 c0 s0 81 [(0, .ref (ad 3)), (1, .int x1), (4, .int x4)] [] (cc_w cI cP cII (va_up ad 33 b) pr g ++ R) := by
  unfold cl6_weigh_b81 at h
  refine dl_iload (pc := 81) C 2 dX6_weigh_81 rfl ?_
  refine dl_aload_n (pc := 83) C 0 dX6_weigh_83 rfl rfl ?_
  refine dl_get (pc := 84) C hin_X6_weigh_X6 3 cc_a3 rfl 5 (by decide) lk_X6_weigh_107 rfl rfl dX6_weigh_84 ?_
  refine dl_icmp_ne (pc := 87) C 95 dX6_weigh_87 (by decide) h (fun q2 h => ?_) (fun q2 h => ?_)
  · refine dl_aload_n (pc := 90) C 0 dX6_weigh_90 rfl rfl ?_
    refine dl_iload_n (pc := 91) C 1 dX6_weigh_91 rfl rfl ?_
    obtain ⟨g1, h1, h⟩ := dl_bi_some h
    have hm1 : dl_al g ≤ dl_al g1 := cl6_keep_me _ _ h1
    have hm2 : dl_al g1 ≤ dl_al g0 := by
      exact Nat.le_of_eq (congrArg dl_al (Option.some.inj h))
    refine dl_vV (pc := 92) C (ccl6_keep l D cI cP cII TY hTY ad pr R _ _ _ h1) (cwV 1 C.2.2.2.2.1 gX6_weigh_X6_keep rfl rfl rfl (by decide +kernel) ⟨Nat.le_of_ble_eq_true rfl, Nat.le_of_ble_eq_true rfl⟩) 3 6 cc_a3 rfl rfl rfl (Nat.le_of_ble_eq_true rfl) dX6_weigh_92 (dl_bud he hm1 hm2) (fun u hp => ?_)
    obtain ⟨b, rfl⟩ := hp
    have he := dl_bud2 he hm1 hm2
    refine dl_wid (Nat.le_trans (Nat.le_add_right _ _) he.1) (Nat.le_trans (Nat.le_add_right _ _) he.2) ?_
    exact hQ 95 _ _ ⟨_, by rw [Option.some.inj h]⟩ dX6_weigh_95
  · refine dl_wid (Nat.le_trans (Nat.le_add_right _ _) he.1) (Nat.le_trans (Nat.le_add_right _ _) he.2) ?_
    exact hQ 95 _ _ ⟨_, by rw [Option.some.inj h]⟩ dX6_weigh_95
set_option maxHeartbeats 4000000 in
set_option maxRecDepth 100000 in
theorem cl6_weigh_m60 {g0 : dl_Sg} (x1 : Int32) (x4 : Int32) (g : dl_Sg) (h : cl6_weigh_b60 x1 x4 g = some g0) : dl_al g ≤ dl_al g0 := by
  unfold cl6_weigh_b60 at h
  obtain ⟨g1, h, hg⟩ := dl_nm_some h
  have ea : dl_al g1 = dl_al g := by rw [hg]; rfl
  rw [← ea]
  clear hg ea
  obtain ⟨g2, h, hg⟩ := dl_nm_some h
  have ea : dl_al g2 = dl_al g1 := by rw [hg]; rfl
  rw [← ea]
  clear hg ea
  obtain ⟨g3, h, hg⟩ := dl_nm_some h
  have ea : dl_al g3 = dl_al g2 := by rw [hg]; rfl
  rw [← ea]
  clear hg ea
  obtain ⟨g4, h, hg⟩ := dl_nm_some h
  have ea : dl_al g4 = dl_al g3 := by rw [hg]; rfl
  rw [← ea]
  clear hg ea
  exact cl6_weigh_m81  _ _ _ h
set_option maxHeartbeats 4000000 in
set_option maxRecDepth 100000 in
theorem cl6_weigh_t60 {p : Program} {e : Env} {s : State} {m : MethodId} {args : Array Value} {below : List Frame} {meth : Method} {c : Code} {Q : State → Prop} {A : Nat → Prop} (l : Launch) (D : va_G) (cI cP cII : ClassId) (TY : dl_TY) (hTY : TY[0]? = some (cI, .int)) (ad : Nat → Nat) (pr : Nat → Option Nat) (R : va_W) {g0 : dl_Sg} (mc ms : Nat) (C : dl_Cx p s m args c A D TY cc_nw cX6_weigh 5 yX6_weigh.cls wsX6_weigh) (hQ : dl_RtV p l e (headSpec wsX6_weigh { frames := 3, cells := mc, slots := ms, locals := 103 }).room s m args below meth c Q A D cX6_weigh 5 mc ms (fun u => ∃ b1, u = cc_w cI cP cII (va_up ad 33 b1) pr g0 ++ R)) (x1 : Int32) (x4 : Int32) (b : Nat) (g : dl_Sg) (c0 s0 : Nat) (he : c0 + (dl_al g0 - dl_al g) ≤ mc ∧ s0 + 2 * (dl_al g0 - dl_al g) ≤ ms) (h : cl6_weigh_b60 x1 x4 g = some g0) : dl_At p l e (headSpec wsX6_weigh { frames := 3, cells := mc, slots := ms, locals := 103 }).room s m args below meth c Q A D 5 c0 s0 60 [(0, .ref (ad 3)), (1, .int x1), (4, .int x4)] [] (cc_w cI cP cII (va_up ad 33 b) pr g ++ R) := by
  unfold cl6_weigh_b60 at h
  refine dl_aload_n (pc := 60) C 0 dX6_weigh_60 rfl rfl ?_
  refine dl_iload (pc := 61) C 2 dX6_weigh_61 rfl ?_
  refine dl_put (pc := 63) C hin_X6_weigh_X6 tyX6 tyX6_ok nmX6 3 cc_a3 rfl 5 (by decide) lk_X6_weigh_107 rfl rfl (ty := .int) rfl (vp_nar_int _) rfl (Nat.le_of_ble_eq_true rfl) dX6_weigh_63 cc_p3_5 ?_
  obtain ⟨g1, h, hg⟩ := dl_nm_some h
  have ea : dl_al g1 = dl_al g := by rw [hg]; rfl
  rw [← ea] at he
  rw [← hg]
  clear hg ea
  refine dl_aload_n (pc := 66) C 0 dX6_weigh_66 rfl rfl ?_
  refine dl_iconst (pc := 67) C 0 dX6_weigh_67 (by decide) ?_
  refine dl_put (pc := 68) C hin_X6_weigh_X6 tyX6 tyX6_ok nmX6 3 cc_a3 rfl 4 (by decide) lk_X6_weigh_103 rfl rfl (ty := .int) rfl (vp_nar_int _) rfl (Nat.le_of_ble_eq_true rfl) dX6_weigh_68 cc_p3_4 ?_
  obtain ⟨g2, h, hg⟩ := dl_nm_some h
  have ea : dl_al g2 = dl_al g1 := by rw [hg]; rfl
  rw [← ea] at he
  rw [← hg]
  clear hg ea
  refine dl_aload_n (pc := 71) C 0 dX6_weigh_71 rfl rfl ?_
  refine dl_iload_n (pc := 72) C 1 dX6_weigh_72 rfl rfl ?_
  refine dl_put (pc := 73) C hin_X6_weigh_X6 tyX6 tyX6_ok nmX6 3 cc_a3 rfl 6 (by decide) lk_X6_weigh_110 rfl rfl (ty := .int) rfl (vp_nar_int _) rfl (Nat.le_of_ble_eq_true rfl) dX6_weigh_73 cc_p3_6 ?_
  obtain ⟨g3, h, hg⟩ := dl_nm_some h
  have ea : dl_al g3 = dl_al g2 := by rw [hg]; rfl
  rw [← ea] at he
  rw [← hg]
  clear hg ea
  refine dl_aload_n (pc := 76) C 0 dX6_weigh_76 rfl rfl ?_
  refine dl_iload_n (pc := 77) C 1 dX6_weigh_77 rfl rfl ?_
  refine dl_put (pc := 78) C hin_X6_weigh_X6 tyX6 tyX6_ok nmX6 3 cc_a3 rfl 7 (by decide) lk_X6_weigh_113 rfl rfl (ty := .int) rfl (vp_nar_int _) rfl (Nat.le_of_ble_eq_true rfl) dX6_weigh_78 cc_p3_7 ?_
  obtain ⟨g4, h, hg⟩ := dl_nm_some h
  have ea : dl_al g4 = dl_al g3 := by rw [hg]; rfl
  rw [← ea] at he
  rw [← hg]
  clear hg ea
  refine dl_sub [0, 1, 2] rfl ?_
  exact cl6_weigh_t81 l D cI cP cII TY hTY ad pr R _ _ C hQ  _ _ _ _ _ _ he h
set_option maxHeartbeats 4000000 in
set_option maxRecDepth 100000 in
theorem cl6_weigh_m39 {g0 : dl_Sg} (x1 : Int32) (x2 : Int32) (x3 : Int32) (g : dl_Sg) (h : cl6_weigh_b39 x1 x2 x3 g = some g0) : dl_al g ≤ dl_al g0 := by
  unfold cl6_weigh_b39 at h
  obtain ⟨v1, h, -⟩ := dl_nm_some h
  by_cases q3 : (g 3 4) = 0
  · rw [if_pos q3] at h
    exact cl6_weigh_m60  _ _ _ h
  · rw [if_neg q3] at h
    by_cases q2 : (g 3 5) ≤ v1
    · rw [if_pos q2] at h
      exact cl6_weigh_m81  _ _ _ h
    · rw [if_neg q2] at h
      exact cl6_weigh_m60  _ _ _ h
set_option maxHeartbeats 4000000 in
set_option maxRecDepth 100000 in
theorem cl6_weigh_t39 {p : Program} {e : Env} {s : State} {m : MethodId} {args : Array Value} {below : List Frame} {meth : Method} {c : Code} {Q : State → Prop} {A : Nat → Prop} (l : Launch) (D : va_G) (cI cP cII : ClassId) (TY : dl_TY) (hTY : TY[0]? = some (cI, .int)) (ad : Nat → Nat) (pr : Nat → Option Nat) (R : va_W) {g0 : dl_Sg} (mc ms : Nat) (C : dl_Cx p s m args c A D TY cc_nw cX6_weigh 5 yX6_weigh.cls wsX6_weigh) (hQ : dl_RtV p l e (headSpec wsX6_weigh { frames := 3, cells := mc, slots := ms, locals := 103 }).room s m args below meth c Q A D cX6_weigh 5 mc ms (fun u => ∃ b1, u = cc_w cI cP cII (va_up ad 33 b1) pr g0 ++ R)) (x1 : Int32) (x2 : Int32) (x3 : Int32) (b : Nat) (g : dl_Sg) (c0 s0 : Nat) (he : c0 + (dl_al g0 - dl_al g) ≤ mc ∧ s0 + 2 * (dl_al g0 - dl_al g) ≤ ms) (h : cl6_weigh_b39 x1 x2 x3 g = some g0) : dl_At p l e (headSpec wsX6_weigh { frames := 3, cells := mc, slots := ms, locals := 103 }).room s m args below meth c Q A D 5 c0 s0 39 [(0, .ref (ad 3)), (1, .int x1), (2, .int x2), (3, .int x3)] [] (cc_w cI cP cII (va_up ad 33 b) pr g ++ R) := by
  unfold cl6_weigh_b39 at h
  refine dl_iload_n (pc := 39) C 2 dX6_weigh_39 rfl rfl ?_
  refine dl_iload_n (pc := 40) C 3 dX6_weigh_40 rfl rfl ?_
  refine dl_isub (pc := 41) C dX6_weigh_41 ?_
  refine dl_istore (pc := 42) C (fun v1 => [(4, .int v1), (0, .ref (ad 3)), (1, .int x1), (2, .int x2), (3, .int x3)]) dX6_weigh_42 (by decide) (fun _ => rfl) h (fun v1 h => ?_)
  refine dl_aload_n (pc := 44) C 1 dX6_weigh_44 rfl rfl ?_
  refine dl_get (pc := 45) C hin_X6_weigh_X6 3 cc_a3 rfl 4 (by decide) lk_X6_weigh_103 rfl rfl dX6_weigh_45 ?_
  refine dl_if_eq (pc := 48) C 60 dX6_weigh_48 (by decide) h (fun q3 h => ?_) (fun q3 h => ?_)
  · refine dl_sub [1, 2, 0] rfl ?_
    exact cl6_weigh_t60 l D cI cP cII TY hTY ad pr R _ _ C hQ  _ _ _ _ _ _ he h
  · refine dl_iload (pc := 51) C 0 dX6_weigh_51 rfl ?_
    refine dl_aload_n (pc := 53) C 1 dX6_weigh_53 rfl rfl ?_
    refine dl_get (pc := 54) C hin_X6_weigh_X6 3 cc_a3 rfl 5 (by decide) lk_X6_weigh_107 rfl rfl dX6_weigh_54 ?_
    refine dl_icmp_ge (pc := 57) C 81 dX6_weigh_57 (by decide) h (fun q2 h => ?_) (fun q2 h => ?_)
    · refine dl_sub [1, 2, 0] rfl ?_
      exact cl6_weigh_t81 l D cI cP cII TY hTY ad pr R _ _ C hQ  _ _ _ _ _ _ he h
    · refine dl_sub [1, 2, 0] rfl ?_
      exact cl6_weigh_t60 l D cI cP cII TY hTY ad pr R _ _ C hQ  _ _ _ _ _ _ he h
set_option maxHeartbeats 4000000 in
set_option maxRecDepth 100000 in
theorem cl6_weigh_m32 {g0 : dl_Sg} (x1 : Int32) (x2 : Int32) (x3 : Int32) (g : dl_Sg) (h : cl6_weigh_b32 x1 x2 x3 g = some g0) : dl_al g ≤ dl_al g0 := by
  unfold cl6_weigh_b32 at h
  obtain ⟨-, h⟩ := dl_gd_some h
  obtain ⟨g1, h, hg⟩ := dl_nm_some h
  have ea : dl_al g1 = dl_al g := by rw [hg]; rfl
  rw [← ea]
  clear hg ea
  exact cl6_weigh_m39  _ _ _ _ h
set_option maxHeartbeats 4000000 in
set_option maxRecDepth 100000 in
theorem cl6_weigh_t32 {p : Program} {e : Env} {s : State} {m : MethodId} {args : Array Value} {below : List Frame} {meth : Method} {c : Code} {Q : State → Prop} {A : Nat → Prop} (l : Launch) (D : va_G) (cI cP cII : ClassId) (TY : dl_TY) (hTY : TY[0]? = some (cI, .int)) (ad : Nat → Nat) (pr : Nat → Option Nat) (R : va_W) {g0 : dl_Sg} (mc ms : Nat) (C : dl_Cx p s m args c A D TY cc_nw cX6_weigh 5 yX6_weigh.cls wsX6_weigh) (hQ : dl_RtV p l e (headSpec wsX6_weigh { frames := 3, cells := mc, slots := ms, locals := 103 }).room s m args below meth c Q A D cX6_weigh 5 mc ms (fun u => ∃ b1, u = cc_w cI cP cII (va_up ad 33 b1) pr g0 ++ R)) (x1 : Int32) (x2 : Int32) (x3 : Int32) (b : Nat) (g : dl_Sg) (c0 s0 : Nat) (he : c0 + (dl_al g0 - dl_al g) ≤ mc ∧ s0 + 2 * (dl_al g0 - dl_al g) ≤ ms) (h : cl6_weigh_b32 x1 x2 x3 g = some g0) : dl_At p l e (headSpec wsX6_weigh { frames := 3, cells := mc, slots := ms, locals := 103 }).room s m args below meth c Q A D 5 c0 s0 32 [(0, .ref (ad 3)), (1, .int x1), (2, .int x2), (3, .int x3)] [] (cc_w cI cP cII (va_up ad 33 b) pr g ++ R) := by
  unfold cl6_weigh_b32 at h
  refine dl_aload_n (pc := 32) C 0 dX6_weigh_32 rfl rfl ?_
  refine dl_get (pc := 33) C hin_X6_weigh_X6 3 cc_a3 rfl 2 (by decide) lk_X6_weigh_15 rfl rfl dX6_weigh_33 ?_
  refine dl_iload_n (pc := 36) C 3 dX6_weigh_36 rfl rfl ?_
  refine dl_iload_n (pc := 37) C 2 dX6_weigh_37 rfl rfl ?_
  obtain ⟨h0, h⟩ := dl_gd_some h
  refine dl_iast (pc := 38) C 18 0 cc_a21 hTY h0 dX6_weigh_38 cc_s21 ?_
  obtain ⟨g1, h, hg⟩ := dl_nm_some h
  have ea : dl_al g1 = dl_al g := by rw [hg]; rfl
  rw [← ea] at he
  rw [← hg]
  clear hg ea
  refine dl_sub [0, 1, 2, 3] rfl ?_
  exact cl6_weigh_t39 l D cI cP cII TY hTY ad pr R _ _ C hQ  _ _ _ _ _ _ _ he h
set_option maxHeartbeats 4000000 in
set_option maxRecDepth 100000 in
theorem cl6_weigh_me (g : dl_Sg) (x1 : Int32) (x2 : Int32) (x3 : Int32) {g0 : dl_Sg} (h : cl6_weigh g x1 x2 x3 = some g0) : dl_al g ≤ dl_al g0 := by
  unfold cl6_weigh at h
  by_cases q4 : x3 < 0
  · rw [if_pos q4] at h
    exact Nat.le_of_eq (congrArg dl_al (Option.some.inj h))
  · rw [if_neg q4] at h
    by_cases q3 : x3 ≤ (1000 : Int32)
    · rw [if_pos q3] at h
      obtain ⟨-, h⟩ := dl_gd_some h
      by_cases q2 : (g 21 x3.toNatClampNeg) = (-1 : Int32)
      · rw [if_pos q2] at h
        exact cl6_weigh_m32  _ _ _ _ h
      · rw [if_neg q2] at h
        obtain ⟨-, h⟩ := dl_gd_some h
        by_cases q1 : (g 21 x3.toNatClampNeg) ≤ x2
        · rw [if_pos q1] at h
          exact cl6_weigh_m39  _ _ _ _ h
        · rw [if_neg q1] at h
          exact cl6_weigh_m32  _ _ _ _ h
    · rw [if_neg q3] at h
      exact Nat.le_of_eq (congrArg dl_al (Option.some.inj h))
set_option maxHeartbeats 4000000 in
set_option maxRecDepth 100000 in
theorem ccl6_weigh (l : Launch) (D : va_G) (cI cP cII : ClassId) (TY : dl_TY) (hTY : TY[0]? = some (cI, .int)) (ad : Nat → Nat) (pr : Nat → Option Nat) (R : va_W) (b : Nat) (g : dl_Sg) (x1 : Int32) (x2 : Int32) (x3 : Int32) {g0 : dl_Sg} (h : cl6_weigh g x1 x2 x3 = some g0) : dl_CtV l D TY cc_nw yX6_weigh wsX6_weigh { frames := 3, cells := dl_al g0 - dl_al g, slots := 2 * (dl_al g0 - dl_al g), locals := 103 } (dl_al g0 - dl_al g) (2 * (dl_al g0 - dl_al g)) [.ref (ad 3), .int x1, .int x2, .int x3] (cc_w cI cP cII (va_up ad 33 b) pr g ++ R) (fun u => ∃ b1, u = cc_w cI cP cII (va_up ad 33 b1) pr g0 ++ R) := by
  refine dl_metV [(0, .ref (ad 3)), (1, .int x1), (2, .int x2), (3, .int x3)] (by decide) rfl (Nat.le_of_ble_eq_true rfl) rfl ?_
  intro p e s m args below meth c Q A C hQ
  unfold cl6_weigh at h
  generalize hmc : dl_al g0 - dl_al g = mc at hQ ⊢
  generalize hms : 2 * mc = ms at hQ ⊢
  have he : 0 + (dl_al g0 - dl_al g) ≤ mc ∧ 0 + 2 * (dl_al g0 - dl_al g) ≤ ms := ⟨by omega, by omega⟩
  refine dl_iload_n (pc := 0) C 3 dX6_weigh_0 rfl rfl ?_
  refine dl_if_lt (pc := 1) C 11 dX6_weigh_1 (by decide) h (fun q4 h => ?_) (fun q4 h => ?_)
  · refine dl_wid (Nat.le_trans (Nat.le_add_right _ _) he.1) (Nat.le_trans (Nat.le_add_right _ _) he.2) ?_
    exact hQ 11 _ _ ⟨_, by rw [Option.some.inj h]⟩ dX6_weigh_11
  · refine dl_iload_n (pc := 4) C 3 dX6_weigh_4 rfl rfl ?_
    refine dl_sipush (pc := 5) C 1000 dX6_weigh_5 (by decide) ?_
    refine dl_icmp_le (pc := 8) C 12 dX6_weigh_8 (by decide) h (fun q3 h => ?_) (fun q3 h => ?_)
    · refine dl_aload_n (pc := 12) C 0 dX6_weigh_12 rfl rfl ?_
      refine dl_get (pc := 13) C hin_X6_weigh_X6 3 cc_a3 rfl 2 (by decide) lk_X6_weigh_15 rfl rfl dX6_weigh_13 ?_
      refine dl_iload_n (pc := 16) C 3 dX6_weigh_16 rfl rfl ?_
      obtain ⟨h0, h⟩ := dl_gd_some h
      refine dl_iald (pc := 17) C 18 0 cc_a21 hTY h0 dX6_weigh_17 ?_
      refine dl_iconst (pc := 18) C (-1) dX6_weigh_18 (by decide) ?_
      refine dl_icmp_eq (pc := 19) C 32 dX6_weigh_19 (by decide) h (fun q2 h => ?_) (fun q2 h => ?_)
      · refine dl_sub [0, 1, 2, 3] rfl ?_
        exact cl6_weigh_t32 l D cI cP cII TY hTY ad pr R _ _ C hQ  _ _ _ _ _ _ _ he h
      · refine dl_iload_n (pc := 22) C 2 dX6_weigh_22 rfl rfl ?_
        refine dl_aload_n (pc := 23) C 0 dX6_weigh_23 rfl rfl ?_
        refine dl_get (pc := 24) C hin_X6_weigh_X6 3 cc_a3 rfl 2 (by decide) lk_X6_weigh_15 rfl rfl dX6_weigh_24 ?_
        refine dl_iload_n (pc := 27) C 3 dX6_weigh_27 rfl rfl ?_
        obtain ⟨h0, h⟩ := dl_gd_some h
        refine dl_iald (pc := 28) C 18 0 cc_a21 hTY h0 dX6_weigh_28 ?_
        refine dl_icmp_ge (pc := 29) C 39 dX6_weigh_29 (by decide) h (fun q1 h => ?_) (fun q1 h => ?_)
        · refine dl_sub [0, 1, 2, 3] rfl ?_
          exact cl6_weigh_t39 l D cI cP cII TY hTY ad pr R _ _ C hQ  _ _ _ _ _ _ _ he h
        · refine dl_sub [0, 1, 2, 3] rfl ?_
          exact cl6_weigh_t32 l D cI cP cII TY hTY ad pr R _ _ C hQ  _ _ _ _ _ _ _ he h
    · refine dl_wid (Nat.le_trans (Nat.le_add_right _ _) he.1) (Nat.le_trans (Nat.le_add_right _ _) he.2) ?_
      exact hQ 11 _ _ ⟨_, by rw [Option.some.inj h]⟩ dX6_weigh_11
def cl6_putInOrder_b76 (N : Nat) (rec : dl_Sg → Int32 → Int32 → Int32 → Option dl_Sg) (k20 : Int32 → Int32 → Int32 → Int32 → Int32 → dl_Sg → Option dl_Sg) (x1 : Int32) (x2 : Int32) (x3 : Int32) (x4 : Int32) (x5 : Int32) (g : dl_Sg) : Option dl_Sg :=
    dl_nm (x5 + 1) fun v1 =>
    k20 x1 x2 x3 x4 v1 g
def cl6_putInOrder_b20 (N : Nat) (rec : dl_Sg → Int32 → Int32 → Int32 → Option dl_Sg) : Nat → Int32 → Int32 → Int32 → Int32 → Int32 → dl_Sg → Option dl_Sg
  | 0, _, _, _, _, _, _ => none
  | n + 1, x1, x2, x3, x4, x5, g =>
    if x2 ≤ x5 then (
    dl_bi (rec g x1 x4 (x3 + (1 : Int32))) fun g1 =>
    dl_bi (rec g1 x4 x2 (x3 + (1 : Int32))) fun g2 =>
    some g2)
    else (
    dl_gd (dl_in x5 ((g 9 0).toNatClampNeg)) (
    dl_bi (cl11_bitAt (g 33 x5.toNatClampNeg) x3) fun r3 =>
    if r3 = (1 : Int32) then (
    dl_gd (dl_in x5 ((g 9 0).toNatClampNeg)) (
    dl_nm (g 33 x5.toNatClampNeg) fun v4 =>
    dl_gd (dl_in x4 ((g 9 0).toNatClampNeg)) (
    dl_gd (dl_in x5 ((g 9 0).toNatClampNeg)) (dl_nm (dl_wr g 33 x5 (g 33 x4.toNatClampNeg)) fun g5 =>
    dl_gd (dl_in x4 ((g5 9 0).toNatClampNeg)) (dl_nm (dl_wr g5 33 x4 v4) fun g6 =>
    dl_nm (x4 + 1) fun v7 =>
    cl6_putInOrder_b76 N rec (cl6_putInOrder_b20 N rec n) x1 x2 x3 v7 x5 g6)))))
    else (
    cl6_putInOrder_b76 N rec (cl6_putInOrder_b20 N rec n) x1 x2 x3 x4 x5 g)))
def cl6_putInOrder_e (N : Nat) (rec : dl_Sg → Int32 → Int32 → Int32 → Option dl_Sg) (g : dl_Sg) (x1 : Int32) (x2 : Int32) (x3 : Int32) : Option dl_Sg :=
    if (x2 - x1) < (2 : Int32) then (
    some g)
    else (
    if x3 < (16 : Int32) then (
    dl_nm x1 fun v1 =>
    dl_nm x1 fun v2 =>
    cl6_putInOrder_b20 N rec N x1 x2 x3 v1 v2 g)
    else (
    some g))
def cl6_putInOrder (N : Nat) : Nat → dl_Sg → Int32 → Int32 → Int32 → Option dl_Sg
  | 0, _, _, _, _ => none
  | d + 1, g, x1, x2, x3 => cl6_putInOrder_e N (cl6_putInOrder N d) g x1 x2 x3
theorem hin_X6_putInOrder_X6 : ∀ w ∈ u_ws RX6 TX6 9, w ∈ wsX6_putInOrder := fun _ h => List.mem_cons_of_mem _ (List.mem_append_right _ h)
theorem lk_X6_putInOrder_18 : Cond.fieldLink (yX6_putInOrder).cls 18 "DripLines$Trees" (TX6 3).2.1 (TX6 3).2.2.1 ∈ wsX6_putInOrder := by decide +kernel
set_option maxHeartbeats 4000000 in
set_option maxRecDepth 100000 in
theorem cl6_putInOrder_m76 (N : Nat) {rec : dl_Sg → Int32 → Int32 → Int32 → Option dl_Sg} (hrm : ∀ (g : dl_Sg) (x1 x2 x3 : Int32) (g1 : dl_Sg), rec g x1 x2 x3 = some g1 → dl_al g ≤ dl_al g1) {g0 : dl_Sg} {k20 : Int32 → Int32 → Int32 → Int32 → Int32 → dl_Sg → Option dl_Sg} (hm20 : ∀ (x1 : Int32) (x2 : Int32) (x3 : Int32) (x4 : Int32) (x5 : Int32) (g : dl_Sg), k20 x1 x2 x3 x4 x5 g = some g0 → dl_al g ≤ dl_al g0) (x1 : Int32) (x2 : Int32) (x3 : Int32) (x4 : Int32) (x5 : Int32) (g : dl_Sg) (h : cl6_putInOrder_b76 N rec k20 x1 x2 x3 x4 x5 g = some g0) : dl_al g ≤ dl_al g0 := by
  unfold cl6_putInOrder_b76 at h
  obtain ⟨v1, h, -⟩ := dl_nm_some h
  exact hm20 _ _ _ _ _ _ h
set_option maxHeartbeats 4000000 in
set_option maxRecDepth 100000 in
theorem cl6_putInOrder_t76 {p : Program} {e : Env} {s : State} {m : MethodId} {args : Array Value} {below : List Frame} {meth : Method} {c : Code} {Q : State → Prop} {A : Nat → Prop} (l : Launch) (D : va_G) (cI cP cII : ClassId) (TY : dl_TY) (hTY : TY[0]? = some (cI, .int)) (N : Nat) (ad : Nat → Nat) (pr : Nat → Option Nat) (R : va_W) (d : Nat) {rec : dl_Sg → Int32 → Int32 → Int32 → Option dl_Sg} (hrec : ∀ (b : Nat) (g : dl_Sg) (x1 x2 x3 : Int32) (g1 : dl_Sg), rec g x1 x2 x3 = some g1 → dl_CtV l D TY cc_nw yX6_putInOrder wsX6_putInOrder { frames := 1 + d, cells := dl_al g1 - dl_al g, slots := 2 * (dl_al g1 - dl_al g), locals := 21 + 26 * d } (dl_al g1 - dl_al g) (2 * (dl_al g1 - dl_al g)) [.ref (ad 3), .int x1, .int x2, .int x3] (cc_w cI cP cII (va_up ad 33 b) pr g ++ R) (fun u => ∃ b1, u = cc_w cI cP cII (va_up ad 33 b1) pr g1 ++ R)) (hrm : ∀ (g : dl_Sg) (x1 x2 x3 : Int32) (g1 : dl_Sg), rec g x1 x2 x3 = some g1 → dl_al g ≤ dl_al g1) {g0 : dl_Sg} (mc ms : Nat) (C : dl_Cx p s m args c A D TY cc_nw cX6_putInOrder 7 yX6_putInOrder.cls wsX6_putInOrder) (hQ : dl_RtV p l e (headSpec wsX6_putInOrder { frames := 1 + (d + 1), cells := mc, slots := ms, locals := 21 + 26 * (d + 1) }).room s m args below meth c Q A D cX6_putInOrder 7 mc ms (fun u => ∃ b1, u = cc_w cI cP cII (va_up ad 33 b1) pr g0 ++ R)) {k20 : Int32 → Int32 → Int32 → Int32 → Int32 → dl_Sg → Option dl_Sg} (hk20 : ∀ (x1 : Int32) (x2 : Int32) (x3 : Int32) (x4 : Int32) (x5 : Int32) (b : Nat) (g : dl_Sg) (c0 s0 : Nat), c0 + (dl_al g0 - dl_al g) ≤ mc ∧ s0 + 2 * (dl_al g0 - dl_al g) ≤ ms → k20 x1 x2 x3 x4 x5 g = some g0 → dl_At p l e (headSpec wsX6_putInOrder { frames := 1 + (d + 1), cells := mc, slots := ms, locals := 21 + 26 * (d + 1) }).room s m args below meth c Q A D 7 c0 s0 20 [(0, .ref (ad 3)), (1, .int x1), (2, .int x2), (3, .int x3), (4, .int x4), (5, .int x5)] [] (cc_w cI cP cII (va_up ad 33 b) pr g ++ R)) (hm20 : ∀ (x1 : Int32) (x2 : Int32) (x3 : Int32) (x4 : Int32) (x5 : Int32) (g : dl_Sg), k20 x1 x2 x3 x4 x5 g = some g0 → dl_al g ≤ dl_al g0) (x1 : Int32) (x2 : Int32) (x3 : Int32) (x4 : Int32) (x5 : Int32) (b : Nat) (g : dl_Sg) (c0 s0 : Nat) (he : c0 + (dl_al g0 - dl_al g) ≤ mc ∧ s0 + 2 * (dl_al g0 - dl_al g) ≤ ms) (h : cl6_putInOrder_b76 N rec k20 x1 x2 x3 x4 x5 g = some g0) : dl_At p l e (headSpec wsX6_putInOrder { frames := 1 + (d + 1), cells := mc, slots := ms, locals := 21 + 26 * (d + 1) }).room s m args below meth c Q A D 7 c0 s0 76 [(0, .ref (ad 3)), (1, .int x1), (2, .int x2), (3, .int x3), (4, .int x4), (5, .int x5)] [] (cc_w cI cP cII (va_up ad 33 b) pr g ++ R) := by
  unfold cl6_putInOrder_b76 at h
  refine dl_iinc (pc := 76) C 5 (fun v1 => [(5, .int v1), (0, .ref (ad 3)), (1, .int x1), (2, .int x2), (3, .int x3), (4, .int x4)]) dX6_putInOrder_76 rfl rfl (by decide) (fun _ => rfl) h (fun v1 h => ?_)
  refine dl_goto (pc := 79) C 20 dX6_putInOrder_79 (by decide) ?_
  refine dl_sub [1, 2, 3, 4, 5, 0] rfl ?_
  exact hk20 _ _ _ _ _ _ _ _ _ he h
set_option maxHeartbeats 4000000 in
set_option maxRecDepth 100000 in
theorem cl6_putInOrder_m20 (N : Nat) {rec : dl_Sg → Int32 → Int32 → Int32 → Option dl_Sg} (hrm : ∀ (g : dl_Sg) (x1 x2 x3 : Int32) (g1 : dl_Sg), rec g x1 x2 x3 = some g1 → dl_al g ≤ dl_al g1) {g0 : dl_Sg} : ∀ (n : Nat) (x1 : Int32) (x2 : Int32) (x3 : Int32) (x4 : Int32) (x5 : Int32) (g : dl_Sg), cl6_putInOrder_b20 N rec n x1 x2 x3 x4 x5 g = some g0 → dl_al g ≤ dl_al g0 := by
  intro n
  induction n with
  | zero => exact fun _ _ _ _ _ _ h => absurd (show (none : Option dl_Sg) = some _ from h) (by intro q; cases q)
  | succ n im =>
    intro x1 x2 x3 x4 x5 g h
    rw [cl6_putInOrder_b20] at h
    by_cases q9 : x2 ≤ x5
    · rw [if_pos q9] at h
      obtain ⟨g1, h1, h⟩ := dl_bi_some h
      refine Nat.le_trans (hrm _ _ _ _ _ h1) ?_
      obtain ⟨g2, h1, h⟩ := dl_bi_some h
      refine Nat.le_trans (hrm _ _ _ _ _ h1) ?_
      exact Nat.le_of_eq (congrArg dl_al (Option.some.inj h))
    · rw [if_neg q9] at h
      obtain ⟨-, h⟩ := dl_gd_some h
      obtain ⟨r3, -, h⟩ := dl_bi_some h
      by_cases q8 : r3 = (1 : Int32)
      · rw [if_pos q8] at h
        obtain ⟨-, h⟩ := dl_gd_some h
        obtain ⟨v4, h, -⟩ := dl_nm_some h
        obtain ⟨-, h⟩ := dl_gd_some h
        obtain ⟨-, h⟩ := dl_gd_some h
        obtain ⟨g5, h, hg⟩ := dl_nm_some h
        have ea : dl_al g5 = dl_al g := by rw [hg]; rfl
        rw [← ea]
        clear hg ea
        obtain ⟨-, h⟩ := dl_gd_some h
        obtain ⟨g6, h, hg⟩ := dl_nm_some h
        have ea : dl_al g6 = dl_al g5 := by rw [hg]; rfl
        rw [← ea]
        clear hg ea
        obtain ⟨v7, h, -⟩ := dl_nm_some h
        exact cl6_putInOrder_m76 N hrm im  _ _ _ _ _ _ h
      · rw [if_neg q8] at h
        exact cl6_putInOrder_m76 N hrm im  _ _ _ _ _ _ h
set_option maxHeartbeats 4000000 in
set_option maxRecDepth 100000 in
theorem cl6_putInOrder_t20 {p : Program} {e : Env} {s : State} {m : MethodId} {args : Array Value} {below : List Frame} {meth : Method} {c : Code} {Q : State → Prop} {A : Nat → Prop} (l : Launch) (D : va_G) (cI cP cII : ClassId) (TY : dl_TY) (hTY : TY[0]? = some (cI, .int)) (N : Nat) (ad : Nat → Nat) (pr : Nat → Option Nat) (R : va_W) (d : Nat) {rec : dl_Sg → Int32 → Int32 → Int32 → Option dl_Sg} (hrec : ∀ (b : Nat) (g : dl_Sg) (x1 x2 x3 : Int32) (g1 : dl_Sg), rec g x1 x2 x3 = some g1 → dl_CtV l D TY cc_nw yX6_putInOrder wsX6_putInOrder { frames := 1 + d, cells := dl_al g1 - dl_al g, slots := 2 * (dl_al g1 - dl_al g), locals := 21 + 26 * d } (dl_al g1 - dl_al g) (2 * (dl_al g1 - dl_al g)) [.ref (ad 3), .int x1, .int x2, .int x3] (cc_w cI cP cII (va_up ad 33 b) pr g ++ R) (fun u => ∃ b1, u = cc_w cI cP cII (va_up ad 33 b1) pr g1 ++ R)) (hrm : ∀ (g : dl_Sg) (x1 x2 x3 : Int32) (g1 : dl_Sg), rec g x1 x2 x3 = some g1 → dl_al g ≤ dl_al g1) {g0 : dl_Sg} (mc ms : Nat) (C : dl_Cx p s m args c A D TY cc_nw cX6_putInOrder 7 yX6_putInOrder.cls wsX6_putInOrder) (hQ : dl_RtV p l e (headSpec wsX6_putInOrder { frames := 1 + (d + 1), cells := mc, slots := ms, locals := 21 + 26 * (d + 1) }).room s m args below meth c Q A D cX6_putInOrder 7 mc ms (fun u => ∃ b1, u = cc_w cI cP cII (va_up ad 33 b1) pr g0 ++ R)) : ∀ (n : Nat) (x1 : Int32) (x2 : Int32) (x3 : Int32) (x4 : Int32) (x5 : Int32) (b : Nat) (g : dl_Sg) (c0 s0 : Nat), c0 + (dl_al g0 - dl_al g) ≤ mc ∧ s0 + 2 * (dl_al g0 - dl_al g) ≤ ms → cl6_putInOrder_b20 N rec n x1 x2 x3 x4 x5 g = some g0 → dl_At p l e (headSpec wsX6_putInOrder { frames := 1 + (d + 1), cells := mc, slots := ms, locals := 21 + 26 * (d + 1) }).room s m args below meth c Q A D 7 c0 s0 20 [(0, .ref (ad 3)), (1, .int x1), (2, .int x2), (3, .int x3), (4, .int x4), (5, .int x5)] [] (cc_w cI cP cII (va_up ad 33 b) pr g ++ R) := by
  intro n
  induction n with
  | zero => exact fun _ _ _ _ _ _ _ _ _ _ h => absurd (show (none : Option dl_Sg) = some _ from h) (by intro q; cases q)
  | succ n ih =>
    intro x1 x2 x3 x4 x5 b g c0 s0 he h
    have im := cl6_putInOrder_m20 (g0 := g0) N hrm n
    rw [cl6_putInOrder_b20] at h
    refine dl_iload (pc := 20) C 5 dX6_putInOrder_20 rfl ?_
    refine dl_iload_n (pc := 22) C 2 dX6_putInOrder_22 rfl rfl ?_
    refine dl_icmp_ge (pc := 23) C 82 dX6_putInOrder_23 (by decide) h (fun q9 h => ?_) (fun q9 h => ?_)
    · refine dl_aload_n (pc := 82) C 0 dX6_putInOrder_82 rfl rfl ?_
      refine dl_iload_n (pc := 83) C 1 dX6_putInOrder_83 rfl rfl ?_
      refine dl_iload (pc := 84) C 4 dX6_putInOrder_84 rfl ?_
      refine dl_iload_n (pc := 86) C 3 dX6_putInOrder_86 rfl rfl ?_
      refine dl_iconst (pc := 87) C 1 dX6_putInOrder_87 (by decide) ?_
      refine dl_iadd (pc := 88) C dX6_putInOrder_88 ?_
      obtain ⟨g1, h1, h⟩ := dl_bi_some h
      have hm1 : dl_al g ≤ dl_al g1 := hrm _ _ _ _ _ h1
      have hm2 : dl_al g1 ≤ dl_al g0 := by
        obtain ⟨g2, h1, h⟩ := dl_bi_some h
        refine Nat.le_trans (hrm _ _ _ _ _ h1) ?_
        exact Nat.le_of_eq (congrArg dl_al (Option.some.inj h))
      refine dl_vV (pc := 89) C (hrec _ _ _ _ _ _ h1) (cwV 3 C.2.2.2.2.1 gX6_putInOrder_X6_putInOrder rfl rfl rfl (by decide +kernel) ⟨by show 1 + d + 1 ≤ 1 + (d + 1); omega, by show 8 + (7 + 11) + (21 + 26 * d) ≤ 21 + 26 * (d + 1); omega⟩) 3 6 cc_a3 rfl rfl rfl (Nat.le_of_ble_eq_true rfl) dX6_putInOrder_89 (dl_bud he hm1 hm2) (fun u hp => ?_)
      obtain ⟨b, rfl⟩ := hp
      have he := dl_bud2 he hm1 hm2
      refine dl_aload_n (pc := 92) C 0 dX6_putInOrder_92 rfl rfl ?_
      refine dl_iload (pc := 93) C 4 dX6_putInOrder_93 rfl ?_
      refine dl_iload_n (pc := 95) C 2 dX6_putInOrder_95 rfl rfl ?_
      refine dl_iload_n (pc := 96) C 3 dX6_putInOrder_96 rfl rfl ?_
      refine dl_iconst (pc := 97) C 1 dX6_putInOrder_97 (by decide) ?_
      refine dl_iadd (pc := 98) C dX6_putInOrder_98 ?_
      obtain ⟨g2, h1, h⟩ := dl_bi_some h
      have hm1 : dl_al g1 ≤ dl_al g2 := hrm _ _ _ _ _ h1
      have hm2 : dl_al g2 ≤ dl_al g0 := by
        exact Nat.le_of_eq (congrArg dl_al (Option.some.inj h))
      refine dl_vV (pc := 99) C (hrec _ _ _ _ _ _ h1) (cwV 3 C.2.2.2.2.1 gX6_putInOrder_X6_putInOrder rfl rfl rfl (by decide +kernel) ⟨by show 1 + d + 1 ≤ 1 + (d + 1); omega, by show 8 + (7 + 11) + (21 + 26 * d) ≤ 21 + 26 * (d + 1); omega⟩) 3 6 cc_a3 rfl rfl rfl (Nat.le_of_ble_eq_true rfl) dX6_putInOrder_99 (dl_bud he hm1 hm2) (fun u hp => ?_)
      obtain ⟨b, rfl⟩ := hp
      have he := dl_bud2 he hm1 hm2
      refine dl_wid (Nat.le_trans (Nat.le_add_right _ _) he.1) (Nat.le_trans (Nat.le_add_right _ _) he.2) ?_
      exact hQ 102 _ _ ⟨_, by rw [Option.some.inj h]⟩ dX6_putInOrder_102
    · refine dl_aload_n (pc := 26) C 0 dX6_putInOrder_26 rfl rfl ?_
      refine dl_get (pc := 27) C hin_X6_putInOrder_X6 3 cc_a3 rfl 3 (by decide) lk_X6_putInOrder_18 rfl rfl dX6_putInOrder_27 ?_
      refine dl_iload (pc := 30) C 5 dX6_putInOrder_30 rfl ?_
      obtain ⟨h0, h⟩ := dl_gd_some h
      refine dl_iald (pc := 32) C 30 0 cc_a33 hTY h0 dX6_putInOrder_32 ?_
      refine dl_iload_n (pc := 33) C 3 dX6_putInOrder_33 rfl rfl ?_
      obtain ⟨r3, h1, h⟩ := dl_bi_some h
      refine dl_sIN0 (n := 2) (pc := 34) C (ccl11_bitAt l D TY cc_nw _ _ _ h1) ggX6_putInOrder_X11_bitAt rfl rfl rfl nk_RX6_37 (by decide +kernel) (by decide +kernel) (by decide +kernel) ⟨by show 0 + 1 ≤ 1 + (d + 1); omega, by show 8 + (2 + 11) + 0 ≤ 21 + 26 * (d + 1); omega⟩ rfl rfl (Nat.le_of_ble_eq_true rfl) dX6_putInOrder_34 ⟨Nat.le_trans (Nat.le_add_right _ _) he.1, Nat.le_trans (Nat.le_add_right _ _) he.2⟩ (fun r u hp => ?_)
      obtain ⟨rfl, hu⟩ := hp
      rw [hu]
      clear hu
      refine dl_iconst (pc := 37) C 1 dX6_putInOrder_37 (by decide) ?_
      refine dl_icmp_ne (pc := 38) C 76 dX6_putInOrder_38 (by decide) h (fun q8 h => ?_) (fun q8 h => ?_)
      · refine dl_aload_n (pc := 41) C 0 dX6_putInOrder_41 rfl rfl ?_
        refine dl_get (pc := 42) C hin_X6_putInOrder_X6 3 cc_a3 rfl 3 (by decide) lk_X6_putInOrder_18 rfl rfl dX6_putInOrder_42 ?_
        refine dl_iload (pc := 45) C 5 dX6_putInOrder_45 rfl ?_
        obtain ⟨h0, h⟩ := dl_gd_some h
        refine dl_iald (pc := 47) C 30 0 cc_a33 hTY h0 dX6_putInOrder_47 ?_
        refine dl_istore (pc := 48) C (fun v4 => [(6, .int v4), (0, .ref (ad 3)), (1, .int x1), (2, .int x2), (3, .int x3), (4, .int x4), (5, .int x5)]) dX6_putInOrder_48 (by decide) (fun _ => rfl) h (fun v4 h => ?_)
        refine dl_aload_n (pc := 50) C 1 dX6_putInOrder_50 rfl rfl ?_
        refine dl_get (pc := 51) C hin_X6_putInOrder_X6 3 cc_a3 rfl 3 (by decide) lk_X6_putInOrder_18 rfl rfl dX6_putInOrder_51 ?_
        refine dl_iload (pc := 54) C 6 dX6_putInOrder_54 rfl ?_
        refine dl_aload_n (pc := 56) C 1 dX6_putInOrder_56 rfl rfl ?_
        refine dl_get (pc := 57) C hin_X6_putInOrder_X6 3 cc_a3 rfl 3 (by decide) lk_X6_putInOrder_18 rfl rfl dX6_putInOrder_57 ?_
        refine dl_iload (pc := 60) C 5 dX6_putInOrder_60 rfl ?_
        obtain ⟨h0, h⟩ := dl_gd_some h
        refine dl_iald (pc := 62) C 30 0 cc_a33 hTY h0 dX6_putInOrder_62 ?_
        obtain ⟨h0, h⟩ := dl_gd_some h
        refine dl_iast (pc := 63) C 30 0 cc_a33 hTY h0 dX6_putInOrder_63 cc_s33 ?_
        obtain ⟨g5, h, hg⟩ := dl_nm_some h
        have ea : dl_al g5 = dl_al g := by rw [hg]; rfl
        rw [← ea] at he
        rw [← hg]
        clear hg ea
        refine dl_aload_n (pc := 64) C 1 dX6_putInOrder_64 rfl rfl ?_
        refine dl_get (pc := 65) C hin_X6_putInOrder_X6 3 cc_a3 rfl 3 (by decide) lk_X6_putInOrder_18 rfl rfl dX6_putInOrder_65 ?_
        refine dl_iload (pc := 68) C 5 dX6_putInOrder_68 rfl ?_
        refine dl_iload (pc := 70) C 0 dX6_putInOrder_70 rfl ?_
        obtain ⟨h0, h⟩ := dl_gd_some h
        refine dl_iast (pc := 72) C 30 0 cc_a33 hTY h0 dX6_putInOrder_72 cc_s33 ?_
        obtain ⟨g6, h, hg⟩ := dl_nm_some h
        have ea : dl_al g6 = dl_al g5 := by rw [hg]; rfl
        rw [← ea] at he
        rw [← hg]
        clear hg ea
        refine dl_iinc (pc := 73) C 5 (fun v7 => [(4, .int v7), (6, .int v4), (0, .ref (ad 3)), (1, .int x1), (2, .int x2), (3, .int x3), (5, .int x5)]) dX6_putInOrder_73 rfl rfl (by decide) (fun _ => rfl) h (fun v7 h => ?_)
        refine dl_sub [2, 3, 4, 5, 0, 6] rfl ?_
        exact cl6_putInOrder_t76 l D cI cP cII TY hTY N ad pr R d hrec hrm _ _ C hQ ih im  _ _ _ _ _ _ _ _ _ he h
      · refine dl_sub [0, 1, 2, 3, 4, 5] rfl ?_
        exact cl6_putInOrder_t76 l D cI cP cII TY hTY N ad pr R d hrec hrm _ _ C hQ ih im  _ _ _ _ _ _ _ _ _ he h
set_option maxHeartbeats 4000000 in
set_option maxRecDepth 100000 in
theorem cl6_putInOrder_me (N : Nat) {rec : dl_Sg → Int32 → Int32 → Int32 → Option dl_Sg} (hrm : ∀ (g : dl_Sg) (x1 x2 x3 : Int32) (g1 : dl_Sg), rec g x1 x2 x3 = some g1 → dl_al g ≤ dl_al g1) (g : dl_Sg) (x1 : Int32) (x2 : Int32) (x3 : Int32) {g0 : dl_Sg} (h : cl6_putInOrder_e N rec g x1 x2 x3 = some g0) : dl_al g ≤ dl_al g0 := by
  unfold cl6_putInOrder_e at h
  by_cases q4 : (x2 - x1) < (2 : Int32)
  · rw [if_pos q4] at h
    exact Nat.le_of_eq (congrArg dl_al (Option.some.inj h))
  · rw [if_neg q4] at h
    by_cases q3 : x3 < (16 : Int32)
    · rw [if_pos q3] at h
      obtain ⟨v1, h, -⟩ := dl_nm_some h
      obtain ⟨v2, h, -⟩ := dl_nm_some h
      exact cl6_putInOrder_m20 N hrm N _ _ _ _ _ _ h
    · rw [if_neg q3] at h
      exact Nat.le_of_eq (congrArg dl_al (Option.some.inj h))
set_option maxHeartbeats 4000000 in
set_option maxRecDepth 100000 in
theorem ccl6_putInOrder_e (l : Launch) (D : va_G) (cI cP cII : ClassId) (TY : dl_TY) (hTY : TY[0]? = some (cI, .int)) (N : Nat) (ad : Nat → Nat) (pr : Nat → Option Nat) (R : va_W) (d : Nat) {rec : dl_Sg → Int32 → Int32 → Int32 → Option dl_Sg} (hrec : ∀ (b : Nat) (g : dl_Sg) (x1 x2 x3 : Int32) (g1 : dl_Sg), rec g x1 x2 x3 = some g1 → dl_CtV l D TY cc_nw yX6_putInOrder wsX6_putInOrder { frames := 1 + d, cells := dl_al g1 - dl_al g, slots := 2 * (dl_al g1 - dl_al g), locals := 21 + 26 * d } (dl_al g1 - dl_al g) (2 * (dl_al g1 - dl_al g)) [.ref (ad 3), .int x1, .int x2, .int x3] (cc_w cI cP cII (va_up ad 33 b) pr g ++ R) (fun u => ∃ b1, u = cc_w cI cP cII (va_up ad 33 b1) pr g1 ++ R)) (hrm : ∀ (g : dl_Sg) (x1 x2 x3 : Int32) (g1 : dl_Sg), rec g x1 x2 x3 = some g1 → dl_al g ≤ dl_al g1) (b : Nat) (g : dl_Sg) (x1 : Int32) (x2 : Int32) (x3 : Int32) {g0 : dl_Sg} (h : cl6_putInOrder_e N rec g x1 x2 x3 = some g0) : dl_CtV l D TY cc_nw yX6_putInOrder wsX6_putInOrder { frames := 1 + (d + 1), cells := dl_al g0 - dl_al g, slots := 2 * (dl_al g0 - dl_al g), locals := 21 + 26 * (d + 1) } (dl_al g0 - dl_al g) (2 * (dl_al g0 - dl_al g)) [.ref (ad 3), .int x1, .int x2, .int x3] (cc_w cI cP cII (va_up ad 33 b) pr g ++ R) (fun u => ∃ b1, u = cc_w cI cP cII (va_up ad 33 b1) pr g0 ++ R) := by
  refine dl_metV [(0, .ref (ad 3)), (1, .int x1), (2, .int x2), (3, .int x3)] (by decide) rfl (Nat.le_of_ble_eq_true rfl) rfl ?_
  intro p e s m args below meth c Q A C hQ
  unfold cl6_putInOrder_e at h
  generalize hmc : dl_al g0 - dl_al g = mc at hQ ⊢
  generalize hms : 2 * mc = ms at hQ ⊢
  have he : 0 + (dl_al g0 - dl_al g) ≤ mc ∧ 0 + 2 * (dl_al g0 - dl_al g) ≤ ms := ⟨by omega, by omega⟩
  refine dl_iload_n (pc := 0) C 2 dX6_putInOrder_0 rfl rfl ?_
  refine dl_iload_n (pc := 1) C 1 dX6_putInOrder_1 rfl rfl ?_
  refine dl_isub (pc := 2) C dX6_putInOrder_2 ?_
  refine dl_iconst (pc := 3) C 2 dX6_putInOrder_3 (by decide) ?_
  refine dl_icmp_lt (pc := 4) C 13 dX6_putInOrder_4 (by decide) h (fun q4 h => ?_) (fun q4 h => ?_)
  · refine dl_wid (Nat.le_trans (Nat.le_add_right _ _) he.1) (Nat.le_trans (Nat.le_add_right _ _) he.2) ?_
    exact hQ 13 _ _ ⟨_, by rw [Option.some.inj h]⟩ dX6_putInOrder_13
  · refine dl_iload_n (pc := 7) C 3 dX6_putInOrder_7 rfl rfl ?_
    refine dl_bipush (pc := 8) C 16 dX6_putInOrder_8 (by decide) ?_
    refine dl_icmp_lt (pc := 10) C 14 dX6_putInOrder_10 (by decide) h (fun q3 h => ?_) (fun q3 h => ?_)
    · refine dl_iload_n (pc := 14) C 1 dX6_putInOrder_14 rfl rfl ?_
      refine dl_istore (pc := 15) C (fun v1 => [(4, .int v1), (0, .ref (ad 3)), (1, .int x1), (2, .int x2), (3, .int x3)]) dX6_putInOrder_15 (by decide) (fun _ => rfl) h (fun v1 h => ?_)
      refine dl_iload_n (pc := 17) C 2 dX6_putInOrder_17 rfl rfl ?_
      refine dl_istore (pc := 18) C (fun v2 => [(5, .int v2), (4, .int v1), (0, .ref (ad 3)), (1, .int x1), (2, .int x2), (3, .int x3)]) dX6_putInOrder_18 (by decide) (fun _ => rfl) h (fun v2 h => ?_)
      refine dl_sub [2, 3, 4, 5, 1, 0] rfl ?_
      exact cl6_putInOrder_t20 l D cI cP cII TY hTY N ad pr R d hrec hrm _ _ C hQ N _ _ _ _ _ _ _ _ _ he h
    · refine dl_wid (Nat.le_trans (Nat.le_add_right _ _) he.1) (Nat.le_trans (Nat.le_add_right _ _) he.2) ?_
      exact hQ 13 _ _ ⟨_, by rw [Option.some.inj h]⟩ dX6_putInOrder_13
set_option maxHeartbeats 4000000 in
set_option maxRecDepth 100000 in
theorem cl6_putInOrder_m (N : Nat) : ∀ (d : Nat) (g : dl_Sg) (x1 x2 x3 : Int32) (g0 : dl_Sg), cl6_putInOrder N d g x1 x2 x3 = some g0 → dl_al g ≤ dl_al g0 := by
  intro d
  induction d with
  | zero => exact fun _ _ _ _ _ h => absurd (show (none : Option dl_Sg) = some _ from h) (by intro q; cases q)
  | succ d ih =>
    intro g x1 x2 x3 g0 h
    rw [cl6_putInOrder] at h
    exact cl6_putInOrder_me N ih g x1 x2 x3 h
set_option maxHeartbeats 4000000 in
set_option maxRecDepth 100000 in
theorem ccl6_putInOrder (l : Launch) (D : va_G) (cI cP cII : ClassId) (TY : dl_TY) (hTY : TY[0]? = some (cI, .int)) (N : Nat) (ad : Nat → Nat) (pr : Nat → Option Nat) (R : va_W) : ∀ (d : Nat) (b : Nat) (g : dl_Sg) (x1 x2 x3 : Int32) (g0 : dl_Sg), cl6_putInOrder N d g x1 x2 x3 = some g0 → dl_CtV l D TY cc_nw yX6_putInOrder wsX6_putInOrder { frames := 1 + d, cells := dl_al g0 - dl_al g, slots := 2 * (dl_al g0 - dl_al g), locals := 21 + 26 * d } (dl_al g0 - dl_al g) (2 * (dl_al g0 - dl_al g)) [.ref (ad 3), .int x1, .int x2, .int x3] (cc_w cI cP cII (va_up ad 33 b) pr g ++ R) (fun u => ∃ b1, u = cc_w cI cP cII (va_up ad 33 b1) pr g0 ++ R) := by
  intro d
  induction d with
  | zero => exact fun _ _ _ _ _ _ h => absurd (show (none : Option dl_Sg) = some _ from h) (by intro q; cases q)
  | succ d ih =>
    intro b g x1 x2 x3 g0 h
    rw [cl6_putInOrder] at h
    exact ccl6_putInOrder_e l D cI cP cII TY hTY N ad pr R d ih (cl6_putInOrder_m N d) b g x1 x2 x3 h
def cl6_grow_b163 (N : Nat) (rec : dl_Sg → Int32 → Int32 → Int32 → Int32 → Int32 → Int32 → Option dl_Sg) (k37 : Int32 → Int32 → Int32 → Int32 → Int32 → Int32 → Int32 → dl_Sg → Option dl_Sg) (x1 : Int32) (x2 : Int32) (x4 : Int32) (x5 : Int32) (x6 : Int32) (x7 : Int32) (x8 : Int32) (g : dl_Sg) : Option dl_Sg :=
    dl_nm (x8 + 1) fun v1 =>
    k37 x1 x2 x4 x5 x6 x7 v1 g
def cl6_grow_b37 (N : Nat) (rec : dl_Sg → Int32 → Int32 → Int32 → Int32 → Int32 → Int32 → Option dl_Sg) : Nat → Int32 → Int32 → Int32 → Int32 → Int32 → Int32 → Int32 → dl_Sg → Option dl_Sg
  | 0, _, _, _, _, _, _, _, _ => none
  | n + 1, x1, x2, x4, x5, x6, x7, x8, g =>
    if (16 : Int32) ≤ x8 then (
    some g)
    else (
    if x7 = 0 then (
    some g)
    else (
    dl_bi (jd_numberOfTrailingZeros x7) fun r1 =>
    dl_nm r1 fun v2 =>
    dl_nm (x7 &&& (((1 : Int32) <<< (v2 &&& 31)) ^^^ (-1 : Int32))) fun v3 =>
    dl_gd (dl_in v2 16) (
    dl_nm ((g 16 v2.toNatClampNeg) &&& (x2 ^^^ (-1 : Int32))) fun v4 =>
    if v4 = 0 then (
    cl6_grow_b163 N rec (cl6_grow_b37 N rec n) x1 x2 x4 x5 x6 v3 x8 g)
    else (
    dl_bi (jd_numberOfTrailingZeros v4) fun r5 =>
    dl_nm r5 fun v6 =>
    dl_gd (dl_in v6 10) (
    dl_gd (dl_in v2 16) (
    dl_gd (dl_in v6 10) (
    dl_gd (dl_in v6 10) (
    dl_bi (rec g (x1 ||| ((1 : Int32) <<< (v2 &&& 31))) (x2 ||| v4) (v3 ||| (g 12 v6.toNatClampNeg)) ((x4 + (g 15 v2.toNatClampNeg)) + (g 10 v6.toNatClampNeg)) (x5 + (g 11 v6.toNatClampNeg)) (x6 + (1 : Int32))) fun g7 =>
    cl6_grow_b163 N rec (cl6_grow_b37 N rec n) x1 x2 x4 x5 x6 v3 x8 g7))))))))
def cl6_grow_b31 (N : Nat) (rec : dl_Sg → Int32 → Int32 → Int32 → Int32 → Int32 → Int32 → Option dl_Sg) (x1 : Int32) (x2 : Int32) (x3 : Int32) (x4 : Int32) (x5 : Int32) (x6 : Int32) (g : dl_Sg) : Option dl_Sg :=
    dl_nm x3 fun v1 =>
    dl_nm (0 : Int32) fun v2 =>
    cl6_grow_b37 N rec N x1 x2 x4 x5 x6 v1 v2 g
def cl6_grow_e (N : Nat) (rec : dl_Sg → Int32 → Int32 → Int32 → Int32 → Int32 → Int32 → Option dl_Sg) (g : dl_Sg) (x1 : Int32) (x2 : Int32) (x3 : Int32) (x4 : Int32) (x5 : Int32) (x6 : Int32) : Option dl_Sg :=
    if x6 < (10 : Int32) then (
    if ((g 1 12) &&& (x2 ^^^ (-1 : Int32))) = 0 then (
    dl_bi (cl6_weigh g x1 x4 x5) fun g1 =>
    cl6_grow_b31 N rec x1 x2 x3 x4 x5 x6 g1)
    else (
    cl6_grow_b31 N rec x1 x2 x3 x4 x5 x6 g))
    else (
    some g)
def cl6_grow (N : Nat) : Nat → dl_Sg → Int32 → Int32 → Int32 → Int32 → Int32 → Int32 → Option dl_Sg
  | 0, _, _, _, _, _, _, _ => none
  | d + 1, g, x1, x2, x3, x4, x5, x6 => cl6_grow_e N (cl6_grow N d) g x1 x2 x3 x4 x5 x6
theorem hin_X6_grow_X2 : ∀ w ∈ u_ws RX2 TX2 18, w ∈ wsX6_grow := fun _ h => List.mem_cons_of_mem _ (List.mem_append_right _ h)
theorem hin_X6_grow_X6 : ∀ w ∈ u_ws RX6 TX6 9, w ∈ wsX6_grow := fun _ h => List.mem_cons_of_mem _ (List.mem_append_left _ (List.mem_append_right _ h))
theorem lk_X6_grow_25 : Cond.fieldLink (yX6_grow).cls 25 "DripLines$Trees" (TX6 0).2.1 (TX6 0).2.2.1 ∈ wsX6_grow := by decide +kernel
set_option maxHeartbeats 4000000 in
set_option maxRecDepth 100000 in
theorem cl6_grow_m163 (N : Nat) {rec : dl_Sg → Int32 → Int32 → Int32 → Int32 → Int32 → Int32 → Option dl_Sg} (hrm : ∀ (g : dl_Sg) (x1 x2 x3 x4 x5 x6 : Int32) (g1 : dl_Sg), rec g x1 x2 x3 x4 x5 x6 = some g1 → dl_al g ≤ dl_al g1) {g0 : dl_Sg} {k37 : Int32 → Int32 → Int32 → Int32 → Int32 → Int32 → Int32 → dl_Sg → Option dl_Sg} (hm37 : ∀ (x1 : Int32) (x2 : Int32) (x4 : Int32) (x5 : Int32) (x6 : Int32) (x7 : Int32) (x8 : Int32) (g : dl_Sg), k37 x1 x2 x4 x5 x6 x7 x8 g = some g0 → dl_al g ≤ dl_al g0) (x1 : Int32) (x2 : Int32) (x4 : Int32) (x5 : Int32) (x6 : Int32) (x7 : Int32) (x8 : Int32) (g : dl_Sg) (h : cl6_grow_b163 N rec k37 x1 x2 x4 x5 x6 x7 x8 g = some g0) : dl_al g ≤ dl_al g0 := by
  unfold cl6_grow_b163 at h
  obtain ⟨v1, h, -⟩ := dl_nm_some h
  exact hm37 _ _ _ _ _ _ _ _ h
set_option maxHeartbeats 4000000 in
set_option maxRecDepth 100000 in
theorem cl6_grow_t163 {p : Program} {e : Env} {s : State} {m : MethodId} {args : Array Value} {below : List Frame} {meth : Method} {c : Code} {Q : State → Prop} {A : Nat → Prop} (l : Launch) (D : va_G) (cI cP cII : ClassId) (TY : dl_TY) (hTY : TY[0]? = some (cI, .int)) (N : Nat) (ad : Nat → Nat) (pr : Nat → Option Nat) (R : va_W) (d : Nat) {rec : dl_Sg → Int32 → Int32 → Int32 → Int32 → Int32 → Int32 → Option dl_Sg} (hrec : ∀ (b : Nat) (g : dl_Sg) (x1 x2 x3 x4 x5 x6 : Int32) (g1 : dl_Sg), rec g x1 x2 x3 x4 x5 x6 = some g1 → dl_CtV l D TY cc_nw yX6_grow wsX6_grow { frames := 4 + d, cells := dl_al g1 - dl_al g, slots := 2 * (dl_al g1 - dl_al g), locals := 127 + 31 * d } (dl_al g1 - dl_al g) (2 * (dl_al g1 - dl_al g)) [.ref (ad 3), .int x1, .int x2, .int x3, .int x4, .int x5, .int x6] (cc_w cI cP cII (va_up ad 33 b) pr g ++ R) (fun u => ∃ b1, u = cc_w cI cP cII (va_up ad 33 b1) pr g1 ++ R)) (hrm : ∀ (g : dl_Sg) (x1 x2 x3 x4 x5 x6 : Int32) (g1 : dl_Sg), rec g x1 x2 x3 x4 x5 x6 = some g1 → dl_al g ≤ dl_al g1) {g0 : dl_Sg} (mc ms : Nat) (C : dl_Cx p s m args c A D TY cc_nw cX6_grow 12 yX6_grow.cls wsX6_grow) (hQ : dl_RtV p l e (headSpec wsX6_grow { frames := 4 + (d + 1), cells := mc, slots := ms, locals := 127 + 31 * (d + 1) }).room s m args below meth c Q A D cX6_grow 12 mc ms (fun u => ∃ b1, u = cc_w cI cP cII (va_up ad 33 b1) pr g0 ++ R)) {k37 : Int32 → Int32 → Int32 → Int32 → Int32 → Int32 → Int32 → dl_Sg → Option dl_Sg} (hk37 : ∀ (x1 : Int32) (x2 : Int32) (x4 : Int32) (x5 : Int32) (x6 : Int32) (x7 : Int32) (x8 : Int32) (b : Nat) (g : dl_Sg) (c0 s0 : Nat), c0 + (dl_al g0 - dl_al g) ≤ mc ∧ s0 + 2 * (dl_al g0 - dl_al g) ≤ ms → k37 x1 x2 x4 x5 x6 x7 x8 g = some g0 → dl_At p l e (headSpec wsX6_grow { frames := 4 + (d + 1), cells := mc, slots := ms, locals := 127 + 31 * (d + 1) }).room s m args below meth c Q A D 12 c0 s0 37 [(0, .ref (ad 3)), (1, .int x1), (2, .int x2), (4, .int x4), (5, .int x5), (6, .int x6), (7, .int x7), (8, .int x8)] [] (cc_w cI cP cII (va_up ad 33 b) pr g ++ R)) (hm37 : ∀ (x1 : Int32) (x2 : Int32) (x4 : Int32) (x5 : Int32) (x6 : Int32) (x7 : Int32) (x8 : Int32) (g : dl_Sg), k37 x1 x2 x4 x5 x6 x7 x8 g = some g0 → dl_al g ≤ dl_al g0) (x1 : Int32) (x2 : Int32) (x4 : Int32) (x5 : Int32) (x6 : Int32) (x7 : Int32) (x8 : Int32) (b : Nat) (g : dl_Sg) (c0 s0 : Nat) (he : c0 + (dl_al g0 - dl_al g) ≤ mc ∧ s0 + 2 * (dl_al g0 - dl_al g) ≤ ms) (h : cl6_grow_b163 N rec k37 x1 x2 x4 x5 x6 x7 x8 g = some g0) : dl_At p l e (headSpec wsX6_grow { frames := 4 + (d + 1), cells := mc, slots := ms, locals := 127 + 31 * (d + 1) }).room s m args below meth c Q A D 12 c0 s0 163 [(0, .ref (ad 3)), (1, .int x1), (2, .int x2), (4, .int x4), (5, .int x5), (6, .int x6), (7, .int x7), (8, .int x8)] [] (cc_w cI cP cII (va_up ad 33 b) pr g ++ R) := by
  unfold cl6_grow_b163 at h
  refine dl_iinc (pc := 163) C 7 (fun v1 => [(8, .int v1), (0, .ref (ad 3)), (1, .int x1), (2, .int x2), (4, .int x4), (5, .int x5), (6, .int x6), (7, .int x7)]) dX6_grow_163 rfl rfl (by decide) (fun _ => rfl) h (fun v1 h => ?_)
  refine dl_goto (pc := 166) C 37 dX6_grow_166 (by decide) ?_
  refine dl_sub [1, 2, 3, 4, 5, 6, 7, 0] rfl ?_
  exact hk37 _ _ _ _ _ _ _ _ _ _ _ he h
set_option maxHeartbeats 4000000 in
set_option maxRecDepth 100000 in
theorem cl6_grow_m37 (N : Nat) {rec : dl_Sg → Int32 → Int32 → Int32 → Int32 → Int32 → Int32 → Option dl_Sg} (hrm : ∀ (g : dl_Sg) (x1 x2 x3 x4 x5 x6 : Int32) (g1 : dl_Sg), rec g x1 x2 x3 x4 x5 x6 = some g1 → dl_al g ≤ dl_al g1) {g0 : dl_Sg} : ∀ (n : Nat) (x1 : Int32) (x2 : Int32) (x4 : Int32) (x5 : Int32) (x6 : Int32) (x7 : Int32) (x8 : Int32) (g : dl_Sg), cl6_grow_b37 N rec n x1 x2 x4 x5 x6 x7 x8 g = some g0 → dl_al g ≤ dl_al g0 := by
  intro n
  induction n with
  | zero => exact fun _ _ _ _ _ _ _ _ h => absurd (show (none : Option dl_Sg) = some _ from h) (by intro q; cases q)
  | succ n im =>
    intro x1 x2 x4 x5 x6 x7 x8 g h
    rw [cl6_grow_b37] at h
    by_cases q10 : (16 : Int32) ≤ x8
    · rw [if_pos q10] at h
      exact Nat.le_of_eq (congrArg dl_al (Option.some.inj h))
    · rw [if_neg q10] at h
      by_cases q9 : x7 = 0
      · rw [if_pos q9] at h
        exact Nat.le_of_eq (congrArg dl_al (Option.some.inj h))
      · rw [if_neg q9] at h
        obtain ⟨r1, -, h⟩ := dl_bi_some h
        obtain ⟨v2, h, -⟩ := dl_nm_some h
        obtain ⟨v3, h, -⟩ := dl_nm_some h
        obtain ⟨-, h⟩ := dl_gd_some h
        obtain ⟨v4, h, -⟩ := dl_nm_some h
        by_cases q8 : v4 = 0
        · rw [if_pos q8] at h
          exact cl6_grow_m163 N hrm im  _ _ _ _ _ _ _ _ h
        · rw [if_neg q8] at h
          obtain ⟨r5, -, h⟩ := dl_bi_some h
          obtain ⟨v6, h, -⟩ := dl_nm_some h
          obtain ⟨-, h⟩ := dl_gd_some h
          obtain ⟨-, h⟩ := dl_gd_some h
          obtain ⟨-, h⟩ := dl_gd_some h
          obtain ⟨-, h⟩ := dl_gd_some h
          obtain ⟨g7, h1, h⟩ := dl_bi_some h
          refine Nat.le_trans (hrm _ _ _ _ _ _ _ _ h1) ?_
          exact cl6_grow_m163 N hrm im  _ _ _ _ _ _ _ _ h
set_option maxHeartbeats 4000000 in
set_option maxRecDepth 100000 in
theorem cl6_grow_t37 {p : Program} {e : Env} {s : State} {m : MethodId} {args : Array Value} {below : List Frame} {meth : Method} {c : Code} {Q : State → Prop} {A : Nat → Prop} (l : Launch) (D : va_G) (cI cP cII : ClassId) (TY : dl_TY) (hTY : TY[0]? = some (cI, .int)) (N : Nat) (ad : Nat → Nat) (pr : Nat → Option Nat) (R : va_W) (d : Nat) {rec : dl_Sg → Int32 → Int32 → Int32 → Int32 → Int32 → Int32 → Option dl_Sg} (hrec : ∀ (b : Nat) (g : dl_Sg) (x1 x2 x3 x4 x5 x6 : Int32) (g1 : dl_Sg), rec g x1 x2 x3 x4 x5 x6 = some g1 → dl_CtV l D TY cc_nw yX6_grow wsX6_grow { frames := 4 + d, cells := dl_al g1 - dl_al g, slots := 2 * (dl_al g1 - dl_al g), locals := 127 + 31 * d } (dl_al g1 - dl_al g) (2 * (dl_al g1 - dl_al g)) [.ref (ad 3), .int x1, .int x2, .int x3, .int x4, .int x5, .int x6] (cc_w cI cP cII (va_up ad 33 b) pr g ++ R) (fun u => ∃ b1, u = cc_w cI cP cII (va_up ad 33 b1) pr g1 ++ R)) (hrm : ∀ (g : dl_Sg) (x1 x2 x3 x4 x5 x6 : Int32) (g1 : dl_Sg), rec g x1 x2 x3 x4 x5 x6 = some g1 → dl_al g ≤ dl_al g1) {g0 : dl_Sg} (mc ms : Nat) (C : dl_Cx p s m args c A D TY cc_nw cX6_grow 12 yX6_grow.cls wsX6_grow) (hQ : dl_RtV p l e (headSpec wsX6_grow { frames := 4 + (d + 1), cells := mc, slots := ms, locals := 127 + 31 * (d + 1) }).room s m args below meth c Q A D cX6_grow 12 mc ms (fun u => ∃ b1, u = cc_w cI cP cII (va_up ad 33 b1) pr g0 ++ R)) : ∀ (n : Nat) (x1 : Int32) (x2 : Int32) (x4 : Int32) (x5 : Int32) (x6 : Int32) (x7 : Int32) (x8 : Int32) (b : Nat) (g : dl_Sg) (c0 s0 : Nat), c0 + (dl_al g0 - dl_al g) ≤ mc ∧ s0 + 2 * (dl_al g0 - dl_al g) ≤ ms → cl6_grow_b37 N rec n x1 x2 x4 x5 x6 x7 x8 g = some g0 → dl_At p l e (headSpec wsX6_grow { frames := 4 + (d + 1), cells := mc, slots := ms, locals := 127 + 31 * (d + 1) }).room s m args below meth c Q A D 12 c0 s0 37 [(0, .ref (ad 3)), (1, .int x1), (2, .int x2), (4, .int x4), (5, .int x5), (6, .int x6), (7, .int x7), (8, .int x8)] [] (cc_w cI cP cII (va_up ad 33 b) pr g ++ R) := by
  intro n
  induction n with
  | zero => exact fun _ _ _ _ _ _ _ _ _ _ _ _ h => absurd (show (none : Option dl_Sg) = some _ from h) (by intro q; cases q)
  | succ n ih =>
    intro x1 x2 x4 x5 x6 x7 x8 b g c0 s0 he h
    have im := cl6_grow_m37 (g0 := g0) N hrm n
    rw [cl6_grow_b37] at h
    refine dl_iload (pc := 37) C 7 dX6_grow_37 rfl ?_
    refine dl_bipush (pc := 39) C 16 dX6_grow_39 (by decide) ?_
    refine dl_icmp_ge (pc := 41) C 169 dX6_grow_41 (by decide) h (fun q10 h => ?_) (fun q10 h => ?_)
    · refine dl_wid (Nat.le_trans (Nat.le_add_right _ _) he.1) (Nat.le_trans (Nat.le_add_right _ _) he.2) ?_
      exact hQ 169 _ _ ⟨_, by rw [Option.some.inj h]⟩ dX6_grow_169
    · refine dl_iload (pc := 44) C 6 dX6_grow_44 rfl ?_
      refine dl_if_eq (pc := 46) C 169 dX6_grow_46 (by decide) h (fun q9 h => ?_) (fun q9 h => ?_)
      · refine dl_wid (Nat.le_trans (Nat.le_add_right _ _) he.1) (Nat.le_trans (Nat.le_add_right _ _) he.2) ?_
        exact hQ 169 _ _ ⟨_, by rw [Option.some.inj h]⟩ dX6_grow_169
      · refine dl_iload (pc := 49) C 6 dX6_grow_49 rfl ?_
        obtain ⟨r1, h1, h⟩ := dl_bi_some h
        refine dl_sI0 (pc := 51) C (cjd_numberOfTrailingZeros l D TY cc_nw _ _ h1) (va_cwS 1 C.2.2.2.2.1 gX6_grow_J6_numberOfTrailingZeros_0f7a4 rfl rfl rfl (by decide +kernel) ⟨by show 0 + 1 ≤ 4 + (d + 1); omega, by show 8 + (2 + 11) + 0 ≤ 127 + 31 * (d + 1); omega⟩) rfl rfl (Nat.le_of_ble_eq_true rfl) dX6_grow_51 ⟨Nat.le_trans (Nat.le_add_right _ _) he.1, Nat.le_trans (Nat.le_add_right _ _) he.2⟩ (fun r u hp => ?_)
        obtain ⟨rfl, hu⟩ := hp
        rw [hu]
        clear hu
        refine dl_istore (pc := 54) C (fun v2 => [(9, .int v2), (0, .ref (ad 3)), (1, .int x1), (2, .int x2), (4, .int x4), (5, .int x5), (6, .int x6), (7, .int x7), (8, .int x8)]) dX6_grow_54 (by decide) (fun _ => rfl) h (fun v2 h => ?_)
        refine dl_iload (pc := 56) C 7 dX6_grow_56 rfl ?_
        refine dl_iconst (pc := 58) C 1 dX6_grow_58 (by decide) ?_
        refine dl_iload (pc := 59) C 0 dX6_grow_59 rfl ?_
        refine dl_ishl (pc := 61) C dX6_grow_61 ?_
        refine dl_iconst (pc := 62) C (-1) dX6_grow_62 (by decide) ?_
        refine dl_ixor (pc := 63) C dX6_grow_63 ?_
        refine dl_iand (pc := 64) C dX6_grow_64 ?_
        refine dl_istore (pc := 65) C (fun v3 => [(7, .int v3), (9, .int v2), (0, .ref (ad 3)), (1, .int x1), (2, .int x2), (4, .int x4), (5, .int x5), (6, .int x6), (8, .int x8)]) dX6_grow_65 (by decide) (fun _ => rfl) h (fun v3 h => ?_)
        refine dl_aload_n (pc := 67) C 2 dX6_grow_67 rfl rfl ?_
        refine dl_get (pc := 68) C hin_X6_grow_X6 3 cc_a3 rfl 0 (by decide) lk_X6_grow_25 rfl rfl dX6_grow_68 ?_
        refine dl_getN (pc := 71) C hin_X6_grow_X2 1 cc_a1 rfl 7 (by decide) nk_RX6_61 rfl rfl dX6_grow_71 ?_
        refine dl_iload (pc := 74) C 1 dX6_grow_74 rfl ?_
        obtain ⟨h0, h⟩ := dl_gd_some h
        refine dl_iald (pc := 76) C 13 0 cc_a16 hTY h0 dX6_grow_76 ?_
        refine dl_iload_n (pc := 77) C 4 dX6_grow_77 rfl rfl ?_
        refine dl_iconst (pc := 78) C (-1) dX6_grow_78 (by decide) ?_
        refine dl_ixor (pc := 79) C dX6_grow_79 ?_
        refine dl_iand (pc := 80) C dX6_grow_80 ?_
        refine dl_istore (pc := 81) C (fun v4 => [(10, .int v4), (7, .int v3), (9, .int v2), (0, .ref (ad 3)), (1, .int x1), (2, .int x2), (4, .int x4), (5, .int x5), (6, .int x6), (8, .int x8)]) dX6_grow_81 (by decide) (fun _ => rfl) h (fun v4 h => ?_)
        refine dl_iload (pc := 83) C 0 dX6_grow_83 rfl ?_
        refine dl_if_eq (pc := 85) C 163 dX6_grow_85 (by decide) h (fun q8 h => ?_) (fun q8 h => ?_)
        · refine dl_sub [3, 4, 5, 6, 7, 8, 1, 9] rfl ?_
          exact cl6_grow_t163 l D cI cP cII TY hTY N ad pr R d hrec hrm _ _ C hQ ih im  _ _ _ _ _ _ _ _ _ _ _ he h
        · refine dl_iload (pc := 88) C 0 dX6_grow_88 rfl ?_
          obtain ⟨r5, h1, h⟩ := dl_bi_some h
          refine dl_sI0 (pc := 90) C (cjd_numberOfTrailingZeros l D TY cc_nw _ _ h1) (va_cwS 1 C.2.2.2.2.1 gX6_grow_J6_numberOfTrailingZeros_0f7a4 rfl rfl rfl (by decide +kernel) ⟨by show 0 + 1 ≤ 4 + (d + 1); omega, by show 8 + (2 + 11) + 0 ≤ 127 + 31 * (d + 1); omega⟩) rfl rfl (Nat.le_of_ble_eq_true rfl) dX6_grow_90 ⟨Nat.le_trans (Nat.le_add_right _ _) he.1, Nat.le_trans (Nat.le_add_right _ _) he.2⟩ (fun r u hp => ?_)
          obtain ⟨rfl, hu⟩ := hp
          rw [hu]
          clear hu
          refine dl_istore (pc := 93) C (fun v6 => [(11, .int v6), (10, .int v4), (7, .int v3), (9, .int v2), (0, .ref (ad 3)), (1, .int x1), (2, .int x2), (4, .int x4), (5, .int x5), (6, .int x6), (8, .int x8)]) dX6_grow_93 (by decide) (fun _ => rfl) h (fun v6 h => ?_)
          refine dl_aload_n (pc := 95) C 4 dX6_grow_95 rfl rfl ?_
          refine dl_iload_n (pc := 96) C 5 dX6_grow_96 rfl rfl ?_
          refine dl_iconst (pc := 97) C 1 dX6_grow_97 (by decide) ?_
          refine dl_iload (pc := 98) C 3 dX6_grow_98 rfl ?_
          refine dl_ishl (pc := 100) C dX6_grow_100 ?_
          refine dl_ior (pc := 101) C dX6_grow_101 ?_
          refine dl_iload_n (pc := 102) C 6 dX6_grow_102 rfl rfl ?_
          refine dl_iload (pc := 103) C 1 dX6_grow_103 rfl ?_
          refine dl_ior (pc := 105) C dX6_grow_105 ?_
          refine dl_iload (pc := 106) C 2 dX6_grow_106 rfl ?_
          refine dl_aload_n (pc := 108) C 4 dX6_grow_108 rfl rfl ?_
          refine dl_get (pc := 109) C hin_X6_grow_X6 3 cc_a3 rfl 0 (by decide) lk_X6_grow_25 rfl rfl dX6_grow_109 ?_
          refine dl_getN (pc := 112) C hin_X6_grow_X2 1 cc_a1 rfl 3 (by decide) nk_RX6_81 rfl rfl dX6_grow_112 ?_
          refine dl_iload (pc := 115) C 0 dX6_grow_115 rfl ?_
          obtain ⟨h0, h⟩ := dl_gd_some h
          refine dl_iald (pc := 117) C 9 0 cc_a12 hTY h0 dX6_grow_117 ?_
          refine dl_ior (pc := 118) C dX6_grow_118 ?_
          refine dl_iload (pc := 119) C 7 dX6_grow_119 rfl ?_
          refine dl_aload_n (pc := 121) C 4 dX6_grow_121 rfl rfl ?_
          refine dl_get (pc := 122) C hin_X6_grow_X6 3 cc_a3 rfl 0 (by decide) lk_X6_grow_25 rfl rfl dX6_grow_122 ?_
          refine dl_getN (pc := 125) C hin_X6_grow_X2 1 cc_a1 rfl 6 (by decide) nk_RX6_69 rfl rfl dX6_grow_125 ?_
          refine dl_iload (pc := 128) C 3 dX6_grow_128 rfl ?_
          obtain ⟨h0, h⟩ := dl_gd_some h
          refine dl_iald (pc := 130) C 12 0 cc_a15 hTY h0 dX6_grow_130 ?_
          refine dl_iadd (pc := 131) C dX6_grow_131 ?_
          refine dl_aload_n (pc := 132) C 4 dX6_grow_132 rfl rfl ?_
          refine dl_get (pc := 133) C hin_X6_grow_X6 3 cc_a3 rfl 0 (by decide) lk_X6_grow_25 rfl rfl dX6_grow_133 ?_
          refine dl_getN (pc := 136) C hin_X6_grow_X2 1 cc_a1 rfl 1 (by decide) nk_RX6_72 rfl rfl dX6_grow_136 ?_
          refine dl_iload (pc := 139) C 0 dX6_grow_139 rfl ?_
          obtain ⟨h0, h⟩ := dl_gd_some h
          refine dl_iald (pc := 141) C 7 0 cc_a10 hTY h0 dX6_grow_141 ?_
          refine dl_iadd (pc := 142) C dX6_grow_142 ?_
          refine dl_iload (pc := 143) C 8 dX6_grow_143 rfl ?_
          refine dl_aload_n (pc := 145) C 4 dX6_grow_145 rfl rfl ?_
          refine dl_get (pc := 146) C hin_X6_grow_X6 3 cc_a3 rfl 0 (by decide) lk_X6_grow_25 rfl rfl dX6_grow_146 ?_
          refine dl_getN (pc := 149) C hin_X6_grow_X2 1 cc_a1 rfl 2 (by decide) nk_RX6_75 rfl rfl dX6_grow_149 ?_
          refine dl_iload (pc := 152) C 0 dX6_grow_152 rfl ?_
          obtain ⟨h0, h⟩ := dl_gd_some h
          refine dl_iald (pc := 154) C 8 0 cc_a11 hTY h0 dX6_grow_154 ?_
          refine dl_iadd (pc := 155) C dX6_grow_155 ?_
          refine dl_iload (pc := 156) C 9 dX6_grow_156 rfl ?_
          refine dl_iconst (pc := 158) C 1 dX6_grow_158 (by decide) ?_
          refine dl_iadd (pc := 159) C dX6_grow_159 ?_
          obtain ⟨g7, h1, h⟩ := dl_bi_some h
          have hm1 : dl_al g ≤ dl_al g7 := hrm _ _ _ _ _ _ _ _ h1
          have hm2 : dl_al g7 ≤ dl_al g0 := by
            exact cl6_grow_m163 N hrm im  _ _ _ _ _ _ _ _ h
          refine dl_vV (pc := 160) C (hrec _ _ _ _ _ _ _ _ _ h1) (cwV 6 C.2.2.2.2.1 gX6_grow_X6_grow rfl rfl rfl (by decide +kernel) ⟨by show 4 + d + 1 ≤ 4 + (d + 1); omega, by show 8 + (12 + 11) + (127 + 31 * d) ≤ 127 + 31 * (d + 1); omega⟩) 3 6 cc_a3 rfl rfl rfl (Nat.le_of_ble_eq_true rfl) dX6_grow_160 (dl_bud he hm1 hm2) (fun u hp => ?_)
          obtain ⟨b, rfl⟩ := hp
          have he := dl_bud2 he hm1 hm2
          refine dl_sub [4, 5, 6, 7, 8, 9, 2, 10] rfl ?_
          exact cl6_grow_t163 l D cI cP cII TY hTY N ad pr R d hrec hrm _ _ C hQ ih im  _ _ _ _ _ _ _ _ _ _ _ he h
set_option maxHeartbeats 4000000 in
set_option maxRecDepth 100000 in
theorem cl6_grow_m31 (N : Nat) {rec : dl_Sg → Int32 → Int32 → Int32 → Int32 → Int32 → Int32 → Option dl_Sg} (hrm : ∀ (g : dl_Sg) (x1 x2 x3 x4 x5 x6 : Int32) (g1 : dl_Sg), rec g x1 x2 x3 x4 x5 x6 = some g1 → dl_al g ≤ dl_al g1) {g0 : dl_Sg} (x1 : Int32) (x2 : Int32) (x3 : Int32) (x4 : Int32) (x5 : Int32) (x6 : Int32) (g : dl_Sg) (h : cl6_grow_b31 N rec x1 x2 x3 x4 x5 x6 g = some g0) : dl_al g ≤ dl_al g0 := by
  unfold cl6_grow_b31 at h
  obtain ⟨v1, h, -⟩ := dl_nm_some h
  obtain ⟨v2, h, -⟩ := dl_nm_some h
  exact cl6_grow_m37 N hrm N _ _ _ _ _ _ _ _ h
set_option maxHeartbeats 4000000 in
set_option maxRecDepth 100000 in
theorem cl6_grow_t31 {p : Program} {e : Env} {s : State} {m : MethodId} {args : Array Value} {below : List Frame} {meth : Method} {c : Code} {Q : State → Prop} {A : Nat → Prop} (l : Launch) (D : va_G) (cI cP cII : ClassId) (TY : dl_TY) (hTY : TY[0]? = some (cI, .int)) (N : Nat) (ad : Nat → Nat) (pr : Nat → Option Nat) (R : va_W) (d : Nat) {rec : dl_Sg → Int32 → Int32 → Int32 → Int32 → Int32 → Int32 → Option dl_Sg} (hrec : ∀ (b : Nat) (g : dl_Sg) (x1 x2 x3 x4 x5 x6 : Int32) (g1 : dl_Sg), rec g x1 x2 x3 x4 x5 x6 = some g1 → dl_CtV l D TY cc_nw yX6_grow wsX6_grow { frames := 4 + d, cells := dl_al g1 - dl_al g, slots := 2 * (dl_al g1 - dl_al g), locals := 127 + 31 * d } (dl_al g1 - dl_al g) (2 * (dl_al g1 - dl_al g)) [.ref (ad 3), .int x1, .int x2, .int x3, .int x4, .int x5, .int x6] (cc_w cI cP cII (va_up ad 33 b) pr g ++ R) (fun u => ∃ b1, u = cc_w cI cP cII (va_up ad 33 b1) pr g1 ++ R)) (hrm : ∀ (g : dl_Sg) (x1 x2 x3 x4 x5 x6 : Int32) (g1 : dl_Sg), rec g x1 x2 x3 x4 x5 x6 = some g1 → dl_al g ≤ dl_al g1) {g0 : dl_Sg} (mc ms : Nat) (C : dl_Cx p s m args c A D TY cc_nw cX6_grow 12 yX6_grow.cls wsX6_grow) (hQ : dl_RtV p l e (headSpec wsX6_grow { frames := 4 + (d + 1), cells := mc, slots := ms, locals := 127 + 31 * (d + 1) }).room s m args below meth c Q A D cX6_grow 12 mc ms (fun u => ∃ b1, u = cc_w cI cP cII (va_up ad 33 b1) pr g0 ++ R)) (x1 : Int32) (x2 : Int32) (x3 : Int32) (x4 : Int32) (x5 : Int32) (x6 : Int32) (b : Nat) (g : dl_Sg) (c0 s0 : Nat) (he : c0 + (dl_al g0 - dl_al g) ≤ mc ∧ s0 + 2 * (dl_al g0 - dl_al g) ≤ ms) (h : cl6_grow_b31 N rec x1 x2 x3 x4 x5 x6 g = some g0) : dl_At p l e (headSpec wsX6_grow { frames := 4 + (d + 1), cells := mc, slots := ms, locals := 127 + 31 * (d + 1) }).room s m args below meth c Q A D 12 c0 s0 31 [(0, .ref (ad 3)), (1, .int x1), (2, .int x2), (3, .int x3), (4, .int x4), (5, .int x5), (6, .int x6)] [] (cc_w cI cP cII (va_up ad 33 b) pr g ++ R) := by
  unfold cl6_grow_b31 at h
  refine dl_iload_n (pc := 31) C 3 dX6_grow_31 rfl rfl ?_
  refine dl_istore (pc := 32) C (fun v1 => [(7, .int v1), (0, .ref (ad 3)), (1, .int x1), (2, .int x2), (3, .int x3), (4, .int x4), (5, .int x5), (6, .int x6)]) dX6_grow_32 (by decide) (fun _ => rfl) h (fun v1 h => ?_)
  refine dl_iconst (pc := 34) C 0 dX6_grow_34 (by decide) ?_
  refine dl_istore (pc := 35) C (fun v2 => [(8, .int v2), (7, .int v1), (0, .ref (ad 3)), (1, .int x1), (2, .int x2), (3, .int x3), (4, .int x4), (5, .int x5), (6, .int x6)]) dX6_grow_35 (by decide) (fun _ => rfl) h (fun v2 h => ?_)
  refine dl_sub [2, 3, 4, 6, 7, 8, 1, 0] rfl ?_
  exact cl6_grow_t37 l D cI cP cII TY hTY N ad pr R d hrec hrm _ _ C hQ N _ _ _ _ _ _ _ _ _ _ _ he h
set_option maxHeartbeats 4000000 in
set_option maxRecDepth 100000 in
theorem cl6_grow_me (N : Nat) {rec : dl_Sg → Int32 → Int32 → Int32 → Int32 → Int32 → Int32 → Option dl_Sg} (hrm : ∀ (g : dl_Sg) (x1 x2 x3 x4 x5 x6 : Int32) (g1 : dl_Sg), rec g x1 x2 x3 x4 x5 x6 = some g1 → dl_al g ≤ dl_al g1) (g : dl_Sg) (x1 : Int32) (x2 : Int32) (x3 : Int32) (x4 : Int32) (x5 : Int32) (x6 : Int32) {g0 : dl_Sg} (h : cl6_grow_e N rec g x1 x2 x3 x4 x5 x6 = some g0) : dl_al g ≤ dl_al g0 := by
  unfold cl6_grow_e at h
  by_cases q3 : x6 < (10 : Int32)
  · rw [if_pos q3] at h
    by_cases q2 : ((g 1 12) &&& (x2 ^^^ (-1 : Int32))) = 0
    · rw [if_pos q2] at h
      obtain ⟨g1, h1, h⟩ := dl_bi_some h
      refine Nat.le_trans (cl6_weigh_me _ _ _ _ h1) ?_
      exact cl6_grow_m31 N hrm  _ _ _ _ _ _ _ h
    · rw [if_neg q2] at h
      exact cl6_grow_m31 N hrm  _ _ _ _ _ _ _ h
  · rw [if_neg q3] at h
    exact Nat.le_of_eq (congrArg dl_al (Option.some.inj h))
set_option maxHeartbeats 4000000 in
set_option maxRecDepth 100000 in
theorem ccl6_grow_e (l : Launch) (D : va_G) (cI cP cII : ClassId) (TY : dl_TY) (hTY : TY[0]? = some (cI, .int)) (N : Nat) (ad : Nat → Nat) (pr : Nat → Option Nat) (R : va_W) (d : Nat) {rec : dl_Sg → Int32 → Int32 → Int32 → Int32 → Int32 → Int32 → Option dl_Sg} (hrec : ∀ (b : Nat) (g : dl_Sg) (x1 x2 x3 x4 x5 x6 : Int32) (g1 : dl_Sg), rec g x1 x2 x3 x4 x5 x6 = some g1 → dl_CtV l D TY cc_nw yX6_grow wsX6_grow { frames := 4 + d, cells := dl_al g1 - dl_al g, slots := 2 * (dl_al g1 - dl_al g), locals := 127 + 31 * d } (dl_al g1 - dl_al g) (2 * (dl_al g1 - dl_al g)) [.ref (ad 3), .int x1, .int x2, .int x3, .int x4, .int x5, .int x6] (cc_w cI cP cII (va_up ad 33 b) pr g ++ R) (fun u => ∃ b1, u = cc_w cI cP cII (va_up ad 33 b1) pr g1 ++ R)) (hrm : ∀ (g : dl_Sg) (x1 x2 x3 x4 x5 x6 : Int32) (g1 : dl_Sg), rec g x1 x2 x3 x4 x5 x6 = some g1 → dl_al g ≤ dl_al g1) (b : Nat) (g : dl_Sg) (x1 : Int32) (x2 : Int32) (x3 : Int32) (x4 : Int32) (x5 : Int32) (x6 : Int32) {g0 : dl_Sg} (h : cl6_grow_e N rec g x1 x2 x3 x4 x5 x6 = some g0) : dl_CtV l D TY cc_nw yX6_grow wsX6_grow { frames := 4 + (d + 1), cells := dl_al g0 - dl_al g, slots := 2 * (dl_al g0 - dl_al g), locals := 127 + 31 * (d + 1) } (dl_al g0 - dl_al g) (2 * (dl_al g0 - dl_al g)) [.ref (ad 3), .int x1, .int x2, .int x3, .int x4, .int x5, .int x6] (cc_w cI cP cII (va_up ad 33 b) pr g ++ R) (fun u => ∃ b1, u = cc_w cI cP cII (va_up ad 33 b1) pr g0 ++ R) := by
  refine dl_metV [(0, .ref (ad 3)), (1, .int x1), (2, .int x2), (3, .int x3), (4, .int x4), (5, .int x5), (6, .int x6)] (by decide) rfl (Nat.le_of_ble_eq_true rfl) rfl ?_
  intro p e s m args below meth c Q A C hQ
  unfold cl6_grow_e at h
  generalize hmc : dl_al g0 - dl_al g = mc at hQ ⊢
  generalize hms : 2 * mc = ms at hQ ⊢
  have he : 0 + (dl_al g0 - dl_al g) ≤ mc ∧ 0 + 2 * (dl_al g0 - dl_al g) ≤ ms := ⟨by omega, by omega⟩
  refine dl_iload (pc := 0) C 6 dX6_grow_0 rfl ?_
  refine dl_bipush (pc := 2) C 10 dX6_grow_2 (by decide) ?_
  refine dl_icmp_lt (pc := 4) C 8 dX6_grow_4 (by decide) h (fun q3 h => ?_) (fun q3 h => ?_)
  · refine dl_aload_n (pc := 8) C 0 dX6_grow_8 rfl rfl ?_
    refine dl_get (pc := 9) C hin_X6_grow_X6 3 cc_a3 rfl 0 (by decide) lk_X6_grow_25 rfl rfl dX6_grow_9 ?_
    refine dl_getN (pc := 12) C hin_X6_grow_X2 1 cc_a1 rfl 12 (by decide) nk_RX6_55 rfl rfl dX6_grow_12 ?_
    refine dl_iload_n (pc := 15) C 2 dX6_grow_15 rfl rfl ?_
    refine dl_iconst (pc := 16) C (-1) dX6_grow_16 (by decide) ?_
    refine dl_ixor (pc := 17) C dX6_grow_17 ?_
    refine dl_iand (pc := 18) C dX6_grow_18 ?_
    refine dl_if_ne (pc := 19) C 31 dX6_grow_19 (by decide) h (fun q2 h => ?_) (fun q2 h => ?_)
    · refine dl_aload_n (pc := 22) C 0 dX6_grow_22 rfl rfl ?_
      refine dl_iload_n (pc := 23) C 1 dX6_grow_23 rfl rfl ?_
      refine dl_iload (pc := 24) C 4 dX6_grow_24 rfl ?_
      refine dl_iload (pc := 26) C 5 dX6_grow_26 rfl ?_
      obtain ⟨g1, h1, h⟩ := dl_bi_some h
      have hm1 : dl_al g ≤ dl_al g1 := cl6_weigh_me _ _ _ _ h1
      have hm2 : dl_al g1 ≤ dl_al g0 := by
        exact cl6_grow_m31 N hrm  _ _ _ _ _ _ _ h
      refine dl_vV (pc := 28) C (ccl6_weigh l D cI cP cII TY hTY ad pr R _ _ _ _ _ h1) (cwV 3 C.2.2.2.2.1 gX6_grow_X6_weigh rfl rfl rfl (by decide +kernel) ⟨by show 3 + 1 ≤ 4 + (d + 1); omega, by show 8 + (5 + 11) + 103 ≤ 127 + 31 * (d + 1); omega⟩) 3 6 cc_a3 rfl rfl rfl (Nat.le_of_ble_eq_true rfl) dX6_grow_28 (dl_bud he hm1 hm2) (fun u hp => ?_)
      obtain ⟨b, rfl⟩ := hp
      have he := dl_bud2 he hm1 hm2
      refine dl_sub [0, 1, 2, 3, 4, 5, 6] rfl ?_
      exact cl6_grow_t31 l D cI cP cII TY hTY N ad pr R d hrec hrm _ _ C hQ  _ _ _ _ _ _ _ _ _ _ he h
    · refine dl_sub [0, 1, 2, 3, 4, 5, 6] rfl ?_
      exact cl6_grow_t31 l D cI cP cII TY hTY N ad pr R d hrec hrm _ _ C hQ  _ _ _ _ _ _ _ _ _ _ he h
  · refine dl_wid (Nat.le_trans (Nat.le_add_right _ _) he.1) (Nat.le_trans (Nat.le_add_right _ _) he.2) ?_
    exact hQ 7 _ _ ⟨_, by rw [Option.some.inj h]⟩ dX6_grow_7
set_option maxHeartbeats 4000000 in
set_option maxRecDepth 100000 in
theorem cl6_grow_m (N : Nat) : ∀ (d : Nat) (g : dl_Sg) (x1 x2 x3 x4 x5 x6 : Int32) (g0 : dl_Sg), cl6_grow N d g x1 x2 x3 x4 x5 x6 = some g0 → dl_al g ≤ dl_al g0 := by
  intro d
  induction d with
  | zero => exact fun _ _ _ _ _ _ _ _ h => absurd (show (none : Option dl_Sg) = some _ from h) (by intro q; cases q)
  | succ d ih =>
    intro g x1 x2 x3 x4 x5 x6 g0 h
    rw [cl6_grow] at h
    exact cl6_grow_me N ih g x1 x2 x3 x4 x5 x6 h
set_option maxHeartbeats 4000000 in
set_option maxRecDepth 100000 in
theorem ccl6_grow (l : Launch) (D : va_G) (cI cP cII : ClassId) (TY : dl_TY) (hTY : TY[0]? = some (cI, .int)) (N : Nat) (ad : Nat → Nat) (pr : Nat → Option Nat) (R : va_W) : ∀ (d : Nat) (b : Nat) (g : dl_Sg) (x1 x2 x3 x4 x5 x6 : Int32) (g0 : dl_Sg), cl6_grow N d g x1 x2 x3 x4 x5 x6 = some g0 → dl_CtV l D TY cc_nw yX6_grow wsX6_grow { frames := 4 + d, cells := dl_al g0 - dl_al g, slots := 2 * (dl_al g0 - dl_al g), locals := 127 + 31 * d } (dl_al g0 - dl_al g) (2 * (dl_al g0 - dl_al g)) [.ref (ad 3), .int x1, .int x2, .int x3, .int x4, .int x5, .int x6] (cc_w cI cP cII (va_up ad 33 b) pr g ++ R) (fun u => ∃ b1, u = cc_w cI cP cII (va_up ad 33 b1) pr g0 ++ R) := by
  intro d
  induction d with
  | zero => exact fun _ _ _ _ _ _ _ _ _ h => absurd (show (none : Option dl_Sg) = some _ from h) (by intro q; cases q)
  | succ d ih =>
    intro b g x1 x2 x3 x4 x5 x6 g0 h
    rw [cl6_grow] at h
    exact ccl6_grow_e l D cI cP cII TY hTY N ad pr R d ih (cl6_grow_m N d) b g x1 x2 x3 x4 x5 x6 h
