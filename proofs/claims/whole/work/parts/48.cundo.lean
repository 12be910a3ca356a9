/-- the row of places below the count is as it was -/
def dl_pr (pr pr1 : Nat → Option Nat) (g : dl_Sg) : Prop := ∀ p : Nat, p < (g 1 10).toNatClampNeg → pr1 p = pr p
theorem dl_pr_rf {pr : Nat → Option Nat} {g : dl_Sg} : dl_pr pr pr g := fun _ _ => rfl
theorem dl_pr_up {pr : Nat → Option Nat} {g : dl_Sg} {o : Option Nat} : dl_pr pr (va_up pr (g 1 10).toNatClampNeg o) g := fun p h => by
  unfold va_up
  rw [if_neg (Nat.ne_of_lt h)]
theorem cc_n34 {cI cP cII : ClassId} {ad : Nat → Nat} {pr : Nat → Option Nat} {g : dl_Sg} {R : va_W} {i : Int32} {o : Option Nat} : (cc_w cI cP cII ad pr g ++ R).set 31 (ad 34, .inl (cP, 10, .inr (.inr (.inr (.inr (va_up pr i.toNatClampNeg o)))))) = cc_w cI cP cII ad (va_up pr i.toNatClampNeg o) g ++ R := rfl
theorem cl11_done_pr {pr pr1 : Nat → Option Nat} {g g0 : dl_Sg} {x r : Int32} (h : cl11_done g x = some (r, g0)) (hp : dl_pr pr pr1 g) : dl_pr pr pr1 g0 := by
  unfold cl11_done at h
  obtain ⟨g1, h, hg⟩ := dl_nm_some h
  rw [← (dl_r2 h).2, hg]
  exact hp
def cl2_removeLastPlace (g : dl_Sg) : Option dl_Sg :=
    dl_nm (dl_s2 g 1 10 ((g 1 10) - (1 : Int32))) fun g1 =>
    dl_gd (dl_in (g1 1 10) 10) (
    dl_nm (dl_s2 g1 1 12 ((g1 1 12) &&& (((1 : Int32) <<< ((g1 1 10) &&& 31)) ^^^ (-1 : Int32)))) fun g2 =>
    if (g2 1 13) = (g2 1 10) then (
    dl_nm (dl_s2 g2 1 13 (-1 : Int32)) fun g3 =>
    some g3)
    else (
    some g2))
theorem hin_X2_removeLastPlace_X2 : ∀ w ∈ u_ws RX2 TX2 18, w ∈ wsX2_removeLastPlace := fun _ h => List.mem_cons_of_mem _ (List.mem_append_right _ h)
theorem lk_X2_removeLastPlace_11 : Cond.fieldLink (yX2_removeLastPlace).cls 11 "DripLines$Net" (TX2 0).2.1 (TX2 0).2.2.1 ∈ wsX2_removeLastPlace := by decide +kernel
theorem lk_X2_removeLastPlace_49 : Cond.fieldLink (yX2_removeLastPlace).cls 49 "DripLines$Net" (TX2 13).2.1 (TX2 13).2.2.1 ∈ wsX2_removeLastPlace := by decide +kernel
theorem lk_X2_removeLastPlace_53 : Cond.fieldLink (yX2_removeLastPlace).cls 53 "DripLines$Net" (TX2 10).2.1 (TX2 10).2.2.1 ∈ wsX2_removeLastPlace := by decide +kernel
theorem lk_X2_removeLastPlace_66 : Cond.fieldLink (yX2_removeLastPlace).cls 66 "DripLines$Net" (TX2 12).2.1 (TX2 12).2.2.1 ∈ wsX2_removeLastPlace := by decide +kernel
set_option maxHeartbeats 4000000 in
set_option maxRecDepth 100000 in
theorem ccl2_removeLastPlace (l : Launch) (D : va_G) (cI cP cII : ClassId) (TY : dl_TY) (hTY : TY[0]? = some (cI, .int)) (hT1 : TY[1]? = some (cP, .object "DripLines$Place")) (ad : Nat → Nat) (pr : Nat → Option Nat) (R : va_W) (g : dl_Sg) {g0 : dl_Sg} (h : cl2_removeLastPlace g  = some g0) : dl_CtV l D TY cc_nw yX2_removeLastPlace wsX2_removeLastPlace { frames := 0, cells := 0, slots := 0, locals := 0 } 0 0 [.ref (ad 1)] (cc_w cI cP cII ad pr g ++ R) (fun u => ∃ pr1, dl_pr pr pr1 g0 ∧ u = cc_w cI cP cII ad pr1 g0 ++ R) := by
  refine dl_metV [(0, .ref (ad 1))] (by decide) rfl (Nat.le_of_ble_eq_true rfl) rfl ?_
  intro p e s m args below meth c Q A C hQ
  unfold cl2_removeLastPlace at h
  refine dl_aload_n (pc := 0) C 0 dX2_removeLastPlace_0 rfl rfl ?_
  refine dl_dup (pc := 1) C dX2_removeLastPlace_1 rfl ?_
  refine dl_get (pc := 2) C hin_X2_removeLastPlace_X2 1 cc_a1 rfl 10 (by decide) lk_X2_removeLastPlace_53 rfl rfl dX2_removeLastPlace_2 ?_
  refine dl_iconst (pc := 5) C 1 dX2_removeLastPlace_5 (by decide) ?_
  refine dl_isub (pc := 6) C dX2_removeLastPlace_6 ?_
  refine dl_put (pc := 7) C hin_X2_removeLastPlace_X2 tyX2 tyX2_ok nmX2 1 cc_a1 rfl 10 (by decide) lk_X2_removeLastPlace_53 rfl rfl (ty := .int) rfl (vp_nar_int _) rfl (Nat.le_of_ble_eq_true rfl) dX2_removeLastPlace_7 cc_p1_10 ?_
  obtain ⟨g1, h, hg⟩ := dl_nm_some h
  rw [← hg]
  clear hg
  refine dl_aload_n (pc := 10) C 0 dX2_removeLastPlace_10 rfl rfl ?_
  refine dl_get (pc := 11) C hin_X2_removeLastPlace_X2 1 cc_a1 rfl 0 (by decide) lk_X2_removeLastPlace_11 rfl rfl dX2_removeLastPlace_11 ?_
  refine dl_aload_n (pc := 14) C 0 dX2_removeLastPlace_14 rfl rfl ?_
  refine dl_get (pc := 15) C hin_X2_removeLastPlace_X2 1 cc_a1 rfl 10 (by decide) lk_X2_removeLastPlace_53 rfl rfl dX2_removeLastPlace_15 ?_
  refine dl_null (pc := 18) C dX2_removeLastPlace_18 ?_
  obtain ⟨h0, h⟩ := dl_gd_some h
  refine dl_aastN (pc := 19) C 31 1 cc_a34 hT1 h0 dX2_removeLastPlace_19 cc_n34 ?_
  obtain ⟨pr1, hpe⟩ : ∃ x, x = va_up pr (g1 1 10).toNatClampNeg none := ⟨_, rfl⟩
  rw [← hpe]
  have hpr : dl_pr pr pr1 g1 := by rw [hpe]; exact dl_pr_up
  clear hpe
  refine dl_aload_n (pc := 20) C 0 dX2_removeLastPlace_20 rfl rfl ?_
  refine dl_dup (pc := 21) C dX2_removeLastPlace_21 rfl ?_
  refine dl_get (pc := 22) C hin_X2_removeLastPlace_X2 1 cc_a1 rfl 12 (by decide) lk_X2_removeLastPlace_66 rfl rfl dX2_removeLastPlace_22 ?_
  refine dl_iconst (pc := 25) C 1 dX2_removeLastPlace_25 (by decide) ?_
  refine dl_aload_n (pc := 26) C 0 dX2_removeLastPlace_26 rfl rfl ?_
  refine dl_get (pc := 27) C hin_X2_removeLastPlace_X2 1 cc_a1 rfl 10 (by decide) lk_X2_removeLastPlace_53 rfl rfl dX2_removeLastPlace_27 ?_
  refine dl_ishl (pc := 30) C dX2_removeLastPlace_30 ?_
  refine dl_iconst (pc := 31) C (-1) dX2_removeLastPlace_31 (by decide) ?_
  refine dl_ixor (pc := 32) C dX2_removeLastPlace_32 ?_
  refine dl_iand (pc := 33) C dX2_removeLastPlace_33 ?_
  refine dl_put (pc := 34) C hin_X2_removeLastPlace_X2 tyX2 tyX2_ok nmX2 1 cc_a1 rfl 12 (by decide) lk_X2_removeLastPlace_66 rfl rfl (ty := .int) rfl (vp_nar_int _) rfl (Nat.le_of_ble_eq_true rfl) dX2_removeLastPlace_34 cc_p1_12 ?_
  obtain ⟨g2, h, hg⟩ := dl_nm_some h
  have hpr : dl_pr pr pr1 g2 := by rw [hg]; exact hpr
  rw [← hg]
  clear hg
  refine dl_aload_n (pc := 37) C 0 dX2_removeLastPlace_37 rfl rfl ?_
  refine dl_get (pc := 38) C hin_X2_removeLastPlace_X2 1 cc_a1 rfl 13 (by decide) lk_X2_removeLastPlace_49 rfl rfl dX2_removeLastPlace_38 ?_
  refine dl_aload_n (pc := 41) C 0 dX2_removeLastPlace_41 rfl rfl ?_
  refine dl_get (pc := 42) C hin_X2_removeLastPlace_X2 1 cc_a1 rfl 10 (by decide) lk_X2_removeLastPlace_53 rfl rfl dX2_removeLastPlace_42 ?_
  refine dl_icmp_ne (pc := 45) C 53 dX2_removeLastPlace_45 (by decide) h (fun q4 h => ?_) (fun q4 h => ?_)
  · refine dl_aload_n (pc := 48) C 0 dX2_removeLastPlace_48 rfl rfl ?_
    refine dl_iconst (pc := 49) C (-1) dX2_removeLastPlace_49 (by decide) ?_
    refine dl_put (pc := 50) C hin_X2_removeLastPlace_X2 tyX2 tyX2_ok nmX2 1 cc_a1 rfl 13 (by decide) lk_X2_removeLastPlace_49 rfl rfl (ty := .int) rfl (vp_nar_int _) rfl (Nat.le_of_ble_eq_true rfl) dX2_removeLastPlace_50 cc_p1_13 ?_
    obtain ⟨g3, h, hg⟩ := dl_nm_some h
    have hpr : dl_pr pr pr1 g3 := by rw [hg]; exact hpr
    rw [← hg]
    clear hg
    exact hQ 53 _ _ ⟨_, by rw [← Option.some.inj h]; exact hpr, by rw [Option.some.inj h]⟩ dX2_removeLastPlace_53
  · exact hQ 53 _ _ ⟨_, by rw [← Option.some.inj h]; exact hpr, by rw [Option.some.inj h]⟩ dX2_removeLastPlace_53
def cl2_takeBack (g : dl_Sg) : Option dl_Sg :=
    dl_nm (dl_s2 g 1 16 ((g 1 16) - (1 : Int32))) fun g1 =>
    dl_gd (dl_in (g1 1 16) 10) (
    dl_nm (g1 17 (g1 1 16).toNatClampNeg) fun v2 =>
    if v2 = (-1 : Int32) then (
    dl_bi (cl2_removeLastPlace g1) fun g3 =>
    dl_nm (dl_s2 g3 1 15 (0 : Int32)) fun g4 =>
    dl_nm (dl_s2 g4 1 17 ((g4 1 17) + (1 : Int32))) fun g5 =>
    some g5)
    else (
    if v2 = (-2 : Int32) then (
    dl_nm (dl_s2 g1 1 11 ((g1 1 11) - (1 : Int32))) fun g6 =>
    dl_bi (cl2_close g6 (g6 1 11)) fun g7 =>
    dl_nm (dl_s2 g7 1 15 (0 : Int32)) fun g8 =>
    dl_nm (dl_s2 g8 1 17 ((g8 1 17) + (1 : Int32))) fun g9 =>
    some g9)
    else (
    dl_bi (cl2_open g1 v2) fun g10 =>
    dl_nm (dl_s2 g10 1 15 (0 : Int32)) fun g11 =>
    dl_nm (dl_s2 g11 1 17 ((g11 1 17) + (1 : Int32))) fun g12 =>
    some g12)))
theorem hin_X2_takeBack_X2 : ∀ w ∈ u_ws RX2 TX2 18, w ∈ wsX2_takeBack := fun _ h => List.mem_cons_of_mem _ (List.mem_append_right _ h)
theorem lk_X2_takeBack_39 : Cond.fieldLink (yX2_takeBack).cls 39 "DripLines$Net" (TX2 8).2.1 (TX2 8).2.2.1 ∈ wsX2_takeBack := by decide +kernel
theorem lk_X2_takeBack_56 : Cond.fieldLink (yX2_takeBack).cls 56 "DripLines$Net" (TX2 11).2.1 (TX2 11).2.2.1 ∈ wsX2_takeBack := by decide +kernel
theorem lk_X2_takeBack_111 : Cond.fieldLink (yX2_takeBack).cls 111 "DripLines$Net" (TX2 15).2.1 (TX2 15).2.2.1 ∈ wsX2_takeBack := by decide +kernel
theorem lk_X2_takeBack_114 : Cond.fieldLink (yX2_takeBack).cls 114 "DripLines$Net" (TX2 16).2.1 (TX2 16).2.2.1 ∈ wsX2_takeBack := by decide +kernel
theorem lk_X2_takeBack_120 : Cond.fieldLink (yX2_takeBack).cls 120 "DripLines$Net" (TX2 17).2.1 (TX2 17).2.2.1 ∈ wsX2_takeBack := by decide +kernel
set_option maxHeartbeats 4000000 in
set_option maxRecDepth 100000 in
theorem ccl2_takeBack (l : Launch) (D : va_G) (cI cP cII : ClassId) (TY : dl_TY) (hTY : TY[0]? = some (cI, .int)) (hT1 : TY[1]? = some (cP, .object "DripLines$Place")) (ad : Nat → Nat) (pr : Nat → Option Nat) (R : va_W) (g : dl_Sg) {g0 : dl_Sg} (h : cl2_takeBack g  = some g0) : dl_CtV l D TY cc_nw yX2_takeBack wsX2_takeBack { frames := 1, cells := 0, slots := 0, locals := 21 } 0 0 [.ref (ad 1)] (cc_w cI cP cII ad pr g ++ R) (fun u => ∃ pr1, dl_pr pr pr1 g0 ∧ u = cc_w cI cP cII ad pr1 g0 ++ R) := by
  refine dl_metV [(0, .ref (ad 1))] (by decide) rfl (Nat.le_of_ble_eq_true rfl) rfl ?_
  intro p e s m args below meth c Q A C hQ
  unfold cl2_takeBack at h
  refine dl_aload_n (pc := 0) C 0 dX2_takeBack_0 rfl rfl ?_
  refine dl_dup (pc := 1) C dX2_takeBack_1 rfl ?_
  refine dl_get (pc := 2) C hin_X2_takeBack_X2 1 cc_a1 rfl 16 (by decide) lk_X2_takeBack_114 rfl rfl dX2_takeBack_2 ?_
  refine dl_iconst (pc := 5) C 1 dX2_takeBack_5 (by decide) ?_
  refine dl_isub (pc := 6) C dX2_takeBack_6 ?_
  refine dl_put (pc := 7) C hin_X2_takeBack_X2 tyX2 tyX2_ok nmX2 1 cc_a1 rfl 16 (by decide) lk_X2_takeBack_114 rfl rfl (ty := .int) rfl (vp_nar_int _) rfl (Nat.le_of_ble_eq_true rfl) dX2_takeBack_7 cc_p1_16 ?_
  obtain ⟨g1, h, hg⟩ := dl_nm_some h
  rw [← hg]
  clear hg
  refine dl_aload_n (pc := 10) C 0 dX2_takeBack_10 rfl rfl ?_
  refine dl_get (pc := 11) C hin_X2_takeBack_X2 1 cc_a1 rfl 8 (by decide) lk_X2_takeBack_39 rfl rfl dX2_takeBack_11 ?_
  refine dl_aload_n (pc := 14) C 0 dX2_takeBack_14 rfl rfl ?_
  refine dl_get (pc := 15) C hin_X2_takeBack_X2 1 cc_a1 rfl 16 (by decide) lk_X2_takeBack_114 rfl rfl dX2_takeBack_15 ?_
  obtain ⟨h0, h⟩ := dl_gd_some h
  refine dl_iald (pc := 18) C 14 0 cc_a17 hTY h0 dX2_takeBack_18 ?_
  refine dl_istore_n (pc := 19) C (fun v2 => [(1, .int v2), (0, .ref (ad 1))]) dX2_takeBack_19 rfl (by decide) (fun _ => rfl) h (fun v2 h => ?_)
  refine dl_iload_n (pc := 20) C 0 dX2_takeBack_20 rfl rfl ?_
  refine dl_iconst (pc := 21) C (-1) dX2_takeBack_21 (by decide) ?_
  refine dl_icmp_ne (pc := 22) C 32 dX2_takeBack_22 (by decide) h (fun q14 h => ?_) (fun q14 h => ?_)
  · refine dl_aload_n (pc := 25) C 1 dX2_takeBack_25 rfl rfl ?_
    obtain ⟨g3, h1, h⟩ := dl_bi_some h
    refine dl_vV0 (pc := 26) C (ccl2_removeLastPlace l D cI cP cII TY hTY hT1 ad pr R _ h1) (cwV 0 C.2.2.2.2.1 gX2_takeBack_X2_removeLastPlace rfl rfl rfl (by decide +kernel) ⟨Nat.le_of_ble_eq_true rfl, Nat.le_of_ble_eq_true rfl⟩) 1 2 cc_a1 rfl rfl rfl (Nat.le_of_ble_eq_true rfl) dX2_takeBack_26 ⟨Nat.zero_le _, Nat.zero_le _⟩ (fun u hp => ?_)
    obtain ⟨pr1, hpr, rfl⟩ := hp
    refine dl_goto (pc := 29) C 64 dX2_takeBack_29 (by decide) ?_
    refine dl_aload_n (pc := 64) C 1 dX2_takeBack_64 rfl rfl ?_
    refine dl_iconst (pc := 65) C 0 dX2_takeBack_65 (by decide) ?_
    refine dl_put (pc := 66) C hin_X2_takeBack_X2 tyX2 tyX2_ok nmX2 1 cc_a1 rfl 15 (by decide) lk_X2_takeBack_111 rfl rfl (ty := .int) rfl (vp_nar_int _) rfl (Nat.le_of_ble_eq_true rfl) dX2_takeBack_66 cc_p1_15 ?_
    obtain ⟨g4, h, hg⟩ := dl_nm_some h
    have hpr : dl_pr pr pr1 g4 := by rw [hg]; exact hpr
    rw [← hg]
    clear hg
    refine dl_aload_n (pc := 69) C 1 dX2_takeBack_69 rfl rfl ?_
    refine dl_dup (pc := 70) C dX2_takeBack_70 rfl ?_
    refine dl_get (pc := 71) C hin_X2_takeBack_X2 1 cc_a1 rfl 17 (by decide) lk_X2_takeBack_120 rfl rfl dX2_takeBack_71 ?_
    refine dl_iconst (pc := 74) C 1 dX2_takeBack_74 (by decide) ?_
    refine dl_iadd (pc := 75) C dX2_takeBack_75 ?_
    refine dl_put (pc := 76) C hin_X2_takeBack_X2 tyX2 tyX2_ok nmX2 1 cc_a1 rfl 17 (by decide) lk_X2_takeBack_120 rfl rfl (ty := .int) rfl (vp_nar_int _) rfl (Nat.le_of_ble_eq_true rfl) dX2_takeBack_76 cc_p1_17 ?_
    obtain ⟨g5, h, hg⟩ := dl_nm_some h
    have hpr : dl_pr pr pr1 g5 := by rw [hg]; exact hpr
    rw [← hg]
    clear hg
    exact hQ 79 _ _ ⟨_, by rw [← Option.some.inj h]; exact hpr, by rw [Option.some.inj h]⟩ dX2_takeBack_79
  · refine dl_iload_n (pc := 32) C 0 dX2_takeBack_32 rfl rfl ?_
    refine dl_bipush (pc := 33) C (-2) dX2_takeBack_33 (by decide) ?_
    refine dl_icmp_ne (pc := 35) C 59 dX2_takeBack_35 (by decide) h (fun q13 h => ?_) (fun q13 h => ?_)
    · refine dl_aload_n (pc := 38) C 1 dX2_takeBack_38 rfl rfl ?_
      refine dl_dup (pc := 39) C dX2_takeBack_39 rfl ?_
      refine dl_get (pc := 40) C hin_X2_takeBack_X2 1 cc_a1 rfl 11 (by decide) lk_X2_takeBack_56 rfl rfl dX2_takeBack_40 ?_
      refine dl_iconst (pc := 43) C 1 dX2_takeBack_43 (by decide) ?_
      refine dl_isub (pc := 44) C dX2_takeBack_44 ?_
      refine dl_put (pc := 45) C hin_X2_takeBack_X2 tyX2 tyX2_ok nmX2 1 cc_a1 rfl 11 (by decide) lk_X2_takeBack_56 rfl rfl (ty := .int) rfl (vp_nar_int _) rfl (Nat.le_of_ble_eq_true rfl) dX2_takeBack_45 cc_p1_11 ?_
      obtain ⟨g6, h, hg⟩ := dl_nm_some h
      rw [← hg]
      clear hg
      refine dl_aload_n (pc := 48) C 1 dX2_takeBack_48 rfl rfl ?_
      refine dl_aload_n (pc := 49) C 1 dX2_takeBack_49 rfl rfl ?_
      refine dl_get (pc := 50) C hin_X2_takeBack_X2 1 cc_a1 rfl 11 (by decide) lk_X2_takeBack_56 rfl rfl dX2_takeBack_50 ?_
      obtain ⟨g7, h1, h⟩ := dl_bi_some h
      refine dl_vV0 (pc := 53) C (ccl2_close l D cI cP cII TY hTY ad pr R _ _ h1) (cwV 1 C.2.2.2.2.1 gX2_takeBack_X2_close rfl rfl rfl (by decide +kernel) ⟨Nat.le_of_ble_eq_true rfl, Nat.le_of_ble_eq_true rfl⟩) 1 2 cc_a1 rfl rfl rfl (Nat.le_of_ble_eq_true rfl) dX2_takeBack_53 ⟨Nat.zero_le _, Nat.zero_le _⟩ (fun u hp => ?_)
      subst hp
      refine dl_goto (pc := 56) C 64 dX2_takeBack_56 (by decide) ?_
      refine dl_aload_n (pc := 64) C 1 dX2_takeBack_64 rfl rfl ?_
      refine dl_iconst (pc := 65) C 0 dX2_takeBack_65 (by decide) ?_
      refine dl_put (pc := 66) C hin_X2_takeBack_X2 tyX2 tyX2_ok nmX2 1 cc_a1 rfl 15 (by decide) lk_X2_takeBack_111 rfl rfl (ty := .int) rfl (vp_nar_int _) rfl (Nat.le_of_ble_eq_true rfl) dX2_takeBack_66 cc_p1_15 ?_
      obtain ⟨g8, h, hg⟩ := dl_nm_some h
      rw [← hg]
      clear hg
      refine dl_aload_n (pc := 69) C 1 dX2_takeBack_69 rfl rfl ?_
      refine dl_dup (pc := 70) C dX2_takeBack_70 rfl ?_
      refine dl_get (pc := 71) C hin_X2_takeBack_X2 1 cc_a1 rfl 17 (by decide) lk_X2_takeBack_120 rfl rfl dX2_takeBack_71 ?_
      refine dl_iconst (pc := 74) C 1 dX2_takeBack_74 (by decide) ?_
      refine dl_iadd (pc := 75) C dX2_takeBack_75 ?_
      refine dl_put (pc := 76) C hin_X2_takeBack_X2 tyX2 tyX2_ok nmX2 1 cc_a1 rfl 17 (by decide) lk_X2_takeBack_120 rfl rfl (ty := .int) rfl (vp_nar_int _) rfl (Nat.le_of_ble_eq_true rfl) dX2_takeBack_76 cc_p1_17 ?_
      obtain ⟨g9, h, hg⟩ := dl_nm_some h
      rw [← hg]
      clear hg
      exact hQ 79 _ _ ⟨_, by rw [← Option.some.inj h]; exact dl_pr_rf, by rw [Option.some.inj h]⟩ dX2_takeBack_79
    · refine dl_aload_n (pc := 59) C 1 dX2_takeBack_59 rfl rfl ?_
      refine dl_iload_n (pc := 60) C 0 dX2_takeBack_60 rfl rfl ?_
      obtain ⟨g10, h1, h⟩ := dl_bi_some h
      refine dl_vV0 (pc := 61) C (ccl2_open l D cI cP cII TY hTY ad pr R _ _ h1) (cwV 1 C.2.2.2.2.1 gX2_takeBack_X2_open rfl rfl rfl (by decide +kernel) ⟨Nat.le_of_ble_eq_true rfl, Nat.le_of_ble_eq_true rfl⟩) 1 2 cc_a1 rfl rfl rfl (Nat.le_of_ble_eq_true rfl) dX2_takeBack_61 ⟨Nat.zero_le _, Nat.zero_le _⟩ (fun u hp => ?_)
      subst hp
      refine dl_aload_n (pc := 64) C 1 dX2_takeBack_64 rfl rfl ?_
      refine dl_iconst (pc := 65) C 0 dX2_takeBack_65 (by decide) ?_
      refine dl_put (pc := 66) C hin_X2_takeBack_X2 tyX2 tyX2_ok nmX2 1 cc_a1 rfl 15 (by decide) lk_X2_takeBack_111 rfl rfl (ty := .int) rfl (vp_nar_int _) rfl (Nat.le_of_ble_eq_true rfl) dX2_takeBack_66 cc_p1_15 ?_
      obtain ⟨g11, h, hg⟩ := dl_nm_some h
      rw [← hg]
      clear hg
      refine dl_aload_n (pc := 69) C 1 dX2_takeBack_69 rfl rfl ?_
      refine dl_dup (pc := 70) C dX2_takeBack_70 rfl ?_
      refine dl_get (pc := 71) C hin_X2_takeBack_X2 1 cc_a1 rfl 17 (by decide) lk_X2_takeBack_120 rfl rfl dX2_takeBack_71 ?_
      refine dl_iconst (pc := 74) C 1 dX2_takeBack_74 (by decide) ?_
      refine dl_iadd (pc := 75) C dX2_takeBack_75 ?_
      refine dl_put (pc := 76) C hin_X2_takeBack_X2 tyX2 tyX2_ok nmX2 1 cc_a1 rfl 17 (by decide) lk_X2_takeBack_120 rfl rfl (ty := .int) rfl (vp_nar_int _) rfl (Nat.le_of_ble_eq_true rfl) dX2_takeBack_76 cc_p1_17 ?_
      obtain ⟨g12, h, hg⟩ := dl_nm_some h
      rw [← hg]
      clear hg
      exact hQ 79 _ _ ⟨_, by rw [← Option.some.inj h]; exact dl_pr_rf, by rw [Option.some.inj h]⟩ dX2_takeBack_79
def cl11_undo (g : dl_Sg) : Option (Int32 × dl_Sg) :=
    if (g 1 16) = 0 then (
    dl_b2 (cl11_refused g (3 : Int32)) fun r1 g2 =>
    some (r1, g2))
    else (
    dl_bi (cl2_takeBack g) fun g3 =>
    dl_b2 (cl11_done g3 (1 : Int32)) fun r4 g5 =>
    some (r4, g5))
theorem hin_X11_undo_X11 : ∀ w ∈ u_ws RX11 TX11 6, w ∈ wsX11_undo := fun _ h => List.mem_cons_of_mem _ (List.mem_append_left _ (List.mem_append_right _ h))
theorem hin_X11_undo_X2 : ∀ w ∈ u_ws RX2 TX2 18, w ∈ wsX11_undo := fun _ h => List.mem_cons_of_mem _ (List.mem_append_right _ h)
theorem lk_X11_undo_10 : Cond.fieldLink (yX11_undo).cls 10 "DripLines" (TX11 0).2.1 (TX11 0).2.2.1 ∈ wsX11_undo := by decide +kernel
set_option maxHeartbeats 4000000 in
set_option maxRecDepth 100000 in
theorem ccl11_undo (l : Launch) (D : va_G) (cI cP cII : ClassId) (TY : dl_TY) (hTY : TY[0]? = some (cI, .int)) (hT1 : TY[1]? = some (cP, .object "DripLines$Place")) (ad : Nat → Nat) (pr : Nat → Option Nat) (R : va_W) (g : dl_Sg) {r0 : Int32} {g0 : dl_Sg} (h : cl11_undo g  = some (r0, g0)) : dl_CtI l D TY cc_nw yX11_undo wsX11_undo { frames := 2, cells := 0, slots := 0, locals := 42 } 0 0 [.ref (ad 0)] (cc_w cI cP cII ad pr g ++ R) (fun r u => r = r0 ∧ ∃ pr1, dl_pr pr pr1 g0 ∧ u = cc_w cI cP cII ad pr1 g0 ++ R) := by
  refine dl_metI (ty := .int) [(0, .ref (ad 0))] (by decide) rfl (Nat.le_of_ble_eq_true rfl) rfl ?_
  intro p e s m args below meth c Q A C hQ
  unfold cl11_undo at h
  refine dl_aload_n (pc := 0) C 0 dX11_undo_0 rfl rfl ?_
  refine dl_get (pc := 1) C hin_X11_undo_X11 0 cc_a0 rfl 0 (by decide) lk_X11_undo_10 rfl rfl dX11_undo_1 ?_
  refine dl_getN (pc := 4) C hin_X11_undo_X2 1 cc_a1 rfl 16 (by decide) nk_RX11_95 rfl rfl dX11_undo_4 ?_
  refine dl_if_ne (pc := 7) C 16 dX11_undo_7 (by decide) h (fun q6 h => ?_) (fun q6 h => ?_)
  · refine dl_aload_n (pc := 10) C 0 dX11_undo_10 rfl rfl ?_
    refine dl_iconst (pc := 11) C 3 dX11_undo_11 (by decide) ?_
    obtain ⟨r1, g2, h1, h⟩ := dl_b2_some h
    refine dl_vI0 (pc := 12) C (ccl11_refused l D cI cP cII TY hTY ad pr R _ _ h1) (cwV 1 C.2.2.2.2.1 gX11_undo_X11_refused rfl rfl rfl (by decide +kernel) ⟨Nat.le_of_ble_eq_true rfl, Nat.le_of_ble_eq_true rfl⟩) 0 11 cc_a0 rfl rfl rfl (Nat.le_of_ble_eq_true rfl) dX11_undo_12 ⟨Nat.zero_le _, Nat.zero_le _⟩ (fun r u hp => ?_)
    obtain ⟨rfl, rfl⟩ := hp
    exact hQ 15 _ _ _ ⟨(dl_r2 h).1, _, by rw [← (dl_r2 h).2]; exact dl_pr_rf, by rw [(dl_r2 h).2]⟩ (vp_nar_int _) dX11_undo_15
  · refine dl_aload_n (pc := 16) C 0 dX11_undo_16 rfl rfl ?_
    refine dl_get (pc := 17) C hin_X11_undo_X11 0 cc_a0 rfl 0 (by decide) lk_X11_undo_10 rfl rfl dX11_undo_17 ?_
    obtain ⟨g3, h1, h⟩ := dl_bi_some h
    refine dl_vV0 (pc := 20) C (ccl2_takeBack l D cI cP cII TY hTY hT1 ad pr R _ h1) (cwV 0 C.2.2.2.2.1 gX11_undo_X2_takeBack rfl rfl rfl (by decide +kernel) ⟨Nat.le_of_ble_eq_true rfl, Nat.le_of_ble_eq_true rfl⟩) 1 2 cc_a1 rfl rfl rfl (Nat.le_of_ble_eq_true rfl) dX11_undo_20 ⟨Nat.zero_le _, Nat.zero_le _⟩ (fun u hp => ?_)
    obtain ⟨pr1, hpr, rfl⟩ := hp
    refine dl_aload_n (pc := 23) C 0 dX11_undo_23 rfl rfl ?_
    refine dl_iconst (pc := 24) C 1 dX11_undo_24 (by decide) ?_
    obtain ⟨r4, g5, h1, h⟩ := dl_b2_some h
    refine dl_vI0 (pc := 25) C (ccl11_done l D cI cP cII TY hTY ad pr1 R _ _ h1) (cwV 1 C.2.2.2.2.1 gX11_undo_X11_done rfl rfl rfl (by decide +kernel) ⟨Nat.le_of_ble_eq_true rfl, Nat.le_of_ble_eq_true rfl⟩) 0 11 cc_a0 rfl rfl rfl (Nat.le_of_ble_eq_true rfl) dX11_undo_25 ⟨Nat.zero_le _, Nat.zero_le _⟩ (fun r u hp => ?_)
    obtain ⟨rfl, rfl⟩ := hp
    have hpr : dl_pr pr pr1 g5 := cl11_done_pr h1 hpr
    exact hQ 28 _ _ _ ⟨(dl_r2 h).1, _, by rw [← (dl_r2 h).2]; exact hpr, by rw [(dl_r2 h).2]⟩ (vp_nar_int _) dX11_undo_28
