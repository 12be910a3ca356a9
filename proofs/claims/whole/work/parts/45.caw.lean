def cl6_refresh (N : Nat) (g : dl_Sg) : Option dl_Sg :=
    if (g 3 8) = (g 1 17) then (
    some g)
    else (
    dl_nm (dl_s2 g 3 8 (g 1 17)) fun g1 =>
    dl_nm (dl_s2 g1 3 4 (0 : Int32)) fun g2 =>
    dl_nm (dl_fi g2 21 1001 (-1 : Int32)) fun g3 =>
    if (g3 1 12) = 0 then (
    some g3)
    else (
    dl_bi (jd_numberOfTrailingZeros (g3 1 12)) fun r4 =>
    dl_nm r4 fun v5 =>
    dl_gd (dl_in v5 10) (
    dl_bi (cl6_grow N 12 g3 (0 : Int32) ((1 : Int32) <<< (v5 &&& 31)) (g3 12 v5.toNatClampNeg) (0 : Int32) (0 : Int32) (0 : Int32)) fun g6 =>
    dl_bi (cl6_putInOrder N 20 g6 (0 : Int32) (g6 3 4) (0 : Int32)) fun g7 =>
    some g7)))
theorem hin_X6_refresh_X2 : ∀ w ∈ u_ws RX2 TX2 18, w ∈ wsX6_refresh := fun _ h => List.mem_cons_of_mem _ (List.mem_append_right _ h)
theorem hin_X6_refresh_X6 : ∀ w ∈ u_ws RX6 TX6 9, w ∈ wsX6_refresh := fun _ h => List.mem_cons_of_mem _ (List.mem_append_left _ (List.mem_append_right _ h))
theorem lk_X6_refresh_15 : Cond.fieldLink (yX6_refresh).cls 15 "DripLines$Trees" (TX6 2).2.1 (TX6 2).2.2.1 ∈ wsX6_refresh := by decide +kernel
theorem lk_X6_refresh_21 : Cond.fieldLink (yX6_refresh).cls 21 "DripLines$Trees" (TX6 8).2.1 (TX6 8).2.2.1 ∈ wsX6_refresh := by decide +kernel
theorem lk_X6_refresh_25 : Cond.fieldLink (yX6_refresh).cls 25 "DripLines$Trees" (TX6 0).2.1 (TX6 0).2.2.1 ∈ wsX6_refresh := by decide +kernel
theorem lk_X6_refresh_103 : Cond.fieldLink (yX6_refresh).cls 103 "DripLines$Trees" (TX6 4).2.1 (TX6 4).2.2.1 ∈ wsX6_refresh := by decide +kernel
set_option maxHeartbeats 4000000 in
set_option maxRecDepth 100000 in
theorem cl6_refresh_me (N : Nat) (g : dl_Sg) {g0 : dl_Sg} (h : cl6_refresh N g  = some g0) : dl_al g ≤ dl_al g0 := by
  unfold cl6_refresh at h
  by_cases q9 : (g 3 8) = (g 1 17)
  · rw [if_pos q9] at h
    exact Nat.le_of_eq (congrArg dl_al (Option.some.inj h))
  · rw [if_neg q9] at h
    obtain ⟨g1, h, hg⟩ := dl_nm_some h
    have ea : dl_al g1 = dl_al g := by rw [hg]; rfl
    rw [← ea]
    clear hg ea
    obtain ⟨g2, h, hg⟩ := dl_nm_some h
    have ea : dl_al g2 = dl_al g1 := by rw [hg]; rfl
    rw [← ea]
    clear hg ea
    obtain ⟨g3, h, hg⟩ := dl_nm_some h
    have ea : dl_al g3 = dl_al g2 := by rw [hg]; rfl
    rw [← ea]
    clear hg ea
    by_cases q8 : (g3 1 12) = 0
    · rw [if_pos q8] at h
      exact Nat.le_of_eq (congrArg dl_al (Option.some.inj h))
    · rw [if_neg q8] at h
      obtain ⟨r4, -, h⟩ := dl_bi_some h
      obtain ⟨v5, h, -⟩ := dl_nm_some h
      obtain ⟨-, h⟩ := dl_gd_some h
      obtain ⟨g6, h1, h⟩ := dl_bi_some h
      refine Nat.le_trans (cl6_grow_m N 12 _ _ _ _ _ _ _ _ h1) ?_
      obtain ⟨g7, h1, h⟩ := dl_bi_some h
      refine Nat.le_trans (cl6_putInOrder_m N 20 _ _ _ _ _ h1) ?_
      exact Nat.le_of_eq (congrArg dl_al (Option.some.inj h))
set_option maxHeartbeats 4000000 in
set_option maxRecDepth 100000 in
theorem ccl6_refresh (l : Launch) (D : va_G) (cI cP cII : ClassId) (TY : dl_TY) (hTY : TY[0]? = some (cI, .int)) (N : Nat) (ad : Nat → Nat) (pr : Nat → Option Nat) (R : va_W) (b : Nat) (g : dl_Sg) {g0 : dl_Sg} (h : cl6_refresh N g  = some g0) : dl_CtV l D TY cc_nw yX6_refresh wsX6_refresh { frames := 22, cells := dl_al g0 - dl_al g, slots := 2 * (dl_al g0 - dl_al g), locals := 567 } (dl_al g0 - dl_al g) (2 * (dl_al g0 - dl_al g)) [.ref (ad 3)] (cc_w cI cP cII (va_up ad 33 b) pr g ++ R) (fun u => ∃ b1, u = cc_w cI cP cII (va_up ad 33 b1) pr g0 ++ R) := by
  refine dl_metV [(0, .ref (ad 3))] (by decide) rfl (Nat.le_of_ble_eq_true rfl) rfl ?_
  intro p e s m args below meth c Q A C hQ
  unfold cl6_refresh at h
  generalize hmc : dl_al g0 - dl_al g = mc at hQ ⊢
  generalize hms : 2 * mc = ms at hQ ⊢
  have he : 0 + (dl_al g0 - dl_al g) ≤ mc ∧ 0 + 2 * (dl_al g0 - dl_al g) ≤ ms := ⟨by omega, by omega⟩
  refine dl_aload_n (pc := 0) C 0 dX6_refresh_0 rfl rfl ?_
  refine dl_get (pc := 1) C hin_X6_refresh_X6 3 cc_a3 rfl 8 (by decide) lk_X6_refresh_21 rfl rfl dX6_refresh_1 ?_
  refine dl_aload_n (pc := 4) C 0 dX6_refresh_4 rfl rfl ?_
  refine dl_get (pc := 5) C hin_X6_refresh_X6 3 cc_a3 rfl 0 (by decide) lk_X6_refresh_25 rfl rfl dX6_refresh_5 ?_
  refine dl_getN (pc := 8) C hin_X6_refresh_X2 1 cc_a1 rfl 17 (by decide) nk_RX6_116 rfl rfl dX6_refresh_8 ?_
  refine dl_icmp_ne (pc := 11) C 15 dX6_refresh_11 (by decide) h (fun q9 h => ?_) (fun q9 h => ?_)
  · refine dl_wid (Nat.le_trans (Nat.le_add_right _ _) he.1) (Nat.le_trans (Nat.le_add_right _ _) he.2) ?_
    exact hQ 14 _ _ ⟨_, by rw [Option.some.inj h]⟩ dX6_refresh_14
  · refine dl_aload_n (pc := 15) C 0 dX6_refresh_15 rfl rfl ?_
    refine dl_aload_n (pc := 16) C 0 dX6_refresh_16 rfl rfl ?_
    refine dl_get (pc := 17) C hin_X6_refresh_X6 3 cc_a3 rfl 0 (by decide) lk_X6_refresh_25 rfl rfl dX6_refresh_17 ?_
    refine dl_getN (pc := 20) C hin_X6_refresh_X2 1 cc_a1 rfl 17 (by decide) nk_RX6_116 rfl rfl dX6_refresh_20 ?_
    refine dl_put (pc := 23) C hin_X6_refresh_X6 tyX6 tyX6_ok nmX6 3 cc_a3 rfl 8 (by decide) lk_X6_refresh_21 rfl rfl (ty := .int) rfl (vp_nar_int _) rfl (Nat.le_of_ble_eq_true rfl) dX6_refresh_23 cc_p3_8 ?_
    obtain ⟨g1, h, hg⟩ := dl_nm_some h
    have ea : dl_al g1 = dl_al g := by rw [hg]; rfl
    rw [← ea] at he
    rw [← hg]
    clear hg ea
    refine dl_aload_n (pc := 26) C 0 dX6_refresh_26 rfl rfl ?_
    refine dl_iconst (pc := 27) C 0 dX6_refresh_27 (by decide) ?_
    refine dl_put (pc := 28) C hin_X6_refresh_X6 tyX6 tyX6_ok nmX6 3 cc_a3 rfl 4 (by decide) lk_X6_refresh_103 rfl rfl (ty := .int) rfl (vp_nar_int _) rfl (Nat.le_of_ble_eq_true rfl) dX6_refresh_28 cc_p3_4 ?_
    obtain ⟨g2, h, hg⟩ := dl_nm_some h
    have ea : dl_al g2 = dl_al g1 := by rw [hg]; rfl
    rw [← ea] at he
    rw [← hg]
    clear hg ea
    refine dl_aload_n (pc := 31) C 0 dX6_refresh_31 rfl rfl ?_
    refine dl_get (pc := 32) C hin_X6_refresh_X6 3 cc_a3 rfl 2 (by decide) lk_X6_refresh_15 rfl rfl dX6_refresh_32 ?_
    refine dl_iconst (pc := 35) C (-1) dX6_refresh_35 (by decide) ?_
    refine dl_sV0 (pc := 36) C (c_fill l D cI TY hTY cc_nw _ 18 _ 1001 _ cc_a21 (by decide) _) (va_cwS 2 C.2.2.2.2.1 gX6_refresh_J7_fill_53178 rfl rfl rfl (by decide +kernel) ⟨Nat.le_of_ble_eq_true rfl, Nat.le_of_ble_eq_true rfl⟩) rfl rfl (Nat.le_of_ble_eq_true rfl) dX6_refresh_36 ⟨Nat.le_trans (Nat.le_add_right _ _) he.1, Nat.le_trans (Nat.le_add_right _ _) he.2⟩ (fun u hp => ?_)
    have hz := cc_z21 (cI := cI) (cP := cP) (cII := cII) (ad := va_up ad 33 b) (pr := pr) (g := g2) (R := R) (v := (-1 : Int32))
    rw [hp]
    rw [show _ = _ from hz]
    clear hp hz
    obtain ⟨g3, h, hg⟩ := dl_nm_some h
    have ea : dl_al g3 = dl_al g2 := by rw [hg]; rfl
    rw [← ea] at he
    rw [← hg]
    clear hg ea
    refine dl_aload_n (pc := 39) C 0 dX6_refresh_39 rfl rfl ?_
    refine dl_get (pc := 40) C hin_X6_refresh_X6 3 cc_a3 rfl 0 (by decide) lk_X6_refresh_25 rfl rfl dX6_refresh_40 ?_
    refine dl_getN (pc := 43) C hin_X6_refresh_X2 1 cc_a1 rfl 12 (by decide) nk_RX6_55 rfl rfl dX6_refresh_43 ?_
    refine dl_if_eq (pc := 46) C 90 dX6_refresh_46 (by decide) h (fun q8 h => ?_) (fun q8 h => ?_)
    · refine dl_wid (Nat.le_trans (Nat.le_add_right _ _) he.1) (Nat.le_trans (Nat.le_add_right _ _) he.2) ?_
      exact hQ 90 _ _ ⟨_, by rw [Option.some.inj h]⟩ dX6_refresh_90
    · refine dl_aload_n (pc := 49) C 0 dX6_refresh_49 rfl rfl ?_
      refine dl_get (pc := 50) C hin_X6_refresh_X6 3 cc_a3 rfl 0 (by decide) lk_X6_refresh_25 rfl rfl dX6_refresh_50 ?_
      refine dl_getN (pc := 53) C hin_X6_refresh_X2 1 cc_a1 rfl 12 (by decide) nk_RX6_55 rfl rfl dX6_refresh_53 ?_
      obtain ⟨r4, h1, h⟩ := dl_bi_some h
      refine dl_sI0 (pc := 56) C (cjd_numberOfTrailingZeros l D TY cc_nw _ _ h1) (va_cwS 1 C.2.2.2.2.1 gX6_refresh_J6_numberOfTrailingZeros_0f7a4 rfl rfl rfl (by decide +kernel) ⟨Nat.le_of_ble_eq_true rfl, Nat.le_of_ble_eq_true rfl⟩) rfl rfl (Nat.le_of_ble_eq_true rfl) dX6_refresh_56 ⟨Nat.le_trans (Nat.le_add_right _ _) he.1, Nat.le_trans (Nat.le_add_right _ _) he.2⟩ (fun r u hp => ?_)
      obtain ⟨rfl, hu⟩ := hp
      rw [hu]
      clear hu
      refine dl_istore_n (pc := 59) C (fun v5 => [(1, .int v5), (0, .ref (ad 3))]) dX6_refresh_59 rfl (by decide) (fun _ => rfl) h (fun v5 h => ?_)
      refine dl_aload_n (pc := 60) C 1 dX6_refresh_60 rfl rfl ?_
      refine dl_iconst (pc := 61) C 0 dX6_refresh_61 (by decide) ?_
      refine dl_iconst (pc := 62) C 1 dX6_refresh_62 (by decide) ?_
      refine dl_iload_n (pc := 63) C 0 dX6_refresh_63 rfl rfl ?_
      refine dl_ishl (pc := 64) C dX6_refresh_64 ?_
      refine dl_aload_n (pc := 65) C 1 dX6_refresh_65 rfl rfl ?_
      refine dl_get (pc := 66) C hin_X6_refresh_X6 3 cc_a3 rfl 0 (by decide) lk_X6_refresh_25 rfl rfl dX6_refresh_66 ?_
      refine dl_getN (pc := 69) C hin_X6_refresh_X2 1 cc_a1 rfl 3 (by decide) nk_RX6_81 rfl rfl dX6_refresh_69 ?_
      refine dl_iload_n (pc := 72) C 0 dX6_refresh_72 rfl rfl ?_
      obtain ⟨h0, h⟩ := dl_gd_some h
      refine dl_iald (pc := 73) C 9 0 cc_a12 hTY h0 dX6_refresh_73 ?_
      refine dl_iconst (pc := 74) C 0 dX6_refresh_74 (by decide) ?_
      refine dl_iconst (pc := 75) C 0 dX6_refresh_75 (by decide) ?_
      refine dl_iconst (pc := 76) C 0 dX6_refresh_76 (by decide) ?_
      obtain ⟨g6, h1, h⟩ := dl_bi_some h
      have hm1 : dl_al g3 ≤ dl_al g6 := cl6_grow_m N 12 _ _ _ _ _ _ _ _ h1
      have hm2 : dl_al g6 ≤ dl_al g0 := by
        obtain ⟨g7, h1, h⟩ := dl_bi_some h
        refine Nat.le_trans (cl6_putInOrder_m N 20 _ _ _ _ _ h1) ?_
        exact Nat.le_of_eq (congrArg dl_al (Option.some.inj h))
      refine dl_vV (pc := 77) C (ccl6_grow l D cI cP cII TY hTY N ad pr R 12 _ _ _ _ _ _ _ _ _ h1) (cwV 6 C.2.2.2.2.1 gX6_refresh_X6_grow rfl rfl rfl (by decide +kernel) ⟨Nat.le_of_ble_eq_true rfl, Nat.le_of_ble_eq_true rfl⟩) 3 6 cc_a3 rfl rfl rfl (Nat.le_of_ble_eq_true rfl) dX6_refresh_77 (dl_bud he hm1 hm2) (fun u hp => ?_)
      obtain ⟨b, rfl⟩ := hp
      have he := dl_bud2 he hm1 hm2
      refine dl_aload_n (pc := 80) C 1 dX6_refresh_80 rfl rfl ?_
      refine dl_iconst (pc := 81) C 0 dX6_refresh_81 (by decide) ?_
      refine dl_aload_n (pc := 82) C 1 dX6_refresh_82 rfl rfl ?_
      refine dl_get (pc := 83) C hin_X6_refresh_X6 3 cc_a3 rfl 4 (by decide) lk_X6_refresh_103 rfl rfl dX6_refresh_83 ?_
      refine dl_iconst (pc := 86) C 0 dX6_refresh_86 (by decide) ?_
      obtain ⟨g7, h1, h⟩ := dl_bi_some h
      have hm1 : dl_al g6 ≤ dl_al g7 := cl6_putInOrder_m N 20 _ _ _ _ _ h1
      have hm2 : dl_al g7 ≤ dl_al g0 := by
        exact Nat.le_of_eq (congrArg dl_al (Option.some.inj h))
      refine dl_vV (pc := 87) C (ccl6_putInOrder l D cI cP cII TY hTY N ad pr R 20 _ _ _ _ _ _ h1) (cwV 3 C.2.2.2.2.1 gX6_refresh_X6_putInOrder rfl rfl rfl (by decide +kernel) ⟨Nat.le_of_ble_eq_true rfl, Nat.le_of_ble_eq_true rfl⟩) 3 6 cc_a3 rfl rfl rfl (Nat.le_of_ble_eq_true rfl) dX6_refresh_87 (dl_bud he hm1 hm2) (fun u hp => ?_)
      obtain ⟨b, rfl⟩ := hp
      have he := dl_bud2 he hm1 hm2
      refine dl_wid (Nat.le_trans (Nat.le_add_right _ _) he.1) (Nat.le_trans (Nat.le_add_right _ _) he.2) ?_
      exact hQ 90 _ _ ⟨_, by rw [Option.some.inj h]⟩ dX6_refresh_90
def cl6_leastTag (N : Nat) (g : dl_Sg) : Option (Int32 × dl_Sg) :=
    dl_bi (cl6_refresh N g) fun g1 =>
    if (g1 3 4) = 0 then (
    some ((-1000000 : Int32), g1))
    else (
    some (g1 3 5, g1))
theorem hin_X6_leastTag_X6 : ∀ w ∈ u_ws RX6 TX6 9, w ∈ wsX6_leastTag := fun _ h => List.mem_cons_of_mem _ (List.mem_append_left _ (List.mem_append_right _ h))
theorem lk_X6_leastTag_103 : Cond.fieldLink (yX6_leastTag).cls 103 "DripLines$Trees" (TX6 4).2.1 (TX6 4).2.2.1 ∈ wsX6_leastTag := by decide +kernel
theorem lk_X6_leastTag_107 : Cond.fieldLink (yX6_leastTag).cls 107 "DripLines$Trees" (TX6 5).2.1 (TX6 5).2.2.1 ∈ wsX6_leastTag := by decide +kernel
set_option maxHeartbeats 4000000 in
set_option maxRecDepth 100000 in
theorem cl6_leastTag_me (N : Nat) (g : dl_Sg) {r0 : Int32} {g0 : dl_Sg} (h : cl6_leastTag N g  = some (r0, g0)) : dl_al g ≤ dl_al g0 := by
  unfold cl6_leastTag at h
  obtain ⟨g1, h1, h⟩ := dl_bi_some h
  refine Nat.le_trans (cl6_refresh_me N _ h1) ?_
  by_cases q2 : (g1 3 4) = 0
  · rw [if_pos q2] at h
    exact Nat.le_of_eq (congrArg dl_al (dl_r2 h).2)
  · rw [if_neg q2] at h
    exact Nat.le_of_eq (congrArg dl_al (dl_r2 h).2)
set_option maxHeartbeats 4000000 in
set_option maxRecDepth 100000 in
theorem ccl6_leastTag (l : Launch) (D : va_G) (cI cP cII : ClassId) (TY : dl_TY) (hTY : TY[0]? = some (cI, .int)) (N : Nat) (ad : Nat → Nat) (pr : Nat → Option Nat) (R : va_W) (b : Nat) (g : dl_Sg) {r0 : Int32} {g0 : dl_Sg} (h : cl6_leastTag N g  = some (r0, g0)) : dl_CtI l D TY cc_nw yX6_leastTag wsX6_leastTag { frames := 23, cells := dl_al g0 - dl_al g, slots := 2 * (dl_al g0 - dl_al g), locals := 588 } (dl_al g0 - dl_al g) (2 * (dl_al g0 - dl_al g)) [.ref (ad 3)] (cc_w cI cP cII (va_up ad 33 b) pr g ++ R) (fun r u => r = r0 ∧ ∃ b1, u = cc_w cI cP cII (va_up ad 33 b1) pr g0 ++ R) := by
  refine dl_metI (ty := .int) [(0, .ref (ad 3))] (by decide) rfl (Nat.le_of_ble_eq_true rfl) rfl ?_
  intro p e s m args below meth c Q A C hQ
  unfold cl6_leastTag at h
  generalize hmc : dl_al g0 - dl_al g = mc at hQ ⊢
  generalize hms : 2 * mc = ms at hQ ⊢
  have he : 0 + (dl_al g0 - dl_al g) ≤ mc ∧ 0 + 2 * (dl_al g0 - dl_al g) ≤ ms := ⟨by omega, by omega⟩
  refine dl_aload_n (pc := 0) C 0 dX6_leastTag_0 rfl rfl ?_
  obtain ⟨g1, h1, h⟩ := dl_bi_some h
  have hm1 : dl_al g ≤ dl_al g1 := cl6_refresh_me N _ h1
  have hm2 : dl_al g1 ≤ dl_al g0 := by
    by_cases q2 : (g1 3 4) = 0
    · rw [if_pos q2] at h
      exact Nat.le_of_eq (congrArg dl_al (dl_r2 h).2)
    · rw [if_neg q2] at h
      exact Nat.le_of_eq (congrArg dl_al (dl_r2 h).2)
  refine dl_vV (pc := 1) C (ccl6_refresh l D cI cP cII TY hTY N ad pr R _ _ h1) (cwV 0 C.2.2.2.2.1 gX6_leastTag_X6_refresh rfl rfl rfl (by decide +kernel) ⟨Nat.le_of_ble_eq_true rfl, Nat.le_of_ble_eq_true rfl⟩) 3 6 cc_a3 rfl rfl rfl (Nat.le_of_ble_eq_true rfl) dX6_leastTag_1 (dl_bud he hm1 hm2) (fun u hp => ?_)
  obtain ⟨b, rfl⟩ := hp
  have he := dl_bud2 he hm1 hm2
  refine dl_aload_n (pc := 4) C 0 dX6_leastTag_4 rfl rfl ?_
  refine dl_get (pc := 5) C hin_X6_leastTag_X6 3 cc_a3 rfl 4 (by decide) lk_X6_leastTag_103 rfl rfl dX6_leastTag_5 ?_
  refine dl_if_ne (pc := 8) C 16 dX6_leastTag_8 (by decide) h (fun q2 h => ?_) (fun q2 h => ?_)
  · refine dl_ldc (pc := 11) C (-1000000) (by decide +kernel) dX6_leastTag_11 ?_
    refine dl_goto (pc := 13) C 20 dX6_leastTag_13 (by decide) ?_
    refine dl_wid (Nat.le_trans (Nat.le_add_right _ _) he.1) (Nat.le_trans (Nat.le_add_right _ _) he.2) ?_
    exact hQ 20 _ _ _ ⟨(dl_r2 h).1, _, by rw [(dl_r2 h).2]⟩ (vp_nar_int _) dX6_leastTag_20
  · refine dl_aload_n (pc := 16) C 0 dX6_leastTag_16 rfl rfl ?_
    refine dl_get (pc := 17) C hin_X6_leastTag_X6 3 cc_a3 rfl 5 (by decide) lk_X6_leastTag_107 rfl rfl dX6_leastTag_17 ?_
    refine dl_wid (Nat.le_trans (Nat.le_add_right _ _) he.1) (Nat.le_trans (Nat.le_add_right _ _) he.2) ?_
    exact hQ 20 _ _ _ ⟨(dl_r2 h).1, _, by rw [(dl_r2 h).2]⟩ (vp_nar_int _) dX6_leastTag_20
def cl6_howManyBest (N : Nat) (g : dl_Sg) : Option (Int32 × dl_Sg) :=
    dl_bi (cl6_refresh N g) fun g1 =>
    some (g1 3 4, g1)
theorem hin_X6_howManyBest_X6 : ∀ w ∈ u_ws RX6 TX6 9, w ∈ wsX6_howManyBest := fun _ h => List.mem_cons_of_mem _ (List.mem_append_left _ (List.mem_append_right _ h))
theorem lk_X6_howManyBest_103 : Cond.fieldLink (yX6_howManyBest).cls 103 "DripLines$Trees" (TX6 4).2.1 (TX6 4).2.2.1 ∈ wsX6_howManyBest := by decide +kernel
set_option maxHeartbeats 4000000 in
set_option maxRecDepth 100000 in
theorem cl6_howManyBest_me (N : Nat) (g : dl_Sg) {r0 : Int32} {g0 : dl_Sg} (h : cl6_howManyBest N g  = some (r0, g0)) : dl_al g ≤ dl_al g0 := by
  unfold cl6_howManyBest at h
  obtain ⟨g1, h1, h⟩ := dl_bi_some h
  refine Nat.le_trans (cl6_refresh_me N _ h1) ?_
  exact Nat.le_of_eq (congrArg dl_al (dl_r2 h).2)
set_option maxHeartbeats 4000000 in
set_option maxRecDepth 100000 in
theorem ccl6_howManyBest (l : Launch) (D : va_G) (cI cP cII : ClassId) (TY : dl_TY) (hTY : TY[0]? = some (cI, .int)) (N : Nat) (ad : Nat → Nat) (pr : Nat → Option Nat) (R : va_W) (b : Nat) (g : dl_Sg) {r0 : Int32} {g0 : dl_Sg} (h : cl6_howManyBest N g  = some (r0, g0)) : dl_CtI l D TY cc_nw yX6_howManyBest wsX6_howManyBest { frames := 23, cells := dl_al g0 - dl_al g, slots := 2 * (dl_al g0 - dl_al g), locals := 588 } (dl_al g0 - dl_al g) (2 * (dl_al g0 - dl_al g)) [.ref (ad 3)] (cc_w cI cP cII (va_up ad 33 b) pr g ++ R) (fun r u => r = r0 ∧ ∃ b1, u = cc_w cI cP cII (va_up ad 33 b1) pr g0 ++ R) := by
  refine dl_metI (ty := .int) [(0, .ref (ad 3))] (by decide) rfl (Nat.le_of_ble_eq_true rfl) rfl ?_
  intro p e s m args below meth c Q A C hQ
  unfold cl6_howManyBest at h
  generalize hmc : dl_al g0 - dl_al g = mc at hQ ⊢
  generalize hms : 2 * mc = ms at hQ ⊢
  have he : 0 + (dl_al g0 - dl_al g) ≤ mc ∧ 0 + 2 * (dl_al g0 - dl_al g) ≤ ms := ⟨by omega, by omega⟩
  refine dl_aload_n (pc := 0) C 0 dX6_howManyBest_0 rfl rfl ?_
  obtain ⟨g1, h1, h⟩ := dl_bi_some h
  have hm1 : dl_al g ≤ dl_al g1 := cl6_refresh_me N _ h1
  have hm2 : dl_al g1 ≤ dl_al g0 := by
    exact Nat.le_of_eq (congrArg dl_al (dl_r2 h).2)
  refine dl_vV (pc := 1) C (ccl6_refresh l D cI cP cII TY hTY N ad pr R _ _ h1) (cwV 0 C.2.2.2.2.1 gX6_howManyBest_X6_refresh rfl rfl rfl (by decide +kernel) ⟨Nat.le_of_ble_eq_true rfl, Nat.le_of_ble_eq_true rfl⟩) 3 6 cc_a3 rfl rfl rfl (Nat.le_of_ble_eq_true rfl) dX6_howManyBest_1 (dl_bud he hm1 hm2) (fun u hp => ?_)
  obtain ⟨b, rfl⟩ := hp
  have he := dl_bud2 he hm1 hm2
  refine dl_aload_n (pc := 4) C 0 dX6_howManyBest_4 rfl rfl ?_
  refine dl_get (pc := 5) C hin_X6_howManyBest_X6 3 cc_a3 rfl 4 (by decide) lk_X6_howManyBest_103 rfl rfl dX6_howManyBest_5 ?_
  refine dl_wid (Nat.le_trans (Nat.le_add_right _ _) he.1) (Nat.le_trans (Nat.le_add_right _ _) he.2) ?_
  exact hQ 8 _ _ _ ⟨(dl_r2 h).1, _, by rw [(dl_r2 h).2]⟩ (vp_nar_int _) dX6_howManyBest_8
def cl6_streetOfBest_b71 (N : Nat) (k33 : Int32 → Int32 → Int32 → Int32 → dl_Sg → Option (Int32 × dl_Sg)) (x1 : Int32) (x2 : Int32) (x3 : Int32) (x4 : Int32) (g : dl_Sg) : Option (Int32 × dl_Sg) :=
    dl_nm (x4 + 1) fun v1 =>
    k33 x1 x2 x3 v1 g
def cl6_streetOfBest_b33 (N : Nat) : Nat → Int32 → Int32 → Int32 → Int32 → dl_Sg → Option (Int32 × dl_Sg)
  | 0, _, _, _, _, _ => none
  | n + 1, x1, x2, x3, x4, g =>
    if (g 1 11) ≤ x4 then (
    some ((-1 : Int32), g))
    else (
    dl_gd (dl_in x1 ((g 9 0).toNatClampNeg)) (
    dl_bi (cl11_bitAt (g 33 x1.toNatClampNeg) x4) fun r1 =>
    if r1 = (1 : Int32) then (
    if x3 = x2 then (
    some (x4, g))
    else (
    dl_nm (x3 + 1) fun v2 =>
    cl6_streetOfBest_b71 N (cl6_streetOfBest_b33 N n) x1 x2 v2 x4 g))
    else (
    cl6_streetOfBest_b71 N (cl6_streetOfBest_b33 N n) x1 x2 x3 x4 g)))
def cl6_streetOfBest (N : Nat) (g : dl_Sg) (x1 : Int32) (x2 : Int32) : Option (Int32 × dl_Sg) :=
    dl_bi (cl6_refresh N g) fun g1 =>
    if x1 < 0 then (
    some ((-1 : Int32), g1))
    else (
    if (g1 3 4) ≤ x1 then (
    some ((-1 : Int32), g1))
    else (
    if x2 < 0 then (
    some ((-1 : Int32), g1))
    else (
    if x2 < (16 : Int32) then (
    dl_nm (0 : Int32) fun v2 =>
    dl_nm (0 : Int32) fun v3 =>
    cl6_streetOfBest_b33 N N x1 x2 v2 v3 g1)
    else (
    some ((-1 : Int32), g1)))))
theorem hin_X6_streetOfBest_X2 : ∀ w ∈ u_ws RX2 TX2 18, w ∈ wsX6_streetOfBest := fun _ h => List.mem_cons_of_mem _ (List.mem_append_right _ h)
theorem hin_X6_streetOfBest_X6 : ∀ w ∈ u_ws RX6 TX6 9, w ∈ wsX6_streetOfBest := fun _ h => List.mem_cons_of_mem _ (List.mem_append_left _ (List.mem_append_right _ h))
theorem lk_X6_streetOfBest_18 : Cond.fieldLink (yX6_streetOfBest).cls 18 "DripLines$Trees" (TX6 3).2.1 (TX6 3).2.2.1 ∈ wsX6_streetOfBest := by decide +kernel
theorem lk_X6_streetOfBest_25 : Cond.fieldLink (yX6_streetOfBest).cls 25 "DripLines$Trees" (TX6 0).2.1 (TX6 0).2.2.1 ∈ wsX6_streetOfBest := by decide +kernel
theorem lk_X6_streetOfBest_103 : Cond.fieldLink (yX6_streetOfBest).cls 103 "DripLines$Trees" (TX6 4).2.1 (TX6 4).2.2.1 ∈ wsX6_streetOfBest := by decide +kernel
set_option maxHeartbeats 4000000 in
set_option maxRecDepth 100000 in
theorem cl6_streetOfBest_m71 (N : Nat) {r0 : Int32} {g0 : dl_Sg} {k33 : Int32 → Int32 → Int32 → Int32 → dl_Sg → Option (Int32 × dl_Sg)} (hm33 : ∀ (x1 : Int32) (x2 : Int32) (x3 : Int32) (x4 : Int32) (g : dl_Sg), k33 x1 x2 x3 x4 g = some (r0, g0) → dl_al g ≤ dl_al g0) (x1 : Int32) (x2 : Int32) (x3 : Int32) (x4 : Int32) (g : dl_Sg) (h : cl6_streetOfBest_b71 N k33 x1 x2 x3 x4 g = some (r0, g0)) : dl_al g ≤ dl_al g0 := by
  unfold cl6_streetOfBest_b71 at h
  obtain ⟨v1, h, -⟩ := dl_nm_some h
  exact hm33 _ _ _ _ _ h
set_option maxHeartbeats 4000000 in
set_option maxRecDepth 100000 in
theorem cl6_streetOfBest_t71 {p : Program} {e : Env} {s : State} {m : MethodId} {args : Array Value} {below : List Frame} {meth : Method} {c : Code} {Q : State → Prop} {A : Nat → Prop} (l : Launch) (D : va_G) (cI cP cII : ClassId) (TY : dl_TY) (hTY : TY[0]? = some (cI, .int)) (N : Nat) (ad : Nat → Nat) (pr : Nat → Option Nat) (R : va_W) {r0 : Int32} {g0 : dl_Sg} (mc ms : Nat) (C : dl_Cx p s m args c A D TY cc_nw cX6_streetOfBest 5 yX6_streetOfBest.cls wsX6_streetOfBest) (hQ : dl_RtI p l e (headSpec wsX6_streetOfBest { frames := 23, cells := mc, slots := ms, locals := 588 }).room s m args below meth c Q A D cX6_streetOfBest 5 mc ms .int (fun r u => r = r0 ∧ ∃ b1, u = cc_w cI cP cII (va_up ad 33 b1) pr g0 ++ R)) {k33 : Int32 → Int32 → Int32 → Int32 → dl_Sg → Option (Int32 × dl_Sg)} (hk33 : ∀ (x1 : Int32) (x2 : Int32) (x3 : Int32) (x4 : Int32) (b : Nat) (g : dl_Sg) (c0 s0 : Nat), c0 + (dl_al g0 - dl_al g) ≤ mc ∧ s0 + 2 * (dl_al g0 - dl_al g) ≤ ms → k33 x1 x2 x3 x4 g = some (r0, g0) → dl_At p l e (headSpec wsX6_streetOfBest { frames := 23, cells := mc, slots := ms, locals := 588 }).room s m args below meth c Q A D 5 c0 s0 33 [(0, .ref (ad 3)), (1, .int x1), (2, .int x2), (3, .int x3), (4, .int x4)] [] (cc_w cI cP cII (va_up ad 33 b) pr g ++ R)) (hm33 : ∀ (x1 : Int32) (x2 : Int32) (x3 : Int32) (x4 : Int32) (g : dl_Sg), k33 x1 x2 x3 x4 g = some (r0, g0) → dl_al g ≤ dl_al g0) (x1 : Int32) (x2 : Int32) (x3 : Int32) (x4 : Int32) (b : Nat) (g : dl_Sg) (c0 s0 : Nat) (he : c0 + (dl_al g0 - dl_al g) ≤ mc ∧ s0 + 2 * (dl_al g0 - dl_al g) ≤ ms) (h : cl6_streetOfBest_b71 N k33 x1 x2 x3 x4 g = some (r0, g0)) : dl_At p l e (headSpec wsX6_streetOfBest { frames := 23, cells := mc, slots := ms, locals := 588 }).room s m args below meth c Q A D 5 c0 s0 71 [(0, .ref (ad 3)), (1, .int x1), (2, .int x2), (3, .int x3), (4, .int x4)] [] (cc_w cI cP cII (va_up ad 33 b) pr g ++ R) := by
  unfold cl6_streetOfBest_b71 at h
  refine dl_iinc (pc := 71) C 4 (fun v1 => [(4, .int v1), (0, .ref (ad 3)), (1, .int x1), (2, .int x2), (3, .int x3)]) dX6_streetOfBest_71 rfl rfl (by decide) (fun _ => rfl) h (fun v1 h => ?_)
  refine dl_goto (pc := 74) C 33 dX6_streetOfBest_74 (by decide) ?_
  refine dl_sub [1, 2, 3, 4, 0] rfl ?_
  exact hk33 _ _ _ _ _ _ _ _ he h
set_option maxHeartbeats 4000000 in
set_option maxRecDepth 100000 in
theorem cl6_streetOfBest_m33 (N : Nat) {r0 : Int32} {g0 : dl_Sg} : ∀ (n : Nat) (x1 : Int32) (x2 : Int32) (x3 : Int32) (x4 : Int32) (g : dl_Sg), cl6_streetOfBest_b33 N n x1 x2 x3 x4 g = some (r0, g0) → dl_al g ≤ dl_al g0 := by
  intro n
  induction n with
  | zero => exact fun _ _ _ _ _ h => absurd (show (none : Option (Int32 × dl_Sg)) = some _ from h) (by intro q; cases q)
  | succ n im =>
    intro x1 x2 x3 x4 g h
    rw [cl6_streetOfBest_b33] at h
    by_cases q5 : (g 1 11) ≤ x4
    · rw [if_pos q5] at h
      exact Nat.le_of_eq (congrArg dl_al (dl_r2 h).2)
    · rw [if_neg q5] at h
      obtain ⟨-, h⟩ := dl_gd_some h
      obtain ⟨r1, -, h⟩ := dl_bi_some h
      by_cases q4 : r1 = (1 : Int32)
      · rw [if_pos q4] at h
        by_cases q3 : x3 = x2
        · rw [if_pos q3] at h
          exact Nat.le_of_eq (congrArg dl_al (dl_r2 h).2)
        · rw [if_neg q3] at h
          obtain ⟨v2, h, -⟩ := dl_nm_some h
          exact cl6_streetOfBest_m71 N im  _ _ _ _ _ h
      · rw [if_neg q4] at h
        exact cl6_streetOfBest_m71 N im  _ _ _ _ _ h
set_option maxHeartbeats 4000000 in
set_option maxRecDepth 100000 in
theorem cl6_streetOfBest_t33 {p : Program} {e : Env} {s : State} {m : MethodId} {args : Array Value} {below : List Frame} {meth : Method} {c : Code} {Q : State → Prop} {A : Nat → Prop} (l : Launch) (D : va_G) (cI cP cII : ClassId) (TY : dl_TY) (hTY : TY[0]? = some (cI, .int)) (N : Nat) (ad : Nat → Nat) (pr : Nat → Option Nat) (R : va_W) {r0 : Int32} {g0 : dl_Sg} (mc ms : Nat) (C : dl_Cx p s m args c A D TY cc_nw cX6_streetOfBest 5 yX6_streetOfBest.cls wsX6_streetOfBest) (hQ : dl_RtI p l e (headSpec wsX6_streetOfBest { frames := 23, cells := mc, slots := ms, locals := 588 }).room s m args below meth c Q A D cX6_streetOfBest 5 mc ms .int (fun r u => r = r0 ∧ ∃ b1, u = cc_w cI cP cII (va_up ad 33 b1) pr g0 ++ R)) : ∀ (n : Nat) (x1 : Int32) (x2 : Int32) (x3 : Int32) (x4 : Int32) (b : Nat) (g : dl_Sg) (c0 s0 : Nat), c0 + (dl_al g0 - dl_al g) ≤ mc ∧ s0 + 2 * (dl_al g0 - dl_al g) ≤ ms → cl6_streetOfBest_b33 N n x1 x2 x3 x4 g = some (r0, g0) → dl_At p l e (headSpec wsX6_streetOfBest { frames := 23, cells := mc, slots := ms, locals := 588 }).room s m args below meth c Q A D 5 c0 s0 33 [(0, .ref (ad 3)), (1, .int x1), (2, .int x2), (3, .int x3), (4, .int x4)] [] (cc_w cI cP cII (va_up ad 33 b) pr g ++ R) := by
  intro n
  induction n with
  | zero => exact fun _ _ _ _ _ _ _ _ _ h => absurd (show (none : Option (Int32 × dl_Sg)) = some _ from h) (by intro q; cases q)
  | succ n ih =>
    intro x1 x2 x3 x4 b g c0 s0 he h
    have im := cl6_streetOfBest_m33 (r0 := r0) (g0 := g0) N n
    rw [cl6_streetOfBest_b33] at h
    refine dl_iload (pc := 33) C 4 dX6_streetOfBest_33 rfl ?_
    refine dl_aload_n (pc := 35) C 0 dX6_streetOfBest_35 rfl rfl ?_
    refine dl_get (pc := 36) C hin_X6_streetOfBest_X6 3 cc_a3 rfl 0 (by decide) lk_X6_streetOfBest_25 rfl rfl dX6_streetOfBest_36 ?_
    refine dl_getN (pc := 39) C hin_X6_streetOfBest_X2 1 cc_a1 rfl 11 (by decide) nk_RX6_34 rfl rfl dX6_streetOfBest_39 ?_
    refine dl_icmp_ge (pc := 42) C 77 dX6_streetOfBest_42 (by decide) h (fun q5 h => ?_) (fun q5 h => ?_)
    · refine dl_iconst (pc := 77) C (-1) dX6_streetOfBest_77 (by decide) ?_
      refine dl_wid (Nat.le_trans (Nat.le_add_right _ _) he.1) (Nat.le_trans (Nat.le_add_right _ _) he.2) ?_
      exact hQ 78 _ _ _ ⟨(dl_r2 h).1, _, by rw [(dl_r2 h).2]⟩ (vp_nar_int _) dX6_streetOfBest_78
    · refine dl_aload_n (pc := 45) C 0 dX6_streetOfBest_45 rfl rfl ?_
      refine dl_get (pc := 46) C hin_X6_streetOfBest_X6 3 cc_a3 rfl 3 (by decide) lk_X6_streetOfBest_18 rfl rfl dX6_streetOfBest_46 ?_
      refine dl_iload_n (pc := 49) C 1 dX6_streetOfBest_49 rfl rfl ?_
      obtain ⟨h0, h⟩ := dl_gd_some h
      refine dl_iald (pc := 50) C 30 0 cc_a33 hTY h0 dX6_streetOfBest_50 ?_
      refine dl_iload (pc := 51) C 4 dX6_streetOfBest_51 rfl ?_
      obtain ⟨r1, h1, h⟩ := dl_bi_some h
      refine dl_sIN0 (n := 2) (pc := 53) C (ccl11_bitAt l D TY cc_nw _ _ _ h1) ggX6_streetOfBest_X11_bitAt rfl rfl rfl nk_RX6_37 (by decide +kernel) (by decide +kernel) (by decide +kernel) ⟨Nat.le_of_ble_eq_true rfl, Nat.le_of_ble_eq_true rfl⟩ rfl rfl (Nat.le_of_ble_eq_true rfl) dX6_streetOfBest_53 ⟨Nat.le_trans (Nat.le_add_right _ _) he.1, Nat.le_trans (Nat.le_add_right _ _) he.2⟩ (fun r u hp => ?_)
      obtain ⟨rfl, hu⟩ := hp
      rw [hu]
      clear hu
      refine dl_iconst (pc := 56) C 1 dX6_streetOfBest_56 (by decide) ?_
      refine dl_icmp_ne (pc := 57) C 71 dX6_streetOfBest_57 (by decide) h (fun q4 h => ?_) (fun q4 h => ?_)
      · refine dl_iload_n (pc := 60) C 3 dX6_streetOfBest_60 rfl rfl ?_
        refine dl_iload_n (pc := 61) C 2 dX6_streetOfBest_61 rfl rfl ?_
        refine dl_icmp_ne (pc := 62) C 68 dX6_streetOfBest_62 (by decide) h (fun q3 h => ?_) (fun q3 h => ?_)
        · refine dl_iload (pc := 65) C 4 dX6_streetOfBest_65 rfl ?_
          refine dl_wid (Nat.le_trans (Nat.le_add_right _ _) he.1) (Nat.le_trans (Nat.le_add_right _ _) he.2) ?_
          exact hQ 67 _ _ _ ⟨(dl_r2 h).1, _, by rw [(dl_r2 h).2]⟩ (vp_nar_int _) dX6_streetOfBest_67
        · refine dl_iinc (pc := 68) C 3 (fun v2 => [(3, .int v2), (0, .ref (ad 3)), (1, .int x1), (2, .int x2), (4, .int x4)]) dX6_streetOfBest_68 rfl rfl (by decide) (fun _ => rfl) h (fun v2 h => ?_)
          refine dl_sub [1, 2, 3, 0, 4] rfl ?_
          exact cl6_streetOfBest_t71 l D cI cP cII TY hTY N ad pr R _ _ C hQ ih im  _ _ _ _ _ _ _ _ he h
      · refine dl_sub [0, 1, 2, 3, 4] rfl ?_
        exact cl6_streetOfBest_t71 l D cI cP cII TY hTY N ad pr R _ _ C hQ ih im  _ _ _ _ _ _ _ _ he h
set_option maxHeartbeats 4000000 in
set_option maxRecDepth 100000 in
theorem cl6_streetOfBest_me (N : Nat) (g : dl_Sg) (x1 : Int32) (x2 : Int32) {r0 : Int32} {g0 : dl_Sg} (h : cl6_streetOfBest N g x1 x2 = some (r0, g0)) : dl_al g ≤ dl_al g0 := by
  unfold cl6_streetOfBest at h
  obtain ⟨g1, h1, h⟩ := dl_bi_some h
  refine Nat.le_trans (cl6_refresh_me N _ h1) ?_
  by_cases q7 : x1 < 0
  · rw [if_pos q7] at h
    exact Nat.le_of_eq (congrArg dl_al (dl_r2 h).2)
  · rw [if_neg q7] at h
    by_cases q6 : (g1 3 4) ≤ x1
    · rw [if_pos q6] at h
      exact Nat.le_of_eq (congrArg dl_al (dl_r2 h).2)
    · rw [if_neg q6] at h
      by_cases q5 : x2 < 0
      · rw [if_pos q5] at h
        exact Nat.le_of_eq (congrArg dl_al (dl_r2 h).2)
      · rw [if_neg q5] at h
        by_cases q4 : x2 < (16 : Int32)
        · rw [if_pos q4] at h
          obtain ⟨v2, h, -⟩ := dl_nm_some h
          obtain ⟨v3, h, -⟩ := dl_nm_some h
          exact cl6_streetOfBest_m33 N N _ _ _ _ _ h
        · rw [if_neg q4] at h
          exact Nat.le_of_eq (congrArg dl_al (dl_r2 h).2)
set_option maxHeartbeats 4000000 in
set_option maxRecDepth 100000 in
theorem ccl6_streetOfBest (l : Launch) (D : va_G) (cI cP cII : ClassId) (TY : dl_TY) (hTY : TY[0]? = some (cI, .int)) (N : Nat) (ad : Nat → Nat) (pr : Nat → Option Nat) (R : va_W) (b : Nat) (g : dl_Sg) (x1 : Int32) (x2 : Int32) {r0 : Int32} {g0 : dl_Sg} (h : cl6_streetOfBest N g x1 x2 = some (r0, g0)) : dl_CtI l D TY cc_nw yX6_streetOfBest wsX6_streetOfBest { frames := 23, cells := dl_al g0 - dl_al g, slots := 2 * (dl_al g0 - dl_al g), locals := 588 } (dl_al g0 - dl_al g) (2 * (dl_al g0 - dl_al g)) [.ref (ad 3), .int x1, .int x2] (cc_w cI cP cII (va_up ad 33 b) pr g ++ R) (fun r u => r = r0 ∧ ∃ b1, u = cc_w cI cP cII (va_up ad 33 b1) pr g0 ++ R) := by
  refine dl_metI (ty := .int) [(0, .ref (ad 3)), (1, .int x1), (2, .int x2)] (by decide) rfl (Nat.le_of_ble_eq_true rfl) rfl ?_
  intro p e s m args below meth c Q A C hQ
  unfold cl6_streetOfBest at h
  generalize hmc : dl_al g0 - dl_al g = mc at hQ ⊢
  generalize hms : 2 * mc = ms at hQ ⊢
  have he : 0 + (dl_al g0 - dl_al g) ≤ mc ∧ 0 + 2 * (dl_al g0 - dl_al g) ≤ ms := ⟨by omega, by omega⟩
  refine dl_aload_n (pc := 0) C 0 dX6_streetOfBest_0 rfl rfl ?_
  obtain ⟨g1, h1, h⟩ := dl_bi_some h
  have hm1 : dl_al g ≤ dl_al g1 := cl6_refresh_me N _ h1
  have hm2 : dl_al g1 ≤ dl_al g0 := by
    by_cases q7 : x1 < 0
    · rw [if_pos q7] at h
      exact Nat.le_of_eq (congrArg dl_al (dl_r2 h).2)
    · rw [if_neg q7] at h
      by_cases q6 : (g1 3 4) ≤ x1
      · rw [if_pos q6] at h
        exact Nat.le_of_eq (congrArg dl_al (dl_r2 h).2)
      · rw [if_neg q6] at h
        by_cases q5 : x2 < 0
        · rw [if_pos q5] at h
          exact Nat.le_of_eq (congrArg dl_al (dl_r2 h).2)
        · rw [if_neg q5] at h
          by_cases q4 : x2 < (16 : Int32)
          · rw [if_pos q4] at h
            obtain ⟨v2, h, -⟩ := dl_nm_some h
            obtain ⟨v3, h, -⟩ := dl_nm_some h
            exact cl6_streetOfBest_m33 N N _ _ _ _ _ h
          · rw [if_neg q4] at h
            exact Nat.le_of_eq (congrArg dl_al (dl_r2 h).2)
  refine dl_vV (pc := 1) C (ccl6_refresh l D cI cP cII TY hTY N ad pr R _ _ h1) (cwV 0 C.2.2.2.2.1 gX6_streetOfBest_X6_refresh rfl rfl rfl (by decide +kernel) ⟨Nat.le_of_ble_eq_true rfl, Nat.le_of_ble_eq_true rfl⟩) 3 6 cc_a3 rfl rfl rfl (Nat.le_of_ble_eq_true rfl) dX6_streetOfBest_1 (dl_bud he hm1 hm2) (fun u hp => ?_)
  obtain ⟨b, rfl⟩ := hp
  have he := dl_bud2 he hm1 hm2
  refine dl_iload_n (pc := 4) C 1 dX6_streetOfBest_4 rfl rfl ?_
  refine dl_if_lt (pc := 5) C 26 dX6_streetOfBest_5 (by decide) h (fun q7 h => ?_) (fun q7 h => ?_)
  · refine dl_iconst (pc := 26) C (-1) dX6_streetOfBest_26 (by decide) ?_
    refine dl_wid (Nat.le_trans (Nat.le_add_right _ _) he.1) (Nat.le_trans (Nat.le_add_right _ _) he.2) ?_
    exact hQ 27 _ _ _ ⟨(dl_r2 h).1, _, by rw [(dl_r2 h).2]⟩ (vp_nar_int _) dX6_streetOfBest_27
  · refine dl_iload_n (pc := 8) C 1 dX6_streetOfBest_8 rfl rfl ?_
    refine dl_aload_n (pc := 9) C 0 dX6_streetOfBest_9 rfl rfl ?_
    refine dl_get (pc := 10) C hin_X6_streetOfBest_X6 3 cc_a3 rfl 4 (by decide) lk_X6_streetOfBest_103 rfl rfl dX6_streetOfBest_10 ?_
    refine dl_icmp_ge (pc := 13) C 26 dX6_streetOfBest_13 (by decide) h (fun q6 h => ?_) (fun q6 h => ?_)
    · refine dl_iconst (pc := 26) C (-1) dX6_streetOfBest_26 (by decide) ?_
      refine dl_wid (Nat.le_trans (Nat.le_add_right _ _) he.1) (Nat.le_trans (Nat.le_add_right _ _) he.2) ?_
      exact hQ 27 _ _ _ ⟨(dl_r2 h).1, _, by rw [(dl_r2 h).2]⟩ (vp_nar_int _) dX6_streetOfBest_27
    · refine dl_iload_n (pc := 16) C 2 dX6_streetOfBest_16 rfl rfl ?_
      refine dl_if_lt (pc := 17) C 26 dX6_streetOfBest_17 (by decide) h (fun q5 h => ?_) (fun q5 h => ?_)
      · refine dl_iconst (pc := 26) C (-1) dX6_streetOfBest_26 (by decide) ?_
        refine dl_wid (Nat.le_trans (Nat.le_add_right _ _) he.1) (Nat.le_trans (Nat.le_add_right _ _) he.2) ?_
        exact hQ 27 _ _ _ ⟨(dl_r2 h).1, _, by rw [(dl_r2 h).2]⟩ (vp_nar_int _) dX6_streetOfBest_27
      · refine dl_iload_n (pc := 20) C 2 dX6_streetOfBest_20 rfl rfl ?_
        refine dl_bipush (pc := 21) C 16 dX6_streetOfBest_21 (by decide) ?_
        refine dl_icmp_lt (pc := 23) C 28 dX6_streetOfBest_23 (by decide) h (fun q4 h => ?_) (fun q4 h => ?_)
        · refine dl_iconst (pc := 28) C 0 dX6_streetOfBest_28 (by decide) ?_
          refine dl_istore_n (pc := 29) C (fun v2 => [(3, .int v2), (0, .ref (ad 3)), (1, .int x1), (2, .int x2)]) dX6_streetOfBest_29 rfl (by decide) (fun _ => rfl) h (fun v2 h => ?_)
          refine dl_iconst (pc := 30) C 0 dX6_streetOfBest_30 (by decide) ?_
          refine dl_istore (pc := 31) C (fun v3 => [(4, .int v3), (3, .int v2), (0, .ref (ad 3)), (1, .int x1), (2, .int x2)]) dX6_streetOfBest_31 (by decide) (fun _ => rfl) h (fun v3 h => ?_)
          refine dl_sub [2, 3, 4, 1, 0] rfl ?_
          exact cl6_streetOfBest_t33 l D cI cP cII TY hTY N ad pr R _ _ C hQ N _ _ _ _ _ _ _ _ he h
        · refine dl_iconst (pc := 26) C (-1) dX6_streetOfBest_26 (by decide) ?_
          refine dl_wid (Nat.le_trans (Nat.le_add_right _ _) he.1) (Nat.le_trans (Nat.le_add_right _ _) he.2) ?_
          exact hQ 27 _ _ _ ⟨(dl_r2 h).1, _, by rw [(dl_r2 h).2]⟩ (vp_nar_int _) dX6_streetOfBest_27
def cl6_useInBest (N : Nat) (g : dl_Sg) (x1 : Int32) : Option (Int32 × dl_Sg) :=
    dl_bi (cl6_refresh N g) fun g1 =>
    if (g1 3 4) = 0 then (
    some ((-1 : Int32), g1))
    else (
    dl_bi (cl11_bitAt (g1 3 6) x1) fun r2 =>
    dl_bi (cl11_bitAt (g1 3 7) x1) fun r3 =>
    some (r2 + r3, g1))
theorem hin_X6_useInBest_X6 : ∀ w ∈ u_ws RX6 TX6 9, w ∈ wsX6_useInBest := fun _ h => List.mem_cons_of_mem _ (List.mem_append_left _ (List.mem_append_right _ h))
theorem lk_X6_useInBest_103 : Cond.fieldLink (yX6_useInBest).cls 103 "DripLines$Trees" (TX6 4).2.1 (TX6 4).2.2.1 ∈ wsX6_useInBest := by decide +kernel
theorem lk_X6_useInBest_110 : Cond.fieldLink (yX6_useInBest).cls 110 "DripLines$Trees" (TX6 6).2.1 (TX6 6).2.2.1 ∈ wsX6_useInBest := by decide +kernel
theorem lk_X6_useInBest_113 : Cond.fieldLink (yX6_useInBest).cls 113 "DripLines$Trees" (TX6 7).2.1 (TX6 7).2.2.1 ∈ wsX6_useInBest := by decide +kernel
set_option maxHeartbeats 4000000 in
set_option maxRecDepth 100000 in
theorem cl6_useInBest_me (N : Nat) (g : dl_Sg) (x1 : Int32) {r0 : Int32} {g0 : dl_Sg} (h : cl6_useInBest N g x1 = some (r0, g0)) : dl_al g ≤ dl_al g0 := by
  unfold cl6_useInBest at h
  obtain ⟨g1, h1, h⟩ := dl_bi_some h
  refine Nat.le_trans (cl6_refresh_me N _ h1) ?_
  by_cases q4 : (g1 3 4) = 0
  · rw [if_pos q4] at h
    exact Nat.le_of_eq (congrArg dl_al (dl_r2 h).2)
  · rw [if_neg q4] at h
    obtain ⟨r2, -, h⟩ := dl_bi_some h
    obtain ⟨r3, -, h⟩ := dl_bi_some h
    exact Nat.le_of_eq (congrArg dl_al (dl_r2 h).2)
set_option maxHeartbeats 4000000 in
set_option maxRecDepth 100000 in
theorem ccl6_useInBest (l : Launch) (D : va_G) (cI cP cII : ClassId) (TY : dl_TY) (hTY : TY[0]? = some (cI, .int)) (N : Nat) (ad : Nat → Nat) (pr : Nat → Option Nat) (R : va_W) (b : Nat) (g : dl_Sg) (x1 : Int32) {r0 : Int32} {g0 : dl_Sg} (h : cl6_useInBest N g x1 = some (r0, g0)) : dl_CtI l D TY cc_nw yX6_useInBest wsX6_useInBest { frames := 23, cells := dl_al g0 - dl_al g, slots := 2 * (dl_al g0 - dl_al g), locals := 588 } (dl_al g0 - dl_al g) (2 * (dl_al g0 - dl_al g)) [.ref (ad 3), .int x1] (cc_w cI cP cII (va_up ad 33 b) pr g ++ R) (fun r u => r = r0 ∧ ∃ b1, u = cc_w cI cP cII (va_up ad 33 b1) pr g0 ++ R) := by
  refine dl_metI (ty := .int) [(0, .ref (ad 3)), (1, .int x1)] (by decide) rfl (Nat.le_of_ble_eq_true rfl) rfl ?_
  intro p e s m args below meth c Q A C hQ
  unfold cl6_useInBest at h
  generalize hmc : dl_al g0 - dl_al g = mc at hQ ⊢
  generalize hms : 2 * mc = ms at hQ ⊢
  have he : 0 + (dl_al g0 - dl_al g) ≤ mc ∧ 0 + 2 * (dl_al g0 - dl_al g) ≤ ms := ⟨by omega, by omega⟩
  refine dl_aload_n (pc := 0) C 0 dX6_useInBest_0 rfl rfl ?_
  obtain ⟨g1, h1, h⟩ := dl_bi_some h
  have hm1 : dl_al g ≤ dl_al g1 := cl6_refresh_me N _ h1
  have hm2 : dl_al g1 ≤ dl_al g0 := by
    by_cases q4 : (g1 3 4) = 0
    · rw [if_pos q4] at h
      exact Nat.le_of_eq (congrArg dl_al (dl_r2 h).2)
    · rw [if_neg q4] at h
      obtain ⟨r2, -, h⟩ := dl_bi_some h
      obtain ⟨r3, -, h⟩ := dl_bi_some h
      exact Nat.le_of_eq (congrArg dl_al (dl_r2 h).2)
  refine dl_vV (pc := 1) C (ccl6_refresh l D cI cP cII TY hTY N ad pr R _ _ h1) (cwV 0 C.2.2.2.2.1 gX6_useInBest_X6_refresh rfl rfl rfl (by decide +kernel) ⟨Nat.le_of_ble_eq_true rfl, Nat.le_of_ble_eq_true rfl⟩) 3 6 cc_a3 rfl rfl rfl (Nat.le_of_ble_eq_true rfl) dX6_useInBest_1 (dl_bud he hm1 hm2) (fun u hp => ?_)
  obtain ⟨b, rfl⟩ := hp
  have he := dl_bud2 he hm1 hm2
  refine dl_aload_n (pc := 4) C 0 dX6_useInBest_4 rfl rfl ?_
  refine dl_get (pc := 5) C hin_X6_useInBest_X6 3 cc_a3 rfl 4 (by decide) lk_X6_useInBest_103 rfl rfl dX6_useInBest_5 ?_
  refine dl_if_ne (pc := 8) C 15 dX6_useInBest_8 (by decide) h (fun q4 h => ?_) (fun q4 h => ?_)
  · refine dl_iconst (pc := 11) C (-1) dX6_useInBest_11 (by decide) ?_
    refine dl_goto (pc := 12) C 32 dX6_useInBest_12 (by decide) ?_
    refine dl_wid (Nat.le_trans (Nat.le_add_right _ _) he.1) (Nat.le_trans (Nat.le_add_right _ _) he.2) ?_
    exact hQ 32 _ _ _ ⟨(dl_r2 h).1, _, by rw [(dl_r2 h).2]⟩ (vp_nar_int _) dX6_useInBest_32
  · refine dl_aload_n (pc := 15) C 0 dX6_useInBest_15 rfl rfl ?_
    refine dl_get (pc := 16) C hin_X6_useInBest_X6 3 cc_a3 rfl 6 (by decide) lk_X6_useInBest_110 rfl rfl dX6_useInBest_16 ?_
    refine dl_iload_n (pc := 19) C 1 dX6_useInBest_19 rfl rfl ?_
    obtain ⟨r2, h1, h⟩ := dl_bi_some h
    refine dl_sIN0 (n := 2) (pc := 20) C (ccl11_bitAt l D TY cc_nw _ _ _ h1) ggX6_useInBest_X11_bitAt rfl rfl rfl nk_RX6_37 (by decide +kernel) (by decide +kernel) (by decide +kernel) ⟨Nat.le_of_ble_eq_true rfl, Nat.le_of_ble_eq_true rfl⟩ rfl rfl (Nat.le_of_ble_eq_true rfl) dX6_useInBest_20 ⟨Nat.le_trans (Nat.le_add_right _ _) he.1, Nat.le_trans (Nat.le_add_right _ _) he.2⟩ (fun r u hp => ?_)
    obtain ⟨rfl, hu⟩ := hp
    rw [hu]
    clear hu
    refine dl_aload_n (pc := 23) C 0 dX6_useInBest_23 rfl rfl ?_
    refine dl_get (pc := 24) C hin_X6_useInBest_X6 3 cc_a3 rfl 7 (by decide) lk_X6_useInBest_113 rfl rfl dX6_useInBest_24 ?_
    refine dl_iload_n (pc := 27) C 1 dX6_useInBest_27 rfl rfl ?_
    obtain ⟨r3, h1, h⟩ := dl_bi_some h
    refine dl_sIN0 (n := 2) (pc := 28) C (ccl11_bitAt l D TY cc_nw _ _ _ h1) ggX6_useInBest_X11_bitAt rfl rfl rfl nk_RX6_37 (by decide +kernel) (by decide +kernel) (by decide +kernel) ⟨Nat.le_of_ble_eq_true rfl, Nat.le_of_ble_eq_true rfl⟩ rfl rfl (Nat.le_of_ble_eq_true rfl) dX6_useInBest_28 ⟨Nat.le_trans (Nat.le_add_right _ _) he.1, Nat.le_trans (Nat.le_add_right _ _) he.2⟩ (fun r u hp => ?_)
    obtain ⟨rfl, hu⟩ := hp
    rw [hu]
    clear hu
    refine dl_iadd (pc := 31) C dX6_useInBest_31 ?_
    refine dl_wid (Nat.le_trans (Nat.le_add_right _ _) he.1) (Nat.le_trans (Nat.le_add_right _ _) he.2) ?_
    exact hQ 32 _ _ _ ⟨(dl_r2 h).1, _, by rw [(dl_r2 h).2]⟩ (vp_nar_int _) dX6_useInBest_32
def cl6_mostWorth_b34 (N : Nat) (k8 : Int32 → Int32 → dl_Sg → Option (Int32 × dl_Sg)) (x1 : Int32) (x2 : Int32) (g : dl_Sg) : Option (Int32 × dl_Sg) :=
    dl_nm (x2 + (-1)) fun v1 =>
    k8 x1 v1 g
def cl6_mostWorth_b8 (N : Nat) : Nat → Int32 → Int32 → dl_Sg → Option (Int32 × dl_Sg)
  | 0, _, _, _ => none
  | n + 1, x1, x2, g =>
    if x2 < 0 then (
    some ((-1000000 : Int32), g))
    else (
    dl_gd (dl_in x2 1001) (
    if (g 21 x2.toNatClampNeg) = (-1 : Int32) then (
    cl6_mostWorth_b34 N (cl6_mostWorth_b8 N n) x1 x2 g)
    else (
    dl_gd (dl_in x2 1001) (
    if x1 < (g 21 x2.toNatClampNeg) then (
    cl6_mostWorth_b34 N (cl6_mostWorth_b8 N n) x1 x2 g)
    else (
    some (x2, g))))))
def cl6_mostWorth (N : Nat) (g : dl_Sg) (x1 : Int32) : Option (Int32 × dl_Sg) :=
    dl_bi (cl6_refresh N g) fun g1 =>
    dl_nm (1000 : Int32) fun v2 =>
    cl6_mostWorth_b8 N N x1 v2 g1
theorem hin_X6_mostWorth_X6 : ∀ w ∈ u_ws RX6 TX6 9, w ∈ wsX6_mostWorth := fun _ h => List.mem_cons_of_mem _ (List.mem_append_left _ (List.mem_append_right _ h))
theorem lk_X6_mostWorth_15 : Cond.fieldLink (yX6_mostWorth).cls 15 "DripLines$Trees" (TX6 2).2.1 (TX6 2).2.2.1 ∈ wsX6_mostWorth := by decide +kernel
set_option maxHeartbeats 4000000 in
set_option maxRecDepth 100000 in
theorem cl6_mostWorth_m34 (N : Nat) {r0 : Int32} {g0 : dl_Sg} {k8 : Int32 → Int32 → dl_Sg → Option (Int32 × dl_Sg)} (hm8 : ∀ (x1 : Int32) (x2 : Int32) (g : dl_Sg), k8 x1 x2 g = some (r0, g0) → dl_al g ≤ dl_al g0) (x1 : Int32) (x2 : Int32) (g : dl_Sg) (h : cl6_mostWorth_b34 N k8 x1 x2 g = some (r0, g0)) : dl_al g ≤ dl_al g0 := by
  unfold cl6_mostWorth_b34 at h
  obtain ⟨v1, h, -⟩ := dl_nm_some h
  exact hm8 _ _ _ h
set_option maxHeartbeats 4000000 in
set_option maxRecDepth 100000 in
theorem cl6_mostWorth_t34 {p : Program} {e : Env} {s : State} {m : MethodId} {args : Array Value} {below : List Frame} {meth : Method} {c : Code} {Q : State → Prop} {A : Nat → Prop} (l : Launch) (D : va_G) (cI cP cII : ClassId) (TY : dl_TY) (hTY : TY[0]? = some (cI, .int)) (N : Nat) (ad : Nat → Nat) (pr : Nat → Option Nat) (R : va_W) {r0 : Int32} {g0 : dl_Sg} (mc ms : Nat) (C : dl_Cx p s m args c A D TY cc_nw cX6_mostWorth 3 yX6_mostWorth.cls wsX6_mostWorth) (hQ : dl_RtI p l e (headSpec wsX6_mostWorth { frames := 23, cells := mc, slots := ms, locals := 588 }).room s m args below meth c Q A D cX6_mostWorth 3 mc ms .int (fun r u => r = r0 ∧ ∃ b1, u = cc_w cI cP cII (va_up ad 33 b1) pr g0 ++ R)) {k8 : Int32 → Int32 → dl_Sg → Option (Int32 × dl_Sg)} (hk8 : ∀ (x1 : Int32) (x2 : Int32) (b : Nat) (g : dl_Sg) (c0 s0 : Nat), c0 + (dl_al g0 - dl_al g) ≤ mc ∧ s0 + 2 * (dl_al g0 - dl_al g) ≤ ms → k8 x1 x2 g = some (r0, g0) → dl_At p l e (headSpec wsX6_mostWorth { frames := 23, cells := mc, slots := ms, locals := 588 }).room s m args below meth c Q A D 3 c0 s0 8 [(0, .ref (ad 3)), (1, .int x1), (2, .int x2)] [] (cc_w cI cP cII (va_up ad 33 b) pr g ++ R)) (hm8 : ∀ (x1 : Int32) (x2 : Int32) (g : dl_Sg), k8 x1 x2 g = some (r0, g0) → dl_al g ≤ dl_al g0) (x1 : Int32) (x2 : Int32) (b : Nat) (g : dl_Sg) (c0 s0 : Nat) (he : c0 + (dl_al g0 - dl_al g) ≤ mc ∧ s0 + 2 * (dl_al g0 - dl_al g) ≤ ms) (h : cl6_mostWorth_b34 N k8 x1 x2 g = some (r0, g0)) : dl_At p l e (headSpec wsX6_mostWorth { frames := 23, cells := mc, slots := ms, locals := 588 }).room s m args below meth c Q A D 3 c0 s0 34 [(0, .ref (ad 3)), (1, .int x1), (2, .int x2)] [] (cc_w cI cP cII (va_up ad 33 b) pr g ++ R) := by
  unfold cl6_mostWorth_b34 at h
  refine dl_iinc (pc := 34) C 2 (fun v1 => [(2, .int v1), (0, .ref (ad 3)), (1, .int x1)]) dX6_mostWorth_34 rfl rfl (by decide) (fun _ => rfl) h (fun v1 h => ?_)
  refine dl_goto (pc := 37) C 8 dX6_mostWorth_37 (by decide) ?_
  refine dl_sub [1, 2, 0] rfl ?_
  exact hk8 _ _ _ _ _ _ he h
set_option maxHeartbeats 4000000 in
set_option maxRecDepth 100000 in
theorem cl6_mostWorth_m8 (N : Nat) {r0 : Int32} {g0 : dl_Sg} : ∀ (n : Nat) (x1 : Int32) (x2 : Int32) (g : dl_Sg), cl6_mostWorth_b8 N n x1 x2 g = some (r0, g0) → dl_al g ≤ dl_al g0 := by
  intro n
  induction n with
  | zero => exact fun _ _ _ h => absurd (show (none : Option (Int32 × dl_Sg)) = some _ from h) (by intro q; cases q)
  | succ n im =>
    intro x1 x2 g h
    rw [cl6_mostWorth_b8] at h
    by_cases q3 : x2 < 0
    · rw [if_pos q3] at h
      exact Nat.le_of_eq (congrArg dl_al (dl_r2 h).2)
    · rw [if_neg q3] at h
      obtain ⟨-, h⟩ := dl_gd_some h
      by_cases q2 : (g 21 x2.toNatClampNeg) = (-1 : Int32)
      · rw [if_pos q2] at h
        exact cl6_mostWorth_m34 N im  _ _ _ h
      · rw [if_neg q2] at h
        obtain ⟨-, h⟩ := dl_gd_some h
        by_cases q1 : x1 < (g 21 x2.toNatClampNeg)
        · rw [if_pos q1] at h
          exact cl6_mostWorth_m34 N im  _ _ _ h
        · rw [if_neg q1] at h
          exact Nat.le_of_eq (congrArg dl_al (dl_r2 h).2)
set_option maxHeartbeats 4000000 in
set_option maxRecDepth 100000 in
theorem cl6_mostWorth_t8 {p : Program} {e : Env} {s : State} {m : MethodId} {args : Array Value} {below : List Frame} {meth : Method} {c : Code} {Q : State → Prop} {A : Nat → Prop} (l : Launch) (D : va_G) (cI cP cII : ClassId) (TY : dl_TY) (hTY : TY[0]? = some (cI, .int)) (N : Nat) (ad : Nat → Nat) (pr : Nat → Option Nat) (R : va_W) {r0 : Int32} {g0 : dl_Sg} (mc ms : Nat) (C : dl_Cx p s m args c A D TY cc_nw cX6_mostWorth 3 yX6_mostWorth.cls wsX6_mostWorth) (hQ : dl_RtI p l e (headSpec wsX6_mostWorth { frames := 23, cells := mc, slots := ms, locals := 588 }).room s m args below meth c Q A D cX6_mostWorth 3 mc ms .int (fun r u => r = r0 ∧ ∃ b1, u = cc_w cI cP cII (va_up ad 33 b1) pr g0 ++ R)) : ∀ (n : Nat) (x1 : Int32) (x2 : Int32) (b : Nat) (g : dl_Sg) (c0 s0 : Nat), c0 + (dl_al g0 - dl_al g) ≤ mc ∧ s0 + 2 * (dl_al g0 - dl_al g) ≤ ms → cl6_mostWorth_b8 N n x1 x2 g = some (r0, g0) → dl_At p l e (headSpec wsX6_mostWorth { frames := 23, cells := mc, slots := ms, locals := 588 }).room s m args below meth c Q A D 3 c0 s0 8 [(0, .ref (ad 3)), (1, .int x1), (2, .int x2)] [] (cc_w cI cP cII (va_up ad 33 b) pr g ++ R) := by
  intro n
  induction n with
  | zero => exact fun _ _ _ _ _ _ _ h => absurd (show (none : Option (Int32 × dl_Sg)) = some _ from h) (by intro q; cases q)
  | succ n ih =>
    intro x1 x2 b g c0 s0 he h
    have im := cl6_mostWorth_m8 (r0 := r0) (g0 := g0) N n
    rw [cl6_mostWorth_b8] at h
    refine dl_iload_n (pc := 8) C 2 dX6_mostWorth_8 rfl rfl ?_
    refine dl_if_lt (pc := 9) C 40 dX6_mostWorth_9 (by decide) h (fun q3 h => ?_) (fun q3 h => ?_)
    · refine dl_ldc (pc := 40) C (-1000000) (by decide +kernel) dX6_mostWorth_40 ?_
      refine dl_wid (Nat.le_trans (Nat.le_add_right _ _) he.1) (Nat.le_trans (Nat.le_add_right _ _) he.2) ?_
      exact hQ 42 _ _ _ ⟨(dl_r2 h).1, _, by rw [(dl_r2 h).2]⟩ (vp_nar_int _) dX6_mostWorth_42
    · refine dl_aload_n (pc := 12) C 0 dX6_mostWorth_12 rfl rfl ?_
      refine dl_get (pc := 13) C hin_X6_mostWorth_X6 3 cc_a3 rfl 2 (by decide) lk_X6_mostWorth_15 rfl rfl dX6_mostWorth_13 ?_
      refine dl_iload_n (pc := 16) C 2 dX6_mostWorth_16 rfl rfl ?_
      obtain ⟨h0, h⟩ := dl_gd_some h
      refine dl_iald (pc := 17) C 18 0 cc_a21 hTY h0 dX6_mostWorth_17 ?_
      refine dl_iconst (pc := 18) C (-1) dX6_mostWorth_18 (by decide) ?_
      refine dl_icmp_eq (pc := 19) C 34 dX6_mostWorth_19 (by decide) h (fun q2 h => ?_) (fun q2 h => ?_)
      · refine dl_sub [0, 1, 2] rfl ?_
        exact cl6_mostWorth_t34 l D cI cP cII TY hTY N ad pr R _ _ C hQ ih im  _ _ _ _ _ _ he h
      · refine dl_aload_n (pc := 22) C 0 dX6_mostWorth_22 rfl rfl ?_
        refine dl_get (pc := 23) C hin_X6_mostWorth_X6 3 cc_a3 rfl 2 (by decide) lk_X6_mostWorth_15 rfl rfl dX6_mostWorth_23 ?_
        refine dl_iload_n (pc := 26) C 2 dX6_mostWorth_26 rfl rfl ?_
        obtain ⟨h0, h⟩ := dl_gd_some h
        refine dl_iald (pc := 27) C 18 0 cc_a21 hTY h0 dX6_mostWorth_27 ?_
        refine dl_iload_n (pc := 28) C 1 dX6_mostWorth_28 rfl rfl ?_
        refine dl_icmp_gt (pc := 29) C 34 dX6_mostWorth_29 (by decide) h (fun q1 h => ?_) (fun q1 h => ?_)
        · refine dl_sub [0, 1, 2] rfl ?_
          exact cl6_mostWorth_t34 l D cI cP cII TY hTY N ad pr R _ _ C hQ ih im  _ _ _ _ _ _ he h
        · refine dl_iload_n (pc := 32) C 2 dX6_mostWorth_32 rfl rfl ?_
          refine dl_wid (Nat.le_trans (Nat.le_add_right _ _) he.1) (Nat.le_trans (Nat.le_add_right _ _) he.2) ?_
          exact hQ 33 _ _ _ ⟨(dl_r2 h).1, _, by rw [(dl_r2 h).2]⟩ (vp_nar_int _) dX6_mostWorth_33
set_option maxHeartbeats 4000000 in
set_option maxRecDepth 100000 in
theorem cl6_mostWorth_me (N : Nat) (g : dl_Sg) (x1 : Int32) {r0 : Int32} {g0 : dl_Sg} (h : cl6_mostWorth N g x1 = some (r0, g0)) : dl_al g ≤ dl_al g0 := by
  unfold cl6_mostWorth at h
  obtain ⟨g1, h1, h⟩ := dl_bi_some h
  refine Nat.le_trans (cl6_refresh_me N _ h1) ?_
  obtain ⟨v2, h, -⟩ := dl_nm_some h
  exact cl6_mostWorth_m8 N N _ _ _ h
set_option maxHeartbeats 4000000 in
set_option maxRecDepth 100000 in
theorem ccl6_mostWorth (l : Launch) (D : va_G) (cI cP cII : ClassId) (TY : dl_TY) (hTY : TY[0]? = some (cI, .int)) (N : Nat) (ad : Nat → Nat) (pr : Nat → Option Nat) (R : va_W) (b : Nat) (g : dl_Sg) (x1 : Int32) {r0 : Int32} {g0 : dl_Sg} (h : cl6_mostWorth N g x1 = some (r0, g0)) : dl_CtI l D TY cc_nw yX6_mostWorth wsX6_mostWorth { frames := 23, cells := dl_al g0 - dl_al g, slots := 2 * (dl_al g0 - dl_al g), locals := 588 } (dl_al g0 - dl_al g) (2 * (dl_al g0 - dl_al g)) [.ref (ad 3), .int x1] (cc_w cI cP cII (va_up ad 33 b) pr g ++ R) (fun r u => r = r0 ∧ ∃ b1, u = cc_w cI cP cII (va_up ad 33 b1) pr g0 ++ R) := by
  refine dl_metI (ty := .int) [(0, .ref (ad 3)), (1, .int x1)] (by decide) rfl (Nat.le_of_ble_eq_true rfl) rfl ?_
  intro p e s m args below meth c Q A C hQ
  unfold cl6_mostWorth at h
  generalize hmc : dl_al g0 - dl_al g = mc at hQ ⊢
  generalize hms : 2 * mc = ms at hQ ⊢
  have he : 0 + (dl_al g0 - dl_al g) ≤ mc ∧ 0 + 2 * (dl_al g0 - dl_al g) ≤ ms := ⟨by omega, by omega⟩
  refine dl_aload_n (pc := 0) C 0 dX6_mostWorth_0 rfl rfl ?_
  obtain ⟨g1, h1, h⟩ := dl_bi_some h
  have hm1 : dl_al g ≤ dl_al g1 := cl6_refresh_me N _ h1
  have hm2 : dl_al g1 ≤ dl_al g0 := by
    obtain ⟨v2, h, -⟩ := dl_nm_some h
    exact cl6_mostWorth_m8 N N _ _ _ h
  refine dl_vV (pc := 1) C (ccl6_refresh l D cI cP cII TY hTY N ad pr R _ _ h1) (cwV 0 C.2.2.2.2.1 gX6_mostWorth_X6_refresh rfl rfl rfl (by decide +kernel) ⟨Nat.le_of_ble_eq_true rfl, Nat.le_of_ble_eq_true rfl⟩) 3 6 cc_a3 rfl rfl rfl (Nat.le_of_ble_eq_true rfl) dX6_mostWorth_1 (dl_bud he hm1 hm2) (fun u hp => ?_)
  obtain ⟨b, rfl⟩ := hp
  have he := dl_bud2 he hm1 hm2
  refine dl_sipush (pc := 4) C 1000 dX6_mostWorth_4 (by decide) ?_
  refine dl_istore_n (pc := 7) C (fun v2 => [(2, .int v2), (0, .ref (ad 3)), (1, .int x1)]) dX6_mostWorth_7 rfl (by decide) (fun _ => rfl) h (fun v2 h => ?_)
  refine dl_sub [1, 2, 0] rfl ?_
  exact cl6_mostWorth_t8 l D cI cP cII TY hTY N ad pr R _ _ C hQ N _ _ _ _ _ _ he h
def cl11_least (N : Nat) (g : dl_Sg) : Option (Int32 × dl_Sg) :=
    dl_b2 (cl6_leastTag N g) fun r1 g2 =>
    some (r1, g2)
theorem hin_X11_least_X11 : ∀ w ∈ u_ws RX11 TX11 6, w ∈ wsX11_least := fun _ h => List.mem_cons_of_mem _ (List.mem_append_left _ (List.mem_append_left _ (List.mem_append_right _ h)))
theorem lk_X11_least_28 : Cond.fieldLink (yX11_least).cls 28 "DripLines" (TX11 2).2.1 (TX11 2).2.2.1 ∈ wsX11_least := by decide +kernel
set_option maxHeartbeats 4000000 in
set_option maxRecDepth 100000 in
theorem cl11_least_me (N : Nat) (g : dl_Sg) {r0 : Int32} {g0 : dl_Sg} (h : cl11_least N g  = some (r0, g0)) : dl_al g ≤ dl_al g0 := by
  unfold cl11_least at h
  obtain ⟨r1, g2, h1, h⟩ := dl_b2_some h
  refine Nat.le_trans (cl6_leastTag_me N _ h1) ?_
  exact Nat.le_of_eq (congrArg dl_al (dl_r2 h).2)
set_option maxHeartbeats 4000000 in
set_option maxRecDepth 100000 in
theorem ccl11_least (l : Launch) (D : va_G) (cI cP cII : ClassId) (TY : dl_TY) (hTY : TY[0]? = some (cI, .int)) (N : Nat) (ad : Nat → Nat) (pr : Nat → Option Nat) (R : va_W) (b : Nat) (g : dl_Sg) {r0 : Int32} {g0 : dl_Sg} (h : cl11_least N g  = some (r0, g0)) : dl_CtI l D TY cc_nw yX11_least wsX11_least { frames := 24, cells := dl_al g0 - dl_al g, slots := 2 * (dl_al g0 - dl_al g), locals := 608 } (dl_al g0 - dl_al g) (2 * (dl_al g0 - dl_al g)) [.ref (ad 0)] (cc_w cI cP cII (va_up ad 33 b) pr g ++ R) (fun r u => r = r0 ∧ ∃ b1, u = cc_w cI cP cII (va_up ad 33 b1) pr g0 ++ R) := by
  refine dl_metI (ty := .int) [(0, .ref (ad 0))] (by decide) rfl (Nat.le_of_ble_eq_true rfl) rfl ?_
  intro p e s m args below meth c Q A C hQ
  unfold cl11_least at h
  generalize hmc : dl_al g0 - dl_al g = mc at hQ ⊢
  generalize hms : 2 * mc = ms at hQ ⊢
  have he : 0 + (dl_al g0 - dl_al g) ≤ mc ∧ 0 + 2 * (dl_al g0 - dl_al g) ≤ ms := ⟨by omega, by omega⟩
  refine dl_aload_n (pc := 0) C 0 dX11_least_0 rfl rfl ?_
  refine dl_get (pc := 1) C hin_X11_least_X11 0 cc_a0 rfl 2 (by decide) lk_X11_least_28 rfl rfl dX11_least_1 ?_
  obtain ⟨r1, g2, h1, h⟩ := dl_b2_some h
  have hm1 : dl_al g ≤ dl_al g2 := cl6_leastTag_me N _ h1
  have hm2 : dl_al g2 ≤ dl_al g0 := by
    exact Nat.le_of_eq (congrArg dl_al (dl_r2 h).2)
  refine dl_vI (pc := 4) C (ccl6_leastTag l D cI cP cII TY hTY N ad pr R _ _ h1) (cwV 0 C.2.2.2.2.1 gX11_least_X6_leastTag rfl rfl rfl (by decide +kernel) ⟨Nat.le_of_ble_eq_true rfl, Nat.le_of_ble_eq_true rfl⟩) 3 6 cc_a3 rfl rfl rfl (Nat.le_of_ble_eq_true rfl) dX11_least_4 (dl_bud he hm1 hm2) (fun r u hp => ?_)
  obtain ⟨rfl, b, rfl⟩ := hp
  have he := dl_bud2 he hm1 hm2
  refine dl_wid (Nat.le_trans (Nat.le_add_right _ _) he.1) (Nat.le_trans (Nat.le_add_right _ _) he.2) ?_
  exact hQ 7 _ _ _ ⟨(dl_r2 h).1, _, by rw [(dl_r2 h).2]⟩ (vp_nar_int _) dX11_least_7
def cl11_many (N : Nat) (g : dl_Sg) : Option (Int32 × dl_Sg) :=
    dl_b2 (cl6_howManyBest N g) fun r1 g2 =>
    some (r1, g2)
theorem hin_X11_many_X11 : ∀ w ∈ u_ws RX11 TX11 6, w ∈ wsX11_many := fun _ h => List.mem_cons_of_mem _ (List.mem_append_left _ (List.mem_append_left _ (List.mem_append_right _ h)))
theorem lk_X11_many_28 : Cond.fieldLink (yX11_many).cls 28 "DripLines" (TX11 2).2.1 (TX11 2).2.2.1 ∈ wsX11_many := by decide +kernel
set_option maxHeartbeats 4000000 in
set_option maxRecDepth 100000 in
theorem cl11_many_me (N : Nat) (g : dl_Sg) {r0 : Int32} {g0 : dl_Sg} (h : cl11_many N g  = some (r0, g0)) : dl_al g ≤ dl_al g0 := by
  unfold cl11_many at h
  obtain ⟨r1, g2, h1, h⟩ := dl_b2_some h
  refine Nat.le_trans (cl6_howManyBest_me N _ h1) ?_
  exact Nat.le_of_eq (congrArg dl_al (dl_r2 h).2)
set_option maxHeartbeats 4000000 in
set_option maxRecDepth 100000 in
theorem ccl11_many (l : Launch) (D : va_G) (cI cP cII : ClassId) (TY : dl_TY) (hTY : TY[0]? = some (cI, .int)) (N : Nat) (ad : Nat → Nat) (pr : Nat → Option Nat) (R : va_W) (b : Nat) (g : dl_Sg) {r0 : Int32} {g0 : dl_Sg} (h : cl11_many N g  = some (r0, g0)) : dl_CtI l D TY cc_nw yX11_many wsX11_many { frames := 24, cells := dl_al g0 - dl_al g, slots := 2 * (dl_al g0 - dl_al g), locals := 608 } (dl_al g0 - dl_al g) (2 * (dl_al g0 - dl_al g)) [.ref (ad 0)] (cc_w cI cP cII (va_up ad 33 b) pr g ++ R) (fun r u => r = r0 ∧ ∃ b1, u = cc_w cI cP cII (va_up ad 33 b1) pr g0 ++ R) := by
  refine dl_metI (ty := .int) [(0, .ref (ad 0))] (by decide) rfl (Nat.le_of_ble_eq_true rfl) rfl ?_
  intro p e s m args below meth c Q A C hQ
  unfold cl11_many at h
  generalize hmc : dl_al g0 - dl_al g = mc at hQ ⊢
  generalize hms : 2 * mc = ms at hQ ⊢
  have he : 0 + (dl_al g0 - dl_al g) ≤ mc ∧ 0 + 2 * (dl_al g0 - dl_al g) ≤ ms := ⟨by omega, by omega⟩
  refine dl_aload_n (pc := 0) C 0 dX11_many_0 rfl rfl ?_
  refine dl_get (pc := 1) C hin_X11_many_X11 0 cc_a0 rfl 2 (by decide) lk_X11_many_28 rfl rfl dX11_many_1 ?_
  obtain ⟨r1, g2, h1, h⟩ := dl_b2_some h
  have hm1 : dl_al g ≤ dl_al g2 := cl6_howManyBest_me N _ h1
  have hm2 : dl_al g2 ≤ dl_al g0 := by
    exact Nat.le_of_eq (congrArg dl_al (dl_r2 h).2)
  refine dl_vI (pc := 4) C (ccl6_howManyBest l D cI cP cII TY hTY N ad pr R _ _ h1) (cwV 0 C.2.2.2.2.1 gX11_many_X6_howManyBest rfl rfl rfl (by decide +kernel) ⟨Nat.le_of_ble_eq_true rfl, Nat.le_of_ble_eq_true rfl⟩) 3 6 cc_a3 rfl rfl rfl (Nat.le_of_ble_eq_true rfl) dX11_many_4 (dl_bud he hm1 hm2) (fun r u hp => ?_)
  obtain ⟨rfl, b, rfl⟩ := hp
  have he := dl_bud2 he hm1 hm2
  refine dl_wid (Nat.le_trans (Nat.le_add_right _ _) he.1) (Nat.le_trans (Nat.le_add_right _ _) he.2) ?_
  exact hQ 7 _ _ _ ⟨(dl_r2 h).1, _, by rw [(dl_r2 h).2]⟩ (vp_nar_int _) dX11_many_7
def cl11_best (N : Nat) (g : dl_Sg) (x1 : Int32) (x2 : Int32) : Option (Int32 × dl_Sg) :=
    dl_b2 (cl6_streetOfBest N g x1 x2) fun r1 g2 =>
    some (r1, g2)
theorem hin_X11_best_X11 : ∀ w ∈ u_ws RX11 TX11 6, w ∈ wsX11_best := fun _ h => List.mem_cons_of_mem _ (List.mem_append_left _ (List.mem_append_left _ (List.mem_append_right _ h)))
theorem lk_X11_best_28 : Cond.fieldLink (yX11_best).cls 28 "DripLines" (TX11 2).2.1 (TX11 2).2.2.1 ∈ wsX11_best := by decide +kernel
set_option maxHeartbeats 4000000 in
set_option maxRecDepth 100000 in
theorem cl11_best_me (N : Nat) (g : dl_Sg) (x1 : Int32) (x2 : Int32) {r0 : Int32} {g0 : dl_Sg} (h : cl11_best N g x1 x2 = some (r0, g0)) : dl_al g ≤ dl_al g0 := by
  unfold cl11_best at h
  obtain ⟨r1, g2, h1, h⟩ := dl_b2_some h
  refine Nat.le_trans (cl6_streetOfBest_me N _ _ _ h1) ?_
  exact Nat.le_of_eq (congrArg dl_al (dl_r2 h).2)
set_option maxHeartbeats 4000000 in
set_option maxRecDepth 100000 in
theorem ccl11_best (l : Launch) (D : va_G) (cI cP cII : ClassId) (TY : dl_TY) (hTY : TY[0]? = some (cI, .int)) (N : Nat) (ad : Nat → Nat) (pr : Nat → Option Nat) (R : va_W) (b : Nat) (g : dl_Sg) (x1 : Int32) (x2 : Int32) {r0 : Int32} {g0 : dl_Sg} (h : cl11_best N g x1 x2 = some (r0, g0)) : dl_CtI l D TY cc_nw yX11_best wsX11_best { frames := 24, cells := dl_al g0 - dl_al g, slots := 2 * (dl_al g0 - dl_al g), locals := 612 } (dl_al g0 - dl_al g) (2 * (dl_al g0 - dl_al g)) [.ref (ad 0), .int x1, .int x2] (cc_w cI cP cII (va_up ad 33 b) pr g ++ R) (fun r u => r = r0 ∧ ∃ b1, u = cc_w cI cP cII (va_up ad 33 b1) pr g0 ++ R) := by
  refine dl_metI (ty := .int) [(0, .ref (ad 0)), (1, .int x1), (2, .int x2)] (by decide) rfl (Nat.le_of_ble_eq_true rfl) rfl ?_
  intro p e s m args below meth c Q A C hQ
  unfold cl11_best at h
  generalize hmc : dl_al g0 - dl_al g = mc at hQ ⊢
  generalize hms : 2 * mc = ms at hQ ⊢
  have he : 0 + (dl_al g0 - dl_al g) ≤ mc ∧ 0 + 2 * (dl_al g0 - dl_al g) ≤ ms := ⟨by omega, by omega⟩
  refine dl_aload_n (pc := 0) C 0 dX11_best_0 rfl rfl ?_
  refine dl_get (pc := 1) C hin_X11_best_X11 0 cc_a0 rfl 2 (by decide) lk_X11_best_28 rfl rfl dX11_best_1 ?_
  refine dl_iload_n (pc := 4) C 1 dX11_best_4 rfl rfl ?_
  refine dl_iload_n (pc := 5) C 2 dX11_best_5 rfl rfl ?_
  obtain ⟨r1, g2, h1, h⟩ := dl_b2_some h
  have hm1 : dl_al g ≤ dl_al g2 := cl6_streetOfBest_me N _ _ _ h1
  have hm2 : dl_al g2 ≤ dl_al g0 := by
    exact Nat.le_of_eq (congrArg dl_al (dl_r2 h).2)
  refine dl_vI (pc := 6) C (ccl6_streetOfBest l D cI cP cII TY hTY N ad pr R _ _ _ _ h1) (cwV 2 C.2.2.2.2.1 gX11_best_X6_streetOfBest rfl rfl rfl (by decide +kernel) ⟨Nat.le_of_ble_eq_true rfl, Nat.le_of_ble_eq_true rfl⟩) 3 6 cc_a3 rfl rfl rfl (Nat.le_of_ble_eq_true rfl) dX11_best_6 (dl_bud he hm1 hm2) (fun r u hp => ?_)
  obtain ⟨rfl, b, rfl⟩ := hp
  have he := dl_bud2 he hm1 hm2
  refine dl_wid (Nat.le_trans (Nat.le_add_right _ _) he.1) (Nat.le_trans (Nat.le_add_right _ _) he.2) ?_
  exact hQ 9 _ _ _ ⟨(dl_r2 h).1, _, by rw [(dl_r2 h).2]⟩ (vp_nar_int _) dX11_best_9
def cl11_must (N : Nat) (g : dl_Sg) (x1 : Int32) : Option (Int32 × dl_Sg) :=
    dl_bi (cl2_hasStreet g x1) fun r1 =>
    if r1 = 0 then (
    some ((-1 : Int32), g))
    else (
    dl_b2 (cl6_useInBest N g x1) fun r2 g3 =>
    some (r2, g3))
theorem hin_X11_must_X11 : ∀ w ∈ u_ws RX11 TX11 6, w ∈ wsX11_must := fun _ h => List.mem_cons_of_mem _ (List.mem_append_left _ (List.mem_append_left _ (List.mem_append_right _ h)))
theorem lk_X11_must_10 : Cond.fieldLink (yX11_must).cls 10 "DripLines" (TX11 0).2.1 (TX11 0).2.2.1 ∈ wsX11_must := by decide +kernel
theorem lk_X11_must_28 : Cond.fieldLink (yX11_must).cls 28 "DripLines" (TX11 2).2.1 (TX11 2).2.2.1 ∈ wsX11_must := by decide +kernel
set_option maxHeartbeats 4000000 in
set_option maxRecDepth 100000 in
theorem cl11_must_me (N : Nat) (g : dl_Sg) (x1 : Int32) {r0 : Int32} {g0 : dl_Sg} (h : cl11_must N g x1 = some (r0, g0)) : dl_al g ≤ dl_al g0 := by
  unfold cl11_must at h
  obtain ⟨r1, -, h⟩ := dl_bi_some h
  by_cases q4 : r1 = 0
  · rw [if_pos q4] at h
    exact Nat.le_of_eq (congrArg dl_al (dl_r2 h).2)
  · rw [if_neg q4] at h
    obtain ⟨r2, g3, h1, h⟩ := dl_b2_some h
    refine Nat.le_trans (cl6_useInBest_me N _ _ h1) ?_
    exact Nat.le_of_eq (congrArg dl_al (dl_r2 h).2)
set_option maxHeartbeats 4000000 in
set_option maxRecDepth 100000 in
theorem ccl11_must (l : Launch) (D : va_G) (cI cP cII : ClassId) (TY : dl_TY) (hTY : TY[0]? = some (cI, .int)) (N : Nat) (ad : Nat → Nat) (pr : Nat → Option Nat) (R : va_W) (b : Nat) (g : dl_Sg) (x1 : Int32) {r0 : Int32} {g0 : dl_Sg} (h : cl11_must N g x1 = some (r0, g0)) : dl_CtI l D TY cc_nw yX11_must wsX11_must { frames := 24, cells := dl_al g0 - dl_al g, slots := 2 * (dl_al g0 - dl_al g), locals := 609 } (dl_al g0 - dl_al g) (2 * (dl_al g0 - dl_al g)) [.ref (ad 0), .int x1] (cc_w cI cP cII (va_up ad 33 b) pr g ++ R) (fun r u => r = r0 ∧ ∃ b1, u = cc_w cI cP cII (va_up ad 33 b1) pr g0 ++ R) := by
  refine dl_metI (ty := .int) [(0, .ref (ad 0)), (1, .int x1)] (by decide) rfl (Nat.le_of_ble_eq_true rfl) rfl ?_
  intro p e s m args below meth c Q A C hQ
  unfold cl11_must at h
  generalize hmc : dl_al g0 - dl_al g = mc at hQ ⊢
  generalize hms : 2 * mc = ms at hQ ⊢
  have he : 0 + (dl_al g0 - dl_al g) ≤ mc ∧ 0 + 2 * (dl_al g0 - dl_al g) ≤ ms := ⟨by omega, by omega⟩
  refine dl_aload_n (pc := 0) C 0 dX11_must_0 rfl rfl ?_
  refine dl_get (pc := 1) C hin_X11_must_X11 0 cc_a0 rfl 0 (by decide) lk_X11_must_10 rfl rfl dX11_must_1 ?_
  refine dl_iload_n (pc := 4) C 1 dX11_must_4 rfl rfl ?_
  obtain ⟨r1, h1, h⟩ := dl_bi_some h
  refine dl_vI0 (pc := 5) C (ccl2_hasStreet l D cI cP cII TY hTY (va_up ad 33 b) pr R _ _ h1) (cwV 1 C.2.2.2.2.1 gX11_must_X2_hasStreet rfl rfl rfl (by decide +kernel) ⟨Nat.le_of_ble_eq_true rfl, Nat.le_of_ble_eq_true rfl⟩) 1 2 cc_a1 rfl rfl rfl (Nat.le_of_ble_eq_true rfl) dX11_must_5 ⟨Nat.le_trans (Nat.le_add_right _ _) he.1, Nat.le_trans (Nat.le_add_right _ _) he.2⟩ (fun r u hp => ?_)
  obtain ⟨rfl, rfl⟩ := hp
  refine dl_if_eq (pc := 8) C 22 dX11_must_8 (by decide) h (fun q4 h => ?_) (fun q4 h => ?_)
  · refine dl_iconst (pc := 22) C (-1) dX11_must_22 (by decide) ?_
    refine dl_wid (Nat.le_trans (Nat.le_add_right _ _) he.1) (Nat.le_trans (Nat.le_add_right _ _) he.2) ?_
    exact hQ 23 _ _ _ ⟨(dl_r2 h).1, _, by rw [(dl_r2 h).2]⟩ (vp_nar_int _) dX11_must_23
  · refine dl_aload_n (pc := 11) C 0 dX11_must_11 rfl rfl ?_
    refine dl_get (pc := 12) C hin_X11_must_X11 0 cc_a0 rfl 2 (by decide) lk_X11_must_28 rfl rfl dX11_must_12 ?_
    refine dl_iload_n (pc := 15) C 1 dX11_must_15 rfl rfl ?_
    obtain ⟨r2, g3, h1, h⟩ := dl_b2_some h
    have hm1 : dl_al g ≤ dl_al g3 := cl6_useInBest_me N _ _ h1
    have hm2 : dl_al g3 ≤ dl_al g0 := by
      exact Nat.le_of_eq (congrArg dl_al (dl_r2 h).2)
    refine dl_vI (pc := 16) C (ccl6_useInBest l D cI cP cII TY hTY N ad pr R _ _ _ h1) (cwV 1 C.2.2.2.2.1 gX11_must_X6_useInBest rfl rfl rfl (by decide +kernel) ⟨Nat.le_of_ble_eq_true rfl, Nat.le_of_ble_eq_true rfl⟩) 3 6 cc_a3 rfl rfl rfl (Nat.le_of_ble_eq_true rfl) dX11_must_16 (dl_bud he hm1 hm2) (fun r u hp => ?_)
    obtain ⟨rfl, b, rfl⟩ := hp
    have he := dl_bud2 he hm1 hm2
    refine dl_goto (pc := 19) C 23 dX11_must_19 (by decide) ?_
    refine dl_wid (Nat.le_trans (Nat.le_add_right _ _) he.1) (Nat.le_trans (Nat.le_add_right _ _) he.2) ?_
    exact hQ 23 _ _ _ ⟨(dl_r2 h).1, _, by rw [(dl_r2 h).2]⟩ (vp_nar_int _) dX11_must_23
def cl11_most (N : Nat) (g : dl_Sg) (x1 : Int32) : Option (Int32 × dl_Sg) :=
    dl_b2 (cl6_mostWorth N g x1) fun r1 g2 =>
    some (r1, g2)
theorem hin_X11_most_X11 : ∀ w ∈ u_ws RX11 TX11 6, w ∈ wsX11_most := fun _ h => List.mem_cons_of_mem _ (List.mem_append_left _ (List.mem_append_left _ (List.mem_append_right _ h)))
theorem lk_X11_most_28 : Cond.fieldLink (yX11_most).cls 28 "DripLines" (TX11 2).2.1 (TX11 2).2.2.1 ∈ wsX11_most := by decide +kernel
set_option maxHeartbeats 4000000 in
set_option maxRecDepth 100000 in
theorem cl11_most_me (N : Nat) (g : dl_Sg) (x1 : Int32) {r0 : Int32} {g0 : dl_Sg} (h : cl11_most N g x1 = some (r0, g0)) : dl_al g ≤ dl_al g0 := by
  unfold cl11_most at h
  obtain ⟨r1, g2, h1, h⟩ := dl_b2_some h
  refine Nat.le_trans (cl6_mostWorth_me N _ _ h1) ?_
  exact Nat.le_of_eq (congrArg dl_al (dl_r2 h).2)
set_option maxHeartbeats 4000000 in
set_option maxRecDepth 100000 in
theorem ccl11_most (l : Launch) (D : va_G) (cI cP cII : ClassId) (TY : dl_TY) (hTY : TY[0]? = some (cI, .int)) (N : Nat) (ad : Nat → Nat) (pr : Nat → Option Nat) (R : va_W) (b : Nat) (g : dl_Sg) (x1 : Int32) {r0 : Int32} {g0 : dl_Sg} (h : cl11_most N g x1 = some (r0, g0)) : dl_CtI l D TY cc_nw yX11_most wsX11_most { frames := 24, cells := dl_al g0 - dl_al g, slots := 2 * (dl_al g0 - dl_al g), locals := 610 } (dl_al g0 - dl_al g) (2 * (dl_al g0 - dl_al g)) [.ref (ad 0), .int x1] (cc_w cI cP cII (va_up ad 33 b) pr g ++ R) (fun r u => r = r0 ∧ ∃ b1, u = cc_w cI cP cII (va_up ad 33 b1) pr g0 ++ R) := by
  refine dl_metI (ty := .int) [(0, .ref (ad 0)), (1, .int x1)] (by decide) rfl (Nat.le_of_ble_eq_true rfl) rfl ?_
  intro p e s m args below meth c Q A C hQ
  unfold cl11_most at h
  generalize hmc : dl_al g0 - dl_al g = mc at hQ ⊢
  generalize hms : 2 * mc = ms at hQ ⊢
  have he : 0 + (dl_al g0 - dl_al g) ≤ mc ∧ 0 + 2 * (dl_al g0 - dl_al g) ≤ ms := ⟨by omega, by omega⟩
  refine dl_aload_n (pc := 0) C 0 dX11_most_0 rfl rfl ?_
  refine dl_get (pc := 1) C hin_X11_most_X11 0 cc_a0 rfl 2 (by decide) lk_X11_most_28 rfl rfl dX11_most_1 ?_
  refine dl_iload_n (pc := 4) C 1 dX11_most_4 rfl rfl ?_
  obtain ⟨r1, g2, h1, h⟩ := dl_b2_some h
  have hm1 : dl_al g ≤ dl_al g2 := cl6_mostWorth_me N _ _ h1
  have hm2 : dl_al g2 ≤ dl_al g0 := by
    exact Nat.le_of_eq (congrArg dl_al (dl_r2 h).2)
  refine dl_vI (pc := 5) C (ccl6_mostWorth l D cI cP cII TY hTY N ad pr R _ _ _ h1) (cwV 1 C.2.2.2.2.1 gX11_most_X6_mostWorth rfl rfl rfl (by decide +kernel) ⟨Nat.le_of_ble_eq_true rfl, Nat.le_of_ble_eq_true rfl⟩) 3 6 cc_a3 rfl rfl rfl (Nat.le_of_ble_eq_true rfl) dX11_most_5 (dl_bud he hm1 hm2) (fun r u hp => ?_)
  obtain ⟨rfl, b, rfl⟩ := hp
  have he := dl_bud2 he hm1 hm2
  refine dl_wid (Nat.le_trans (Nat.le_add_right _ _) he.1) (Nat.le_trans (Nat.le_add_right _ _) he.2) ?_
  exact hQ 8 _ _ _ ⟨(dl_r2 h).1, _, by rw [(dl_r2 h).2]⟩ (vp_nar_int _) dX11_most_8
