def jd_floorMod (x0 : Int32) (x1 : Int32) : Option Int32 :=
    dl_gd (dl_ne0 x1) (
    dl_nm (x0 - x0 / x1 * x1) fun v1 =>
    if 0 ≤ (x0 ^^^ x1) then (
    some v1)
    else (
    if v1 = 0 then (
    some v1)
    else (
    some (v1 + x1))))
set_option maxHeartbeats 4000000 in
set_option maxRecDepth 100000 in
theorem cjd_floorMod (l : Launch) (D : va_G) (TY : dl_TY) (nw : List Cond) (R : va_W) (x0 : Int32) (x1 : Int32) {r0 : Int32} (h : jd_floorMod x0 x1 = some r0) : dl_CtI l D TY nw yJ9_floorMod_7cf53 wsJ9_floorMod_7cf53 { frames := 0, cells := 0, slots := 0, locals := 0 } 0 0 [.int x0, .int x1] (R) (fun r u => r = r0 ∧ u = R) := by
  refine dl_metIF (ty := .int) [(0, .int x0), (1, .int x1)] (by decide +kernel) rfl (Nat.le_of_ble_eq_true rfl) rfl ?_
  intro p e s m args below meth c Q A C hQ
  unfold jd_floorMod at h
  refine dl_iload_n (pc := 0) C 0 dJ9_floorMod_7cf53_0 rfl rfl ?_
  refine dl_iload_n (pc := 1) C 1 dJ9_floorMod_7cf53_1 rfl rfl ?_
  obtain ⟨h0, h⟩ := dl_gd_some h
  refine dl_irem (pc := 2) C dJ9_floorMod_7cf53_2 h0 ?_
  refine dl_istore_n (pc := 3) C (fun v1 => [(2, .int v1), (0, .int x0), (1, .int x1)]) dJ9_floorMod_7cf53_3 rfl (by decide) (fun _ => rfl) h (fun v1 h => ?_)
  refine dl_iload_n (pc := 4) C 1 dJ9_floorMod_7cf53_4 rfl rfl ?_
  refine dl_iload_n (pc := 5) C 2 dJ9_floorMod_7cf53_5 rfl rfl ?_
  refine dl_ixor (pc := 6) C dJ9_floorMod_7cf53_6 ?_
  refine dl_if_ge (pc := 7) C 18 dJ9_floorMod_7cf53_7 (by decide) h (fun q3 h => ?_) (fun q3 h => ?_)
  · refine dl_iload_n (pc := 18) C 0 dJ9_floorMod_7cf53_18 rfl rfl ?_
    exact hQ 19 _ _ _ ⟨Option.some.inj h, rfl⟩ (vp_nar_int _) dJ9_floorMod_7cf53_19
  · refine dl_iload_n (pc := 10) C 0 dJ9_floorMod_7cf53_10 rfl rfl ?_
    refine dl_if_eq (pc := 11) C 18 dJ9_floorMod_7cf53_11 (by decide) h (fun q2 h => ?_) (fun q2 h => ?_)
    · refine dl_iload_n (pc := 18) C 0 dJ9_floorMod_7cf53_18 rfl rfl ?_
      exact hQ 19 _ _ _ ⟨Option.some.inj h, rfl⟩ (vp_nar_int _) dJ9_floorMod_7cf53_19
    · refine dl_iload_n (pc := 14) C 0 dJ9_floorMod_7cf53_14 rfl rfl ?_
      refine dl_iload_n (pc := 15) C 2 dJ9_floorMod_7cf53_15 rfl rfl ?_
      refine dl_iadd (pc := 16) C dJ9_floorMod_7cf53_16 ?_
      exact hQ 17 _ _ _ ⟨Option.some.inj h, rfl⟩ (vp_nar_int _) dJ9_floorMod_7cf53_17
def cl11_forge (N : Nat) (g : dl_Sg) (x1 : Int32) (x2 : Int32) (x3 : Int32) : Option (Int32 × dl_Sg) :=
    if x2 < (-100 : Int32) then (
    dl_b2 (cl11_refused g (1 : Int32)) fun r1 g2 =>
    some (r1, g2))
    else (
    if (100 : Int32) < x2 then (
    dl_b2 (cl11_refused g (1 : Int32)) fun r3 g4 =>
    some (r3, g4))
    else (
    if x3 < (-100 : Int32) then (
    dl_b2 (cl11_refused g (1 : Int32)) fun r5 g6 =>
    some (r5, g6))
    else (
    if x3 ≤ (100 : Int32) then (
    if x1 = 0 then (
    dl_bi (jd_floorMod x3 (10 : Int32)) fun r9 =>
    dl_bi (jd_floorMod x2 (5 : Int32)) fun r10 =>
    dl_b2 (cl11_takePlaceForKind g r9 r10) fun r11 g12 =>
    some (r11, g12))
    else (
    if x1 = 1 then (
    if 0 ≤ x2 then (
    dl_b2 (cl11_done g x2) fun r13 g14 =>
    some (r13, g14))
    else (
    dl_b2 (cl11_refused g (13 : Int32)) fun r15 g16 =>
    some (r15, g16)))
    else (
    if x1 = 2 then (
    dl_bi (jd_floorMod x3 (5 : Int32)) fun r18 =>
    dl_b2 (cl11_readInt g r18 x2) fun r19 g20 =>
    some (r19, g20))
    else (
    if x1 = 3 then (
    dl_bi (jd_floorMod x3 (5 : Int32)) fun r21 =>
    dl_b2 (cl11_copyBytes N g r21 x2) fun r22 g23 =>
    some (r22, g23))
    else (
    if x1 = 4 then (
    dl_bi (jd_floorMod x3 (10 : Int32)) fun r24 =>
    dl_b2 (cl11_putAmongTaps g r24) fun r25 g26 =>
    some (r25, g26))
    else (
    if x1 = 5 then (
    if x2 = 0 then (
    dl_b2 (cl11_refused g (15 : Int32)) fun r27 g28 =>
    some (r27, g28))
    else (
    dl_gd (dl_ne0 x2) (
    dl_b2 (cl11_done g ((1000 : Int32) / x2)) fun r29 g30 =>
    some (r29, g30))))
    else (
    if x1 = 6 then (
    dl_bi (jd_floorMod x2 (2 : Int32)) fun r32 =>
    if r32 = 0 then (
    dl_b2 (cl11_refused g (10 : Int32)) fun r33 g34 =>
    some (r33, g34))
    else (
    dl_b2 (cl11_done g (1 : Int32)) fun r35 g36 =>
    some (r35, g36)))
    else (
    dl_b2 (cl11_refused g (1 : Int32)) fun r7 g8 =>
    some (r7, g8)))))))))
    else (
    dl_b2 (cl11_refused g (1 : Int32)) fun r45 g46 =>
    some (r45, g46)))))
set_option maxHeartbeats 4000000 in
set_option maxRecDepth 100000 in
theorem ccl11_forge (l : Launch) (D : va_G) (cI cP cII : ClassId) (TY : dl_TY) (hTY : TY[0]? = some (cI, .int)) (hT1 : TY[1]? = some (cP, .object "DripLines$Place")) (hT2 : TY[2]? = some (cII, .array .int)) (N : Nat) (ad : Nat → Nat) (pr : Nat → Option Nat) (R : va_W) (g : dl_Sg) (x1 : Int32) (x2 : Int32) (x3 : Int32) {r0 : Int32} {g0 : dl_Sg} (hok : cc_ok ad pr g R) (h : cl11_forge N g x1 x2 x3 = some (r0, g0)) : dl_CtI l D TY cc_nw yX11_forge wsX11_forge { frames := 3, cells := 0, slots := 0, locals := 65 } 0 0 [.ref (ad 0), .int x1, .int x2, .int x3] (cc_w cI cP cII ad pr g ++ R) (fun r u => r = r0 ∧ u = cc_w cI cP cII ad pr g0 ++ R) := by
  refine dl_metI (ty := .int) [(0, .ref (ad 0)), (1, .int x1), (2, .int x2), (3, .int x3)] (by decide) rfl (Nat.le_of_ble_eq_true rfl) rfl ?_
  intro p e s m args below meth c Q A C hQ
  unfold cl11_forge at h
  refine dl_iload_n (pc := 0) C 2 dX11_forge_0 rfl rfl ?_
  refine dl_bipush (pc := 1) C (-100) dX11_forge_1 (by decide) ?_
  refine dl_icmp_lt (pc := 3) C 24 dX11_forge_3 (by decide) h (fun q50 h => ?_) (fun q50 h => ?_)
  · refine dl_aload_n (pc := 24) C 0 dX11_forge_24 rfl rfl ?_
    refine dl_iconst (pc := 25) C 1 dX11_forge_25 (by decide) ?_
    obtain ⟨r1, g2, h1, h⟩ := dl_b2_some h
    refine dl_vI0 (pc := 26) C (ccl11_refused l D cI cP cII TY hTY ad pr R _ _ h1) (cwV 1 C.2.2.2.2.1 gX11_forge_X11_refused rfl rfl rfl (by decide +kernel) ⟨Nat.le_of_ble_eq_true rfl, Nat.le_of_ble_eq_true rfl⟩) 0 11 cc_a0 rfl rfl rfl (Nat.le_of_ble_eq_true rfl) dX11_forge_26 ⟨Nat.zero_le _, Nat.zero_le _⟩ (fun r u hp => ?_)
    obtain ⟨rfl, rfl⟩ := hp
    exact hQ 29 _ _ _ ⟨(dl_r2 h).1, by rw [(dl_r2 h).2]⟩ (vp_nar_int _) dX11_forge_29
  · refine dl_iload_n (pc := 6) C 2 dX11_forge_6 rfl rfl ?_
    refine dl_bipush (pc := 7) C 100 dX11_forge_7 (by decide) ?_
    refine dl_icmp_gt (pc := 9) C 24 dX11_forge_9 (by decide) h (fun q49 h => ?_) (fun q49 h => ?_)
    · refine dl_aload_n (pc := 24) C 0 dX11_forge_24 rfl rfl ?_
      refine dl_iconst (pc := 25) C 1 dX11_forge_25 (by decide) ?_
      obtain ⟨r3, g4, h1, h⟩ := dl_b2_some h
      refine dl_vI0 (pc := 26) C (ccl11_refused l D cI cP cII TY hTY ad pr R _ _ h1) (cwV 1 C.2.2.2.2.1 gX11_forge_X11_refused rfl rfl rfl (by decide +kernel) ⟨Nat.le_of_ble_eq_true rfl, Nat.le_of_ble_eq_true rfl⟩) 0 11 cc_a0 rfl rfl rfl (Nat.le_of_ble_eq_true rfl) dX11_forge_26 ⟨Nat.zero_le _, Nat.zero_le _⟩ (fun r u hp => ?_)
      obtain ⟨rfl, rfl⟩ := hp
      exact hQ 29 _ _ _ ⟨(dl_r2 h).1, by rw [(dl_r2 h).2]⟩ (vp_nar_int _) dX11_forge_29
    · refine dl_iload_n (pc := 12) C 3 dX11_forge_12 rfl rfl ?_
      refine dl_bipush (pc := 13) C (-100) dX11_forge_13 (by decide) ?_
      refine dl_icmp_lt (pc := 15) C 24 dX11_forge_15 (by decide) h (fun q48 h => ?_) (fun q48 h => ?_)
      · refine dl_aload_n (pc := 24) C 0 dX11_forge_24 rfl rfl ?_
        refine dl_iconst (pc := 25) C 1 dX11_forge_25 (by decide) ?_
        obtain ⟨r5, g6, h1, h⟩ := dl_b2_some h
        refine dl_vI0 (pc := 26) C (ccl11_refused l D cI cP cII TY hTY ad pr R _ _ h1) (cwV 1 C.2.2.2.2.1 gX11_forge_X11_refused rfl rfl rfl (by decide +kernel) ⟨Nat.le_of_ble_eq_true rfl, Nat.le_of_ble_eq_true rfl⟩) 0 11 cc_a0 rfl rfl rfl (Nat.le_of_ble_eq_true rfl) dX11_forge_26 ⟨Nat.zero_le _, Nat.zero_le _⟩ (fun r u hp => ?_)
        obtain ⟨rfl, rfl⟩ := hp
        exact hQ 29 _ _ _ ⟨(dl_r2 h).1, by rw [(dl_r2 h).2]⟩ (vp_nar_int _) dX11_forge_29
      · refine dl_iload_n (pc := 18) C 3 dX11_forge_18 rfl rfl ?_
        refine dl_bipush (pc := 19) C 100 dX11_forge_19 (by decide) ?_
        refine dl_icmp_le (pc := 21) C 30 dX11_forge_21 (by decide) h (fun q47 h => ?_) (fun q47 h => ?_)
        · refine dl_iload_n (pc := 30) C 1 dX11_forge_30 rfl rfl ?_
          by_cases q38 : x1 = 0
          · rw [if_pos q38] at h
            refine dl_tabIn (pc := 31) C 41 72 dX11_forge_31 (by rw [q38]; decide) (by rw [q38]; decide) (by rw [q38]; rfl) (by decide) ?_
            refine dl_aload_n (pc := 72) C 0 dX11_forge_72 rfl rfl ?_
            refine dl_iload_n (pc := 73) C 3 dX11_forge_73 rfl rfl ?_
            refine dl_bipush (pc := 74) C 10 dX11_forge_74 (by decide) ?_
            obtain ⟨r9, h1, h⟩ := dl_bi_some h
            refine dl_sI0 (pc := 76) C (cjd_floorMod l D TY cc_nw _ _ _ h1) (va_cwS 2 C.2.2.2.2.1 gX11_forge_J9_floorMod_7cf53 rfl rfl rfl (by decide +kernel) ⟨Nat.le_of_ble_eq_true rfl, Nat.le_of_ble_eq_true rfl⟩) rfl rfl (Nat.le_of_ble_eq_true rfl) dX11_forge_76 ⟨Nat.zero_le _, Nat.zero_le _⟩ (fun r u hp => ?_)
            obtain ⟨rfl, hu⟩ := hp
            rw [hu]
            clear hu
            refine dl_iload_n (pc := 79) C 2 dX11_forge_79 rfl rfl ?_
            refine dl_iconst (pc := 80) C 5 dX11_forge_80 (by decide) ?_
            obtain ⟨r10, h1, h⟩ := dl_bi_some h
            refine dl_sI0 (pc := 81) C (cjd_floorMod l D TY cc_nw _ _ _ h1) (va_cwS 2 C.2.2.2.2.1 gX11_forge_J9_floorMod_7cf53 rfl rfl rfl (by decide +kernel) ⟨Nat.le_of_ble_eq_true rfl, Nat.le_of_ble_eq_true rfl⟩) rfl rfl (Nat.le_of_ble_eq_true rfl) dX11_forge_81 ⟨Nat.zero_le _, Nat.zero_le _⟩ (fun r u hp => ?_)
            obtain ⟨rfl, hu⟩ := hp
            rw [hu]
            clear hu
            obtain ⟨r11, g12, h1, h⟩ := dl_b2_some h
            refine dl_vI0 (pc := 84) C (ccl11_takePlaceForKind l D cI cP cII TY hTY hT1 ad pr R _ hok _ _ h1) (cwV 2 C.2.2.2.2.1 gX11_forge_X11_takePlaceForKind rfl rfl rfl (by decide +kernel) ⟨Nat.le_of_ble_eq_true rfl, Nat.le_of_ble_eq_true rfl⟩) 0 11 cc_a0 rfl rfl rfl (Nat.le_of_ble_eq_true rfl) dX11_forge_84 ⟨Nat.zero_le _, Nat.zero_le _⟩ (fun r u hp => ?_)
            obtain ⟨rfl, rfl⟩ := hp
            exact hQ 87 _ _ _ ⟨(dl_r2 h).1, by rw [(dl_r2 h).2]⟩ (vp_nar_int _) dX11_forge_87
          rw [if_neg q38] at h
          by_cases q39 : x1 = 1
          · rw [if_pos q39] at h
            refine dl_tabIn (pc := 31) C 57 88 dX11_forge_31 (by rw [q39]; decide) (by rw [q39]; decide) (by rw [q39]; rfl) (by decide) ?_
            refine dl_iload_n (pc := 88) C 2 dX11_forge_88 rfl rfl ?_
            refine dl_if_ge (pc := 89) C 101 dX11_forge_89 (by decide) h (fun q17 h => ?_) (fun q17 h => ?_)
            · refine dl_aload_n (pc := 101) C 0 dX11_forge_101 rfl rfl ?_
              refine dl_iload_n (pc := 102) C 2 dX11_forge_102 rfl rfl ?_
              obtain ⟨r13, g14, h1, h⟩ := dl_b2_some h
              refine dl_vI0 (pc := 103) C (ccl11_done l D cI cP cII TY hTY ad pr R _ _ h1) (cwV 1 C.2.2.2.2.1 gX11_forge_X11_done rfl rfl rfl (by decide +kernel) ⟨Nat.le_of_ble_eq_true rfl, Nat.le_of_ble_eq_true rfl⟩) 0 11 cc_a0 rfl rfl rfl (Nat.le_of_ble_eq_true rfl) dX11_forge_103 ⟨Nat.zero_le _, Nat.zero_le _⟩ (fun r u hp => ?_)
              obtain ⟨rfl, rfl⟩ := hp
              exact hQ 106 _ _ _ ⟨(dl_r2 h).1, by rw [(dl_r2 h).2]⟩ (vp_nar_int _) dX11_forge_106
            · refine dl_aload_n (pc := 92) C 0 dX11_forge_92 rfl rfl ?_
              refine dl_bipush (pc := 93) C 13 dX11_forge_93 (by decide) ?_
              obtain ⟨r15, g16, h1, h⟩ := dl_b2_some h
              refine dl_vI0 (pc := 95) C (ccl11_refused l D cI cP cII TY hTY ad pr R _ _ h1) (cwV 1 C.2.2.2.2.1 gX11_forge_X11_refused rfl rfl rfl (by decide +kernel) ⟨Nat.le_of_ble_eq_true rfl, Nat.le_of_ble_eq_true rfl⟩) 0 11 cc_a0 rfl rfl rfl (Nat.le_of_ble_eq_true rfl) dX11_forge_95 ⟨Nat.zero_le _, Nat.zero_le _⟩ (fun r u hp => ?_)
              obtain ⟨rfl, rfl⟩ := hp
              refine dl_goto (pc := 98) C 106 dX11_forge_98 (by decide) ?_
              exact hQ 106 _ _ _ ⟨(dl_r2 h).1, by rw [(dl_r2 h).2]⟩ (vp_nar_int _) dX11_forge_106
          rw [if_neg q39] at h
          by_cases q40 : x1 = 2
          · rw [if_pos q40] at h
            refine dl_tabIn (pc := 31) C 76 107 dX11_forge_31 (by rw [q40]; decide) (by rw [q40]; decide) (by rw [q40]; rfl) (by decide) ?_
            refine dl_aload_n (pc := 107) C 0 dX11_forge_107 rfl rfl ?_
            refine dl_iload_n (pc := 108) C 3 dX11_forge_108 rfl rfl ?_
            refine dl_iconst (pc := 109) C 5 dX11_forge_109 (by decide) ?_
            obtain ⟨r18, h1, h⟩ := dl_bi_some h
            refine dl_sI0 (pc := 110) C (cjd_floorMod l D TY cc_nw _ _ _ h1) (va_cwS 2 C.2.2.2.2.1 gX11_forge_J9_floorMod_7cf53 rfl rfl rfl (by decide +kernel) ⟨Nat.le_of_ble_eq_true rfl, Nat.le_of_ble_eq_true rfl⟩) rfl rfl (Nat.le_of_ble_eq_true rfl) dX11_forge_110 ⟨Nat.zero_le _, Nat.zero_le _⟩ (fun r u hp => ?_)
            obtain ⟨rfl, hu⟩ := hp
            rw [hu]
            clear hu
            refine dl_iload_n (pc := 113) C 2 dX11_forge_113 rfl rfl ?_
            obtain ⟨r19, g20, h1, h⟩ := dl_b2_some h
            refine dl_vI0 (pc := 114) C (ccl11_readInt l D cI cP cII TY hTY hT2 ad pr R _ _ _ h1) (cwV 2 C.2.2.2.2.1 gX11_forge_X11_readInt rfl rfl rfl (by decide +kernel) ⟨Nat.le_of_ble_eq_true rfl, Nat.le_of_ble_eq_true rfl⟩) 0 11 cc_a0 rfl rfl rfl (Nat.le_of_ble_eq_true rfl) dX11_forge_114 ⟨Nat.zero_le _, Nat.zero_le _⟩ (fun r u hp => ?_)
            obtain ⟨rfl, rfl⟩ := hp
            exact hQ 117 _ _ _ ⟨(dl_r2 h).1, by rw [(dl_r2 h).2]⟩ (vp_nar_int _) dX11_forge_117
          rw [if_neg q40] at h
          by_cases q41 : x1 = 3
          · rw [if_pos q41] at h
            refine dl_tabIn (pc := 31) C 87 118 dX11_forge_31 (by rw [q41]; decide) (by rw [q41]; decide) (by rw [q41]; rfl) (by decide) ?_
            refine dl_aload_n (pc := 118) C 0 dX11_forge_118 rfl rfl ?_
            refine dl_iload_n (pc := 119) C 3 dX11_forge_119 rfl rfl ?_
            refine dl_iconst (pc := 120) C 5 dX11_forge_120 (by decide) ?_
            obtain ⟨r21, h1, h⟩ := dl_bi_some h
            refine dl_sI0 (pc := 121) C (cjd_floorMod l D TY cc_nw _ _ _ h1) (va_cwS 2 C.2.2.2.2.1 gX11_forge_J9_floorMod_7cf53 rfl rfl rfl (by decide +kernel) ⟨Nat.le_of_ble_eq_true rfl, Nat.le_of_ble_eq_true rfl⟩) rfl rfl (Nat.le_of_ble_eq_true rfl) dX11_forge_121 ⟨Nat.zero_le _, Nat.zero_le _⟩ (fun r u hp => ?_)
            obtain ⟨rfl, hu⟩ := hp
            rw [hu]
            clear hu
            refine dl_iload_n (pc := 124) C 2 dX11_forge_124 rfl rfl ?_
            obtain ⟨r22, g23, h1, h⟩ := dl_b2_some h
            refine dl_vI0 (pc := 125) C (ccl11_copyBytes l D cI cP cII TY hTY hT2 N ad pr R _ _ _ h1) (cwV 2 C.2.2.2.2.1 gX11_forge_X11_copyBytes rfl rfl rfl (by decide +kernel) ⟨Nat.le_of_ble_eq_true rfl, Nat.le_of_ble_eq_true rfl⟩) 0 11 cc_a0 rfl rfl rfl (Nat.le_of_ble_eq_true rfl) dX11_forge_125 ⟨Nat.zero_le _, Nat.zero_le _⟩ (fun r u hp => ?_)
            obtain ⟨rfl, rfl⟩ := hp
            exact hQ 128 _ _ _ ⟨(dl_r2 h).1, by rw [(dl_r2 h).2]⟩ (vp_nar_int _) dX11_forge_128
          rw [if_neg q41] at h
          by_cases q42 : x1 = 4
          · rw [if_pos q42] at h
            refine dl_tabIn (pc := 31) C 98 129 dX11_forge_31 (by rw [q42]; decide) (by rw [q42]; decide) (by rw [q42]; rfl) (by decide) ?_
            refine dl_aload_n (pc := 129) C 0 dX11_forge_129 rfl rfl ?_
            refine dl_iload_n (pc := 130) C 3 dX11_forge_130 rfl rfl ?_
            refine dl_bipush (pc := 131) C 10 dX11_forge_131 (by decide) ?_
            obtain ⟨r24, h1, h⟩ := dl_bi_some h
            refine dl_sI0 (pc := 133) C (cjd_floorMod l D TY cc_nw _ _ _ h1) (va_cwS 2 C.2.2.2.2.1 gX11_forge_J9_floorMod_7cf53 rfl rfl rfl (by decide +kernel) ⟨Nat.le_of_ble_eq_true rfl, Nat.le_of_ble_eq_true rfl⟩) rfl rfl (Nat.le_of_ble_eq_true rfl) dX11_forge_133 ⟨Nat.zero_le _, Nat.zero_le _⟩ (fun r u hp => ?_)
            obtain ⟨rfl, hu⟩ := hp
            rw [hu]
            clear hu
            obtain ⟨r25, g26, h1, h⟩ := dl_b2_some h
            refine dl_vI0 (pc := 136) C (ccl11_putAmongTaps l D cI cP cII TY hTY hT1 ad pr R _ hok _ h1) (cwV 1 C.2.2.2.2.1 gX11_forge_X11_putAmongTaps rfl rfl rfl (by decide +kernel) ⟨Nat.le_of_ble_eq_true rfl, Nat.le_of_ble_eq_true rfl⟩) 0 11 cc_a0 rfl rfl rfl (Nat.le_of_ble_eq_true rfl) dX11_forge_136 ⟨Nat.zero_le _, Nat.zero_le _⟩ (fun r u hp => ?_)
            obtain ⟨rfl, rfl⟩ := hp
            exact hQ 139 _ _ _ ⟨(dl_r2 h).1, by rw [(dl_r2 h).2]⟩ (vp_nar_int _) dX11_forge_139
          rw [if_neg q42] at h
          by_cases q43 : x1 = 5
          · rw [if_pos q43] at h
            refine dl_tabIn (pc := 31) C 109 140 dX11_forge_31 (by rw [q43]; decide) (by rw [q43]; decide) (by rw [q43]; rfl) (by decide) ?_
            refine dl_iload_n (pc := 140) C 2 dX11_forge_140 rfl rfl ?_
            refine dl_if_ne (pc := 141) C 153 dX11_forge_141 (by decide) h (fun q31 h => ?_) (fun q31 h => ?_)
            · refine dl_aload_n (pc := 144) C 0 dX11_forge_144 rfl rfl ?_
              refine dl_bipush (pc := 145) C 15 dX11_forge_145 (by decide) ?_
              obtain ⟨r27, g28, h1, h⟩ := dl_b2_some h
              refine dl_vI0 (pc := 147) C (ccl11_refused l D cI cP cII TY hTY ad pr R _ _ h1) (cwV 1 C.2.2.2.2.1 gX11_forge_X11_refused rfl rfl rfl (by decide +kernel) ⟨Nat.le_of_ble_eq_true rfl, Nat.le_of_ble_eq_true rfl⟩) 0 11 cc_a0 rfl rfl rfl (Nat.le_of_ble_eq_true rfl) dX11_forge_147 ⟨Nat.zero_le _, Nat.zero_le _⟩ (fun r u hp => ?_)
              obtain ⟨rfl, rfl⟩ := hp
              refine dl_goto (pc := 150) C 162 dX11_forge_150 (by decide) ?_
              exact hQ 162 _ _ _ ⟨(dl_r2 h).1, by rw [(dl_r2 h).2]⟩ (vp_nar_int _) dX11_forge_162
            · refine dl_aload_n (pc := 153) C 0 dX11_forge_153 rfl rfl ?_
              refine dl_sipush (pc := 154) C 1000 dX11_forge_154 (by decide) ?_
              refine dl_iload_n (pc := 157) C 2 dX11_forge_157 rfl rfl ?_
              obtain ⟨h0, h⟩ := dl_gd_some h
              refine dl_idiv (pc := 158) C dX11_forge_158 h0 ?_
              obtain ⟨r29, g30, h1, h⟩ := dl_b2_some h
              refine dl_vI0 (pc := 159) C (ccl11_done l D cI cP cII TY hTY ad pr R _ _ h1) (cwV 1 C.2.2.2.2.1 gX11_forge_X11_done rfl rfl rfl (by decide +kernel) ⟨Nat.le_of_ble_eq_true rfl, Nat.le_of_ble_eq_true rfl⟩) 0 11 cc_a0 rfl rfl rfl (Nat.le_of_ble_eq_true rfl) dX11_forge_159 ⟨Nat.zero_le _, Nat.zero_le _⟩ (fun r u hp => ?_)
              obtain ⟨rfl, rfl⟩ := hp
              exact hQ 162 _ _ _ ⟨(dl_r2 h).1, by rw [(dl_r2 h).2]⟩ (vp_nar_int _) dX11_forge_162
          rw [if_neg q43] at h
          by_cases q44 : x1 = 6
          · rw [if_pos q44] at h
            refine dl_tabIn (pc := 31) C 132 163 dX11_forge_31 (by rw [q44]; decide) (by rw [q44]; decide) (by rw [q44]; rfl) (by decide) ?_
            refine dl_iload_n (pc := 163) C 2 dX11_forge_163 rfl rfl ?_
            refine dl_iconst (pc := 164) C 2 dX11_forge_164 (by decide) ?_
            obtain ⟨r32, h1, h⟩ := dl_bi_some h
            refine dl_sI0 (pc := 165) C (cjd_floorMod l D TY cc_nw _ _ _ h1) (va_cwS 2 C.2.2.2.2.1 gX11_forge_J9_floorMod_7cf53 rfl rfl rfl (by decide +kernel) ⟨Nat.le_of_ble_eq_true rfl, Nat.le_of_ble_eq_true rfl⟩) rfl rfl (Nat.le_of_ble_eq_true rfl) dX11_forge_165 ⟨Nat.zero_le _, Nat.zero_le _⟩ (fun r u hp => ?_)
            obtain ⟨rfl, hu⟩ := hp
            rw [hu]
            clear hu
            refine dl_if_ne (pc := 168) C 180 dX11_forge_168 (by decide) h (fun q37 h => ?_) (fun q37 h => ?_)
            · refine dl_aload_n (pc := 171) C 0 dX11_forge_171 rfl rfl ?_
              refine dl_bipush (pc := 172) C 10 dX11_forge_172 (by decide) ?_
              obtain ⟨r33, g34, h1, h⟩ := dl_b2_some h
              refine dl_vI0 (pc := 174) C (ccl11_refused l D cI cP cII TY hTY ad pr R _ _ h1) (cwV 1 C.2.2.2.2.1 gX11_forge_X11_refused rfl rfl rfl (by decide +kernel) ⟨Nat.le_of_ble_eq_true rfl, Nat.le_of_ble_eq_true rfl⟩) 0 11 cc_a0 rfl rfl rfl (Nat.le_of_ble_eq_true rfl) dX11_forge_174 ⟨Nat.zero_le _, Nat.zero_le _⟩ (fun r u hp => ?_)
              obtain ⟨rfl, rfl⟩ := hp
              refine dl_goto (pc := 177) C 185 dX11_forge_177 (by decide) ?_
              exact hQ 185 _ _ _ ⟨(dl_r2 h).1, by rw [(dl_r2 h).2]⟩ (vp_nar_int _) dX11_forge_185
            · refine dl_aload_n (pc := 180) C 0 dX11_forge_180 rfl rfl ?_
              refine dl_iconst (pc := 181) C 1 dX11_forge_181 (by decide) ?_
              obtain ⟨r35, g36, h1, h⟩ := dl_b2_some h
              refine dl_vI0 (pc := 182) C (ccl11_done l D cI cP cII TY hTY ad pr R _ _ h1) (cwV 1 C.2.2.2.2.1 gX11_forge_X11_done rfl rfl rfl (by decide +kernel) ⟨Nat.le_of_ble_eq_true rfl, Nat.le_of_ble_eq_true rfl⟩) 0 11 cc_a0 rfl rfl rfl (Nat.le_of_ble_eq_true rfl) dX11_forge_182 ⟨Nat.zero_le _, Nat.zero_le _⟩ (fun r u hp => ?_)
              obtain ⟨rfl, rfl⟩ := hp
              exact hQ 185 _ _ _ ⟨(dl_r2 h).1, by rw [(dl_r2 h).2]⟩ (vp_nar_int _) dX11_forge_185
          rw [if_neg q44] at h
          refine dl_tabOut (pc := 31) C 186 dX11_forge_31 (by have eq38 : (x1).toInt ≠ 0 := fun w => q38 (Int32.toInt_inj.mp w); have eq39 : (x1).toInt ≠ 1 := fun w => q39 (Int32.toInt_inj.mp w); have eq40 : (x1).toInt ≠ 2 := fun w => q40 (Int32.toInt_inj.mp w); have eq41 : (x1).toInt ≠ 3 := fun w => q41 (Int32.toInt_inj.mp w); have eq42 : (x1).toInt ≠ 4 := fun w => q42 (Int32.toInt_inj.mp w); have eq43 : (x1).toInt ≠ 5 := fun w => q43 (Int32.toInt_inj.mp w); have eq44 : (x1).toInt ≠ 6 := fun w => q44 (Int32.toInt_inj.mp w); omega) (by decide) ?_
          refine dl_aload_n (pc := 186) C 0 dX11_forge_186 rfl rfl ?_
          refine dl_iconst (pc := 187) C 1 dX11_forge_187 (by decide) ?_
          obtain ⟨r7, g8, h1, h⟩ := dl_b2_some h
          refine dl_vI0 (pc := 188) C (ccl11_refused l D cI cP cII TY hTY ad pr R _ _ h1) (cwV 1 C.2.2.2.2.1 gX11_forge_X11_refused rfl rfl rfl (by decide +kernel) ⟨Nat.le_of_ble_eq_true rfl, Nat.le_of_ble_eq_true rfl⟩) 0 11 cc_a0 rfl rfl rfl (Nat.le_of_ble_eq_true rfl) dX11_forge_188 ⟨Nat.zero_le _, Nat.zero_le _⟩ (fun r u hp => ?_)
          obtain ⟨rfl, rfl⟩ := hp
          exact hQ 191 _ _ _ ⟨(dl_r2 h).1, by rw [(dl_r2 h).2]⟩ (vp_nar_int _) dX11_forge_191
        · refine dl_aload_n (pc := 24) C 0 dX11_forge_24 rfl rfl ?_
          refine dl_iconst (pc := 25) C 1 dX11_forge_25 (by decide) ?_
          obtain ⟨r45, g46, h1, h⟩ := dl_b2_some h
          refine dl_vI0 (pc := 26) C (ccl11_refused l D cI cP cII TY hTY ad pr R _ _ h1) (cwV 1 C.2.2.2.2.1 gX11_forge_X11_refused rfl rfl rfl (by decide +kernel) ⟨Nat.le_of_ble_eq_true rfl, Nat.le_of_ble_eq_true rfl⟩) 0 11 cc_a0 rfl rfl rfl (Nat.le_of_ble_eq_true rfl) dX11_forge_26 ⟨Nat.zero_le _, Nat.zero_le _⟩ (fun r u hp => ?_)
          obtain ⟨rfl, rfl⟩ := hp
          exact hQ 29 _ _ _ ⟨(dl_r2 h).1, by rw [(dl_r2 h).2]⟩ (vp_nar_int _) dX11_forge_29
