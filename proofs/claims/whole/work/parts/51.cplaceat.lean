/-- the world behind place(..): as it was, or with a place more -/
def dl_nps (cI cP cII : ClassId) (ad : Nat → Nat) (pr : Nat → Option Nat) (R : va_W) (g : dl_Sg) (x1 : Int32) (g0 : dl_Sg) (u : va_W) : Prop := ((∃ (c r : Int32), cl11_refused g c = some (r, g0)) ∧ u = cc_w cI cP cII ad pr g0 ++ R) ∨ ∃ (a : Nat) (w rN : Int32) (gN : dl_Sg), cl2_addPlace g x1 w = some (rN, gN) ∧ (∃ r : Int32, cl11_done gN rN = some (r, g0)) ∧ u = cc_w cI cP cII ad (va_up pr (g 1 10).toNatClampNeg (some a)) g0 ++ (R ++ [(a, .inr (cc_ci x1, [.int (g 1 10), .int w, .ref (ad 6), .int 0]))])
def cl11_place (g : dl_Sg) (x1 : Int32) (x2 : Int32) : Option (Int32 × dl_Sg) :=
    if x1 < 0 then (
    dl_b2 (cl11_refused g (1 : Int32)) fun r1 g2 =>
    some (r1, g2))
    else (
    if (5 : Int32) ≤ x1 then (
    dl_b2 (cl11_refused g (1 : Int32)) fun r3 g4 =>
    some (r3, g4))
    else (
    dl_bi (cl11_hasWorth x1) fun r5 =>
    if r5 = 0 then (
    if (g 1 10) < (10 : Int32) then (
    if x1 = (3 : Int32) then (
    if (g 1 13) = (-1 : Int32) then (
    dl_bi (cl11_hasWorth x1) fun r6 =>
    if r6 = 0 then (
    dl_b2 (cl2_addPlace g x1 (0 : Int32)) fun r7 g8 =>
    dl_b2 (cl11_done g8 r7) fun r9 g10 =>
    some (r9, g10))
    else (
    dl_b2 (cl2_addPlace g x1 x2) fun r11 g12 =>
    dl_b2 (cl11_done g12 r11) fun r13 g14 =>
    some (r13, g14)))
    else (
    dl_b2 (cl11_refused g (3 : Int32)) fun r16 g17 =>
    some (r16, g17)))
    else (
    dl_bi (cl11_hasWorth x1) fun r19 =>
    if r19 = 0 then (
    dl_b2 (cl2_addPlace g x1 (0 : Int32)) fun r20 g21 =>
    dl_b2 (cl11_done g21 r20) fun r22 g23 =>
    some (r22, g23))
    else (
    dl_b2 (cl2_addPlace g x1 x2) fun r24 g25 =>
    dl_b2 (cl11_done g25 r24) fun r26 g27 =>
    some (r26, g27))))
    else (
    dl_b2 (cl11_refused g (2 : Int32)) fun r30 g31 =>
    some (r30, g31)))
    else (
    dl_bi (cl11_isAmount x2) fun r33 =>
    if r33 = 0 then (
    dl_b2 (cl11_refused g (1 : Int32)) fun r34 g35 =>
    some (r34, g35))
    else (
    if (g 1 10) < (10 : Int32) then (
    if x1 = (3 : Int32) then (
    if (g 1 13) = (-1 : Int32) then (
    dl_bi (cl11_hasWorth x1) fun r36 =>
    if r36 = 0 then (
    dl_b2 (cl2_addPlace g x1 (0 : Int32)) fun r37 g38 =>
    dl_b2 (cl11_done g38 r37) fun r39 g40 =>
    some (r39, g40))
    else (
    dl_b2 (cl2_addPlace g x1 x2) fun r41 g42 =>
    dl_b2 (cl11_done g42 r41) fun r43 g44 =>
    some (r43, g44)))
    else (
    dl_b2 (cl11_refused g (3 : Int32)) fun r46 g47 =>
    some (r46, g47)))
    else (
    dl_bi (cl11_hasWorth x1) fun r49 =>
    if r49 = 0 then (
    dl_b2 (cl2_addPlace g x1 (0 : Int32)) fun r50 g51 =>
    dl_b2 (cl11_done g51 r50) fun r52 g53 =>
    some (r52, g53))
    else (
    dl_b2 (cl2_addPlace g x1 x2) fun r54 g55 =>
    dl_b2 (cl11_done g55 r54) fun r56 g57 =>
    some (r56, g57))))
    else (
    dl_b2 (cl11_refused g (2 : Int32)) fun r60 g61 =>
    some (r60, g61))))))
theorem hin_X11_place_X11 : ∀ w ∈ u_ws RX11 TX11 6, w ∈ wsX11_place := fun _ h => List.mem_cons_of_mem _ (List.mem_append_left _ (List.mem_append_left _ (List.mem_append_left _ (List.mem_append_left _ (List.mem_append_left _ (List.mem_append_left _ (List.mem_append_right _ h)))))))
theorem hin_X11_place_X2 : ∀ w ∈ u_ws RX2 TX2 18, w ∈ wsX11_place := fun _ h => List.mem_cons_of_mem _ (List.mem_append_left _ (List.mem_append_left _ (List.mem_append_left _ (List.mem_append_left _ (List.mem_append_left _ (List.mem_append_right _ h))))))
theorem lk_X11_place_10 : Cond.fieldLink (yX11_place).cls 10 "DripLines" (TX11 0).2.1 (TX11 0).2.2.1 ∈ wsX11_place := by decide +kernel
set_option maxHeartbeats 4000000 in
set_option maxRecDepth 100000 in
theorem ccl11_place (l : Launch) (D : va_G) (cI cP cII : ClassId) (TY : dl_TY) (hTY : TY[0]? = some (cI, .int)) (hT1 : TY[1]? = some (cP, .object "DripLines$Place")) (ad : Nat → Nat) (pr : Nat → Option Nat) (R : va_W) (g : dl_Sg) (x1 : Int32) (x2 : Int32) {r0 : Int32} {g0 : dl_Sg} (h : cl11_place g x1 x2 = some (r0, g0)) : dl_CtI l D TY cc_nw yX11_place wsX11_place { frames := 6, cells := 1, slots := 4, locals := 127 } 1 4 [.ref (ad 0), .int x1, .int x2] (cc_w cI cP cII ad pr g ++ R) (fun r u => r = r0 ∧ dl_nps cI cP cII ad pr R g x1 g0 u) := by
  refine dl_metI (ty := .int) [(0, .ref (ad 0)), (1, .int x1), (2, .int x2)] (by decide) rfl (Nat.le_of_ble_eq_true rfl) rfl ?_
  intro p e s m args below meth c Q A C hQ
  unfold cl11_place at h
  refine dl_iload_n (pc := 0) C 1 dX11_place_0 rfl rfl ?_
  refine dl_if_lt (pc := 1) C 23 dX11_place_1 (by decide) h (fun q66 h => ?_) (fun q66 h => ?_)
  · refine dl_aload_n (pc := 23) C 0 dX11_place_23 rfl rfl ?_
    refine dl_iconst (pc := 24) C 1 dX11_place_24 (by decide) ?_
    obtain ⟨r1, g2, h1, h⟩ := dl_b2_some h
    refine dl_vI0 (pc := 25) C (ccl11_refused l D cI cP cII TY hTY ad pr R _ _ h1) (cwV 1 C.2.2.2.2.1 gX11_place_X11_refused rfl rfl rfl (by decide +kernel) ⟨Nat.le_of_ble_eq_true rfl, Nat.le_of_ble_eq_true rfl⟩) 0 11 cc_a0 rfl rfl rfl (Nat.le_of_ble_eq_true rfl) dX11_place_25 ⟨Nat.zero_le _, Nat.zero_le _⟩ (fun r u hp => ?_)
    obtain ⟨rfl, rfl⟩ := hp
    refine dl_wid (mc := 1) (ms := 4) (Nat.le_of_ble_eq_true rfl) (Nat.le_of_ble_eq_true rfl) ?_
    exact hQ 28 _ _ _ ⟨(dl_r2 h).1, Or.inl ⟨⟨_, _, by rw [← (dl_r2 h).2]; exact h1⟩, by rw [(dl_r2 h).2]⟩⟩ (vp_nar_int _) dX11_place_28
  · refine dl_iload_n (pc := 4) C 1 dX11_place_4 rfl rfl ?_
    refine dl_iconst (pc := 5) C 5 dX11_place_5 (by decide) ?_
    refine dl_icmp_ge (pc := 6) C 23 dX11_place_6 (by decide) h (fun q65 h => ?_) (fun q65 h => ?_)
    · refine dl_aload_n (pc := 23) C 0 dX11_place_23 rfl rfl ?_
      refine dl_iconst (pc := 24) C 1 dX11_place_24 (by decide) ?_
      obtain ⟨r3, g4, h1, h⟩ := dl_b2_some h
      refine dl_vI0 (pc := 25) C (ccl11_refused l D cI cP cII TY hTY ad pr R _ _ h1) (cwV 1 C.2.2.2.2.1 gX11_place_X11_refused rfl rfl rfl (by decide +kernel) ⟨Nat.le_of_ble_eq_true rfl, Nat.le_of_ble_eq_true rfl⟩) 0 11 cc_a0 rfl rfl rfl (Nat.le_of_ble_eq_true rfl) dX11_place_25 ⟨Nat.zero_le _, Nat.zero_le _⟩ (fun r u hp => ?_)
      obtain ⟨rfl, rfl⟩ := hp
      refine dl_wid (mc := 1) (ms := 4) (Nat.le_of_ble_eq_true rfl) (Nat.le_of_ble_eq_true rfl) ?_
      exact hQ 28 _ _ _ ⟨(dl_r2 h).1, Or.inl ⟨⟨_, _, by rw [← (dl_r2 h).2]; exact h1⟩, by rw [(dl_r2 h).2]⟩⟩ (vp_nar_int _) dX11_place_28
    · refine dl_iload_n (pc := 9) C 1 dX11_place_9 rfl rfl ?_
      obtain ⟨r5, h1, h⟩ := dl_bi_some h
      refine dl_sI0 (pc := 10) C (ccl11_hasWorth l D TY cc_nw _ _ h1) (va_cwS 1 C.2.2.2.2.1 gX11_place_X11_hasWorth rfl rfl rfl (by decide +kernel) ⟨Nat.le_of_ble_eq_true rfl, Nat.le_of_ble_eq_true rfl⟩) rfl rfl (Nat.le_of_ble_eq_true rfl) dX11_place_10 ⟨Nat.zero_le _, Nat.zero_le _⟩ (fun r u hp => ?_)
      obtain ⟨rfl, hu⟩ := hp
      rw [hu]
      clear hu
      refine dl_if_eq (pc := 13) C 29 dX11_place_13 (by decide) h (fun q64 h => ?_) (fun q64 h => ?_)
      · refine dl_aload_n (pc := 29) C 0 dX11_place_29 rfl rfl ?_
        refine dl_get (pc := 30) C hin_X11_place_X11 0 cc_a0 rfl 0 (by decide) lk_X11_place_10 rfl rfl dX11_place_30 ?_
        refine dl_getN (pc := 33) C hin_X11_place_X2 1 cc_a1 rfl 10 (by decide) nk_RX11_61 rfl rfl dX11_place_33 ?_
        refine dl_bipush (pc := 36) C 10 dX11_place_36 (by decide) ?_
        refine dl_icmp_lt (pc := 38) C 47 dX11_place_38 (by decide) h (fun q32 h => ?_) (fun q32 h => ?_)
        · refine dl_iload_n (pc := 47) C 1 dX11_place_47 rfl rfl ?_
          refine dl_iconst (pc := 48) C 3 dX11_place_48 (by decide) ?_
          refine dl_icmp_ne (pc := 49) C 69 dX11_place_49 (by decide) h (fun q29 h => ?_) (fun q29 h => ?_)
          · refine dl_aload_n (pc := 52) C 0 dX11_place_52 rfl rfl ?_
            refine dl_get (pc := 53) C hin_X11_place_X11 0 cc_a0 rfl 0 (by decide) lk_X11_place_10 rfl rfl dX11_place_53 ?_
            refine dl_getN (pc := 56) C hin_X11_place_X2 1 cc_a1 rfl 13 (by decide) nk_RX11_64 rfl rfl dX11_place_56 ?_
            refine dl_iconst (pc := 59) C (-1) dX11_place_59 (by decide) ?_
            refine dl_icmp_eq (pc := 60) C 69 dX11_place_60 (by decide) h (fun q18 h => ?_) (fun q18 h => ?_)
            · refine dl_aload_n (pc := 69) C 0 dX11_place_69 rfl rfl ?_
              refine dl_aload_n (pc := 70) C 0 dX11_place_70 rfl rfl ?_
              refine dl_get (pc := 71) C hin_X11_place_X11 0 cc_a0 rfl 0 (by decide) lk_X11_place_10 rfl rfl dX11_place_71 ?_
              refine dl_iload_n (pc := 74) C 1 dX11_place_74 rfl rfl ?_
              refine dl_iload_n (pc := 75) C 1 dX11_place_75 rfl rfl ?_
              obtain ⟨r6, h1, h⟩ := dl_bi_some h
              refine dl_sI0 (pc := 76) C (ccl11_hasWorth l D TY cc_nw _ _ h1) (va_cwS 1 C.2.2.2.2.1 gX11_place_X11_hasWorth rfl rfl rfl (by decide +kernel) ⟨Nat.le_of_ble_eq_true rfl, Nat.le_of_ble_eq_true rfl⟩) rfl rfl (Nat.le_of_ble_eq_true rfl) dX11_place_76 ⟨Nat.zero_le _, Nat.zero_le _⟩ (fun r u hp => ?_)
              obtain ⟨rfl, hu⟩ := hp
              rw [hu]
              clear hu
              refine dl_if_eq (pc := 79) C 86 dX11_place_79 (by decide) h (fun q15 h => ?_) (fun q15 h => ?_)
              · refine dl_iconst (pc := 86) C 0 dX11_place_86 (by decide) ?_
                obtain ⟨r7, g8, h1, h⟩ := dl_b2_some h
                have hadd := h1
                refine dl_vI (pc := 87) C (ccl2_addPlace l D cI cP cII TY hTY hT1 ad pr R _ _ _ h1) (cwV 2 C.2.2.2.2.1 gX11_place_X2_addPlace rfl rfl rfl (by decide +kernel) ⟨Nat.le_of_ble_eq_true rfl, Nat.le_of_ble_eq_true rfl⟩) 1 2 cc_a1 rfl rfl rfl (Nat.le_of_ble_eq_true rfl) dX11_place_87 ⟨Nat.le_of_ble_eq_true rfl, Nat.le_of_ble_eq_true rfl⟩ (fun r u hp => ?_)
                obtain ⟨rfl, a, rfl⟩ := hp
                obtain ⟨r9, g10, h1, h⟩ := dl_b2_some h
                have hdone := h1
                refine dl_vI0 (pc := 90) C (ccl11_done l D cI cP cII TY hTY ad _ _ _ _ h1) (cwV 1 C.2.2.2.2.1 gX11_place_X11_done rfl rfl rfl (by decide +kernel) ⟨Nat.le_of_ble_eq_true rfl, Nat.le_of_ble_eq_true rfl⟩) 0 11 cc_a0 rfl rfl rfl (Nat.le_of_ble_eq_true rfl) dX11_place_90 ⟨Nat.le_of_ble_eq_true rfl, Nat.le_of_ble_eq_true rfl⟩ (fun r u hp => ?_)
                obtain ⟨rfl, rfl⟩ := hp
                refine dl_wid (mc := 1) (ms := 4) (Nat.le_of_ble_eq_true rfl) (Nat.le_of_ble_eq_true rfl) ?_
                exact hQ 93 _ _ _ ⟨(dl_r2 h).1, Or.inr ⟨a, _, _, _, hadd, ⟨_, by rw [← (dl_r2 h).2]; exact hdone⟩, by rw [(dl_r2 h).2]⟩⟩ (vp_nar_int _) dX11_place_93
              · refine dl_iload_n (pc := 82) C 2 dX11_place_82 rfl rfl ?_
                refine dl_goto (pc := 83) C 87 dX11_place_83 (by decide) ?_
                obtain ⟨r11, g12, h1, h⟩ := dl_b2_some h
                have hadd := h1
                refine dl_vI (pc := 87) C (ccl2_addPlace l D cI cP cII TY hTY hT1 ad pr R _ _ _ h1) (cwV 2 C.2.2.2.2.1 gX11_place_X2_addPlace rfl rfl rfl (by decide +kernel) ⟨Nat.le_of_ble_eq_true rfl, Nat.le_of_ble_eq_true rfl⟩) 1 2 cc_a1 rfl rfl rfl (Nat.le_of_ble_eq_true rfl) dX11_place_87 ⟨Nat.le_of_ble_eq_true rfl, Nat.le_of_ble_eq_true rfl⟩ (fun r u hp => ?_)
                obtain ⟨rfl, a, rfl⟩ := hp
                obtain ⟨r13, g14, h1, h⟩ := dl_b2_some h
                have hdone := h1
                refine dl_vI0 (pc := 90) C (ccl11_done l D cI cP cII TY hTY ad _ _ _ _ h1) (cwV 1 C.2.2.2.2.1 gX11_place_X11_done rfl rfl rfl (by decide +kernel) ⟨Nat.le_of_ble_eq_true rfl, Nat.le_of_ble_eq_true rfl⟩) 0 11 cc_a0 rfl rfl rfl (Nat.le_of_ble_eq_true rfl) dX11_place_90 ⟨Nat.le_of_ble_eq_true rfl, Nat.le_of_ble_eq_true rfl⟩ (fun r u hp => ?_)
                obtain ⟨rfl, rfl⟩ := hp
                refine dl_wid (mc := 1) (ms := 4) (Nat.le_of_ble_eq_true rfl) (Nat.le_of_ble_eq_true rfl) ?_
                exact hQ 93 _ _ _ ⟨(dl_r2 h).1, Or.inr ⟨a, _, _, _, hadd, ⟨_, by rw [← (dl_r2 h).2]; exact hdone⟩, by rw [(dl_r2 h).2]⟩⟩ (vp_nar_int _) dX11_place_93
            · refine dl_aload_n (pc := 63) C 0 dX11_place_63 rfl rfl ?_
              refine dl_iconst (pc := 64) C 3 dX11_place_64 (by decide) ?_
              obtain ⟨r16, g17, h1, h⟩ := dl_b2_some h
              refine dl_vI0 (pc := 65) C (ccl11_refused l D cI cP cII TY hTY ad pr R _ _ h1) (cwV 1 C.2.2.2.2.1 gX11_place_X11_refused rfl rfl rfl (by decide +kernel) ⟨Nat.le_of_ble_eq_true rfl, Nat.le_of_ble_eq_true rfl⟩) 0 11 cc_a0 rfl rfl rfl (Nat.le_of_ble_eq_true rfl) dX11_place_65 ⟨Nat.zero_le _, Nat.zero_le _⟩ (fun r u hp => ?_)
              obtain ⟨rfl, rfl⟩ := hp
              refine dl_wid (mc := 1) (ms := 4) (Nat.le_of_ble_eq_true rfl) (Nat.le_of_ble_eq_true rfl) ?_
              exact hQ 68 _ _ _ ⟨(dl_r2 h).1, Or.inl ⟨⟨_, _, by rw [← (dl_r2 h).2]; exact h1⟩, by rw [(dl_r2 h).2]⟩⟩ (vp_nar_int _) dX11_place_68
          · refine dl_aload_n (pc := 69) C 0 dX11_place_69 rfl rfl ?_
            refine dl_aload_n (pc := 70) C 0 dX11_place_70 rfl rfl ?_
            refine dl_get (pc := 71) C hin_X11_place_X11 0 cc_a0 rfl 0 (by decide) lk_X11_place_10 rfl rfl dX11_place_71 ?_
            refine dl_iload_n (pc := 74) C 1 dX11_place_74 rfl rfl ?_
            refine dl_iload_n (pc := 75) C 1 dX11_place_75 rfl rfl ?_
            obtain ⟨r19, h1, h⟩ := dl_bi_some h
            refine dl_sI0 (pc := 76) C (ccl11_hasWorth l D TY cc_nw _ _ h1) (va_cwS 1 C.2.2.2.2.1 gX11_place_X11_hasWorth rfl rfl rfl (by decide +kernel) ⟨Nat.le_of_ble_eq_true rfl, Nat.le_of_ble_eq_true rfl⟩) rfl rfl (Nat.le_of_ble_eq_true rfl) dX11_place_76 ⟨Nat.zero_le _, Nat.zero_le _⟩ (fun r u hp => ?_)
            obtain ⟨rfl, hu⟩ := hp
            rw [hu]
            clear hu
            refine dl_if_eq (pc := 79) C 86 dX11_place_79 (by decide) h (fun q28 h => ?_) (fun q28 h => ?_)
            · refine dl_iconst (pc := 86) C 0 dX11_place_86 (by decide) ?_
              obtain ⟨r20, g21, h1, h⟩ := dl_b2_some h
              have hadd := h1
              refine dl_vI (pc := 87) C (ccl2_addPlace l D cI cP cII TY hTY hT1 ad pr R _ _ _ h1) (cwV 2 C.2.2.2.2.1 gX11_place_X2_addPlace rfl rfl rfl (by decide +kernel) ⟨Nat.le_of_ble_eq_true rfl, Nat.le_of_ble_eq_true rfl⟩) 1 2 cc_a1 rfl rfl rfl (Nat.le_of_ble_eq_true rfl) dX11_place_87 ⟨Nat.le_of_ble_eq_true rfl, Nat.le_of_ble_eq_true rfl⟩ (fun r u hp => ?_)
              obtain ⟨rfl, a, rfl⟩ := hp
              obtain ⟨r22, g23, h1, h⟩ := dl_b2_some h
              have hdone := h1
              refine dl_vI0 (pc := 90) C (ccl11_done l D cI cP cII TY hTY ad _ _ _ _ h1) (cwV 1 C.2.2.2.2.1 gX11_place_X11_done rfl rfl rfl (by decide +kernel) ⟨Nat.le_of_ble_eq_true rfl, Nat.le_of_ble_eq_true rfl⟩) 0 11 cc_a0 rfl rfl rfl (Nat.le_of_ble_eq_true rfl) dX11_place_90 ⟨Nat.le_of_ble_eq_true rfl, Nat.le_of_ble_eq_true rfl⟩ (fun r u hp => ?_)
              obtain ⟨rfl, rfl⟩ := hp
              refine dl_wid (mc := 1) (ms := 4) (Nat.le_of_ble_eq_true rfl) (Nat.le_of_ble_eq_true rfl) ?_
              exact hQ 93 _ _ _ ⟨(dl_r2 h).1, Or.inr ⟨a, _, _, _, hadd, ⟨_, by rw [← (dl_r2 h).2]; exact hdone⟩, by rw [(dl_r2 h).2]⟩⟩ (vp_nar_int _) dX11_place_93
            · refine dl_iload_n (pc := 82) C 2 dX11_place_82 rfl rfl ?_
              refine dl_goto (pc := 83) C 87 dX11_place_83 (by decide) ?_
              obtain ⟨r24, g25, h1, h⟩ := dl_b2_some h
              have hadd := h1
              refine dl_vI (pc := 87) C (ccl2_addPlace l D cI cP cII TY hTY hT1 ad pr R _ _ _ h1) (cwV 2 C.2.2.2.2.1 gX11_place_X2_addPlace rfl rfl rfl (by decide +kernel) ⟨Nat.le_of_ble_eq_true rfl, Nat.le_of_ble_eq_true rfl⟩) 1 2 cc_a1 rfl rfl rfl (Nat.le_of_ble_eq_true rfl) dX11_place_87 ⟨Nat.le_of_ble_eq_true rfl, Nat.le_of_ble_eq_true rfl⟩ (fun r u hp => ?_)
              obtain ⟨rfl, a, rfl⟩ := hp
              obtain ⟨r26, g27, h1, h⟩ := dl_b2_some h
              have hdone := h1
              refine dl_vI0 (pc := 90) C (ccl11_done l D cI cP cII TY hTY ad _ _ _ _ h1) (cwV 1 C.2.2.2.2.1 gX11_place_X11_done rfl rfl rfl (by decide +kernel) ⟨Nat.le_of_ble_eq_true rfl, Nat.le_of_ble_eq_true rfl⟩) 0 11 cc_a0 rfl rfl rfl (Nat.le_of_ble_eq_true rfl) dX11_place_90 ⟨Nat.le_of_ble_eq_true rfl, Nat.le_of_ble_eq_true rfl⟩ (fun r u hp => ?_)
              obtain ⟨rfl, rfl⟩ := hp
              refine dl_wid (mc := 1) (ms := 4) (Nat.le_of_ble_eq_true rfl) (Nat.le_of_ble_eq_true rfl) ?_
              exact hQ 93 _ _ _ ⟨(dl_r2 h).1, Or.inr ⟨a, _, _, _, hadd, ⟨_, by rw [← (dl_r2 h).2]; exact hdone⟩, by rw [(dl_r2 h).2]⟩⟩ (vp_nar_int _) dX11_place_93
        · refine dl_aload_n (pc := 41) C 0 dX11_place_41 rfl rfl ?_
          refine dl_iconst (pc := 42) C 2 dX11_place_42 (by decide) ?_
          obtain ⟨r30, g31, h1, h⟩ := dl_b2_some h
          refine dl_vI0 (pc := 43) C (ccl11_refused l D cI cP cII TY hTY ad pr R _ _ h1) (cwV 1 C.2.2.2.2.1 gX11_place_X11_refused rfl rfl rfl (by decide +kernel) ⟨Nat.le_of_ble_eq_true rfl, Nat.le_of_ble_eq_true rfl⟩) 0 11 cc_a0 rfl rfl rfl (Nat.le_of_ble_eq_true rfl) dX11_place_43 ⟨Nat.zero_le _, Nat.zero_le _⟩ (fun r u hp => ?_)
          obtain ⟨rfl, rfl⟩ := hp
          refine dl_wid (mc := 1) (ms := 4) (Nat.le_of_ble_eq_true rfl) (Nat.le_of_ble_eq_true rfl) ?_
          exact hQ 46 _ _ _ ⟨(dl_r2 h).1, Or.inl ⟨⟨_, _, by rw [← (dl_r2 h).2]; exact h1⟩, by rw [(dl_r2 h).2]⟩⟩ (vp_nar_int _) dX11_place_46
      · refine dl_iload_n (pc := 16) C 2 dX11_place_16 rfl rfl ?_
        obtain ⟨r33, h1, h⟩ := dl_bi_some h
        refine dl_sI0 (pc := 17) C (ccl11_isAmount l D TY cc_nw _ _ h1) (va_cwS 1 C.2.2.2.2.1 gX11_place_X11_isAmount rfl rfl rfl (by decide +kernel) ⟨Nat.le_of_ble_eq_true rfl, Nat.le_of_ble_eq_true rfl⟩) rfl rfl (Nat.le_of_ble_eq_true rfl) dX11_place_17 ⟨Nat.zero_le _, Nat.zero_le _⟩ (fun r u hp => ?_)
        obtain ⟨rfl, hu⟩ := hp
        rw [hu]
        clear hu
        refine dl_if_ne (pc := 20) C 29 dX11_place_20 (by decide) h (fun q63 h => ?_) (fun q63 h => ?_)
        · refine dl_aload_n (pc := 23) C 0 dX11_place_23 rfl rfl ?_
          refine dl_iconst (pc := 24) C 1 dX11_place_24 (by decide) ?_
          obtain ⟨r34, g35, h1, h⟩ := dl_b2_some h
          refine dl_vI0 (pc := 25) C (ccl11_refused l D cI cP cII TY hTY ad pr R _ _ h1) (cwV 1 C.2.2.2.2.1 gX11_place_X11_refused rfl rfl rfl (by decide +kernel) ⟨Nat.le_of_ble_eq_true rfl, Nat.le_of_ble_eq_true rfl⟩) 0 11 cc_a0 rfl rfl rfl (Nat.le_of_ble_eq_true rfl) dX11_place_25 ⟨Nat.zero_le _, Nat.zero_le _⟩ (fun r u hp => ?_)
          obtain ⟨rfl, rfl⟩ := hp
          refine dl_wid (mc := 1) (ms := 4) (Nat.le_of_ble_eq_true rfl) (Nat.le_of_ble_eq_true rfl) ?_
          exact hQ 28 _ _ _ ⟨(dl_r2 h).1, Or.inl ⟨⟨_, _, by rw [← (dl_r2 h).2]; exact h1⟩, by rw [(dl_r2 h).2]⟩⟩ (vp_nar_int _) dX11_place_28
        · refine dl_aload_n (pc := 29) C 0 dX11_place_29 rfl rfl ?_
          refine dl_get (pc := 30) C hin_X11_place_X11 0 cc_a0 rfl 0 (by decide) lk_X11_place_10 rfl rfl dX11_place_30 ?_
          refine dl_getN (pc := 33) C hin_X11_place_X2 1 cc_a1 rfl 10 (by decide) nk_RX11_61 rfl rfl dX11_place_33 ?_
          refine dl_bipush (pc := 36) C 10 dX11_place_36 (by decide) ?_
          refine dl_icmp_lt (pc := 38) C 47 dX11_place_38 (by decide) h (fun q62 h => ?_) (fun q62 h => ?_)
          · refine dl_iload_n (pc := 47) C 1 dX11_place_47 rfl rfl ?_
            refine dl_iconst (pc := 48) C 3 dX11_place_48 (by decide) ?_
            refine dl_icmp_ne (pc := 49) C 69 dX11_place_49 (by decide) h (fun q59 h => ?_) (fun q59 h => ?_)
            · refine dl_aload_n (pc := 52) C 0 dX11_place_52 rfl rfl ?_
              refine dl_get (pc := 53) C hin_X11_place_X11 0 cc_a0 rfl 0 (by decide) lk_X11_place_10 rfl rfl dX11_place_53 ?_
              refine dl_getN (pc := 56) C hin_X11_place_X2 1 cc_a1 rfl 13 (by decide) nk_RX11_64 rfl rfl dX11_place_56 ?_
              refine dl_iconst (pc := 59) C (-1) dX11_place_59 (by decide) ?_
              refine dl_icmp_eq (pc := 60) C 69 dX11_place_60 (by decide) h (fun q48 h => ?_) (fun q48 h => ?_)
              · refine dl_aload_n (pc := 69) C 0 dX11_place_69 rfl rfl ?_
                refine dl_aload_n (pc := 70) C 0 dX11_place_70 rfl rfl ?_
                refine dl_get (pc := 71) C hin_X11_place_X11 0 cc_a0 rfl 0 (by decide) lk_X11_place_10 rfl rfl dX11_place_71 ?_
                refine dl_iload_n (pc := 74) C 1 dX11_place_74 rfl rfl ?_
                refine dl_iload_n (pc := 75) C 1 dX11_place_75 rfl rfl ?_
                obtain ⟨r36, h1, h⟩ := dl_bi_some h
                refine dl_sI0 (pc := 76) C (ccl11_hasWorth l D TY cc_nw _ _ h1) (va_cwS 1 C.2.2.2.2.1 gX11_place_X11_hasWorth rfl rfl rfl (by decide +kernel) ⟨Nat.le_of_ble_eq_true rfl, Nat.le_of_ble_eq_true rfl⟩) rfl rfl (Nat.le_of_ble_eq_true rfl) dX11_place_76 ⟨Nat.zero_le _, Nat.zero_le _⟩ (fun r u hp => ?_)
                obtain ⟨rfl, hu⟩ := hp
                rw [hu]
                clear hu
                refine dl_if_eq (pc := 79) C 86 dX11_place_79 (by decide) h (fun q45 h => ?_) (fun q45 h => ?_)
                · refine dl_iconst (pc := 86) C 0 dX11_place_86 (by decide) ?_
                  obtain ⟨r37, g38, h1, h⟩ := dl_b2_some h
                  have hadd := h1
                  refine dl_vI (pc := 87) C (ccl2_addPlace l D cI cP cII TY hTY hT1 ad pr R _ _ _ h1) (cwV 2 C.2.2.2.2.1 gX11_place_X2_addPlace rfl rfl rfl (by decide +kernel) ⟨Nat.le_of_ble_eq_true rfl, Nat.le_of_ble_eq_true rfl⟩) 1 2 cc_a1 rfl rfl rfl (Nat.le_of_ble_eq_true rfl) dX11_place_87 ⟨Nat.le_of_ble_eq_true rfl, Nat.le_of_ble_eq_true rfl⟩ (fun r u hp => ?_)
                  obtain ⟨rfl, a, rfl⟩ := hp
                  obtain ⟨r39, g40, h1, h⟩ := dl_b2_some h
                  have hdone := h1
                  refine dl_vI0 (pc := 90) C (ccl11_done l D cI cP cII TY hTY ad _ _ _ _ h1) (cwV 1 C.2.2.2.2.1 gX11_place_X11_done rfl rfl rfl (by decide +kernel) ⟨Nat.le_of_ble_eq_true rfl, Nat.le_of_ble_eq_true rfl⟩) 0 11 cc_a0 rfl rfl rfl (Nat.le_of_ble_eq_true rfl) dX11_place_90 ⟨Nat.le_of_ble_eq_true rfl, Nat.le_of_ble_eq_true rfl⟩ (fun r u hp => ?_)
                  obtain ⟨rfl, rfl⟩ := hp
                  refine dl_wid (mc := 1) (ms := 4) (Nat.le_of_ble_eq_true rfl) (Nat.le_of_ble_eq_true rfl) ?_
                  exact hQ 93 _ _ _ ⟨(dl_r2 h).1, Or.inr ⟨a, _, _, _, hadd, ⟨_, by rw [← (dl_r2 h).2]; exact hdone⟩, by rw [(dl_r2 h).2]⟩⟩ (vp_nar_int _) dX11_place_93
                · refine dl_iload_n (pc := 82) C 2 dX11_place_82 rfl rfl ?_
                  refine dl_goto (pc := 83) C 87 dX11_place_83 (by decide) ?_
                  obtain ⟨r41, g42, h1, h⟩ := dl_b2_some h
                  have hadd := h1
                  refine dl_vI (pc := 87) C (ccl2_addPlace l D cI cP cII TY hTY hT1 ad pr R _ _ _ h1) (cwV 2 C.2.2.2.2.1 gX11_place_X2_addPlace rfl rfl rfl (by decide +kernel) ⟨Nat.le_of_ble_eq_true rfl, Nat.le_of_ble_eq_true rfl⟩) 1 2 cc_a1 rfl rfl rfl (Nat.le_of_ble_eq_true rfl) dX11_place_87 ⟨Nat.le_of_ble_eq_true rfl, Nat.le_of_ble_eq_true rfl⟩ (fun r u hp => ?_)
                  obtain ⟨rfl, a, rfl⟩ := hp
                  obtain ⟨r43, g44, h1, h⟩ := dl_b2_some h
                  have hdone := h1
                  refine dl_vI0 (pc := 90) C (ccl11_done l D cI cP cII TY hTY ad _ _ _ _ h1) (cwV 1 C.2.2.2.2.1 gX11_place_X11_done rfl rfl rfl (by decide +kernel) ⟨Nat.le_of_ble_eq_true rfl, Nat.le_of_ble_eq_true rfl⟩) 0 11 cc_a0 rfl rfl rfl (Nat.le_of_ble_eq_true rfl) dX11_place_90 ⟨Nat.le_of_ble_eq_true rfl, Nat.le_of_ble_eq_true rfl⟩ (fun r u hp => ?_)
                  obtain ⟨rfl, rfl⟩ := hp
                  refine dl_wid (mc := 1) (ms := 4) (Nat.le_of_ble_eq_true rfl) (Nat.le_of_ble_eq_true rfl) ?_
                  exact hQ 93 _ _ _ ⟨(dl_r2 h).1, Or.inr ⟨a, _, _, _, hadd, ⟨_, by rw [← (dl_r2 h).2]; exact hdone⟩, by rw [(dl_r2 h).2]⟩⟩ (vp_nar_int _) dX11_place_93
              · refine dl_aload_n (pc := 63) C 0 dX11_place_63 rfl rfl ?_
                refine dl_iconst (pc := 64) C 3 dX11_place_64 (by decide) ?_
                obtain ⟨r46, g47, h1, h⟩ := dl_b2_some h
                refine dl_vI0 (pc := 65) C (ccl11_refused l D cI cP cII TY hTY ad pr R _ _ h1) (cwV 1 C.2.2.2.2.1 gX11_place_X11_refused rfl rfl rfl (by decide +kernel) ⟨Nat.le_of_ble_eq_true rfl, Nat.le_of_ble_eq_true rfl⟩) 0 11 cc_a0 rfl rfl rfl (Nat.le_of_ble_eq_true rfl) dX11_place_65 ⟨Nat.zero_le _, Nat.zero_le _⟩ (fun r u hp => ?_)
                obtain ⟨rfl, rfl⟩ := hp
                refine dl_wid (mc := 1) (ms := 4) (Nat.le_of_ble_eq_true rfl) (Nat.le_of_ble_eq_true rfl) ?_
                exact hQ 68 _ _ _ ⟨(dl_r2 h).1, Or.inl ⟨⟨_, _, by rw [← (dl_r2 h).2]; exact h1⟩, by rw [(dl_r2 h).2]⟩⟩ (vp_nar_int _) dX11_place_68
            · refine dl_aload_n (pc := 69) C 0 dX11_place_69 rfl rfl ?_
              refine dl_aload_n (pc := 70) C 0 dX11_place_70 rfl rfl ?_
              refine dl_get (pc := 71) C hin_X11_place_X11 0 cc_a0 rfl 0 (by decide) lk_X11_place_10 rfl rfl dX11_place_71 ?_
              refine dl_iload_n (pc := 74) C 1 dX11_place_74 rfl rfl ?_
              refine dl_iload_n (pc := 75) C 1 dX11_place_75 rfl rfl ?_
              obtain ⟨r49, h1, h⟩ := dl_bi_some h
              refine dl_sI0 (pc := 76) C (ccl11_hasWorth l D TY cc_nw _ _ h1) (va_cwS 1 C.2.2.2.2.1 gX11_place_X11_hasWorth rfl rfl rfl (by decide +kernel) ⟨Nat.le_of_ble_eq_true rfl, Nat.le_of_ble_eq_true rfl⟩) rfl rfl (Nat.le_of_ble_eq_true rfl) dX11_place_76 ⟨Nat.zero_le _, Nat.zero_le _⟩ (fun r u hp => ?_)
              obtain ⟨rfl, hu⟩ := hp
              rw [hu]
              clear hu
              refine dl_if_eq (pc := 79) C 86 dX11_place_79 (by decide) h (fun q58 h => ?_) (fun q58 h => ?_)
              · refine dl_iconst (pc := 86) C 0 dX11_place_86 (by decide) ?_
                obtain ⟨r50, g51, h1, h⟩ := dl_b2_some h
                have hadd := h1
                refine dl_vI (pc := 87) C (ccl2_addPlace l D cI cP cII TY hTY hT1 ad pr R _ _ _ h1) (cwV 2 C.2.2.2.2.1 gX11_place_X2_addPlace rfl rfl rfl (by decide +kernel) ⟨Nat.le_of_ble_eq_true rfl, Nat.le_of_ble_eq_true rfl⟩) 1 2 cc_a1 rfl rfl rfl (Nat.le_of_ble_eq_true rfl) dX11_place_87 ⟨Nat.le_of_ble_eq_true rfl, Nat.le_of_ble_eq_true rfl⟩ (fun r u hp => ?_)
                obtain ⟨rfl, a, rfl⟩ := hp
                obtain ⟨r52, g53, h1, h⟩ := dl_b2_some h
                have hdone := h1
                refine dl_vI0 (pc := 90) C (ccl11_done l D cI cP cII TY hTY ad _ _ _ _ h1) (cwV 1 C.2.2.2.2.1 gX11_place_X11_done rfl rfl rfl (by decide +kernel) ⟨Nat.le_of_ble_eq_true rfl, Nat.le_of_ble_eq_true rfl⟩) 0 11 cc_a0 rfl rfl rfl (Nat.le_of_ble_eq_true rfl) dX11_place_90 ⟨Nat.le_of_ble_eq_true rfl, Nat.le_of_ble_eq_true rfl⟩ (fun r u hp => ?_)
                obtain ⟨rfl, rfl⟩ := hp
                refine dl_wid (mc := 1) (ms := 4) (Nat.le_of_ble_eq_true rfl) (Nat.le_of_ble_eq_true rfl) ?_
                exact hQ 93 _ _ _ ⟨(dl_r2 h).1, Or.inr ⟨a, _, _, _, hadd, ⟨_, by rw [← (dl_r2 h).2]; exact hdone⟩, by rw [(dl_r2 h).2]⟩⟩ (vp_nar_int _) dX11_place_93
              · refine dl_iload_n (pc := 82) C 2 dX11_place_82 rfl rfl ?_
                refine dl_goto (pc := 83) C 87 dX11_place_83 (by decide) ?_
                obtain ⟨r54, g55, h1, h⟩ := dl_b2_some h
                have hadd := h1
                refine dl_vI (pc := 87) C (ccl2_addPlace l D cI cP cII TY hTY hT1 ad pr R _ _ _ h1) (cwV 2 C.2.2.2.2.1 gX11_place_X2_addPlace rfl rfl rfl (by decide +kernel) ⟨Nat.le_of_ble_eq_true rfl, Nat.le_of_ble_eq_true rfl⟩) 1 2 cc_a1 rfl rfl rfl (Nat.le_of_ble_eq_true rfl) dX11_place_87 ⟨Nat.le_of_ble_eq_true rfl, Nat.le_of_ble_eq_true rfl⟩ (fun r u hp => ?_)
                obtain ⟨rfl, a, rfl⟩ := hp
                obtain ⟨r56, g57, h1, h⟩ := dl_b2_some h
                have hdone := h1
                refine dl_vI0 (pc := 90) C (ccl11_done l D cI cP cII TY hTY ad _ _ _ _ h1) (cwV 1 C.2.2.2.2.1 gX11_place_X11_done rfl rfl rfl (by decide +kernel) ⟨Nat.le_of_ble_eq_true rfl, Nat.le_of_ble_eq_true rfl⟩) 0 11 cc_a0 rfl rfl rfl (Nat.le_of_ble_eq_true rfl) dX11_place_90 ⟨Nat.le_of_ble_eq_true rfl, Nat.le_of_ble_eq_true rfl⟩ (fun r u hp => ?_)
                obtain ⟨rfl, rfl⟩ := hp
                refine dl_wid (mc := 1) (ms := 4) (Nat.le_of_ble_eq_true rfl) (Nat.le_of_ble_eq_true rfl) ?_
                exact hQ 93 _ _ _ ⟨(dl_r2 h).1, Or.inr ⟨a, _, _, _, hadd, ⟨_, by rw [← (dl_r2 h).2]; exact hdone⟩, by rw [(dl_r2 h).2]⟩⟩ (vp_nar_int _) dX11_place_93
          · refine dl_aload_n (pc := 41) C 0 dX11_place_41 rfl rfl ?_
            refine dl_iconst (pc := 42) C 2 dX11_place_42 (by decide) ?_
            obtain ⟨r60, g61, h1, h⟩ := dl_b2_some h
            refine dl_vI0 (pc := 43) C (ccl11_refused l D cI cP cII TY hTY ad pr R _ _ h1) (cwV 1 C.2.2.2.2.1 gX11_place_X11_refused rfl rfl rfl (by decide +kernel) ⟨Nat.le_of_ble_eq_true rfl, Nat.le_of_ble_eq_true rfl⟩) 0 11 cc_a0 rfl rfl rfl (Nat.le_of_ble_eq_true rfl) dX11_place_43 ⟨Nat.zero_le _, Nat.zero_le _⟩ (fun r u hp => ?_)
            obtain ⟨rfl, rfl⟩ := hp
            refine dl_wid (mc := 1) (ms := 4) (Nat.le_of_ble_eq_true rfl) (Nat.le_of_ble_eq_true rfl) ?_
            exact hQ 46 _ _ _ ⟨(dl_r2 h).1, Or.inl ⟨⟨_, _, by rw [← (dl_r2 h).2]; exact h1⟩, by rw [(dl_r2 h).2]⟩⟩ (vp_nar_int _) dX11_place_46
/-- a contract that answers null -/
def dl_CtN (l : Launch) (D : va_G) (TY : dl_TY) (nw : List Cond) (y : MethodName) (wl : List Cond) (rm : Room) (avs : List Value) (ws : va_W) : Prop :=
  ∀ sz : Nat, Met l y wl rm (dl_Pre D TY nw avs ws sz) (fun _ st oc t => (oc = .returned (some .null) ∧ dl_B D ws sz ws t) ∧ va_F (va_A ws sz) st t) 0 0 (va_A ws sz)
theorem dl_metN {l : Launch} {D : va_G} {TY : dl_TY} {nw : List Cond} {y : MethodName} {wl wl' : List Cond} {rm : Room} {avs : List Value} {ws : va_W} {cc : ByteArray} {nL : Nat} {rt : FieldType} (lv : List (Nat × Value)) (hrt : (∃ n, rt = .object n) ∨ ∃ t, rt = .array t) (hy : plainName y.cls = true) (hw : wl = Cond.code y cc nL (some rt) :: wl') (hsl : (lg_sl avs).length ≤ nL) (hlv : lv_args 0 avs = lv)
    (body : ∀ (p : Program) (e : Env) (s : State) (m : MethodId) (args : Array Value) (below : List Frame) (meth : Method) (c : Code) (Q : State → Prop) (A : Nat → Prop), dl_Cx p s m args c A D TY nw cc nL y.cls wl → (∀ (pc : Nat) (lv : List (Nat × Value)), decode cc pc = .ok (.areturn, 1) → dl_At p l e (headSpec wl rm).room s m args below meth c Q A D nL 0 0 pc lv [.null] ws) → dl_At p l e (headSpec wl rm).room s m args below meth c Q A D nL 0 0 0 lv [] ws) : dl_CtN l D TY nw y wl rm avs ws := by
  intro sz
  refine Met.ofW (cc := cc) (maxL := nL) (ret := some rt) hy hw ?_
  intro p e s m args below meth c s₁ B hml hv
  obtain ⟨rfl, hsz, hP, hK, hN, hD0⟩ := hv
  have hx := B.exec
  have hb := B.bytes
  have hr := B.returns
  have hts := atoms_spec (ws := wl) B.pre
  have hown : s.vm.findClass y.cls = some m.cls := findClass_of_methodNamed B.named
  have hlocks := B.notSynchronized
  subst hsz
  have hD := hD0.self (sz := s.heap.size)
  have hA : ∀ q : Nat, s.heap.size ≤ q → va_A ws s.heap.size q := fun q h => Or.inr h
  have hl := lv_entry avs (n := nL) hsl
  rw [lg_entry_eq]
  rw [hlv] at hl
  refine body p e s m _ below meth c _ (va_A ws s.heap.size) ⟨hx, hb, hml, hown, hts, hK, hA, hN⟩ ?_ s.heap [] _ hP hD va_S.rf hl
  intro pc lv2 hd H locs ls hP1 hD1 hS hl1
  exact W.aret hx hb hr hrt (Or.inl rfl) (fun t ht hW => ⟨⟨rfl, by rw [ht]; exact hP1, hD1⟩, hS.F ht⟩) hS.2.2 hd
theorem dl_vN0 {p : Program} {l : Launch} {e : Env} {R : Room} {s : State} {m : MethodId} {args : Array Value} {below : List Frame} {meth : Method} {c : Code} {Q : State → Prop} {A : Nat → Prop} {D : va_G} {TY : dl_TY} {nw : List Cond} {cc : ByteArray} {nL cells slots pc : Nat} {lv : List (Nat × Value)} {st : List Value} {ws : va_W} {own : String} {Ts : List Cond} {y : MethodName} {wl : List Cond} {rm : Room} {n index : Nat} {bytes : ByteArray} {maxL : Nat} {ret : Option FieldType} {b : Nat} {As : List Value} {Cn : String} {st0 : List Value} (C : dl_Cx p s m args c A D TY nw cc nL own Ts) (hM : dl_CtN l D TY nw y wl rm (.ref b :: As) ws) (cw : CallW R s args own Cn index y bytes maxL ret wl rm 0 0 n) (q0 ci : Nat) {fs : List Value} {T : u_T} {N : Nat} (he : ws[q0]? = some (b, .inr (ci, fs))) (hc : vwCl[ci]? = some (Cn, T, N)) (hn : As.length = n) (hst : st0 = As.reverse ++ .ref b :: st) (hroom : (st.map fun v => v.category).sum ≤ 8) (hd : decode cc pc = .ok (.invokevirtual index, 3)) (hf : cells ≤ R.cells ∧ slots ≤ R.slots) (k : dl_At p l e R s m args below meth c Q A D nL cells slots (pc + 3) lv (.null :: st) ws) : dl_At p l e R s m args below meth c Q A D nL cells slots pc lv st0 ws := by
  intro H locs ls hP hD hS hl
  have hFc := dl_free hD hS C.2.2.2.2.2.2.1
  subst hst
  have hr := va_runV (As := As) (rest := st) (g := F0 m pc ls (As.reverse ++ .ref b :: st)) ⟨C.1, C.2.1, C.2.2.1, C.2.2.2.1, C.2.2.2.2.1⟩ (hM H.size) cw (H := H) (locs := locs) (cells := cells) (slots := slots) (e := e) (below := below) (meth := meth) ⟨dl_blind, va_recv C.2.2.2.2.2.1 hP hc he, dl_pre C hP hD⟩ rfl hn hl.1 rfl (lv_room hroom) hd hf
  intro T hT X
  obtain ⟨v, st₀, t, T', L, h0, X', hL, e1, e2, ⟨⟨hv, hB⟩, hz, hk⟩, stp⟩ := hr T hT X
  cases hv
  rw [h0] at hz hk
  obtain ⟨hP1, hD1⟩ := hB
  rw [← e1] at hP1
  obtain ⟨t2, a1, b1⟩ := k T'.heap (locs ++ L) ls hP1 (hD1.weaken (fun _ _ _ h => hFc _ h))
    ⟨Nat.le_trans hS.1 (by rw [e1]; exact hz), fun q h1 h2 => by rw [e1, hk q (Nat.lt_of_lt_of_le h1 hS.1) (fun z => h2 (hFc q z))]; exact hS.2.1 q h1 h2, fun q hq => by
      rcases List.mem_append.mp hq with h | h
      · exact hS.2.2 q h
      · exact hFc _ (hL q h)⟩ hl T' rfl X'
  exact ⟨t2, stp t2 a1, b1⟩
theorem hin_X2_placeAt_X2 : ∀ w ∈ u_ws RX2 TX2 18, w ∈ wsX2_placeAt := fun _ h => List.mem_cons_of_mem _ (List.mem_append_right _ h)
theorem lk_X2_placeAt_11 : Cond.fieldLink (yX2_placeAt).cls 11 "DripLines$Net" (TX2 0).2.1 (TX2 0).2.2.1 ∈ wsX2_placeAt := by decide +kernel
set_option maxHeartbeats 4000000 in
set_option maxRecDepth 100000 in
theorem ccl2_placeAt (l : Launch) (D : va_G) (cI cP cII : ClassId) (TY : dl_TY) (hTY : TY[0]? = some (cI, .int)) (hT1 : TY[1]? = some (cP, .object "DripLines$Place")) (ad : Nat → Nat) (pr : Nat → Option Nat) (R : va_W) (g : dl_Sg) (x1 : Int32) (a : Nat) {r : Int32} (h : cl2_hasPlace g x1 = some r) (hr : ¬ r = 0) (hi : dl_in x1 10 = true) (ha : pr x1.toNatClampNeg = some a) : dl_CtR l D TY cc_nw yX2_placeAt wsX2_placeAt { frames := 1, cells := 0, slots := 0, locals := 21 } 0 0 [.ref (ad 1), .int x1] (cc_w cI cP cII ad pr g ++ R) (fun q u => q = a ∧ u = cc_w cI cP cII ad pr g ++ R) := by
  refine dl_metR (rt := .object "DripLines$Place") [(0, .ref (ad 1)), (1, .int x1)] (Or.inl ⟨_, rfl⟩) (by decide) rfl (Nat.le_of_ble_eq_true rfl) rfl ?_
  intro p e s m args below meth c Q A C hQ
  refine dl_aload_n (pc := 0) C 0 dX2_placeAt_0 rfl rfl ?_
  refine dl_iload_n (pc := 1) C 1 dX2_placeAt_1 rfl rfl ?_
  refine dl_vI0 (pc := 2) C (ccl2_hasPlace l D cI cP cII TY hTY ad pr R _ _ h) (cwV 1 C.2.2.2.2.1 gX2_placeAt_X2_hasPlace rfl rfl rfl (by decide +kernel) ⟨Nat.le_of_ble_eq_true rfl, Nat.le_of_ble_eq_true rfl⟩) 1 2 cc_a1 rfl rfl rfl (Nat.le_of_ble_eq_true rfl) dX2_placeAt_2 ⟨Nat.zero_le _, Nat.zero_le _⟩ (fun r u hp => ?_)
  obtain ⟨rfl, rfl⟩ := hp
  refine dl_if_eq (pc := 5) C 17 dX2_placeAt_5 (by decide) (F1 := none) (F2 := some 0) (z := 0) (if_neg hr) (fun _ h => by cases h) (fun _ _ => ?_)
  refine dl_aload_n (pc := 8) C 0 dX2_placeAt_8 rfl rfl ?_
  refine dl_get (pc := 9) C hin_X2_placeAt_X2 1 cc_a1 rfl 0 (by decide) lk_X2_placeAt_11 rfl rfl dX2_placeAt_9 ?_
  refine dl_iload_n (pc := 12) C 1 dX2_placeAt_12 rfl rfl ?_
  refine dl_aaldO (pc := 13) C 31 1 cc_a34 hT1 hi ha dX2_placeAt_13 ?_
  refine dl_goto (pc := 14) C 18 dX2_placeAt_14 (by decide) ?_
  exact hQ 18 _ _ _ ⟨rfl, rfl⟩ dX2_placeAt_18
set_option maxHeartbeats 4000000 in
set_option maxRecDepth 100000 in
theorem ccl2_placeAtN (l : Launch) (D : va_G) (cI cP cII : ClassId) (TY : dl_TY) (hTY : TY[0]? = some (cI, .int)) (ad : Nat → Nat) (pr : Nat → Option Nat) (R : va_W) (g : dl_Sg) (x1 : Int32) {r : Int32} (h : cl2_hasPlace g x1 = some r) (hr : r = 0) : dl_CtN l D TY cc_nw yX2_placeAt wsX2_placeAt { frames := 1, cells := 0, slots := 0, locals := 21 } [.ref (ad 1), .int x1] (cc_w cI cP cII ad pr g ++ R) := by
  refine dl_metN (rt := .object "DripLines$Place") [(0, .ref (ad 1)), (1, .int x1)] (Or.inl ⟨_, rfl⟩) (by decide) rfl (Nat.le_of_ble_eq_true rfl) rfl ?_
  intro p e s m args below meth c Q A C hQ
  refine dl_aload_n (pc := 0) C 0 dX2_placeAt_0 rfl rfl ?_
  refine dl_iload_n (pc := 1) C 1 dX2_placeAt_1 rfl rfl ?_
  refine dl_vI0 (pc := 2) C (ccl2_hasPlace l D cI cP cII TY hTY ad pr R _ _ h) (cwV 1 C.2.2.2.2.1 gX2_placeAt_X2_hasPlace rfl rfl rfl (by decide +kernel) ⟨Nat.le_of_ble_eq_true rfl, Nat.le_of_ble_eq_true rfl⟩) 1 2 cc_a1 rfl rfl rfl (Nat.le_of_ble_eq_true rfl) dX2_placeAt_2 ⟨Nat.zero_le _, Nat.zero_le _⟩ (fun r u hp => ?_)
  obtain ⟨rfl, rfl⟩ := hp
  refine dl_if_eq (pc := 5) C 17 dX2_placeAt_5 (by decide) (F1 := some 0) (F2 := none) (z := 0) (if_pos hr) (fun _ _ => ?_) (fun _ h => by cases h)
  refine dl_null (pc := 17) C dX2_placeAt_17 ?_
  exact hQ 18 _ dX2_placeAt_18
