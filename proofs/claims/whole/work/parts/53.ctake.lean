set_option maxHeartbeats 4000000 in
set_option maxRecDepth 100000 in
theorem it_X11_putAmongTaps {p : Program} {e : Env} {Rm : Room} {s : State} {m : MethodId} {args : Array Value} {below : List Frame} {meth : Method} {c : Code} {Q : State → Prop} {A : Nat → Prop} (l : Launch) (D : va_G) (cI cP cII : ClassId) (TY : dl_TY) (hTY : TY[0]? = some (cI, .int)) (ad : Nat → Nat) (pr : Nat → Option Nat) (R : va_W) (g : dl_Sg) {pc : Nat} {lv : List (Nat × Value)} {stk : List Value} (C : dl_Cx p s m args c A D TY cc_nw cX11_putAmongTaps 3 yX11_putAmongTaps.cls wsX11_putAmongTaps) {q a : Nat} {k : Int32} {fs : List Value} (hq : R[q]? = some (a, .inr (cc_ci k, fs))) (hd : decode cX11_putAmongTaps pc = .ok (.instanceof 258, 3)) (kk : dl_At p l e Rm s m args below meth c Q A D 3 0 0 (pc + 3) lv (.int (cc_isk k 1) :: stk) (cc_w cI cP cII ad pr g ++ R)) : dl_At p l e Rm s m args below meth c Q A D 3 0 0 pc lv (.ref a :: stk) (cc_w cI cP cII ad pr g ++ R) := by
  by_cases q1 : k = 1
  · rw [show cc_ci k = 4 by rw [q1]; rfl] at hq
    rw [show cc_isk k 1 = 1 by rw [q1]; rfl] at kk
    exact dl_instS (Cn := RX4) C (by decide +kernel) (33 + q) 4 (cc_q hq) rfl hd kk
  by_cases q2 : k = 2
  · rw [show cc_ci k = 10 by rw [q2]; rfl] at hq
    rw [show cc_isk k 1 = 0 by rw [q2]; rfl] at kk
    exact dl_instN (Cn := RX10) (nm := "DripLines$Tap") C (by decide +kernel) (by decide +kernel) (33 + q) 10 (cc_q hq) rfl hd kk
  by_cases q3 : k = 3
  · rw [show cc_ci k = 9 by rw [q3]; rfl] at hq
    rw [show cc_isk k 1 = 1 by rw [q3]; rfl] at kk
    exact dl_instY (Cn := RX9) (nm := "DripLines$Tap") C (by decide +kernel) (by decide +kernel) (33 + q) 9 (cc_q hq) rfl hd kk
  by_cases q4 : k = 4
  · rw [show cc_ci k = 0 by rw [q4]; rfl] at hq
    rw [show cc_isk k 1 = 0 by rw [q4]; rfl] at kk
    exact dl_instN (Cn := RX0) (nm := "DripLines$Tap") C (by decide +kernel) (by decide +kernel) (33 + q) 0 (cc_q hq) rfl hd kk
  rw [cc_ci0 q1 q2 q3 q4] at hq
  rw [show cc_isk k 1 = 0 by unfold cc_isk; simp [q1, q2, q3, q4]] at kk
  exact dl_instN (Cn := RX3) (nm := "DripLines$Tap") C (by decide +kernel) (by decide +kernel) (33 + q) 3 (cc_q hq) rfl hd kk
def cl11_takePlaceForKind (g : dl_Sg) (x1 x2 : Int32) : Option (Int32 × dl_Sg) :=
    dl_bi (cl2_hasPlace g x1) fun r =>
    if r = 0 then (dl_b2 (cl11_refused g (10 : Int32)) fun r2 g2 => some (r2, g2)) else (
    dl_gd (dl_in x1 10) (
    if cc_isk (g 7 x1.toNatClampNeg) x2 = 0 then (dl_b2 (cl11_refused g (11 : Int32)) fun r2 g2 => some (r2, g2))
    else (dl_bi (cc_kd (g 7 x1.toNatClampNeg)) fun k => dl_b2 (cl11_done g k) fun r2 g2 => some (r2, g2))))
theorem hin_X11_takePlaceForKind_X11 : ∀ w ∈ u_ws RX11 TX11 6, w ∈ wsX11_takePlaceForKind := fun _ h => List.mem_cons_of_mem _ (List.mem_append_left _ (List.mem_append_right _ h))
set_option maxHeartbeats 4000000 in
set_option maxRecDepth 100000 in
theorem ccl11_takePlaceForKind (l : Launch) (D : va_G) (cI cP cII : ClassId) (TY : dl_TY) (hTY : TY[0]? = some (cI, .int)) (hT1 : TY[1]? = some (cP, .object "DripLines$Place")) (ad : Nat → Nat) (pr : Nat → Option Nat) (R : va_W) (g : dl_Sg) (hok : cc_ok ad pr g R) (x1 : Int32) (x2 : Int32) {r0 : Int32} {g0 : dl_Sg} (h : cl11_takePlaceForKind g x1 x2 = some (r0, g0)) : dl_CtI l D TY cc_nw yX11_takePlaceForKind wsX11_takePlaceForKind { frames := 2, cells := 0, slots := 0, locals := 42 } 0 0 [.ref (ad 0), .int x1, .int x2] (cc_w cI cP cII ad pr g ++ R) (fun r u => r = r0 ∧ u = cc_w cI cP cII ad pr g0 ++ R) := by
  refine dl_metI (ty := .int) [(0, .ref (ad 0)), (1, .int x1), (2, .int x2)] (by decide) rfl (Nat.le_of_ble_eq_true rfl) rfl ?_
  intro p e s m args below meth c Q A C hQ
  unfold cl11_takePlaceForKind at h
  refine dl_aload_n (pc := 0) C 0 dX11_takePlaceForKind_0 rfl rfl ?_
  refine dl_get (pc := 1) C hin_X11_takePlaceForKind_X11 0 cc_a0 rfl 0 (by decide) (show Cond.fieldLink yX11_takePlaceForKind.cls 10 "DripLines" (TX11 0).2.1 (TX11 0).2.2.1 ∈ wsX11_takePlaceForKind by decide +kernel) rfl rfl dX11_takePlaceForKind_1 ?_
  refine dl_iload_n (pc := 4) C 1 dX11_takePlaceForKind_4 rfl rfl ?_
  obtain ⟨r, h1, h⟩ := dl_bi_some h
  by_cases hr : r = 0
  · rw [if_pos hr] at h
    refine dl_vN0 (pc := 5) C (ccl2_placeAtN l D cI cP cII TY hTY ad pr R g x1 h1 hr) (cwV 1 C.2.2.2.2.1 gX11_takePlaceForKind_X2_placeAt rfl rfl rfl (by decide +kernel) ⟨Nat.le_of_ble_eq_true rfl, Nat.le_of_ble_eq_true rfl⟩) 1 2 cc_a1 rfl rfl rfl (Nat.le_of_ble_eq_true rfl) dX11_takePlaceForKind_5 ⟨Nat.zero_le _, Nat.zero_le _⟩ ?_
    refine dl_astore_nN (pc := 8) C [(3, .null), (0, .ref (ad 0)), (1, .int x1), (2, .int x2)] dX11_takePlaceForKind_8 rfl (by decide) rfl ?_
    refine dl_aload_nN (pc := 9) C 0 dX11_takePlaceForKind_9 rfl rfl ?_
    refine dl_ifnonnullN (pc := 10) C dX11_takePlaceForKind_10 ?_
    refine dl_aload_n (pc := 13) C 1 dX11_takePlaceForKind_13 rfl rfl ?_
    refine dl_bipush (pc := 14) C 10 dX11_takePlaceForKind_14 (by decide) ?_
    obtain ⟨r2, g2, h1, h⟩ := dl_b2_some h
    refine dl_vI0 (pc := 16) C (ccl11_refused l D cI cP cII TY hTY ad pr R _ _ h1) (cwV 1 C.2.2.2.2.1 gX11_takePlaceForKind_X11_refused rfl rfl rfl (by decide +kernel) ⟨Nat.le_of_ble_eq_true rfl, Nat.le_of_ble_eq_true rfl⟩) 0 11 cc_a0 rfl rfl rfl (Nat.le_of_ble_eq_true rfl) dX11_takePlaceForKind_16 ⟨Nat.zero_le _, Nat.zero_le _⟩ (fun r u hp => ?_)
    obtain ⟨rfl, rfl⟩ := hp
    exact hQ 19 _ _ _ ⟨(dl_r2 h).1, by rw [(dl_r2 h).2]⟩ (vp_nar_int _) dX11_takePlaceForKind_19
  rw [if_neg hr] at h
  obtain ⟨hi, h⟩ := dl_gd_some h
  obtain ⟨q, a, st, hpa, hq⟩ := hok x1.toNatClampNeg (cc_has h1 hr)
  refine dl_vR (pc := 5) C (ccl2_placeAt l D cI cP cII TY hTY hT1 ad pr R g x1 a h1 hr hi hpa) (cwV 1 C.2.2.2.2.1 gX11_takePlaceForKind_X2_placeAt rfl rfl rfl (by decide +kernel) ⟨Nat.le_of_ble_eq_true rfl, Nat.le_of_ble_eq_true rfl⟩) 1 2 cc_a1 rfl rfl rfl (Nat.le_of_ble_eq_true rfl) dX11_takePlaceForKind_5 ⟨Nat.le_of_ble_eq_true rfl, Nat.le_of_ble_eq_true rfl⟩ (fun a1 u hp => ?_)
  obtain ⟨ha1, rfl⟩ := hp
  rw [ha1]
  clear ha1
  refine dl_astore_n (pc := 8) C [(3, .ref a), (0, .ref (ad 0)), (1, .int x1), (2, .int x2)] dX11_takePlaceForKind_8 rfl (by decide) rfl ?_
  refine dl_aload_n (pc := 9) C 0 dX11_takePlaceForKind_9 rfl rfl ?_
  refine dl_ifnonnull (pc := 10) C 20 dX11_takePlaceForKind_10 (by decide) ?_
  refine dl_aload_n (pc := 20) C 0 dX11_takePlaceForKind_20 rfl rfl ?_
  refine dl_iload_n (pc := 21) C 3 dX11_takePlaceForKind_21 rfl rfl ?_
  refine dl_sI0 (pc := 22) C (ccl11_isOfKind l D TY _ (33 + q) a _ x2 _ (cc_q hq)) (va_cwS 2 C.2.2.2.2.1 gX11_takePlaceForKind_X11_isOfKind rfl rfl rfl (by decide +kernel) ⟨Nat.le_of_ble_eq_true rfl, Nat.le_of_ble_eq_true rfl⟩) rfl rfl (Nat.le_of_ble_eq_true rfl) dX11_takePlaceForKind_22 ⟨Nat.zero_le _, Nat.zero_le _⟩ (fun r u hp => ?_)
  obtain ⟨hri, hu⟩ := hp
  rw [hu, hri]
  clear hu hri
  refine dl_if_eq (pc := 25) C 39 dX11_takePlaceForKind_25 (by decide) h (fun _ h => ?_) (fun _ h => ?_)
  · refine dl_aload_n (pc := 39) C 1 dX11_takePlaceForKind_39 rfl rfl ?_
    refine dl_bipush (pc := 40) C 11 dX11_takePlaceForKind_40 (by decide) ?_
    obtain ⟨r2, g2, h1, h⟩ := dl_b2_some h
    refine dl_vI0 (pc := 42) C (ccl11_refused l D cI cP cII TY hTY ad pr R _ _ h1) (cwV 1 C.2.2.2.2.1 gX11_takePlaceForKind_X11_refused rfl rfl rfl (by decide +kernel) ⟨Nat.le_of_ble_eq_true rfl, Nat.le_of_ble_eq_true rfl⟩) 0 11 cc_a0 rfl rfl rfl (Nat.le_of_ble_eq_true rfl) dX11_takePlaceForKind_42 ⟨Nat.zero_le _, Nat.zero_le _⟩ (fun r u hp => ?_)
    obtain ⟨rfl, rfl⟩ := hp
    exact hQ 45 _ _ _ ⟨(dl_r2 h).1, by rw [(dl_r2 h).2]⟩ (vp_nar_int _) dX11_takePlaceForKind_45
  · obtain ⟨k, hk, h⟩ := dl_bi_some h
    refine dl_aload_n (pc := 28) C 1 dX11_takePlaceForKind_28 rfl rfl ?_
    refine dl_aload_n (pc := 29) C 0 dX11_takePlaceForKind_29 rfl rfl ?_
    refine kd_X11_takePlaceForKind (pc := 30) l D cI cP cII TY hTY ad pr R g C hq hk dX11_takePlaceForKind_30 (Nat.le_of_ble_eq_true rfl) ⟨Nat.le_of_ble_eq_true rfl, Nat.le_of_ble_eq_true rfl⟩ ?_
    obtain ⟨r2, g2, h1, h⟩ := dl_b2_some h
    refine dl_vI0 (pc := 33) C (ccl11_done l D cI cP cII TY hTY ad pr R _ _ h1) (cwV 1 C.2.2.2.2.1 gX11_takePlaceForKind_X11_done rfl rfl rfl (by decide +kernel) ⟨Nat.le_of_ble_eq_true rfl, Nat.le_of_ble_eq_true rfl⟩) 0 11 cc_a0 rfl rfl rfl (Nat.le_of_ble_eq_true rfl) dX11_takePlaceForKind_33 ⟨Nat.zero_le _, Nat.zero_le _⟩ (fun r u hp => ?_)
    obtain ⟨rfl, rfl⟩ := hp
    refine dl_goto (pc := 36) C 45 dX11_takePlaceForKind_36 (by decide) ?_
    exact hQ 45 _ _ _ ⟨(dl_r2 h).1, by rw [(dl_r2 h).2]⟩ (vp_nar_int _) dX11_takePlaceForKind_45
def cl11_putAmongTaps (g : dl_Sg) (x1 : Int32) : Option (Int32 × dl_Sg) :=
    dl_bi (cl2_hasPlace g x1) fun r =>
    if r = 0 then (dl_b2 (cl11_done g (0 : Int32)) fun r2 g2 => some (r2, g2)) else (
    dl_gd (dl_in x1 10) (
    if cc_isk (g 7 x1.toNatClampNeg) 1 = 0 then (dl_b2 (cl11_refused g (14 : Int32)) fun r2 g2 => some (r2, g2))
    else (dl_bi (cc_kd (g 7 x1.toNatClampNeg)) fun k => dl_b2 (cl11_done g k) fun r2 g2 => some (r2, g2))))
theorem hin_X11_putAmongTaps_X11 : ∀ w ∈ u_ws RX11 TX11 6, w ∈ wsX11_putAmongTaps := fun _ h => List.mem_cons_of_mem _ (List.mem_append_left _ (List.mem_append_right _ h))
set_option maxHeartbeats 4000000 in
set_option maxRecDepth 100000 in
theorem ccl11_putAmongTaps (l : Launch) (D : va_G) (cI cP cII : ClassId) (TY : dl_TY) (hTY : TY[0]? = some (cI, .int)) (hT1 : TY[1]? = some (cP, .object "DripLines$Place")) (ad : Nat → Nat) (pr : Nat → Option Nat) (R : va_W) (g : dl_Sg) (hok : cc_ok ad pr g R) (x1 : Int32) {r0 : Int32} {g0 : dl_Sg} (h : cl11_putAmongTaps g x1 = some (r0, g0)) : dl_CtI l D TY cc_nw yX11_putAmongTaps wsX11_putAmongTaps { frames := 2, cells := 0, slots := 0, locals := 42 } 0 0 [.ref (ad 0), .int x1] (cc_w cI cP cII ad pr g ++ R) (fun r u => r = r0 ∧ u = cc_w cI cP cII ad pr g0 ++ R) := by
  refine dl_metI (ty := .int) [(0, .ref (ad 0)), (1, .int x1)] (by decide) rfl (Nat.le_of_ble_eq_true rfl) rfl ?_
  intro p e s m args below meth c Q A C hQ
  unfold cl11_putAmongTaps at h
  refine dl_aload_n (pc := 0) C 0 dX11_putAmongTaps_0 rfl rfl ?_
  refine dl_get (pc := 1) C hin_X11_putAmongTaps_X11 0 cc_a0 rfl 0 (by decide) (show Cond.fieldLink yX11_putAmongTaps.cls 10 "DripLines" (TX11 0).2.1 (TX11 0).2.2.1 ∈ wsX11_putAmongTaps by decide +kernel) rfl rfl dX11_putAmongTaps_1 ?_
  refine dl_iload_n (pc := 4) C 1 dX11_putAmongTaps_4 rfl rfl ?_
  obtain ⟨r, h1, h⟩ := dl_bi_some h
  by_cases hr : r = 0
  · rw [if_pos hr] at h
    refine dl_vN0 (pc := 5) C (ccl2_placeAtN l D cI cP cII TY hTY ad pr R g x1 h1 hr) (cwV 1 C.2.2.2.2.1 gX11_putAmongTaps_X2_placeAt rfl rfl rfl (by decide +kernel) ⟨Nat.le_of_ble_eq_true rfl, Nat.le_of_ble_eq_true rfl⟩) 1 2 cc_a1 rfl rfl rfl (Nat.le_of_ble_eq_true rfl) dX11_putAmongTaps_5 ⟨Nat.zero_le _, Nat.zero_le _⟩ ?_
    refine dl_astore_nN (pc := 8) C [(2, .null), (0, .ref (ad 0)), (1, .int x1)] dX11_putAmongTaps_8 rfl (by decide) rfl ?_
    refine dl_aload_nN (pc := 9) C 0 dX11_putAmongTaps_9 rfl rfl ?_
    refine dl_ifnonnullN (pc := 10) C dX11_putAmongTaps_10 ?_
    refine dl_aload_n (pc := 13) C 1 dX11_putAmongTaps_13 rfl rfl ?_
    refine dl_iconst (pc := 14) C 0 dX11_putAmongTaps_14 (by decide) ?_
    obtain ⟨r2, g2, h1, h⟩ := dl_b2_some h
    refine dl_vI0 (pc := 15) C (ccl11_done l D cI cP cII TY hTY ad pr R _ _ h1) (cwV 1 C.2.2.2.2.1 gX11_putAmongTaps_X11_done rfl rfl rfl (by decide +kernel) ⟨Nat.le_of_ble_eq_true rfl, Nat.le_of_ble_eq_true rfl⟩) 0 11 cc_a0 rfl rfl rfl (Nat.le_of_ble_eq_true rfl) dX11_putAmongTaps_15 ⟨Nat.zero_le _, Nat.zero_le _⟩ (fun r u hp => ?_)
    obtain ⟨rfl, rfl⟩ := hp
    exact hQ 18 _ _ _ ⟨(dl_r2 h).1, by rw [(dl_r2 h).2]⟩ (vp_nar_int _) dX11_putAmongTaps_18
  rw [if_neg hr] at h
  obtain ⟨hi, h⟩ := dl_gd_some h
  obtain ⟨q, a, st, hpa, hq⟩ := hok x1.toNatClampNeg (cc_has h1 hr)
  refine dl_vR (pc := 5) C (ccl2_placeAt l D cI cP cII TY hTY hT1 ad pr R g x1 a h1 hr hi hpa) (cwV 1 C.2.2.2.2.1 gX11_putAmongTaps_X2_placeAt rfl rfl rfl (by decide +kernel) ⟨Nat.le_of_ble_eq_true rfl, Nat.le_of_ble_eq_true rfl⟩) 1 2 cc_a1 rfl rfl rfl (Nat.le_of_ble_eq_true rfl) dX11_putAmongTaps_5 ⟨Nat.le_of_ble_eq_true rfl, Nat.le_of_ble_eq_true rfl⟩ (fun a1 u hp => ?_)
  obtain ⟨ha1, rfl⟩ := hp
  rw [ha1]
  clear ha1
  refine dl_astore_n (pc := 8) C [(2, .ref a), (0, .ref (ad 0)), (1, .int x1)] dX11_putAmongTaps_8 rfl (by decide) rfl ?_
  refine dl_aload_n (pc := 9) C 0 dX11_putAmongTaps_9 rfl rfl ?_
  refine dl_ifnonnull (pc := 10) C 19 dX11_putAmongTaps_10 (by decide) ?_
  refine dl_aload_n (pc := 19) C 0 dX11_putAmongTaps_19 rfl rfl ?_
  refine it_X11_putAmongTaps (pc := 20) l D cI cP cII TY hTY ad pr R g C hq dX11_putAmongTaps_20 ?_
  refine dl_if_eq (pc := 23) C 37 dX11_putAmongTaps_23 (by decide) h (fun _ h => ?_) (fun _ h => ?_)
  · refine dl_aload_n (pc := 37) C 1 dX11_putAmongTaps_37 rfl rfl ?_
    refine dl_bipush (pc := 38) C 14 dX11_putAmongTaps_38 (by decide) ?_
    obtain ⟨r2, g2, h1, h⟩ := dl_b2_some h
    refine dl_vI0 (pc := 40) C (ccl11_refused l D cI cP cII TY hTY ad pr R _ _ h1) (cwV 1 C.2.2.2.2.1 gX11_putAmongTaps_X11_refused rfl rfl rfl (by decide +kernel) ⟨Nat.le_of_ble_eq_true rfl, Nat.le_of_ble_eq_true rfl⟩) 0 11 cc_a0 rfl rfl rfl (Nat.le_of_ble_eq_true rfl) dX11_putAmongTaps_40 ⟨Nat.zero_le _, Nat.zero_le _⟩ (fun r u hp => ?_)
    obtain ⟨rfl, rfl⟩ := hp
    exact hQ 43 _ _ _ ⟨(dl_r2 h).1, by rw [(dl_r2 h).2]⟩ (vp_nar_int _) dX11_putAmongTaps_43
  · obtain ⟨k, hk, h⟩ := dl_bi_some h
    refine dl_aload_n (pc := 26) C 1 dX11_putAmongTaps_26 rfl rfl ?_
    refine dl_aload_n (pc := 27) C 0 dX11_putAmongTaps_27 rfl rfl ?_
    refine kd_X11_putAmongTaps (pc := 28) l D cI cP cII TY hTY ad pr R g C hq hk dX11_putAmongTaps_28 (Nat.le_of_ble_eq_true rfl) ⟨Nat.le_of_ble_eq_true rfl, Nat.le_of_ble_eq_true rfl⟩ ?_
    obtain ⟨r2, g2, h1, h⟩ := dl_b2_some h
    refine dl_vI0 (pc := 31) C (ccl11_done l D cI cP cII TY hTY ad pr R _ _ h1) (cwV 1 C.2.2.2.2.1 gX11_putAmongTaps_X11_done rfl rfl rfl (by decide +kernel) ⟨Nat.le_of_ble_eq_true rfl, Nat.le_of_ble_eq_true rfl⟩) 0 11 cc_a0 rfl rfl rfl (Nat.le_of_ble_eq_true rfl) dX11_putAmongTaps_31 ⟨Nat.zero_le _, Nat.zero_le _⟩ (fun r u hp => ?_)
    obtain ⟨rfl, rfl⟩ := hp
    refine dl_goto (pc := 34) C 43 dX11_putAmongTaps_34 (by decide) ?_
    exact hQ 43 _ _ _ ⟨(dl_r2 h).1, by rw [(dl_r2 h).2]⟩ (vp_nar_int _) dX11_putAmongTaps_43
