theorem hin_X3_init_X0 : ∀ w ∈ u_ws RX0 TX0 4, w ∈ wsX3_init := fun _ h => List.mem_cons_of_mem _ (List.mem_append_left _ (List.mem_append_left _ (List.mem_append_left _ (List.mem_append_left _ (List.mem_append_right _ h)))))
theorem hin_X3_init_X10 : ∀ w ∈ u_ws RX10 TX10 4, w ∈ wsX3_init := fun _ h => List.mem_cons_of_mem _ (List.mem_append_right _ h)
theorem hin_X3_init_X3 : ∀ w ∈ u_ws RX3 TX3 4, w ∈ wsX3_init := fun _ h => List.mem_cons_of_mem _ (List.mem_append_left _ (List.mem_append_left _ (List.mem_append_left _ (List.mem_append_right _ h))))
theorem hin_X3_init_X4 : ∀ w ∈ u_ws RX4 TX4 4, w ∈ wsX3_init := fun _ h => List.mem_cons_of_mem _ (List.mem_append_left _ (List.mem_append_left _ (List.mem_append_right _ h)))
theorem hin_X3_init_X9 : ∀ w ∈ u_ws RX9 TX9 4, w ∈ wsX3_init := fun _ h => List.mem_cons_of_mem _ (List.mem_append_left _ (List.mem_append_right _ h))
theorem dl_set_at {ws : va_W} {q : Nat} {x z : Nat × va_E} (h : ws[q]? = some z) : (ws.set q x)[q]? = some x := by
  rw [List.getElem?_set_self (List.getElem?_eq_some_iff.mp h).1]
set_option maxHeartbeats 4000000 in
set_option maxRecDepth 100000 in
theorem cinX3_X3 (l : Launch) (D : va_G) (TY : dl_TY) (nw : List Cond) (ws : va_W) (q a t : Nat) (n w : Int32) (hq : ws[q]? = some (a, .inr (3, [.int 0, .int 0, .null, .int 0]))) : dl_CtV l D TY nw yX3_init wsX3_init { frames := 1, cells := 0, slots := 0, locals := 12 } 0 0 [.ref a, .int n, .int w, .ref t] ws (fun u => u = ws.set q (a, .inr (3, [.int n, .int w, .ref t, .int 0]))) := by
  refine dl_metC [(0, .ref a), (1, .int n), (2, .int w), (3, .ref t)] (by decide) rfl rfl (Nat.le_of_ble_eq_true rfl) rfl ?_
  intro p e s m args below meth c Q A hi C hQ
  refine dl_aload_n (pc := 0) C 0 dX3_init_0 rfl rfl ?_
  refine dl_objInit (pc := 1) C (by decide +kernel) (by decide +kernel) (by decide +kernel) dX3_init_1 (Nat.le_of_ble_eq_true rfl) (Nat.le_of_ble_eq_true rfl) ?_
  refine dl_aload_n (pc := 4) C 0 dX3_init_4 rfl rfl ?_
  refine dl_iload_n (pc := 5) C 1 dX3_init_5 rfl rfl ?_
  refine dl_putF (pc := 6) C hi hin_X3_init_X3 tyX3 tyX3_ok nmX3 q hq rfl 0 (by decide) (by decide +kernel) rfl rfl rfl (ty := .int) rfl (vp_nar_int _) rfl (Nat.le_of_ble_eq_true rfl) dX3_init_6 (ws' := ws.set q (a, .inr (3, [.int n, .int 0, .null, .int 0]))) rfl ?_
  refine dl_aload_n (pc := 9) C 0 dX3_init_9 rfl rfl ?_
  refine dl_iload_n (pc := 10) C 2 dX3_init_10 rfl rfl ?_
  refine dl_putF (pc := 11) C hi hin_X3_init_X3 tyX3 tyX3_ok nmX3 q (dl_set_at hq) rfl 1 (by decide) (by decide +kernel) rfl rfl rfl (ty := .int) rfl (vp_nar_int _) rfl (Nat.le_of_ble_eq_true rfl) dX3_init_11 (ws' := ws.set q (a, .inr (3, [.int n, .int w, .null, .int 0]))) (List.set_set _) ?_
  refine dl_aload_n (pc := 14) C 0 dX3_init_14 rfl rfl ?_
  refine dl_aload_n (pc := 15) C 3 dX3_init_15 rfl rfl ?_
  refine dl_putF (pc := 16) C hi hin_X3_init_X3 tyX3 tyX3_ok nmX3 q (dl_set_at hq) rfl 2 (by decide) (by decide +kernel) rfl rfl rfl (ty := (.object "DripLines$Trace")) rfl rfl rfl (Nat.le_of_ble_eq_true rfl) dX3_init_16 (ws' := ws.set q (a, .inr (3, [.int n, .int w, .ref t, .int 0]))) (List.set_set _) ?_
  exact hQ 19 _ _ rfl dX3_init_19
set_option maxHeartbeats 4000000 in
set_option maxRecDepth 100000 in
theorem cinX4_X3 (l : Launch) (D : va_G) (TY : dl_TY) (nw : List Cond) (ws : va_W) (q a t : Nat) (n w : Int32) (hq : ws[q]? = some (a, .inr (4, [.int 0, .int 0, .null, .int 0]))) : dl_CtV l D TY nw yX3_init wsX3_init { frames := 1, cells := 0, slots := 0, locals := 12 } 0 0 [.ref a, .int n, .int w, .ref t] ws (fun u => u = ws.set q (a, .inr (4, [.int n, .int w, .ref t, .int 0]))) := by
  refine dl_metC [(0, .ref a), (1, .int n), (2, .int w), (3, .ref t)] (by decide) rfl rfl (Nat.le_of_ble_eq_true rfl) rfl ?_
  intro p e s m args below meth c Q A hi C hQ
  refine dl_aload_n (pc := 0) C 0 dX3_init_0 rfl rfl ?_
  refine dl_objInit (pc := 1) C (by decide +kernel) (by decide +kernel) (by decide +kernel) dX3_init_1 (Nat.le_of_ble_eq_true rfl) (Nat.le_of_ble_eq_true rfl) ?_
  refine dl_aload_n (pc := 4) C 0 dX3_init_4 rfl rfl ?_
  refine dl_iload_n (pc := 5) C 1 dX3_init_5 rfl rfl ?_
  refine dl_putF (pc := 6) C hi hin_X3_init_X4 tyX4 tyX4_ok nmX4 q hq rfl 0 (by decide) (by decide +kernel) rfl rfl rfl (ty := .int) rfl (vp_nar_int _) rfl (Nat.le_of_ble_eq_true rfl) dX3_init_6 (ws' := ws.set q (a, .inr (4, [.int n, .int 0, .null, .int 0]))) rfl ?_
  refine dl_aload_n (pc := 9) C 0 dX3_init_9 rfl rfl ?_
  refine dl_iload_n (pc := 10) C 2 dX3_init_10 rfl rfl ?_
  refine dl_putF (pc := 11) C hi hin_X3_init_X4 tyX4 tyX4_ok nmX4 q (dl_set_at hq) rfl 1 (by decide) (by decide +kernel) rfl rfl rfl (ty := .int) rfl (vp_nar_int _) rfl (Nat.le_of_ble_eq_true rfl) dX3_init_11 (ws' := ws.set q (a, .inr (4, [.int n, .int w, .null, .int 0]))) (List.set_set _) ?_
  refine dl_aload_n (pc := 14) C 0 dX3_init_14 rfl rfl ?_
  refine dl_aload_n (pc := 15) C 3 dX3_init_15 rfl rfl ?_
  refine dl_putF (pc := 16) C hi hin_X3_init_X4 tyX4 tyX4_ok nmX4 q (dl_set_at hq) rfl 2 (by decide) (by decide +kernel) rfl rfl rfl (ty := (.object "DripLines$Trace")) rfl rfl rfl (Nat.le_of_ble_eq_true rfl) dX3_init_16 (ws' := ws.set q (a, .inr (4, [.int n, .int w, .ref t, .int 0]))) (List.set_set _) ?_
  exact hQ 19 _ _ rfl dX3_init_19
set_option maxHeartbeats 4000000 in
set_option maxRecDepth 100000 in
theorem cinX4_X4 (l : Launch) (D : va_G) (TY : dl_TY) (nw : List Cond) (ws : va_W) (q a t : Nat) (n w : Int32) (hq : ws[q]? = some (a, .inr (4, [.int 0, .int 0, .null, .int 0]))) : dl_CtV l D TY nw yX4_init wsX4_init { frames := 2, cells := 0, slots := 0, locals := 35 } 0 0 [.ref a, .int n, .int w, .ref t] ws (fun u => u = ws.set q (a, .inr (4, [.int n, .int w, .ref t, .int 0]))) := by
  refine dl_metC [(0, .ref a), (1, .int n), (2, .int w), (3, .ref t)] (by decide) rfl rfl (Nat.le_of_ble_eq_true rfl) rfl ?_
  intro p e s m args below meth c Q A hi C hQ
  refine dl_aload_n (pc := 0) C 0 dX4_init_0 rfl rfl ?_
  refine dl_iload_n (pc := 1) C 1 dX4_init_1 rfl rfl ?_
  refine dl_iload_n (pc := 2) C 2 dX4_init_2 rfl rfl ?_
  refine dl_aload_n (pc := 3) C 3 dX4_init_3 rfl rfl ?_
  refine dl_iV (pc := 4) C (cinX4_X3 l D TY nw ws q a t n w hq) (cwI 3 C.2.2.2.2.1 gX4_init_X3_init rfl rfl rfl (C.2.2.2.2.1 _ (show Cond.initialized RX3 ∈ wsX4_init by decide +kernel)) (C.2.2.2.2.1 _ (show Cond.methodLink RX4 3 yX3_init ∈ wsX4_init by decide +kernel)) (C.2.2.2.2.1 _ (show Cond.instanceMethod yX3_init ∈ wsX4_init by decide +kernel)) rfl (by decide +kernel) ⟨Nat.le_of_ble_eq_true rfl, Nat.le_of_ble_eq_true rfl⟩) rfl rfl (Nat.le_of_ble_eq_true rfl) dX4_init_4 ⟨Nat.zero_le _, Nat.zero_le _⟩ (fun u hp => ?_)
  exact hQ 7 _ _ hp dX4_init_7
set_option maxHeartbeats 4000000 in
set_option maxRecDepth 100000 in
theorem cinX9_X3 (l : Launch) (D : va_G) (TY : dl_TY) (nw : List Cond) (ws : va_W) (q a t : Nat) (n w : Int32) (hq : ws[q]? = some (a, .inr (9, [.int 0, .int 0, .null, .int 0]))) : dl_CtV l D TY nw yX3_init wsX3_init { frames := 1, cells := 0, slots := 0, locals := 12 } 0 0 [.ref a, .int n, .int w, .ref t] ws (fun u => u = ws.set q (a, .inr (9, [.int n, .int w, .ref t, .int 0]))) := by
  refine dl_metC [(0, .ref a), (1, .int n), (2, .int w), (3, .ref t)] (by decide) rfl rfl (Nat.le_of_ble_eq_true rfl) rfl ?_
  intro p e s m args below meth c Q A hi C hQ
  refine dl_aload_n (pc := 0) C 0 dX3_init_0 rfl rfl ?_
  refine dl_objInit (pc := 1) C (by decide +kernel) (by decide +kernel) (by decide +kernel) dX3_init_1 (Nat.le_of_ble_eq_true rfl) (Nat.le_of_ble_eq_true rfl) ?_
  refine dl_aload_n (pc := 4) C 0 dX3_init_4 rfl rfl ?_
  refine dl_iload_n (pc := 5) C 1 dX3_init_5 rfl rfl ?_
  refine dl_putF (pc := 6) C hi hin_X3_init_X9 tyX9 tyX9_ok nmX9 q hq rfl 0 (by decide) (by decide +kernel) rfl rfl rfl (ty := .int) rfl (vp_nar_int _) rfl (Nat.le_of_ble_eq_true rfl) dX3_init_6 (ws' := ws.set q (a, .inr (9, [.int n, .int 0, .null, .int 0]))) rfl ?_
  refine dl_aload_n (pc := 9) C 0 dX3_init_9 rfl rfl ?_
  refine dl_iload_n (pc := 10) C 2 dX3_init_10 rfl rfl ?_
  refine dl_putF (pc := 11) C hi hin_X3_init_X9 tyX9 tyX9_ok nmX9 q (dl_set_at hq) rfl 1 (by decide) (by decide +kernel) rfl rfl rfl (ty := .int) rfl (vp_nar_int _) rfl (Nat.le_of_ble_eq_true rfl) dX3_init_11 (ws' := ws.set q (a, .inr (9, [.int n, .int w, .null, .int 0]))) (List.set_set _) ?_
  refine dl_aload_n (pc := 14) C 0 dX3_init_14 rfl rfl ?_
  refine dl_aload_n (pc := 15) C 3 dX3_init_15 rfl rfl ?_
  refine dl_putF (pc := 16) C hi hin_X3_init_X9 tyX9 tyX9_ok nmX9 q (dl_set_at hq) rfl 2 (by decide) (by decide +kernel) rfl rfl rfl (ty := (.object "DripLines$Trace")) rfl rfl rfl (Nat.le_of_ble_eq_true rfl) dX3_init_16 (ws' := ws.set q (a, .inr (9, [.int n, .int w, .ref t, .int 0]))) (List.set_set _) ?_
  exact hQ 19 _ _ rfl dX3_init_19
set_option maxHeartbeats 4000000 in
set_option maxRecDepth 100000 in
theorem cinX9_X4 (l : Launch) (D : va_G) (TY : dl_TY) (nw : List Cond) (ws : va_W) (q a t : Nat) (n w : Int32) (hq : ws[q]? = some (a, .inr (9, [.int 0, .int 0, .null, .int 0]))) : dl_CtV l D TY nw yX4_init wsX4_init { frames := 2, cells := 0, slots := 0, locals := 35 } 0 0 [.ref a, .int n, .int w, .ref t] ws (fun u => u = ws.set q (a, .inr (9, [.int n, .int w, .ref t, .int 0]))) := by
  refine dl_metC [(0, .ref a), (1, .int n), (2, .int w), (3, .ref t)] (by decide) rfl rfl (Nat.le_of_ble_eq_true rfl) rfl ?_
  intro p e s m args below meth c Q A hi C hQ
  refine dl_aload_n (pc := 0) C 0 dX4_init_0 rfl rfl ?_
  refine dl_iload_n (pc := 1) C 1 dX4_init_1 rfl rfl ?_
  refine dl_iload_n (pc := 2) C 2 dX4_init_2 rfl rfl ?_
  refine dl_aload_n (pc := 3) C 3 dX4_init_3 rfl rfl ?_
  refine dl_iV (pc := 4) C (cinX9_X3 l D TY nw ws q a t n w hq) (cwI 3 C.2.2.2.2.1 gX4_init_X3_init rfl rfl rfl (C.2.2.2.2.1 _ (show Cond.initialized RX3 ∈ wsX4_init by decide +kernel)) (C.2.2.2.2.1 _ (show Cond.methodLink RX4 3 yX3_init ∈ wsX4_init by decide +kernel)) (C.2.2.2.2.1 _ (show Cond.instanceMethod yX3_init ∈ wsX4_init by decide +kernel)) rfl (by decide +kernel) ⟨Nat.le_of_ble_eq_true rfl, Nat.le_of_ble_eq_true rfl⟩) rfl rfl (Nat.le_of_ble_eq_true rfl) dX4_init_4 ⟨Nat.zero_le _, Nat.zero_le _⟩ (fun u hp => ?_)
  exact hQ 7 _ _ hp dX4_init_7
set_option maxHeartbeats 4000000 in
set_option maxRecDepth 100000 in
theorem cinX9_X9 (l : Launch) (D : va_G) (TY : dl_TY) (nw : List Cond) (ws : va_W) (q a t : Nat) (n w : Int32) (hq : ws[q]? = some (a, .inr (9, [.int 0, .int 0, .null, .int 0]))) : dl_CtV l D TY nw yX9_init wsX9_init { frames := 3, cells := 0, slots := 0, locals := 58 } 0 0 [.ref a, .int n, .int w, .ref t] ws (fun u => u = ws.set q (a, .inr (9, [.int n, .int w, .ref t, .int 0]))) := by
  refine dl_metC [(0, .ref a), (1, .int n), (2, .int w), (3, .ref t)] (by decide) rfl rfl (Nat.le_of_ble_eq_true rfl) rfl ?_
  intro p e s m args below meth c Q A hi C hQ
  refine dl_aload_n (pc := 0) C 0 dX9_init_0 rfl rfl ?_
  refine dl_iload_n (pc := 1) C 1 dX9_init_1 rfl rfl ?_
  refine dl_iload_n (pc := 2) C 2 dX9_init_2 rfl rfl ?_
  refine dl_aload_n (pc := 3) C 3 dX9_init_3 rfl rfl ?_
  refine dl_iV (pc := 4) C (cinX9_X4 l D TY nw ws q a t n w hq) (cwI 3 C.2.2.2.2.1 gX9_init_X4_init rfl rfl rfl (C.2.2.2.2.1 _ (show Cond.initialized RX4 ∈ wsX9_init by decide +kernel)) (C.2.2.2.2.1 _ (show Cond.methodLink RX9 3 yX4_init ∈ wsX9_init by decide +kernel)) (C.2.2.2.2.1 _ (show Cond.instanceMethod yX4_init ∈ wsX9_init by decide +kernel)) rfl (by decide +kernel) ⟨Nat.le_of_ble_eq_true rfl, Nat.le_of_ble_eq_true rfl⟩) rfl rfl (Nat.le_of_ble_eq_true rfl) dX9_init_4 ⟨Nat.zero_le _, Nat.zero_le _⟩ (fun u hp => ?_)
  exact hQ 7 _ _ hp dX9_init_7
set_option maxHeartbeats 4000000 in
set_option maxRecDepth 100000 in
theorem cinX10_X3 (l : Launch) (D : va_G) (TY : dl_TY) (nw : List Cond) (ws : va_W) (q a t : Nat) (n w : Int32) (hq : ws[q]? = some (a, .inr (10, [.int 0, .int 0, .null, .int 0]))) : dl_CtV l D TY nw yX3_init wsX3_init { frames := 1, cells := 0, slots := 0, locals := 12 } 0 0 [.ref a, .int n, .int w, .ref t] ws (fun u => u = ws.set q (a, .inr (10, [.int n, .int w, .ref t, .int 0]))) := by
  refine dl_metC [(0, .ref a), (1, .int n), (2, .int w), (3, .ref t)] (by decide) rfl rfl (Nat.le_of_ble_eq_true rfl) rfl ?_
  intro p e s m args below meth c Q A hi C hQ
  refine dl_aload_n (pc := 0) C 0 dX3_init_0 rfl rfl ?_
  refine dl_objInit (pc := 1) C (by decide +kernel) (by decide +kernel) (by decide +kernel) dX3_init_1 (Nat.le_of_ble_eq_true rfl) (Nat.le_of_ble_eq_true rfl) ?_
  refine dl_aload_n (pc := 4) C 0 dX3_init_4 rfl rfl ?_
  refine dl_iload_n (pc := 5) C 1 dX3_init_5 rfl rfl ?_
  refine dl_putF (pc := 6) C hi hin_X3_init_X10 tyX10 tyX10_ok nmX10 q hq rfl 0 (by decide) (by decide +kernel) rfl rfl rfl (ty := .int) rfl (vp_nar_int _) rfl (Nat.le_of_ble_eq_true rfl) dX3_init_6 (ws' := ws.set q (a, .inr (10, [.int n, .int 0, .null, .int 0]))) rfl ?_
  refine dl_aload_n (pc := 9) C 0 dX3_init_9 rfl rfl ?_
  refine dl_iload_n (pc := 10) C 2 dX3_init_10 rfl rfl ?_
  refine dl_putF (pc := 11) C hi hin_X3_init_X10 tyX10 tyX10_ok nmX10 q (dl_set_at hq) rfl 1 (by decide) (by decide +kernel) rfl rfl rfl (ty := .int) rfl (vp_nar_int _) rfl (Nat.le_of_ble_eq_true rfl) dX3_init_11 (ws' := ws.set q (a, .inr (10, [.int n, .int w, .null, .int 0]))) (List.set_set _) ?_
  refine dl_aload_n (pc := 14) C 0 dX3_init_14 rfl rfl ?_
  refine dl_aload_n (pc := 15) C 3 dX3_init_15 rfl rfl ?_
  refine dl_putF (pc := 16) C hi hin_X3_init_X10 tyX10 tyX10_ok nmX10 q (dl_set_at hq) rfl 2 (by decide) (by decide +kernel) rfl rfl rfl (ty := (.object "DripLines$Trace")) rfl rfl rfl (Nat.le_of_ble_eq_true rfl) dX3_init_16 (ws' := ws.set q (a, .inr (10, [.int n, .int w, .ref t, .int 0]))) (List.set_set _) ?_
  exact hQ 19 _ _ rfl dX3_init_19
set_option maxHeartbeats 4000000 in
set_option maxRecDepth 100000 in
theorem cinX10_X10 (l : Launch) (D : va_G) (TY : dl_TY) (nw : List Cond) (ws : va_W) (q a t : Nat) (n w : Int32) (hq : ws[q]? = some (a, .inr (10, [.int 0, .int 0, .null, .int 0]))) : dl_CtV l D TY nw yX10_init wsX10_init { frames := 2, cells := 0, slots := 0, locals := 35 } 0 0 [.ref a, .int n, .int w, .ref t] ws (fun u => u = ws.set q (a, .inr (10, [.int n, .int w, .ref t, .int 0]))) := by
  refine dl_metC [(0, .ref a), (1, .int n), (2, .int w), (3, .ref t)] (by decide) rfl rfl (Nat.le_of_ble_eq_true rfl) rfl ?_
  intro p e s m args below meth c Q A hi C hQ
  refine dl_aload_n (pc := 0) C 0 dX10_init_0 rfl rfl ?_
  refine dl_iload_n (pc := 1) C 1 dX10_init_1 rfl rfl ?_
  refine dl_iload_n (pc := 2) C 2 dX10_init_2 rfl rfl ?_
  refine dl_aload_n (pc := 3) C 3 dX10_init_3 rfl rfl ?_
  refine dl_iV (pc := 4) C (cinX10_X3 l D TY nw ws q a t n w hq) (cwI 3 C.2.2.2.2.1 gX10_init_X3_init rfl rfl rfl (C.2.2.2.2.1 _ (show Cond.initialized RX3 ∈ wsX10_init by decide +kernel)) (C.2.2.2.2.1 _ (show Cond.methodLink RX10 3 yX3_init ∈ wsX10_init by decide +kernel)) (C.2.2.2.2.1 _ (show Cond.instanceMethod yX3_init ∈ wsX10_init by decide +kernel)) rfl (by decide +kernel) ⟨Nat.le_of_ble_eq_true rfl, Nat.le_of_ble_eq_true rfl⟩) rfl rfl (Nat.le_of_ble_eq_true rfl) dX10_init_4 ⟨Nat.zero_le _, Nat.zero_le _⟩ (fun u hp => ?_)
  exact hQ 7 _ _ hp dX10_init_7
set_option maxHeartbeats 4000000 in
set_option maxRecDepth 100000 in
theorem cinX0_X3 (l : Launch) (D : va_G) (TY : dl_TY) (nw : List Cond) (ws : va_W) (q a t : Nat) (n w : Int32) (hq : ws[q]? = some (a, .inr (0, [.int 0, .int 0, .null, .int 0]))) : dl_CtV l D TY nw yX3_init wsX3_init { frames := 1, cells := 0, slots := 0, locals := 12 } 0 0 [.ref a, .int n, .int w, .ref t] ws (fun u => u = ws.set q (a, .inr (0, [.int n, .int w, .ref t, .int 0]))) := by
  refine dl_metC [(0, .ref a), (1, .int n), (2, .int w), (3, .ref t)] (by decide) rfl rfl (Nat.le_of_ble_eq_true rfl) rfl ?_
  intro p e s m args below meth c Q A hi C hQ
  refine dl_aload_n (pc := 0) C 0 dX3_init_0 rfl rfl ?_
  refine dl_objInit (pc := 1) C (by decide +kernel) (by decide +kernel) (by decide +kernel) dX3_init_1 (Nat.le_of_ble_eq_true rfl) (Nat.le_of_ble_eq_true rfl) ?_
  refine dl_aload_n (pc := 4) C 0 dX3_init_4 rfl rfl ?_
  refine dl_iload_n (pc := 5) C 1 dX3_init_5 rfl rfl ?_
  refine dl_putF (pc := 6) C hi hin_X3_init_X0 tyX0 tyX0_ok nmX0 q hq rfl 0 (by decide) (by decide +kernel) rfl rfl rfl (ty := .int) rfl (vp_nar_int _) rfl (Nat.le_of_ble_eq_true rfl) dX3_init_6 (ws' := ws.set q (a, .inr (0, [.int n, .int 0, .null, .int 0]))) rfl ?_
  refine dl_aload_n (pc := 9) C 0 dX3_init_9 rfl rfl ?_
  refine dl_iload_n (pc := 10) C 2 dX3_init_10 rfl rfl ?_
  refine dl_putF (pc := 11) C hi hin_X3_init_X0 tyX0 tyX0_ok nmX0 q (dl_set_at hq) rfl 1 (by decide) (by decide +kernel) rfl rfl rfl (ty := .int) rfl (vp_nar_int _) rfl (Nat.le_of_ble_eq_true rfl) dX3_init_11 (ws' := ws.set q (a, .inr (0, [.int n, .int w, .null, .int 0]))) (List.set_set _) ?_
  refine dl_aload_n (pc := 14) C 0 dX3_init_14 rfl rfl ?_
  refine dl_aload_n (pc := 15) C 3 dX3_init_15 rfl rfl ?_
  refine dl_putF (pc := 16) C hi hin_X3_init_X0 tyX0 tyX0_ok nmX0 q (dl_set_at hq) rfl 2 (by decide) (by decide +kernel) rfl rfl rfl (ty := (.object "DripLines$Trace")) rfl rfl rfl (Nat.le_of_ble_eq_true rfl) dX3_init_16 (ws' := ws.set q (a, .inr (0, [.int n, .int w, .ref t, .int 0]))) (List.set_set _) ?_
  exact hQ 19 _ _ rfl dX3_init_19
set_option maxHeartbeats 4000000 in
set_option maxRecDepth 100000 in
theorem cinX0_X0 (l : Launch) (D : va_G) (TY : dl_TY) (nw : List Cond) (ws : va_W) (q a t : Nat) (n w : Int32) (hq : ws[q]? = some (a, .inr (0, [.int 0, .int 0, .null, .int 0]))) : dl_CtV l D TY nw yX0_init wsX0_init { frames := 2, cells := 0, slots := 0, locals := 35 } 0 0 [.ref a, .int n, .int w, .ref t] ws (fun u => u = ws.set q (a, .inr (0, [.int n, .int w, .ref t, .int 0]))) := by
  refine dl_metC [(0, .ref a), (1, .int n), (2, .int w), (3, .ref t)] (by decide) rfl rfl (Nat.le_of_ble_eq_true rfl) rfl ?_
  intro p e s m args below meth c Q A hi C hQ
  refine dl_aload_n (pc := 0) C 0 dX0_init_0 rfl rfl ?_
  refine dl_iload_n (pc := 1) C 1 dX0_init_1 rfl rfl ?_
  refine dl_iload_n (pc := 2) C 2 dX0_init_2 rfl rfl ?_
  refine dl_aload_n (pc := 3) C 3 dX0_init_3 rfl rfl ?_
  refine dl_iV (pc := 4) C (cinX0_X3 l D TY nw ws q a t n w hq) (cwI 3 C.2.2.2.2.1 gX0_init_X3_init rfl rfl rfl (C.2.2.2.2.1 _ (show Cond.initialized RX3 ∈ wsX0_init by decide +kernel)) (C.2.2.2.2.1 _ (show Cond.methodLink RX0 3 yX3_init ∈ wsX0_init by decide +kernel)) (C.2.2.2.2.1 _ (show Cond.instanceMethod yX3_init ∈ wsX0_init by decide +kernel)) rfl (by decide +kernel) ⟨Nat.le_of_ble_eq_true rfl, Nat.le_of_ble_eq_true rfl⟩) rfl rfl (Nat.le_of_ble_eq_true rfl) dX0_init_4 ⟨Nat.zero_le _, Nat.zero_le _⟩ (fun u hp => ?_)
  exact hQ 7 _ _ hp dX0_init_7
/-- the class of a place of a KIND -/
def cc_ci (k : Int32) : Nat := if k = 1 then 4 else if k = 2 then 10 else if k = 3 then 9 else if k = 4 then 0 else 3
theorem cc_ci1 : cc_ci 1 = 4 := rfl
theorem cc_ci2 : cc_ci 2 = 10 := rfl
theorem cc_ci3 : cc_ci 3 = 9 := rfl
theorem cc_ci4 : cc_ci 4 = 0 := rfl
theorem cc_ci0 {k : Int32} (h1 : ¬ k = 1) (h2 : ¬ k = 2) (h3 : ¬ k = 3) (h4 : ¬ k = 4) : cc_ci k = 3 := by unfold cc_ci; rw [if_neg h1, if_neg h2, if_neg h3, if_neg h4]
theorem hin_X2_newPlace_X4 : ∀ w ∈ u_ws RX4 TX4 4, w ∈ wsX2_newPlace := fun _ h => List.mem_cons_of_mem _ (List.mem_append_left _ (List.mem_append_left _ (List.mem_append_left _ (List.mem_append_left _ (List.mem_append_left _ (List.mem_append_right _ h))))))
theorem hin_X2_newPlace_X10 : ∀ w ∈ u_ws RX10 TX10 4, w ∈ wsX2_newPlace := fun _ h => List.mem_cons_of_mem _ (List.mem_append_left _ (List.mem_append_left _ (List.mem_append_left _ (List.mem_append_right _ h))))
theorem hin_X2_newPlace_X9 : ∀ w ∈ u_ws RX9 TX9 4, w ∈ wsX2_newPlace := fun _ h => List.mem_cons_of_mem _ (List.mem_append_left _ (List.mem_append_left _ (List.mem_append_right _ h)))
theorem hin_X2_newPlace_X0 : ∀ w ∈ u_ws RX0 TX0 4, w ∈ wsX2_newPlace := fun _ h => List.mem_cons_of_mem _ (List.mem_append_left _ (List.mem_append_right _ h))
theorem hin_X2_newPlace_X3 : ∀ w ∈ u_ws RX3 TX3 4, w ∈ wsX2_newPlace := fun _ h => List.mem_cons_of_mem _ (List.mem_append_right _ h)
theorem hin_X2_newPlace_X2 : ∀ w ∈ u_ws RX2 TX2 18, w ∈ wsX2_newPlace := fun _ h => List.mem_cons_of_mem _ (List.mem_append_left _ (List.mem_append_left _ (List.mem_append_left _ (List.mem_append_left _ (List.mem_append_right _ h)))))
theorem lk_X2_newPlace_45 : Cond.fieldLink (yX2_newPlace).cls 45 "DripLines$Net" (TX2 9).2.1 (TX2 9).2.2.1 ∈ wsX2_newPlace := by decide +kernel
set_option maxHeartbeats 4000000 in
set_option maxRecDepth 100000 in
theorem ccl2_newPlace (l : Launch) (D : va_G) (cI cP cII : ClassId) (TY : dl_TY) (ad : Nat → Nat) (pr : Nat → Option Nat) (R : va_W) (g : dl_Sg) (x1 x2 x3 : Int32) : dl_CtR l D TY cc_nw yX2_newPlace wsX2_newPlace { frames := 4, cells := 1, slots := 4, locals := 81 } 1 4 [.ref (ad 1), .int x1, .int x2, .int x3] (cc_w cI cP cII ad pr g ++ R) (fun r u => u = (cc_w cI cP cII ad pr g ++ R) ++ [(r, .inr (cc_ci x1, [.int x2, .int x3, .ref (ad 6), .int 0]))]) := by
  refine dl_metR (rt := .object "DripLines$Place") [(0, .ref (ad 1)), (1, .int x1), (2, .int x2), (3, .int x3)] (Or.inl ⟨_, rfl⟩) (by decide) rfl (Nat.le_of_ble_eq_true rfl) rfl ?_
  intro p e s m args below meth c Q A C hQ
  refine dl_iload_n (pc := 0) C 1 dX2_newPlace_0 rfl rfl ?_
  by_cases q1 : x1 = 1
  · subst q1
    refine dl_tabIn (pc := 1) C 31 32 dX2_newPlace_1 (by decide) (by decide) rfl (by decide) ?_
    refine dl_new (pc := 32) (ci := 4) C [.int 0, .int 0, .null, .int 0] hin_X2_newPlace_X4 tyX4 tyX4_ok (by decide +kernel) (by decide +kernel) (by decide +kernel) rfl (fun j hj => by rcases (show j = 0 ∨ j = 1 ∨ j = 2 ∨ j = 3 by omega) with rfl | rfl | rfl | rfl <;> rfl) ⟨Nat.le_of_ble_eq_true rfl, Nat.le_of_ble_eq_true rfl⟩ dX2_newPlace_32 (fun r => ?_)
    refine dl_dup (pc := 35) C dX2_newPlace_35 rfl ?_
    refine dl_iload_n (pc := 36) C 2 dX2_newPlace_36 rfl rfl ?_
    refine dl_iload_n (pc := 37) C 3 dX2_newPlace_37 rfl rfl ?_
    refine dl_aload_n (pc := 38) C 0 dX2_newPlace_38 rfl rfl ?_
    refine dl_get (pc := 39) (ci := 2) (fs := cc_f1 ad g) C hin_X2_newPlace_X2 1 rfl rfl 9 (by decide) lk_X2_newPlace_45 rfl rfl dX2_newPlace_39 ?_
    have hq : ((cc_w cI cP cII ad pr g ++ R) ++ [(r, .inr (4, [.int 0, .int 0, .null, .int 0]))] : va_W)[(cc_w cI cP cII ad pr g ++ R).length]? = some (r, .inr (4, [.int 0, .int 0, .null, .int 0])) := by rw [List.getElem?_append_right (Nat.le_refl _), Nat.sub_self]; rfl
    refine dl_iV (pc := 42) C (cinX4_X4 l D TY cc_nw _ _ r (ad 6) x2 x3 hq) (cwI 3 C.2.2.2.2.1 gX2_newPlace_X4_init rfl rfl rfl (C.2.2.2.2.1 _ (show Cond.initialized RX4 ∈ wsX2_newPlace by decide +kernel)) (C.2.2.2.2.1 _ (show Cond.methodLink RX2 92 yX4_init ∈ wsX2_newPlace by decide +kernel)) (C.2.2.2.2.1 _ (show Cond.instanceMethod yX4_init ∈ wsX2_newPlace by decide +kernel)) rfl (by decide +kernel) ⟨Nat.le_of_ble_eq_true rfl, Nat.le_of_ble_eq_true rfl⟩) rfl rfl (Nat.le_of_ble_eq_true rfl) dX2_newPlace_42 ⟨Nat.le_of_ble_eq_true rfl, Nat.le_of_ble_eq_true rfl⟩ (fun u hp => ?_)
    refine hQ 45 _ _ _ ?_ dX2_newPlace_45
    rw [hp, List.set_append_right _ _ (Nat.le_refl _), Nat.sub_self, cc_ci1]
    rfl
  by_cases q2 : x1 = 2
  · subst q2
    refine dl_tabIn (pc := 1) C 45 46 dX2_newPlace_1 (by decide) (by decide) rfl (by decide) ?_
    refine dl_new (pc := 46) (ci := 10) C [.int 0, .int 0, .null, .int 0] hin_X2_newPlace_X10 tyX10 tyX10_ok (by decide +kernel) (by decide +kernel) (by decide +kernel) rfl (fun j hj => by rcases (show j = 0 ∨ j = 1 ∨ j = 2 ∨ j = 3 by omega) with rfl | rfl | rfl | rfl <;> rfl) ⟨Nat.le_of_ble_eq_true rfl, Nat.le_of_ble_eq_true rfl⟩ dX2_newPlace_46 (fun r => ?_)
    refine dl_dup (pc := 49) C dX2_newPlace_49 rfl ?_
    refine dl_iload_n (pc := 50) C 2 dX2_newPlace_50 rfl rfl ?_
    refine dl_iload_n (pc := 51) C 3 dX2_newPlace_51 rfl rfl ?_
    refine dl_aload_n (pc := 52) C 0 dX2_newPlace_52 rfl rfl ?_
    refine dl_get (pc := 53) (ci := 2) (fs := cc_f1 ad g) C hin_X2_newPlace_X2 1 rfl rfl 9 (by decide) lk_X2_newPlace_45 rfl rfl dX2_newPlace_53 ?_
    have hq : ((cc_w cI cP cII ad pr g ++ R) ++ [(r, .inr (10, [.int 0, .int 0, .null, .int 0]))] : va_W)[(cc_w cI cP cII ad pr g ++ R).length]? = some (r, .inr (10, [.int 0, .int 0, .null, .int 0])) := by rw [List.getElem?_append_right (Nat.le_refl _), Nat.sub_self]; rfl
    refine dl_iV (pc := 56) C (cinX10_X10 l D TY cc_nw _ _ r (ad 6) x2 x3 hq) (cwI 3 C.2.2.2.2.1 gX2_newPlace_X10_init rfl rfl rfl (C.2.2.2.2.1 _ (show Cond.initialized RX10 ∈ wsX2_newPlace by decide +kernel)) (C.2.2.2.2.1 _ (show Cond.methodLink RX2 97 yX10_init ∈ wsX2_newPlace by decide +kernel)) (C.2.2.2.2.1 _ (show Cond.instanceMethod yX10_init ∈ wsX2_newPlace by decide +kernel)) rfl (by decide +kernel) ⟨Nat.le_of_ble_eq_true rfl, Nat.le_of_ble_eq_true rfl⟩) rfl rfl (Nat.le_of_ble_eq_true rfl) dX2_newPlace_56 ⟨Nat.le_of_ble_eq_true rfl, Nat.le_of_ble_eq_true rfl⟩ (fun u hp => ?_)
    refine hQ 59 _ _ _ ?_ dX2_newPlace_59
    rw [hp, List.set_append_right _ _ (Nat.le_refl _), Nat.sub_self, cc_ci2]
    rfl
  by_cases q3 : x1 = 3
  · subst q3
    refine dl_tabIn (pc := 1) C 59 60 dX2_newPlace_1 (by decide) (by decide) rfl (by decide) ?_
    refine dl_new (pc := 60) (ci := 9) C [.int 0, .int 0, .null, .int 0] hin_X2_newPlace_X9 tyX9 tyX9_ok (by decide +kernel) (by decide +kernel) (by decide +kernel) rfl (fun j hj => by rcases (show j = 0 ∨ j = 1 ∨ j = 2 ∨ j = 3 by omega) with rfl | rfl | rfl | rfl <;> rfl) ⟨Nat.le_of_ble_eq_true rfl, Nat.le_of_ble_eq_true rfl⟩ dX2_newPlace_60 (fun r => ?_)
    refine dl_dup (pc := 63) C dX2_newPlace_63 rfl ?_
    refine dl_iload_n (pc := 64) C 2 dX2_newPlace_64 rfl rfl ?_
    refine dl_iload_n (pc := 65) C 3 dX2_newPlace_65 rfl rfl ?_
    refine dl_aload_n (pc := 66) C 0 dX2_newPlace_66 rfl rfl ?_
    refine dl_get (pc := 67) (ci := 2) (fs := cc_f1 ad g) C hin_X2_newPlace_X2 1 rfl rfl 9 (by decide) lk_X2_newPlace_45 rfl rfl dX2_newPlace_67 ?_
    have hq : ((cc_w cI cP cII ad pr g ++ R) ++ [(r, .inr (9, [.int 0, .int 0, .null, .int 0]))] : va_W)[(cc_w cI cP cII ad pr g ++ R).length]? = some (r, .inr (9, [.int 0, .int 0, .null, .int 0])) := by rw [List.getElem?_append_right (Nat.le_refl _), Nat.sub_self]; rfl
    refine dl_iV (pc := 70) C (cinX9_X9 l D TY cc_nw _ _ r (ad 6) x2 x3 hq) (cwI 3 C.2.2.2.2.1 gX2_newPlace_X9_init rfl rfl rfl (C.2.2.2.2.1 _ (show Cond.initialized RX9 ∈ wsX2_newPlace by decide +kernel)) (C.2.2.2.2.1 _ (show Cond.methodLink RX2 100 yX9_init ∈ wsX2_newPlace by decide +kernel)) (C.2.2.2.2.1 _ (show Cond.instanceMethod yX9_init ∈ wsX2_newPlace by decide +kernel)) rfl (by decide +kernel) ⟨Nat.le_of_ble_eq_true rfl, Nat.le_of_ble_eq_true rfl⟩) rfl rfl (Nat.le_of_ble_eq_true rfl) dX2_newPlace_70 ⟨Nat.le_of_ble_eq_true rfl, Nat.le_of_ble_eq_true rfl⟩ (fun u hp => ?_)
    refine hQ 73 _ _ _ ?_ dX2_newPlace_73
    rw [hp, List.set_append_right _ _ (Nat.le_refl _), Nat.sub_self, cc_ci3]
    rfl
  by_cases q4 : x1 = 4
  · subst q4
    refine dl_tabIn (pc := 1) C 73 74 dX2_newPlace_1 (by decide) (by decide) rfl (by decide) ?_
    refine dl_new (pc := 74) (ci := 0) C [.int 0, .int 0, .null, .int 0] hin_X2_newPlace_X0 tyX0 tyX0_ok (by decide +kernel) (by decide +kernel) (by decide +kernel) rfl (fun j hj => by rcases (show j = 0 ∨ j = 1 ∨ j = 2 ∨ j = 3 by omega) with rfl | rfl | rfl | rfl <;> rfl) ⟨Nat.le_of_ble_eq_true rfl, Nat.le_of_ble_eq_true rfl⟩ dX2_newPlace_74 (fun r => ?_)
    refine dl_dup (pc := 77) C dX2_newPlace_77 rfl ?_
    refine dl_iload_n (pc := 78) C 2 dX2_newPlace_78 rfl rfl ?_
    refine dl_iload_n (pc := 79) C 3 dX2_newPlace_79 rfl rfl ?_
    refine dl_aload_n (pc := 80) C 0 dX2_newPlace_80 rfl rfl ?_
    refine dl_get (pc := 81) (ci := 2) (fs := cc_f1 ad g) C hin_X2_newPlace_X2 1 rfl rfl 9 (by decide) lk_X2_newPlace_45 rfl rfl dX2_newPlace_81 ?_
    have hq : ((cc_w cI cP cII ad pr g ++ R) ++ [(r, .inr (0, [.int 0, .int 0, .null, .int 0]))] : va_W)[(cc_w cI cP cII ad pr g ++ R).length]? = some (r, .inr (0, [.int 0, .int 0, .null, .int 0])) := by rw [List.getElem?_append_right (Nat.le_refl _), Nat.sub_self]; rfl
    refine dl_iV (pc := 84) C (cinX0_X0 l D TY cc_nw _ _ r (ad 6) x2 x3 hq) (cwI 3 C.2.2.2.2.1 gX2_newPlace_X0_init rfl rfl rfl (C.2.2.2.2.1 _ (show Cond.initialized RX0 ∈ wsX2_newPlace by decide +kernel)) (C.2.2.2.2.1 _ (show Cond.methodLink RX2 103 yX0_init ∈ wsX2_newPlace by decide +kernel)) (C.2.2.2.2.1 _ (show Cond.instanceMethod yX0_init ∈ wsX2_newPlace by decide +kernel)) rfl (by decide +kernel) ⟨Nat.le_of_ble_eq_true rfl, Nat.le_of_ble_eq_true rfl⟩) rfl rfl (Nat.le_of_ble_eq_true rfl) dX2_newPlace_84 ⟨Nat.le_of_ble_eq_true rfl, Nat.le_of_ble_eq_true rfl⟩ (fun u hp => ?_)
    refine hQ 87 _ _ _ ?_ dX2_newPlace_87
    rw [hp, List.set_append_right _ _ (Nat.le_refl _), Nat.sub_self, cc_ci4]
    rfl
  refine dl_tabOut (pc := 1) C 88 dX2_newPlace_1 (by have e1 : x1.toInt ≠ 1 := fun w => q1 (Int32.toInt_inj.mp w); have e2 : x1.toInt ≠ 2 := fun w => q2 (Int32.toInt_inj.mp w); have e3 : x1.toInt ≠ 3 := fun w => q3 (Int32.toInt_inj.mp w); have e4 : x1.toInt ≠ 4 := fun w => q4 (Int32.toInt_inj.mp w); omega) (by decide) ?_
  refine dl_new (pc := 88) (ci := 3) C [.int 0, .int 0, .null, .int 0] hin_X2_newPlace_X3 tyX3 tyX3_ok (by decide +kernel) (by decide +kernel) (by decide +kernel) rfl (fun j hj => by rcases (show j = 0 ∨ j = 1 ∨ j = 2 ∨ j = 3 by omega) with rfl | rfl | rfl | rfl <;> rfl) ⟨Nat.le_of_ble_eq_true rfl, Nat.le_of_ble_eq_true rfl⟩ dX2_newPlace_88 (fun r => ?_)
  refine dl_dup (pc := 91) C dX2_newPlace_91 rfl ?_
  refine dl_iload_n (pc := 92) C 2 dX2_newPlace_92 rfl rfl ?_
  refine dl_iload_n (pc := 93) C 3 dX2_newPlace_93 rfl rfl ?_
  refine dl_aload_n (pc := 94) C 0 dX2_newPlace_94 rfl rfl ?_
  refine dl_get (pc := 95) (ci := 2) (fs := cc_f1 ad g) C hin_X2_newPlace_X2 1 rfl rfl 9 (by decide) lk_X2_newPlace_45 rfl rfl dX2_newPlace_95 ?_
  have hq : ((cc_w cI cP cII ad pr g ++ R) ++ [(r, .inr (3, [.int 0, .int 0, .null, .int 0]))] : va_W)[(cc_w cI cP cII ad pr g ++ R).length]? = some (r, .inr (3, [.int 0, .int 0, .null, .int 0])) := by rw [List.getElem?_append_right (Nat.le_refl _), Nat.sub_self]; rfl
  refine dl_iV (pc := 98) C (cinX3_X3 l D TY cc_nw _ _ r (ad 6) x2 x3 hq) (cwI 3 C.2.2.2.2.1 gX2_newPlace_X3_init rfl rfl rfl (C.2.2.2.2.1 _ (show Cond.initialized RX3 ∈ wsX2_newPlace by decide +kernel)) (C.2.2.2.2.1 _ (show Cond.methodLink RX2 104 yX3_init ∈ wsX2_newPlace by decide +kernel)) (C.2.2.2.2.1 _ (show Cond.instanceMethod yX3_init ∈ wsX2_newPlace by decide +kernel)) rfl (by decide +kernel) ⟨Nat.le_of_ble_eq_true rfl, Nat.le_of_ble_eq_true rfl⟩) rfl rfl (Nat.le_of_ble_eq_true rfl) dX2_newPlace_98 ⟨Nat.le_of_ble_eq_true rfl, Nat.le_of_ble_eq_true rfl⟩ (fun u hp => ?_)
  refine hQ 101 _ _ _ ?_ dX2_newPlace_101
  rw [hp, List.set_append_right _ _ (Nat.le_refl _), Nat.sub_self, cc_ci0 q1 q2 q3 q4]
  rfl
