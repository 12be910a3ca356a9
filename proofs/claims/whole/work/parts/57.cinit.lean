theorem hin_X5_init_X5 : ∀ w ∈ u_ws RX5 TX5 2, w ∈ wsX5_init := fun _ h => List.mem_cons_of_mem _ (List.mem_append_right _ h)
set_option maxHeartbeats 8000000 in
set_option maxRecDepth 100000 in
theorem ccl5_init (l : Launch) (D : va_G) (cI : ClassId) (TY : dl_TY) (hTY : TY[0]? = some (cI, .int)) (nw : List Cond) (X : va_W) (a : Nat) : dl_CtV l D TY nw yX5_init wsX5_init { frames := 1, cells := 1, slots := 50, locals := 12 } 1 50 [.ref a] (X ++ [(a, .inr (5, [.null, .int 0]))]) (fun u => ∃ r1 : Nat, u = X ++ [(a, .inr (5, [.ref r1, .int 0])), (r1, .inl (cI, 50, .inl (fun _ => 0)))]) := by
  refine dl_metC [(0, .ref a)] (by decide) rfl rfl (Nat.le_of_ble_eq_true rfl) rfl ?_
  intro p e s m args below meth c Q A hi C hQ
  refine dl_aload_n (pc := 0) C 0 dX5_init_0 rfl rfl ?_
  refine dl_objInit (pc := 1) C (by decide +kernel) (by decide +kernel) (by decide +kernel) dX5_init_1 (Nat.le_of_ble_eq_true rfl) (Nat.le_of_ble_eq_true rfl) ?_
  refine dl_aload_n (pc := 4) C 0 dX5_init_4 rfl rfl ?_
  refine dl_bipush (pc := 5) C 50 dX5_init_5 (by decide) ?_
  refine dl_newa (pc := 7) C hTY (by decide +kernel) (N' := 50) (by decide) (by decide) (by decide) ⟨Nat.le_of_ble_eq_true rfl, Nat.le_of_ble_eq_true rfl⟩ dX5_init_7 (fun r1 => ?_)
  refine dl_wid (mc := 1) (ms := 50) (Nat.le_of_ble_eq_true rfl) (Nat.le_of_ble_eq_true rfl) ?_
  refine dl_eqw (X ++ [(a, .inr (5, [.null, .int 0])), (r1, .inl (cI, 50, .inl (fun _ => 0)))]) (by rw [List.append_assoc]; rfl) ?_
  refine dl_putF (pc := 9) C hi hin_X5_init_X5 tyX5 tyX5_ok nmX5 (X.length + 0) (dl_tg 0 rfl) rfl 0 (by decide) (by decide +kernel) rfl rfl rfl (ty := (.array .int)) rfl rfl rfl (Nat.le_of_ble_eq_true rfl) dX5_init_9 (ws' := X ++ [(a, .inr (5, [.ref r1, .int 0])), (r1, .inl (cI, 50, .inl (fun _ => 0)))]) (dl_ts 0) ?_
  exact hQ 12 _ _ ⟨r1, rfl⟩ dX5_init_12
theorem hin_X8_init_X8 : ∀ w ∈ u_ws RX8 TX8 3, w ∈ wsX8_init := fun _ h => List.mem_cons_of_mem _ (List.mem_append_right _ h)
set_option maxHeartbeats 8000000 in
set_option maxRecDepth 100000 in
theorem ccl8_init (l : Launch) (D : va_G) (cI : ClassId) (TY : dl_TY) (hTY : TY[0]? = some (cI, .int)) (nw : List Cond) (X : va_W) (a n : Nat) : dl_CtV l D TY nw yX8_init wsX8_init { frames := 1, cells := 2, slots := 20, locals := 12 } 2 20 [.ref a, .ref n] (X ++ [(a, .inr (8, [.null, .null, .null]))]) (fun u => ∃ r1 r2 : Nat, u = X ++ [(a, .inr (8, [.ref n, .ref r1, .ref r2])), (r1, .inl (cI, 10, .inl (fun _ => 0))), (r2, .inl (cI, 10, .inl (fun _ => 0)))]) := by
  refine dl_metC [(0, .ref a), (1, .ref n)] (by decide) rfl rfl (Nat.le_of_ble_eq_true rfl) rfl ?_
  intro p e s m args below meth c Q A hi C hQ
  refine dl_aload_n (pc := 0) C 0 dX8_init_0 rfl rfl ?_
  refine dl_objInit (pc := 1) C (by decide +kernel) (by decide +kernel) (by decide +kernel) dX8_init_1 (Nat.le_of_ble_eq_true rfl) (Nat.le_of_ble_eq_true rfl) ?_
  refine dl_aload_n (pc := 4) C 0 dX8_init_4 rfl rfl ?_
  refine dl_bipush (pc := 5) C 10 dX8_init_5 (by decide) ?_
  refine dl_newa (pc := 7) C hTY (by decide +kernel) (N' := 10) (by decide) (by decide) (by decide) ⟨Nat.le_of_ble_eq_true rfl, Nat.le_of_ble_eq_true rfl⟩ dX8_init_7 (fun r1 => ?_)
  refine dl_wid (mc := 1) (ms := 10) (Nat.le_of_ble_eq_true rfl) (Nat.le_of_ble_eq_true rfl) ?_
  refine dl_eqw (X ++ [(a, .inr (8, [.null, .null, .null])), (r1, .inl (cI, 10, .inl (fun _ => 0)))]) (by rw [List.append_assoc]; rfl) ?_
  refine dl_putF (pc := 9) C hi hin_X8_init_X8 tyX8 tyX8_ok nmX8 (X.length + 0) (dl_tg 0 rfl) rfl 1 (by decide) (by decide +kernel) rfl rfl rfl (ty := (.array .int)) rfl rfl rfl (Nat.le_of_ble_eq_true rfl) dX8_init_9 (ws' := X ++ [(a, .inr (8, [.null, .ref r1, .null])), (r1, .inl (cI, 10, .inl (fun _ => 0)))]) (dl_ts 0) ?_
  refine dl_aload_n (pc := 12) C 0 dX8_init_12 rfl rfl ?_
  refine dl_bipush (pc := 13) C 10 dX8_init_13 (by decide) ?_
  refine dl_newa (pc := 15) C hTY (by decide +kernel) (N' := 10) (by decide) (by decide) (by decide) ⟨Nat.le_of_ble_eq_true rfl, Nat.le_of_ble_eq_true rfl⟩ dX8_init_15 (fun r2 => ?_)
  refine dl_wid (mc := 2) (ms := 20) (Nat.le_of_ble_eq_true rfl) (Nat.le_of_ble_eq_true rfl) ?_
  refine dl_eqw (X ++ [(a, .inr (8, [.null, .ref r1, .null])), (r1, .inl (cI, 10, .inl (fun _ => 0))), (r2, .inl (cI, 10, .inl (fun _ => 0)))]) (by rw [List.append_assoc]; rfl) ?_
  refine dl_putF (pc := 17) C hi hin_X8_init_X8 tyX8 tyX8_ok nmX8 (X.length + 0) (dl_tg 0 rfl) rfl 2 (by decide) (by decide +kernel) rfl rfl rfl (ty := (.array .int)) rfl rfl rfl (Nat.le_of_ble_eq_true rfl) dX8_init_17 (ws' := X ++ [(a, .inr (8, [.null, .ref r1, .ref r2])), (r1, .inl (cI, 10, .inl (fun _ => 0))), (r2, .inl (cI, 10, .inl (fun _ => 0)))]) (dl_ts 0) ?_
  refine dl_aload_n (pc := 20) C 0 dX8_init_20 rfl rfl ?_
  refine dl_aload_n (pc := 21) C 1 dX8_init_21 rfl rfl ?_
  refine dl_putF (pc := 22) C hi hin_X8_init_X8 tyX8 tyX8_ok nmX8 (X.length + 0) (dl_tg 0 rfl) rfl 0 (by decide) (by decide +kernel) rfl rfl rfl (ty := (.object "DripLines$Net")) rfl rfl rfl (Nat.le_of_ble_eq_true rfl) dX8_init_22 (ws' := X ++ [(a, .inr (8, [.ref n, .ref r1, .ref r2])), (r1, .inl (cI, 10, .inl (fun _ => 0))), (r2, .inl (cI, 10, .inl (fun _ => 0)))]) (dl_ts 0) ?_
  exact hQ 25 _ _ ⟨r1, r2, rfl⟩ dX8_init_25
theorem hin_X6_init_X6 : ∀ w ∈ u_ws RX6 TX6 9, w ∈ wsX6_init := fun _ h => List.mem_cons_of_mem _ (List.mem_append_right _ h)
set_option maxHeartbeats 8000000 in
set_option maxRecDepth 100000 in
theorem ccl6_init (l : Launch) (D : va_G) (cI : ClassId) (TY : dl_TY) (hTY : TY[0]? = some (cI, .int)) (nw : List Cond) (X : va_W) (a n : Nat) : dl_CtV l D TY nw yX6_init wsX6_init { frames := 1, cells := 3, slots := 1075, locals := 12 } 3 1075 [.ref a, .ref n] (X ++ [(a, .inr (6, [.null, .null, .null, .null, .int 0, .int 0, .int 0, .int 0, .int 0]))]) (fun u => ∃ r1 r2 r3 : Nat, u = X ++ [(a, .inr (6, [.ref n, .ref r1, .ref r2, .ref r3, .int 0, .int 0, .int 0, .int 0, .int (-1)])), (r1, .inl (cI, 10, .inl (fun _ => 0))), (r2, .inl (cI, 1001, .inl (fun _ => 0))), (r3, .inl (cI, 64, .inl (fun _ => 0)))]) := by
  refine dl_metC [(0, .ref a), (1, .ref n)] (by decide) rfl rfl (Nat.le_of_ble_eq_true rfl) rfl ?_
  intro p e s m args below meth c Q A hi C hQ
  refine dl_aload_n (pc := 0) C 0 dX6_init_0 rfl rfl ?_
  refine dl_objInit (pc := 1) C (by decide +kernel) (by decide +kernel) (by decide +kernel) dX6_init_1 (Nat.le_of_ble_eq_true rfl) (Nat.le_of_ble_eq_true rfl) ?_
  refine dl_aload_n (pc := 4) C 0 dX6_init_4 rfl rfl ?_
  refine dl_bipush (pc := 5) C 10 dX6_init_5 (by decide) ?_
  refine dl_newa (pc := 7) C hTY (by decide +kernel) (N' := 10) (by decide) (by decide) (by decide) ⟨Nat.le_of_ble_eq_true rfl, Nat.le_of_ble_eq_true rfl⟩ dX6_init_7 (fun r1 => ?_)
  refine dl_wid (mc := 1) (ms := 10) (Nat.le_of_ble_eq_true rfl) (Nat.le_of_ble_eq_true rfl) ?_
  refine dl_eqw (X ++ [(a, .inr (6, [.null, .null, .null, .null, .int 0, .int 0, .int 0, .int 0, .int 0])), (r1, .inl (cI, 10, .inl (fun _ => 0)))]) (by rw [List.append_assoc]; rfl) ?_
  refine dl_putF (pc := 9) C hi hin_X6_init_X6 tyX6 tyX6_ok nmX6 (X.length + 0) (dl_tg 0 rfl) rfl 1 (by decide) (by decide +kernel) rfl rfl rfl (ty := (.array .int)) rfl rfl rfl (Nat.le_of_ble_eq_true rfl) dX6_init_9 (ws' := X ++ [(a, .inr (6, [.null, .ref r1, .null, .null, .int 0, .int 0, .int 0, .int 0, .int 0])), (r1, .inl (cI, 10, .inl (fun _ => 0)))]) (dl_ts 0) ?_
  refine dl_aload_n (pc := 12) C 0 dX6_init_12 rfl rfl ?_
  refine dl_sipush (pc := 13) C 1001 dX6_init_13 (by decide) ?_
  refine dl_newa (pc := 16) C hTY (by decide +kernel) (N' := 1001) (by decide) (by decide) (by decide) ⟨Nat.le_of_ble_eq_true rfl, Nat.le_of_ble_eq_true rfl⟩ dX6_init_16 (fun r2 => ?_)
  refine dl_wid (mc := 2) (ms := 1011) (Nat.le_of_ble_eq_true rfl) (Nat.le_of_ble_eq_true rfl) ?_
  refine dl_eqw (X ++ [(a, .inr (6, [.null, .ref r1, .null, .null, .int 0, .int 0, .int 0, .int 0, .int 0])), (r1, .inl (cI, 10, .inl (fun _ => 0))), (r2, .inl (cI, 1001, .inl (fun _ => 0)))]) (by rw [List.append_assoc]; rfl) ?_
  refine dl_putF (pc := 18) C hi hin_X6_init_X6 tyX6 tyX6_ok nmX6 (X.length + 0) (dl_tg 0 rfl) rfl 2 (by decide) (by decide +kernel) rfl rfl rfl (ty := (.array .int)) rfl rfl rfl (Nat.le_of_ble_eq_true rfl) dX6_init_18 (ws' := X ++ [(a, .inr (6, [.null, .ref r1, .ref r2, .null, .int 0, .int 0, .int 0, .int 0, .int 0])), (r1, .inl (cI, 10, .inl (fun _ => 0))), (r2, .inl (cI, 1001, .inl (fun _ => 0)))]) (dl_ts 0) ?_
  refine dl_aload_n (pc := 21) C 0 dX6_init_21 rfl rfl ?_
  refine dl_bipush (pc := 22) C 64 dX6_init_22 (by decide) ?_
  refine dl_newa (pc := 24) C hTY (by decide +kernel) (N' := 64) (by decide) (by decide) (by decide) ⟨Nat.le_of_ble_eq_true rfl, Nat.le_of_ble_eq_true rfl⟩ dX6_init_24 (fun r3 => ?_)
  refine dl_wid (mc := 3) (ms := 1075) (Nat.le_of_ble_eq_true rfl) (Nat.le_of_ble_eq_true rfl) ?_
  refine dl_eqw (X ++ [(a, .inr (6, [.null, .ref r1, .ref r2, .null, .int 0, .int 0, .int 0, .int 0, .int 0])), (r1, .inl (cI, 10, .inl (fun _ => 0))), (r2, .inl (cI, 1001, .inl (fun _ => 0))), (r3, .inl (cI, 64, .inl (fun _ => 0)))]) (by rw [List.append_assoc]; rfl) ?_
  refine dl_put (pc := 26) C hin_X6_init_X6 tyX6 tyX6_ok nmX6 (X.length + 0) (dl_tg 0 rfl) rfl 3 (by decide) (by decide +kernel) rfl rfl (ty := (.array .int)) rfl rfl rfl (Nat.le_of_ble_eq_true rfl) dX6_init_26 (ws' := X ++ [(a, .inr (6, [.null, .ref r1, .ref r2, .ref r3, .int 0, .int 0, .int 0, .int 0, .int 0])), (r1, .inl (cI, 10, .inl (fun _ => 0))), (r2, .inl (cI, 1001, .inl (fun _ => 0))), (r3, .inl (cI, 64, .inl (fun _ => 0)))]) (dl_ts 0) ?_
  refine dl_aload_n (pc := 29) C 0 dX6_init_29 rfl rfl ?_
  refine dl_iconst (pc := 30) C (-1) dX6_init_30 (by decide) ?_
  refine dl_put (pc := 31) C hin_X6_init_X6 tyX6 tyX6_ok nmX6 (X.length + 0) (dl_tg 0 rfl) rfl 8 (by decide) (by decide +kernel) rfl rfl (ty := .int) rfl (vp_nar_int _) rfl (Nat.le_of_ble_eq_true rfl) dX6_init_31 (ws' := X ++ [(a, .inr (6, [.null, .ref r1, .ref r2, .ref r3, .int 0, .int 0, .int 0, .int 0, .int (-1)])), (r1, .inl (cI, 10, .inl (fun _ => 0))), (r2, .inl (cI, 1001, .inl (fun _ => 0))), (r3, .inl (cI, 64, .inl (fun _ => 0)))]) (dl_ts 0) ?_
  refine dl_aload_n (pc := 34) C 0 dX6_init_34 rfl rfl ?_
  refine dl_aload_n (pc := 35) C 1 dX6_init_35 rfl rfl ?_
  refine dl_putF (pc := 36) C hi hin_X6_init_X6 tyX6 tyX6_ok nmX6 (X.length + 0) (dl_tg 0 rfl) rfl 0 (by decide) (by decide +kernel) rfl rfl rfl (ty := (.object "DripLines$Net")) rfl rfl rfl (Nat.le_of_ble_eq_true rfl) dX6_init_36 (ws' := X ++ [(a, .inr (6, [.ref n, .ref r1, .ref r2, .ref r3, .int 0, .int 0, .int 0, .int 0, .int (-1)])), (r1, .inl (cI, 10, .inl (fun _ => 0))), (r2, .inl (cI, 1001, .inl (fun _ => 0))), (r3, .inl (cI, 64, .inl (fun _ => 0)))]) (dl_ts 0) ?_
  exact hQ 39 _ _ ⟨r1, r2, r3, rfl⟩ dX6_init_39
theorem hin_X7_init_X7 : ∀ w ∈ u_ws RX7 TX7 8, w ∈ wsX7_init := fun _ h => List.mem_cons_of_mem _ (List.mem_append_right _ h)
set_option maxHeartbeats 8000000 in
set_option maxRecDepth 100000 in
theorem ccl7_init (l : Launch) (D : va_G) (cI : ClassId) (TY : dl_TY) (hTY : TY[0]? = some (cI, .int)) (nw : List Cond) (X : va_W) (a n : Nat) : dl_CtV l D TY nw yX7_init wsX7_init { frames := 1, cells := 3, slots := 50, locals := 12 } 3 50 [.ref a, .ref n] (X ++ [(a, .inr (7, [.null, .null, .null, .null, .int 0, .int 0, .int 0, .int 0]))]) (fun u => ∃ r1 r2 r3 : Nat, u = X ++ [(a, .inr (7, [.ref n, .ref r1, .ref r2, .ref r3, .int 0, .int 0, .int 0, .int (-1)])), (r1, .inl (cI, 20, .inl (fun _ => 0))), (r2, .inl (cI, 20, .inl (fun _ => 0))), (r3, .inl (cI, 10, .inl (fun _ => 0)))]) := by
  refine dl_metC [(0, .ref a), (1, .ref n)] (by decide) rfl rfl (Nat.le_of_ble_eq_true rfl) rfl ?_
  intro p e s m args below meth c Q A hi C hQ
  refine dl_aload_n (pc := 0) C 0 dX7_init_0 rfl rfl ?_
  refine dl_objInit (pc := 1) C (by decide +kernel) (by decide +kernel) (by decide +kernel) dX7_init_1 (Nat.le_of_ble_eq_true rfl) (Nat.le_of_ble_eq_true rfl) ?_
  refine dl_aload_n (pc := 4) C 0 dX7_init_4 rfl rfl ?_
  refine dl_bipush (pc := 5) C 20 dX7_init_5 (by decide) ?_
  refine dl_newa (pc := 7) C hTY (by decide +kernel) (N' := 20) (by decide) (by decide) (by decide) ⟨Nat.le_of_ble_eq_true rfl, Nat.le_of_ble_eq_true rfl⟩ dX7_init_7 (fun r1 => ?_)
  refine dl_wid (mc := 1) (ms := 20) (Nat.le_of_ble_eq_true rfl) (Nat.le_of_ble_eq_true rfl) ?_
  refine dl_eqw (X ++ [(a, .inr (7, [.null, .null, .null, .null, .int 0, .int 0, .int 0, .int 0])), (r1, .inl (cI, 20, .inl (fun _ => 0)))]) (by rw [List.append_assoc]; rfl) ?_
  refine dl_putF (pc := 9) C hi hin_X7_init_X7 tyX7 tyX7_ok nmX7 (X.length + 0) (dl_tg 0 rfl) rfl 1 (by decide) (by decide +kernel) rfl rfl rfl (ty := (.array .int)) rfl rfl rfl (Nat.le_of_ble_eq_true rfl) dX7_init_9 (ws' := X ++ [(a, .inr (7, [.null, .ref r1, .null, .null, .int 0, .int 0, .int 0, .int 0])), (r1, .inl (cI, 20, .inl (fun _ => 0)))]) (dl_ts 0) ?_
  refine dl_aload_n (pc := 12) C 0 dX7_init_12 rfl rfl ?_
  refine dl_bipush (pc := 13) C 20 dX7_init_13 (by decide) ?_
  refine dl_newa (pc := 15) C hTY (by decide +kernel) (N' := 20) (by decide) (by decide) (by decide) ⟨Nat.le_of_ble_eq_true rfl, Nat.le_of_ble_eq_true rfl⟩ dX7_init_15 (fun r2 => ?_)
  refine dl_wid (mc := 2) (ms := 40) (Nat.le_of_ble_eq_true rfl) (Nat.le_of_ble_eq_true rfl) ?_
  refine dl_eqw (X ++ [(a, .inr (7, [.null, .ref r1, .null, .null, .int 0, .int 0, .int 0, .int 0])), (r1, .inl (cI, 20, .inl (fun _ => 0))), (r2, .inl (cI, 20, .inl (fun _ => 0)))]) (by rw [List.append_assoc]; rfl) ?_
  refine dl_putF (pc := 17) C hi hin_X7_init_X7 tyX7 tyX7_ok nmX7 (X.length + 0) (dl_tg 0 rfl) rfl 2 (by decide) (by decide +kernel) rfl rfl rfl (ty := (.array .int)) rfl rfl rfl (Nat.le_of_ble_eq_true rfl) dX7_init_17 (ws' := X ++ [(a, .inr (7, [.null, .ref r1, .ref r2, .null, .int 0, .int 0, .int 0, .int 0])), (r1, .inl (cI, 20, .inl (fun _ => 0))), (r2, .inl (cI, 20, .inl (fun _ => 0)))]) (dl_ts 0) ?_
  refine dl_aload_n (pc := 20) C 0 dX7_init_20 rfl rfl ?_
  refine dl_bipush (pc := 21) C 10 dX7_init_21 (by decide) ?_
  refine dl_newa (pc := 23) C hTY (by decide +kernel) (N' := 10) (by decide) (by decide) (by decide) ⟨Nat.le_of_ble_eq_true rfl, Nat.le_of_ble_eq_true rfl⟩ dX7_init_23 (fun r3 => ?_)
  refine dl_wid (mc := 3) (ms := 50) (Nat.le_of_ble_eq_true rfl) (Nat.le_of_ble_eq_true rfl) ?_
  refine dl_eqw (X ++ [(a, .inr (7, [.null, .ref r1, .ref r2, .null, .int 0, .int 0, .int 0, .int 0])), (r1, .inl (cI, 20, .inl (fun _ => 0))), (r2, .inl (cI, 20, .inl (fun _ => 0))), (r3, .inl (cI, 10, .inl (fun _ => 0)))]) (by rw [List.append_assoc]; rfl) ?_
  refine dl_putF (pc := 25) C hi hin_X7_init_X7 tyX7 tyX7_ok nmX7 (X.length + 0) (dl_tg 0 rfl) rfl 3 (by decide) (by decide +kernel) rfl rfl rfl (ty := (.array .int)) rfl rfl rfl (Nat.le_of_ble_eq_true rfl) dX7_init_25 (ws' := X ++ [(a, .inr (7, [.null, .ref r1, .ref r2, .ref r3, .int 0, .int 0, .int 0, .int 0])), (r1, .inl (cI, 20, .inl (fun _ => 0))), (r2, .inl (cI, 20, .inl (fun _ => 0))), (r3, .inl (cI, 10, .inl (fun _ => 0)))]) (dl_ts 0) ?_
  refine dl_aload_n (pc := 28) C 0 dX7_init_28 rfl rfl ?_
  refine dl_iconst (pc := 29) C (-1) dX7_init_29 (by decide) ?_
  refine dl_put (pc := 30) C hin_X7_init_X7 tyX7 tyX7_ok nmX7 (X.length + 0) (dl_tg 0 rfl) rfl 7 (by decide) (by decide +kernel) rfl rfl (ty := .int) rfl (vp_nar_int _) rfl (Nat.le_of_ble_eq_true rfl) dX7_init_30 (ws' := X ++ [(a, .inr (7, [.null, .ref r1, .ref r2, .ref r3, .int 0, .int 0, .int 0, .int (-1)])), (r1, .inl (cI, 20, .inl (fun _ => 0))), (r2, .inl (cI, 20, .inl (fun _ => 0))), (r3, .inl (cI, 10, .inl (fun _ => 0)))]) (dl_ts 0) ?_
  refine dl_aload_n (pc := 33) C 0 dX7_init_33 rfl rfl ?_
  refine dl_aload_n (pc := 34) C 1 dX7_init_34 rfl rfl ?_
  refine dl_putF (pc := 35) C hi hin_X7_init_X7 tyX7 tyX7_ok nmX7 (X.length + 0) (dl_tg 0 rfl) rfl 0 (by decide) (by decide +kernel) rfl rfl rfl (ty := (.object "DripLines$Net")) rfl rfl rfl (Nat.le_of_ble_eq_true rfl) dX7_init_35 (ws' := X ++ [(a, .inr (7, [.ref n, .ref r1, .ref r2, .ref r3, .int 0, .int 0, .int 0, .int (-1)])), (r1, .inl (cI, 20, .inl (fun _ => 0))), (r2, .inl (cI, 20, .inl (fun _ => 0))), (r3, .inl (cI, 10, .inl (fun _ => 0)))]) (dl_ts 0) ?_
  exact hQ 38 _ _ ⟨r1, r2, r3, rfl⟩ dX7_init_38
