theorem dl_astoreN {p : Program} {l : Launch} {e : Env} {R : Room} {s : State} {m : MethodId} {args : Array Value} {below : List Frame} {meth : Method} {c : Code} {Q : State → Prop} {A : Nat → Prop} {D : va_G} {TY : dl_TY} {nw : List Cond} {cc : ByteArray} {nL cells slots pc : Nat} {lv : List (Nat × Value)} {st : List Value} {ws : va_W} {own : String} {Ts : List Cond} (C : dl_Cx p s m args c A D TY nw cc nL own Ts) {i : Nat} (lv2 : List (Nat × Value)) (hd : decode cc pc = .ok (.astore i, 2)) (hn : i < nL) (hl2 : (i, Value.null) :: lv.filter (fun q => !(q.1 == i) && !(q.1 + 1 == i && q.2.category == 2)) = lv2) (k : dl_At p l e R s m args below meth c Q A D nL cells slots (pc + 2) lv2 st ws) : dl_At p l e R s m args below meth c Q A D nL cells slots pc lv (.null :: st) ws :=
  fun H locs ls hP hD hS hl => lv_astoreN C.1 C.2.1 hd hl hn hl2 (fun ls' hl' => k H locs ls' hP hD hS hl')
theorem dl_aloadN {p : Program} {l : Launch} {e : Env} {R : Room} {s : State} {m : MethodId} {args : Array Value} {below : List Frame} {meth : Method} {c : Code} {Q : State → Prop} {A : Nat → Prop} {D : va_G} {TY : dl_TY} {nw : List Cond} {cc : ByteArray} {nL cells slots pc : Nat} {lv : List (Nat × Value)} {st : List Value} {ws : va_W} {own : String} {Ts : List Cond} (C : dl_Cx p s m args c A D TY nw cc nL own Ts) (j : Nat) {i : Nat} (hd : decode cc pc = .ok (.aload i, 2)) (hj : lv[j]? = some (i, .null)) (k : dl_At p l e R s m args below meth c Q A D nL cells slots (pc + 2) lv (.null :: st) ws) : dl_At p l e R s m args below meth c Q A D nL cells slots pc lv st ws :=
  fun H locs ls hP hD hS hl => lv_aloadN C.1 C.2.1 hd (lv_at hl j hj) (k H locs ls hP hD hS hl)
theorem dl_ifnullN {p : Program} {l : Launch} {e : Env} {R : Room} {s : State} {m : MethodId} {args : Array Value} {below : List Frame} {meth : Method} {c : Code} {Q : State → Prop} {A : Nat → Prop} {D : va_G} {TY : dl_TY} {nw : List Cond} {cc : ByteArray} {nL cells slots pc : Nat} {lv : List (Nat × Value)} {st : List Value} {ws : va_W} {own : String} {Ts : List Cond} (C : dl_Cx p s m args c A D TY nw cc nL own Ts) {off : Int} (tgt : Nat) (hd : decode cc pc = .ok (.ifnull off, 3)) (ht : (pc : Int) + off = (tgt : Int)) (k : dl_At p l e R s m args below meth c Q A D nL cells slots tgt lv st ws) : dl_At p l e R s m args below meth c Q A D nL cells slots pc lv (.null :: st) ws :=
  fun H locs ls hP hD hS hl => lv_ifnullN C.1 C.2.1 hd ht (k H locs ls hP hD hS hl)
theorem cc_qs {cI cP cII : ClassId} {ad : Nat → Nat} {pr : Nat → Option Nat} {g : dl_Sg} {R : va_W} {q : Nat} {x : Nat × va_E} : (cc_w cI cP cII ad pr g ++ R).set (33 + q) x = cc_w cI cP cII ad pr g ++ R.set q x := by
  rw [List.set_append_right _ _ (show 33 ≤ 33 + q from Nat.le_add_right _ _)]
  show cc_w cI cP cII ad pr g ++ R.set (33 + q - 33) x = _
  rw [Nat.add_sub_cancel_left]
/-- what a place's count of streets is does not matter -/
def dl_okk (ad : Nat → Nat) (pr : Nat → Option Nat) (R R1 : va_W) : Prop := (∀ g : dl_Sg, cc_ok ad pr g R → cc_ok ad pr g R1) ∧ (R1 = R ∨ ∃ (q a c t : Nat) (nr w st d : Int32), R[q]? = some (a, .inr (c, [.int nr, .int w, .ref t, .int st])) ∧ R1 = R.set q (a, .inr (c, [.int nr, .int w, .ref t, .int d])))
theorem dl_okk_rf {ad : Nat → Nat} {pr : Nat → Option Nat} {R : va_W} : dl_okk ad pr R R := ⟨fun _ h => h, Or.inl rfl⟩
theorem dl_okk_set {ad : Nat → Nat} {pr : Nat → Option Nat} {R : va_W} {q a c t : Nat} {nr w st d : Int32} (hq : R[q]? = some (a, .inr (c, [.int nr, .int w, .ref t, .int st]))) : dl_okk ad pr R (R.set q (a, .inr (c, [.int nr, .int w, .ref t, .int d]))) := by
  refine ⟨?_, Or.inr ⟨q, a, c, t, nr, w, st, d, hq, rfl⟩⟩
  intro g h p hp
  obtain ⟨q1, a1, st1, h1, h2⟩ := h p hp
  by_cases e : q1 = q
  · subst e
    have h3 := Option.some.inj (hq.symm.trans h2)
    cases h3
    exact ⟨q1, a, d, h1, by rw [List.getElem?_set_self (List.getElem?_eq_some_iff.mp hq).1]⟩
  · exact ⟨q1, a1, st1, h1, by rw [List.getElem?_set_ne (fun w => e w.symm)]; exact h2⟩
theorem hin_X11_act_X11 : ∀ w ∈ u_ws RX11 TX11 6, w ∈ wsX11_act := fun _ h => List.mem_cons_of_mem _ (List.mem_append_left _ (List.mem_append_left _ (List.mem_append_left _ (List.mem_append_left _ (List.mem_append_left _ (List.mem_append_left _ (List.mem_append_left _ (List.mem_append_right _ h))))))))
theorem hin_X11_act_X2 : ∀ w ∈ u_ws RX2 TX2 18, w ∈ wsX11_act := fun _ h => List.mem_cons_of_mem _ (List.mem_append_left _ (List.mem_append_right _ h))
theorem hin_X11_act_X5 : ∀ w ∈ u_ws RX5 TX5 2, w ∈ wsX11_act := fun _ h => List.mem_cons_of_mem _ (List.mem_append_right _ h)
theorem hin_X11_act_X0 : ∀ w ∈ u_ws RX0 TX0 4, w ∈ wsX11_act := fun _ h => List.mem_cons_of_mem _ (List.mem_append_left _ (List.mem_append_left _ (List.mem_append_left _ (List.mem_append_left _ (List.mem_append_left _ (List.mem_append_left _ (List.mem_append_right _ h)))))))
theorem hin_X11_act_X3 : ∀ w ∈ u_ws RX3 TX3 4, w ∈ wsX11_act := fun _ h => List.mem_cons_of_mem _ (List.mem_append_left _ (List.mem_append_left _ (List.mem_append_left _ (List.mem_append_left _ (List.mem_append_left _ (List.mem_append_right _ h))))))
theorem hin_X11_act_X4 : ∀ w ∈ u_ws RX4 TX4 4, w ∈ wsX11_act := fun _ h => List.mem_cons_of_mem _ (List.mem_append_left _ (List.mem_append_left _ (List.mem_append_left _ (List.mem_append_left _ (List.mem_append_right _ h)))))
theorem hin_X11_act_X9 : ∀ w ∈ u_ws RX9 TX9 4, w ∈ wsX11_act := fun _ h => List.mem_cons_of_mem _ (List.mem_append_left _ (List.mem_append_left _ (List.mem_append_left _ (List.mem_append_right _ h))))
theorem hin_X11_act_X10 : ∀ w ∈ u_ws RX10 TX10 4, w ∈ wsX11_act := fun _ h => List.mem_cons_of_mem _ (List.mem_append_left _ (List.mem_append_left _ (List.mem_append_right _ h)))
set_option maxHeartbeats 4000000 in
set_option maxRecDepth 100000 in
theorem ps_act {p : Program} {e : Env} {s : State} {m : MethodId} {args : Array Value} {below : List Frame} {meth : Method} {c : Code} {Q : State → Prop} {A : Nat → Prop} (l : Launch) (D : va_G) (cI cP cII : ClassId) (TY : dl_TY) (hTY : TY[0]? = some (cI, .int)) (ad : Nat → Nat) (pr : Nat → Option Nat) (R : va_W) (g : dl_Sg) {pc : Nat} {lv : List (Nat × Value)} {stk : List Value} (C : dl_Cx p s m args c A D TY cc_nw cX11_act 5 yX11_act.cls wsX11_act) {q a : Nat} {k nr w st : Int32} (hq : R[q]? = some (a, .inr (cc_ci k, [.int nr, .int w, .ref (ad 6), .int st]))) {v : Int32} (hd : decode cX11_act pc = .ok (.putfield 202, 3)) (kk : dl_At p l e (headSpec wsX11_act { frames := 7, cells := 0, slots := 0, locals := 147 }).room s m args below meth c Q A D 5 0 0 (pc + 3) lv stk (cc_w cI cP cII ad pr g ++ R.set q (a, .inr (cc_ci k, [.int nr, .int w, .ref (ad 6), .int v])))) : dl_At p l e (headSpec wsX11_act { frames := 7, cells := 0, slots := 0, locals := 147 }).room s m args below meth c Q A D 5 0 0 pc lv (.int v :: .ref a :: stk) (cc_w cI cP cII ad pr g ++ R) := by
  by_cases q1 : k = 1
  · rw [show cc_ci k = 4 by rw [q1]; rfl] at hq kk
    exact dl_put C hin_X11_act_X4 tyX4 tyX4_ok nmX4 (33 + q) (cc_q hq) rfl 3 (by decide) (show Cond.fieldLink yX11_act.cls 202 "DripLines$Place" (TX4 3).2.1 (TX4 3).2.2.1 ∈ wsX11_act by decide +kernel) rfl rfl (ty := .int) rfl (vp_nar_int _) rfl (Nat.le_of_ble_eq_true rfl) hd cc_qs kk
  by_cases q2 : k = 2
  · rw [show cc_ci k = 10 by rw [q2]; rfl] at hq kk
    exact dl_put C hin_X11_act_X10 tyX10 tyX10_ok nmX10 (33 + q) (cc_q hq) rfl 3 (by decide) (show Cond.fieldLink yX11_act.cls 202 "DripLines$Place" (TX10 3).2.1 (TX10 3).2.2.1 ∈ wsX11_act by decide +kernel) rfl rfl (ty := .int) rfl (vp_nar_int _) rfl (Nat.le_of_ble_eq_true rfl) hd cc_qs kk
  by_cases q3 : k = 3
  · rw [show cc_ci k = 9 by rw [q3]; rfl] at hq kk
    exact dl_put C hin_X11_act_X9 tyX9 tyX9_ok nmX9 (33 + q) (cc_q hq) rfl 3 (by decide) (show Cond.fieldLink yX11_act.cls 202 "DripLines$Place" (TX9 3).2.1 (TX9 3).2.2.1 ∈ wsX11_act by decide +kernel) rfl rfl (ty := .int) rfl (vp_nar_int _) rfl (Nat.le_of_ble_eq_true rfl) hd cc_qs kk
  by_cases q4 : k = 4
  · rw [show cc_ci k = 0 by rw [q4]; rfl] at hq kk
    exact dl_put C hin_X11_act_X0 tyX0 tyX0_ok nmX0 (33 + q) (cc_q hq) rfl 3 (by decide) (show Cond.fieldLink yX11_act.cls 202 "DripLines$Place" (TX0 3).2.1 (TX0 3).2.2.1 ∈ wsX11_act by decide +kernel) rfl rfl (ty := .int) rfl (vp_nar_int _) rfl (Nat.le_of_ble_eq_true rfl) hd cc_qs kk
  rw [cc_ci0 q1 q2 q3 q4] at hq kk
  exact dl_put C hin_X11_act_X3 tyX3 tyX3_ok nmX3 (33 + q) (cc_q hq) rfl 3 (by decide) (show Cond.fieldLink yX11_act.cls 202 "DripLines$Place" (TX3 3).2.1 (TX3 3).2.2.1 ∈ wsX11_act by decide +kernel) rfl rfl (ty := .int) rfl (vp_nar_int _) rfl (Nat.le_of_ble_eq_true rfl) hd cc_qs kk
set_option maxHeartbeats 4000000 in
set_option maxRecDepth 100000 in
theorem ac_join {p : Program} {e : Env} {s : State} {m : MethodId} {args : Array Value} {below : List Frame} {meth : Method} {c : Code} {Q : State → Prop} {A : Nat → Prop} (l : Launch) (D : va_G) (cI cP cII : ClassId) (TY : dl_TY) (hTY : TY[0]? = some (cI, .int)) (ad : Nat → Nat) (pr : Nat → Option Nat) (R : va_W) (g : dl_Sg) {pc : Nat} {lv : List (Nat × Value)} {stk : List Value} (C : dl_Cx p s m args c A D TY cc_nw cX11_act 5 yX11_act.cls wsX11_act) {q a : Nat} {k nr w st : Int32} (hq : R[q]? = some (a, .inr (cc_ci k, [.int nr, .int w, .ref (ad 6), .int st]))) {x r0 : Int32} {g0 : dl_Sg} (h : cc_join k g nr w st x = some (r0, g0)) (hd : decode cX11_act pc = .ok (.invokevirtual 205, 3)) (hroom : (stk.map fun v => v.category).sum ≤ 8) (kk : dl_At p l e (headSpec wsX11_act { frames := 7, cells := 0, slots := 0, locals := 147 }).room s m args below meth c Q A D 5 0 0 (pc + 3) lv (.int r0 :: stk) (cc_w cI cP cII ad pr g0 ++ R)) : dl_At p l e (headSpec wsX11_act { frames := 7, cells := 0, slots := 0, locals := 147 }).room s m args below meth c Q A D 5 0 0 pc lv (.int x :: .ref a :: stk) (cc_w cI cP cII ad pr g ++ R) := by
  unfold cc_join at h
  by_cases q1 : k = 1
  · rw [show cc_ci k = 4 by rw [q1]; rfl] at hq
    rw [if_pos q1] at h
    refine dl_vIU0 C (cplX4_X3_join l D cI cP cII TY hTY ad pr R q a nr w st hq _ _ h) (va_cwU 1 C.2.2.2.2.1 gX11_act_X3_join_u205X4 rfl rfl rfl rfl (by decide +kernel) ⟨Nat.le_of_ble_eq_true rfl, Nat.le_of_ble_eq_true rfl⟩) (33 + q) 4 (cc_q hq) rfl rfl rfl hroom hd ⟨Nat.zero_le _, Nat.zero_le _⟩ (fun r u hp => ?_)
    obtain ⟨rfl, rfl⟩ := hp
    exact kk
  rw [if_neg q1] at h
  by_cases q2 : k = 2
  · rw [show cc_ci k = 10 by rw [q2]; rfl] at hq
    rw [if_pos q2] at h
    refine dl_vIU0 C (cplX10_X3_join l D cI cP cII TY hTY ad pr R q a nr w st hq _ _ h) (va_cwU 1 C.2.2.2.2.1 gX11_act_X3_join_u205X10 rfl rfl rfl rfl (by decide +kernel) ⟨Nat.le_of_ble_eq_true rfl, Nat.le_of_ble_eq_true rfl⟩) (33 + q) 10 (cc_q hq) rfl rfl rfl hroom hd ⟨Nat.zero_le _, Nat.zero_le _⟩ (fun r u hp => ?_)
    obtain ⟨rfl, rfl⟩ := hp
    exact kk
  rw [if_neg q2] at h
  by_cases q3 : k = 3
  · rw [show cc_ci k = 9 by rw [q3]; rfl] at hq
    rw [if_pos q3] at h
    refine dl_vIU0 C (cplX9_X9_join l D cI cP cII TY hTY ad pr R q a nr w st hq _ _ h) (va_cwO 1 C.2.2.2.2.1 gX11_act_X9_join_u205X9 rfl rfl rfl (b0 := cX3_join) (m0 := 2) (r0 := some .int) (by decide +kernel) (by decide +kernel) ⟨Nat.le_of_ble_eq_true rfl, Nat.le_of_ble_eq_true rfl⟩) (33 + q) 9 (cc_q hq) rfl rfl rfl hroom hd ⟨Nat.zero_le _, Nat.zero_le _⟩ (fun r u hp => ?_)
    obtain ⟨rfl, rfl⟩ := hp
    exact kk
  rw [if_neg q3] at h
  by_cases q4 : k = 4
  · rw [show cc_ci k = 0 by rw [q4]; rfl] at hq
    rw [if_pos q4] at h
    refine dl_vIU0 C (cplX0_X3_join l D cI cP cII TY hTY ad pr R q a nr w st hq _ _ h) (va_cwU 1 C.2.2.2.2.1 gX11_act_X3_join_u205X0 rfl rfl rfl rfl (by decide +kernel) ⟨Nat.le_of_ble_eq_true rfl, Nat.le_of_ble_eq_true rfl⟩) (33 + q) 0 (cc_q hq) rfl rfl rfl hroom hd ⟨Nat.zero_le _, Nat.zero_le _⟩ (fun r u hp => ?_)
    obtain ⟨rfl, rfl⟩ := hp
    exact kk
  rw [if_neg q4] at h
  rw [cc_ci0 q1 q2 q3 q4] at hq
  refine dl_vI0 C (cplX3_X3_join l D cI cP cII TY hTY ad pr R q a nr w st hq _ _ h) (cwV 1 C.2.2.2.2.1 gX11_act_X3_join rfl rfl rfl (by decide +kernel) ⟨Nat.le_of_ble_eq_true rfl, Nat.le_of_ble_eq_true rfl⟩) (33 + q) 3 (cc_q hq) rfl rfl rfl hroom hd ⟨Nat.zero_le _, Nat.zero_le _⟩ (fun r u hp => ?_)
  obtain ⟨rfl, rfl⟩ := hp
  exact kk
set_option maxHeartbeats 4000000 in
set_option maxRecDepth 100000 in
theorem ac_cost {p : Program} {e : Env} {s : State} {m : MethodId} {args : Array Value} {below : List Frame} {meth : Method} {c : Code} {Q : State → Prop} {A : Nat → Prop} (l : Launch) (D : va_G) (cI cP cII : ClassId) (TY : dl_TY) (hTY : TY[0]? = some (cI, .int)) (ad : Nat → Nat) (pr : Nat → Option Nat) (R : va_W) (g : dl_Sg) {pc : Nat} {lv : List (Nat × Value)} {stk : List Value} (C : dl_Cx p s m args c A D TY cc_nw cX11_act 5 yX11_act.cls wsX11_act) {q a : Nat} {k nr w st : Int32} (hq : R[q]? = some (a, .inr (cc_ci k, [.int nr, .int w, .ref (ad 6), .int st]))) {x r0 : Int32} {g0 : dl_Sg} (h : cc_cost k g nr w st x = some (r0, g0)) (hd : decode cX11_act pc = .ok (.invokevirtual 208, 3)) (hroom : (stk.map fun v => v.category).sum ≤ 8) (kk : dl_At p l e (headSpec wsX11_act { frames := 7, cells := 0, slots := 0, locals := 147 }).room s m args below meth c Q A D 5 0 0 (pc + 3) lv (.int r0 :: stk) (cc_w cI cP cII ad pr g0 ++ R)) : dl_At p l e (headSpec wsX11_act { frames := 7, cells := 0, slots := 0, locals := 147 }).room s m args below meth c Q A D 5 0 0 pc lv (.int x :: .ref a :: stk) (cc_w cI cP cII ad pr g ++ R) := by
  unfold cc_cost at h
  by_cases q1 : k = 1
  · rw [show cc_ci k = 4 by rw [q1]; rfl] at hq
    rw [if_pos q1] at h
    refine dl_vIU0 C (cplX4_X4_cost l D cI cP cII TY hTY ad pr R q a nr w st hq _ _ h) (va_cwO 1 C.2.2.2.2.1 gX11_act_X4_cost_u208X4 rfl rfl rfl (b0 := cX3_cost) (m0 := 2) (r0 := some .int) (by decide +kernel) (by decide +kernel) ⟨Nat.le_of_ble_eq_true rfl, Nat.le_of_ble_eq_true rfl⟩) (33 + q) 4 (cc_q hq) rfl rfl rfl hroom hd ⟨Nat.zero_le _, Nat.zero_le _⟩ (fun r u hp => ?_)
    obtain ⟨rfl, rfl⟩ := hp
    exact kk
  rw [if_neg q1] at h
  by_cases q2 : k = 2
  · rw [show cc_ci k = 10 by rw [q2]; rfl] at hq
    rw [if_pos q2] at h
    refine dl_vIU0 C (cplX10_X3_cost l D cI cP cII TY hTY ad pr R q a nr w st hq _ _ h) (va_cwU 1 C.2.2.2.2.1 gX11_act_X3_cost_u208X10 rfl rfl rfl rfl (by decide +kernel) ⟨Nat.le_of_ble_eq_true rfl, Nat.le_of_ble_eq_true rfl⟩) (33 + q) 10 (cc_q hq) rfl rfl rfl hroom hd ⟨Nat.zero_le _, Nat.zero_le _⟩ (fun r u hp => ?_)
    obtain ⟨rfl, rfl⟩ := hp
    exact kk
  rw [if_neg q2] at h
  by_cases q3 : k = 3
  · rw [show cc_ci k = 9 by rw [q3]; rfl] at hq
    rw [if_pos q3] at h
    refine dl_vIU0 C (cplX9_X4_cost l D cI cP cII TY hTY ad pr R q a nr w st hq _ _ h) (va_cwO 1 C.2.2.2.2.1 gX11_act_X4_cost_u208X9 rfl rfl rfl (b0 := cX3_cost) (m0 := 2) (r0 := some .int) (by decide +kernel) (by decide +kernel) ⟨Nat.le_of_ble_eq_true rfl, Nat.le_of_ble_eq_true rfl⟩) (33 + q) 9 (cc_q hq) rfl rfl rfl hroom hd ⟨Nat.zero_le _, Nat.zero_le _⟩ (fun r u hp => ?_)
    obtain ⟨rfl, rfl⟩ := hp
    exact kk
  rw [if_neg q3] at h
  by_cases q4 : k = 4
  · rw [show cc_ci k = 0 by rw [q4]; rfl] at hq
    rw [if_pos q4] at h
    refine dl_vIU0 C (cplX0_X0_cost l D cI cP cII TY hTY ad pr R q a nr w st hq _ _ h) (va_cwO 1 C.2.2.2.2.1 gX11_act_X0_cost_u208X0 rfl rfl rfl (b0 := cX3_cost) (m0 := 2) (r0 := some .int) (by decide +kernel) (by decide +kernel) ⟨Nat.le_of_ble_eq_true rfl, Nat.le_of_ble_eq_true rfl⟩) (33 + q) 0 (cc_q hq) rfl rfl rfl hroom hd ⟨Nat.zero_le _, Nat.zero_le _⟩ (fun r u hp => ?_)
    obtain ⟨rfl, rfl⟩ := hp
    exact kk
  rw [if_neg q4] at h
  rw [cc_ci0 q1 q2 q3 q4] at hq
  refine dl_vI0 C (cplX3_X3_cost l D cI cP cII TY hTY ad pr R q a nr w st hq _ _ h) (cwV 1 C.2.2.2.2.1 gX11_act_X3_cost rfl rfl rfl (by decide +kernel) ⟨Nat.le_of_ble_eq_true rfl, Nat.le_of_ble_eq_true rfl⟩) (33 + q) 3 (cc_q hq) rfl rfl rfl hroom hd ⟨Nat.zero_le _, Nat.zero_le _⟩ (fun r u hp => ?_)
  obtain ⟨rfl, rfl⟩ := hp
  exact kk
set_option maxHeartbeats 4000000 in
set_option maxRecDepth 100000 in
theorem ac_ask {p : Program} {e : Env} {s : State} {m : MethodId} {args : Array Value} {below : List Frame} {meth : Method} {c : Code} {Q : State → Prop} {A : Nat → Prop} (l : Launch) (D : va_G) (cI cP cII : ClassId) (TY : dl_TY) (hTY : TY[0]? = some (cI, .int)) (ad : Nat → Nat) (pr : Nat → Option Nat) (R : va_W) (g : dl_Sg) {pc : Nat} {lv : List (Nat × Value)} {stk : List Value} (C : dl_Cx p s m args c A D TY cc_nw cX11_act 5 yX11_act.cls wsX11_act) {q a : Nat} {k nr w st : Int32} (hq : R[q]? = some (a, .inr (cc_ci k, [.int nr, .int w, .ref (ad 6), .int st]))) {x r0 : Int32} {g0 : dl_Sg} (h : cc_ask k g nr w st x = some (r0, g0)) (hd : decode cX11_act pc = .ok (.invokevirtual 210, 3)) (hroom : (stk.map fun v => v.category).sum ≤ 8) (kk : dl_At p l e (headSpec wsX11_act { frames := 7, cells := 0, slots := 0, locals := 147 }).room s m args below meth c Q A D 5 0 0 (pc + 3) lv (.int r0 :: stk) (cc_w cI cP cII ad pr g0 ++ R)) : dl_At p l e (headSpec wsX11_act { frames := 7, cells := 0, slots := 0, locals := 147 }).room s m args below meth c Q A D 5 0 0 pc lv (.int x :: .ref a :: stk) (cc_w cI cP cII ad pr g ++ R) := by
  unfold cc_ask at h
  by_cases q1 : k = 1
  · rw [show cc_ci k = 4 by rw [q1]; rfl] at hq
    rw [if_pos q1] at h
    refine dl_vIU0 C (cplX4_X3_ask l D cI cP cII TY hTY ad pr R q a nr w st hq _ _ h) (va_cwU 1 C.2.2.2.2.1 gX11_act_X3_ask_u210X4 rfl rfl rfl rfl (by decide +kernel) ⟨Nat.le_of_ble_eq_true rfl, Nat.le_of_ble_eq_true rfl⟩) (33 + q) 4 (cc_q hq) rfl rfl rfl hroom hd ⟨Nat.zero_le _, Nat.zero_le _⟩ (fun r u hp => ?_)
    obtain ⟨rfl, rfl⟩ := hp
    exact kk
  rw [if_neg q1] at h
  by_cases q2 : k = 2
  · rw [show cc_ci k = 10 by rw [q2]; rfl] at hq
    rw [if_pos q2] at h
    refine dl_vIU0 C (cplX10_X10_ask l D cI cP cII TY hTY ad pr R q a nr w st hq _ _ h) (va_cwO 1 C.2.2.2.2.1 gX11_act_X10_ask_u210X10 rfl rfl rfl (b0 := cX3_ask) (m0 := 2) (r0 := some .int) (by decide +kernel) (by decide +kernel) ⟨Nat.le_of_ble_eq_true rfl, Nat.le_of_ble_eq_true rfl⟩) (33 + q) 10 (cc_q hq) rfl rfl rfl hroom hd ⟨Nat.zero_le _, Nat.zero_le _⟩ (fun r u hp => ?_)
    obtain ⟨rfl, rfl⟩ := hp
    exact kk
  rw [if_neg q2] at h
  by_cases q3 : k = 3
  · rw [show cc_ci k = 9 by rw [q3]; rfl] at hq
    rw [if_pos q3] at h
    refine dl_vIU0 C (cplX9_X9_ask l D cI cP cII TY hTY ad pr R q a nr w st hq _ _ h) (va_cwO 1 C.2.2.2.2.1 gX11_act_X9_ask_u210X9 rfl rfl rfl (b0 := cX3_ask) (m0 := 2) (r0 := some .int) (by decide +kernel) (by decide +kernel) ⟨Nat.le_of_ble_eq_true rfl, Nat.le_of_ble_eq_true rfl⟩) (33 + q) 9 (cc_q hq) rfl rfl rfl hroom hd ⟨Nat.zero_le _, Nat.zero_le _⟩ (fun r u hp => ?_)
    obtain ⟨rfl, rfl⟩ := hp
    exact kk
  rw [if_neg q3] at h
  by_cases q4 : k = 4
  · rw [show cc_ci k = 0 by rw [q4]; rfl] at hq
    rw [if_pos q4] at h
    refine dl_vIU0 C (cplX0_X3_ask l D cI cP cII TY hTY ad pr R q a nr w st hq _ _ h) (va_cwU 1 C.2.2.2.2.1 gX11_act_X3_ask_u210X0 rfl rfl rfl rfl (by decide +kernel) ⟨Nat.le_of_ble_eq_true rfl, Nat.le_of_ble_eq_true rfl⟩) (33 + q) 0 (cc_q hq) rfl rfl rfl hroom hd ⟨Nat.zero_le _, Nat.zero_le _⟩ (fun r u hp => ?_)
    obtain ⟨rfl, rfl⟩ := hp
    exact kk
  rw [if_neg q4] at h
  rw [cc_ci0 q1 q2 q3 q4] at hq
  refine dl_vI0 C (cplX3_X3_ask l D cI cP cII TY hTY ad pr R q a nr w st hq _ _ h) (cwV 1 C.2.2.2.2.1 gX11_act_X3_ask rfl rfl rfl (by decide +kernel) ⟨Nat.le_of_ble_eq_true rfl, Nat.le_of_ble_eq_true rfl⟩) (33 + q) 3 (cc_q hq) rfl rfl rfl hroom hd ⟨Nat.zero_le _, Nat.zero_le _⟩ (fun r u hp => ?_)
  obtain ⟨rfl, rfl⟩ := hp
  exact kk
set_option maxHeartbeats 4000000 in
set_option maxRecDepth 100000 in
theorem ac_tell {p : Program} {e : Env} {s : State} {m : MethodId} {args : Array Value} {below : List Frame} {meth : Method} {c : Code} {Q : State → Prop} {A : Nat → Prop} (l : Launch) (D : va_G) (cI cP cII : ClassId) (TY : dl_TY) (hTY : TY[0]? = some (cI, .int)) (ad : Nat → Nat) (pr : Nat → Option Nat) (R : va_W) (g : dl_Sg) {pc : Nat} {lv : List (Nat × Value)} {stk : List Value} (C : dl_Cx p s m args c A D TY cc_nw cX11_act 5 yX11_act.cls wsX11_act) {q a : Nat} {k nr w st : Int32} (hq : R[q]? = some (a, .inr (cc_ci k, [.int nr, .int w, .ref (ad 6), .int st]))) {x r0 : Int32} {g0 : dl_Sg} (h : cc_tell k g nr w st x = some (r0, g0)) (hd : decode cX11_act pc = .ok (.invokevirtual 213, 3)) (hroom : (stk.map fun v => v.category).sum ≤ 8) (kk : dl_At p l e (headSpec wsX11_act { frames := 7, cells := 0, slots := 0, locals := 147 }).room s m args below meth c Q A D 5 0 0 (pc + 3) lv (.int r0 :: stk) (cc_w cI cP cII ad pr g0 ++ R)) : dl_At p l e (headSpec wsX11_act { frames := 7, cells := 0, slots := 0, locals := 147 }).room s m args below meth c Q A D 5 0 0 pc lv (.int x :: .ref a :: stk) (cc_w cI cP cII ad pr g ++ R) := by
  unfold cc_tell at h
  by_cases q1 : k = 1
  · rw [show cc_ci k = 4 by rw [q1]; rfl] at hq
    rw [if_pos q1] at h
    refine dl_vIU0 C (cplX4_X4_tell l D cI cP cII TY hTY ad pr R q a nr w st hq _ _ h) (va_cwO 1 C.2.2.2.2.1 gX11_act_X4_tell_u213X4 rfl rfl rfl (b0 := cX3_tell) (m0 := 2) (r0 := some .int) (by decide +kernel) (by decide +kernel) ⟨Nat.le_of_ble_eq_true rfl, Nat.le_of_ble_eq_true rfl⟩) (33 + q) 4 (cc_q hq) rfl rfl rfl hroom hd ⟨Nat.zero_le _, Nat.zero_le _⟩ (fun r u hp => ?_)
    obtain ⟨rfl, rfl⟩ := hp
    exact kk
  rw [if_neg q1] at h
  by_cases q2 : k = 2
  · rw [show cc_ci k = 10 by rw [q2]; rfl] at hq
    rw [if_pos q2] at h
    refine dl_vIU0 C (cplX10_X3_tell l D cI cP cII TY hTY ad pr R q a nr w st hq _ _ h) (va_cwU 1 C.2.2.2.2.1 gX11_act_X3_tell_u213X10 rfl rfl rfl rfl (by decide +kernel) ⟨Nat.le_of_ble_eq_true rfl, Nat.le_of_ble_eq_true rfl⟩) (33 + q) 10 (cc_q hq) rfl rfl rfl hroom hd ⟨Nat.zero_le _, Nat.zero_le _⟩ (fun r u hp => ?_)
    obtain ⟨rfl, rfl⟩ := hp
    exact kk
  rw [if_neg q2] at h
  by_cases q3 : k = 3
  · rw [show cc_ci k = 9 by rw [q3]; rfl] at hq
    rw [if_pos q3] at h
    refine dl_vIU0 C (cplX9_X4_tell l D cI cP cII TY hTY ad pr R q a nr w st hq _ _ h) (va_cwO 1 C.2.2.2.2.1 gX11_act_X4_tell_u213X9 rfl rfl rfl (b0 := cX3_tell) (m0 := 2) (r0 := some .int) (by decide +kernel) (by decide +kernel) ⟨Nat.le_of_ble_eq_true rfl, Nat.le_of_ble_eq_true rfl⟩) (33 + q) 9 (cc_q hq) rfl rfl rfl hroom hd ⟨Nat.zero_le _, Nat.zero_le _⟩ (fun r u hp => ?_)
    obtain ⟨rfl, rfl⟩ := hp
    exact kk
  rw [if_neg q3] at h
  by_cases q4 : k = 4
  · rw [show cc_ci k = 0 by rw [q4]; rfl] at hq
    rw [if_pos q4] at h
    refine dl_vIU0 C (cplX0_X0_tell l D cI cP cII TY hTY ad pr R q a nr w st hq _ _ h) (va_cwO 1 C.2.2.2.2.1 gX11_act_X0_tell_u213X0 rfl rfl rfl (b0 := cX3_tell) (m0 := 2) (r0 := some .int) (by decide +kernel) (by decide +kernel) ⟨Nat.le_of_ble_eq_true rfl, Nat.le_of_ble_eq_true rfl⟩) (33 + q) 0 (cc_q hq) rfl rfl rfl hroom hd ⟨Nat.zero_le _, Nat.zero_le _⟩ (fun r u hp => ?_)
    obtain ⟨rfl, rfl⟩ := hp
    exact kk
  rw [if_neg q4] at h
  rw [cc_ci0 q1 q2 q3 q4] at hq
  refine dl_vI0 C (cplX3_X3_tell l D cI cP cII TY hTY ad pr R q a nr w st hq _ _ h) (cwV 1 C.2.2.2.2.1 gX11_act_X3_tell rfl rfl rfl (by decide +kernel) ⟨Nat.le_of_ble_eq_true rfl, Nat.le_of_ble_eq_true rfl⟩) (33 + q) 3 (cc_q hq) rfl rfl rfl hroom hd ⟨Nat.zero_le _, Nat.zero_le _⟩ (fun r u hp => ?_)
  obtain ⟨rfl, rfl⟩ := hp
  exact kk
def cl11_act (g : dl_Sg) (x1 x2 x3 : Int32) : Option (Int32 × dl_Sg) :=
    dl_bi (cl2_hasPlace g x1) fun r =>
    if r = 0 then (dl_b2 (cl11_refused g (1 : Int32)) fun r2 g2 => some (r2, g2)) else (
    dl_gd (dl_in x1 10) (
    if x2 < 0 then (dl_b2 (cl11_refused g (1 : Int32)) fun r2 g2 => some (r2, g2)) else (
    if x2 ≤ (3 : Int32) then (
    dl_bi (cl2_streetsAt g x1) fun d =>
    dl_nm (dl_s2 g 6 1 (0 : Int32)) fun g1 =>
    if x2 = 0 then (dl_b2 (cc_join (g 7 x1.toNatClampNeg) g1 (nI x1.toNatClampNeg) (g 8 x1.toNatClampNeg) d x3) fun r2 g2 => dl_b2 (cl11_done g2 r2) fun r3 g3 => some (r3, g3))
    else (if x2 = 1 then (dl_b2 (cc_cost (g 7 x1.toNatClampNeg) g1 (nI x1.toNatClampNeg) (g 8 x1.toNatClampNeg) d x3) fun r2 g2 => dl_b2 (cl11_done g2 r2) fun r3 g3 => some (r3, g3))
    else (if x2 = 2 then (dl_b2 (cc_ask (g 7 x1.toNatClampNeg) g1 (nI x1.toNatClampNeg) (g 8 x1.toNatClampNeg) d x3) fun r2 g2 => dl_b2 (cl11_done g2 r2) fun r3 g3 => some (r3, g3))
    else (dl_b2 (cc_tell (g 7 x1.toNatClampNeg) g1 (nI x1.toNatClampNeg) (g 8 x1.toNatClampNeg) d x3) fun r2 g2 => dl_b2 (cl11_done g2 r2) fun r3 g3 => some (r3, g3)))))
    else (dl_b2 (cl11_refused g (1 : Int32)) fun r2 g2 => some (r2, g2)))))
set_option maxHeartbeats 4000000 in
set_option maxRecDepth 100000 in
theorem ccl11_act (l : Launch) (D : va_G) (cI cP cII : ClassId) (TY : dl_TY) (hTY : TY[0]? = some (cI, .int)) (hT1 : TY[1]? = some (cP, .object "DripLines$Place")) (ad : Nat → Nat) (pr : Nat → Option Nat) (R : va_W) (g : dl_Sg) (hok : cc_ok ad pr g R) (x1 : Int32) (x2 : Int32) (x3 : Int32) {r0 : Int32} {g0 : dl_Sg} (h : cl11_act g x1 x2 x3 = some (r0, g0)) : dl_CtI l D TY cc_nw yX11_act wsX11_act { frames := 7, cells := 0, slots := 0, locals := 147 } 0 0 [.ref (ad 0), .int x1, .int x2, .int x3] (cc_w cI cP cII ad pr g ++ R) (fun r u => r = r0 ∧ ∃ R1, dl_okk ad pr R R1 ∧ u = cc_w cI cP cII ad pr g0 ++ R1) := by
  refine dl_metI (ty := .int) [(0, .ref (ad 0)), (1, .int x1), (2, .int x2), (3, .int x3)] (by decide) rfl (Nat.le_of_ble_eq_true rfl) rfl ?_
  intro p e s m args below meth c Q A C hQ
  unfold cl11_act at h
  refine dl_aload_n (pc := 0) C 0 dX11_act_0 rfl rfl ?_
  refine dl_get (pc := 1) C hin_X11_act_X11 0 cc_a0 rfl 0 (by decide) (show Cond.fieldLink yX11_act.cls 10 "DripLines" (TX11 0).2.1 (TX11 0).2.2.1 ∈ wsX11_act by decide +kernel) rfl rfl dX11_act_1 ?_
  refine dl_iload_n (pc := 4) C 1 dX11_act_4 rfl rfl ?_
  obtain ⟨r, h1, h⟩ := dl_bi_some h
  by_cases hr : r = 0
  · rw [if_pos hr] at h
    refine dl_vN0 (pc := 5) C (ccl2_placeAtN l D cI cP cII TY hTY ad pr R g x1 h1 hr) (cwV 1 C.2.2.2.2.1 gX11_act_X2_placeAt rfl rfl rfl (by decide +kernel) ⟨Nat.le_of_ble_eq_true rfl, Nat.le_of_ble_eq_true rfl⟩) 1 2 cc_a1 rfl rfl rfl (Nat.le_of_ble_eq_true rfl) dX11_act_5 ⟨Nat.zero_le _, Nat.zero_le _⟩ ?_
    refine dl_astoreN (pc := 8) C [(4, .null), (0, .ref (ad 0)), (1, .int x1), (2, .int x2), (3, .int x3)] dX11_act_8 (by decide) rfl ?_
    refine dl_aloadN (pc := 10) C 0 dX11_act_10 rfl ?_
    refine dl_ifnullN (pc := 12) C 24 dX11_act_12 (by decide) ?_
    refine dl_aload_n (pc := 24) C 1 dX11_act_24 rfl rfl ?_
    refine dl_iconst (pc := 25) C 1 dX11_act_25 (by decide) ?_
    obtain ⟨r2, g2, h1, h⟩ := dl_b2_some h
    refine dl_vI0 (pc := 26) C (ccl11_refused l D cI cP cII TY hTY ad pr R _ _ h1) (cwV 1 C.2.2.2.2.1 gX11_act_X11_refused rfl rfl rfl (by decide +kernel) ⟨Nat.le_of_ble_eq_true rfl, Nat.le_of_ble_eq_true rfl⟩) 0 11 cc_a0 rfl rfl rfl (Nat.le_of_ble_eq_true rfl) dX11_act_26 ⟨Nat.zero_le _, Nat.zero_le _⟩ (fun r u hp => ?_)
    obtain ⟨rfl, rfl⟩ := hp
    exact hQ 29 _ _ _ ⟨(dl_r2 h).1, _, dl_okk_rf, by rw [(dl_r2 h).2]⟩ (vp_nar_int _) dX11_act_29
  rw [if_neg hr] at h
  obtain ⟨hi, h⟩ := dl_gd_some h
  obtain ⟨q, a, st, hpa, hq⟩ := hok x1.toNatClampNeg (cc_has h1 hr)
  refine dl_vR (pc := 5) C (ccl2_placeAt l D cI cP cII TY hTY hT1 ad pr R g x1 a h1 hr hi hpa) (cwV 1 C.2.2.2.2.1 gX11_act_X2_placeAt rfl rfl rfl (by decide +kernel) ⟨Nat.le_of_ble_eq_true rfl, Nat.le_of_ble_eq_true rfl⟩) 1 2 cc_a1 rfl rfl rfl (Nat.le_of_ble_eq_true rfl) dX11_act_5 ⟨Nat.le_of_ble_eq_true rfl, Nat.le_of_ble_eq_true rfl⟩ (fun a1 u hp => ?_)
  obtain ⟨ha1, rfl⟩ := hp
  rw [ha1]
  clear ha1
  refine dl_astore (pc := 8) C [(4, .ref a), (0, .ref (ad 0)), (1, .int x1), (2, .int x2), (3, .int x3)] dX11_act_8 (by decide) rfl ?_
  refine dl_aload (pc := 10) C 0 dX11_act_10 rfl ?_
  refine dl_ifnull (pc := 12) C dX11_act_12 ?_
  refine dl_iload_n (pc := 15) C 3 dX11_act_15 rfl rfl ?_
  refine dl_if_lt (pc := 16) C 24 dX11_act_16 (by decide) h (fun _ h => ?_) (fun _ h => ?_)
  · refine dl_aload_n (pc := 24) C 1 dX11_act_24 rfl rfl ?_
    refine dl_iconst (pc := 25) C 1 dX11_act_25 (by decide) ?_
    obtain ⟨r2, g2, h1, h⟩ := dl_b2_some h
    refine dl_vI0 (pc := 26) C (ccl11_refused l D cI cP cII TY hTY ad pr R _ _ h1) (cwV 1 C.2.2.2.2.1 gX11_act_X11_refused rfl rfl rfl (by decide +kernel) ⟨Nat.le_of_ble_eq_true rfl, Nat.le_of_ble_eq_true rfl⟩) 0 11 cc_a0 rfl rfl rfl (Nat.le_of_ble_eq_true rfl) dX11_act_26 ⟨Nat.zero_le _, Nat.zero_le _⟩ (fun r u hp => ?_)
    obtain ⟨rfl, rfl⟩ := hp
    exact hQ 29 _ _ _ ⟨(dl_r2 h).1, _, dl_okk_rf, by rw [(dl_r2 h).2]⟩ (vp_nar_int _) dX11_act_29
  refine dl_iload_n (pc := 19) C 3 dX11_act_19 rfl rfl ?_
  refine dl_iconst (pc := 20) C 3 dX11_act_20 (by decide) ?_
  refine dl_icmp_le (pc := 21) C 30 dX11_act_21 (by decide) h (fun _ h => ?_) (fun _ h => ?_)
  · obtain ⟨d, hs, h⟩ := dl_bi_some h
    refine dl_aload (pc := 30) C 0 dX11_act_30 rfl ?_
    refine dl_aload_n (pc := 32) C 1 dX11_act_32 rfl rfl ?_
    refine dl_get (pc := 33) C hin_X11_act_X11 0 cc_a0 rfl 0 (by decide) (show Cond.fieldLink yX11_act.cls 10 "DripLines" (TX11 0).2.1 (TX11 0).2.2.1 ∈ wsX11_act by decide +kernel) rfl rfl dX11_act_33 ?_
    refine dl_iload_n (pc := 36) C 2 dX11_act_36 rfl rfl ?_
    refine dl_vI0 (pc := 37) C (ccl2_streetsAt l D cI cP cII TY hTY ad pr R _ _ hs) (cwV 1 C.2.2.2.2.1 gX11_act_X2_streetsAt rfl rfl rfl (by decide +kernel) ⟨Nat.le_of_ble_eq_true rfl, Nat.le_of_ble_eq_true rfl⟩) 1 2 cc_a1 rfl rfl rfl (Nat.le_of_ble_eq_true rfl) dX11_act_37 ⟨Nat.zero_le _, Nat.zero_le _⟩ (fun r u hp => ?_)
    obtain ⟨rfl, rfl⟩ := hp
    refine ps_act (pc := 40) l D cI cP cII TY hTY ad pr R g C hq dX11_act_40 ?_
    refine dl_aload_n (pc := 43) C 1 dX11_act_43 rfl rfl ?_
    refine dl_get (pc := 44) C hin_X11_act_X11 0 cc_a0 rfl 0 (by decide) (show Cond.fieldLink yX11_act.cls 10 "DripLines" (TX11 0).2.1 (TX11 0).2.2.1 ∈ wsX11_act by decide +kernel) rfl rfl dX11_act_44 ?_
    refine dl_getN (pc := 47) C hin_X11_act_X2 1 cc_a1 rfl 9 (by decide) nk_RX11_144 rfl rfl dX11_act_47 ?_
    refine dl_iconst (pc := 50) C 0 dX11_act_50 (by decide) ?_
    refine dl_putN (pc := 51) C hin_X11_act_X5 tyX5 tyX5_ok nmX5 6 cc_a6 rfl 1 (by decide) nk_RX11_148 rfl rfl (ty := .int) rfl (vp_nar_int _) rfl (Nat.le_of_ble_eq_true rfl) dX11_act_51 cc_p6_1 ?_
    obtain ⟨g1, h, hg⟩ := dl_nm_some h
    rw [← hg]
    clear hg
    have hoks : dl_okk ad pr R _ := dl_okk_set (d := r) hq
    have hq2 := dl_set_at (x := (a, .inr (cc_ci (g 7 x1.toNatClampNeg), [.int (nI x1.toNatClampNeg), .int (g 8 x1.toNatClampNeg), .ref (ad 6), .int r]))) hq
    generalize R.set q (a, .inr (cc_ci (g 7 x1.toNatClampNeg), [.int (nI x1.toNatClampNeg), .int (g 8 x1.toNatClampNeg), .ref (ad 6), .int r])) = R1 at hoks hq2 ⊢
    refine dl_iload_n (pc := 54) C 3 dX11_act_54 rfl rfl ?_
    by_cases t0 : x2 = 0
    · rw [if_pos t0] at h
      refine dl_tabIn (pc := 55) C 25 80 dX11_act_55 (by rw [t0]; decide) (by rw [t0]; decide) (by rw [t0]; rfl) (by decide) ?_
      obtain ⟨r2, g2, h2, h⟩ := dl_b2_some h
      refine dl_aload_n (pc := 80) C 1 dX11_act_80 rfl rfl ?_
      refine dl_aload (pc := 81) C 0 dX11_act_81 rfl ?_
      refine dl_iload_n (pc := 83) C 4 dX11_act_83 rfl rfl ?_
      refine ac_join (pc := 84) l D cI cP cII TY hTY ad pr R1 g1 C hq2 h2 dX11_act_84 (Nat.le_of_ble_eq_true rfl) ?_
      obtain ⟨r3, g3, h1, h⟩ := dl_b2_some h
      refine dl_vI0 (pc := 87) C (ccl11_done l D cI cP cII TY hTY ad pr _ _ _ h1) (cwV 1 C.2.2.2.2.1 gX11_act_X11_done rfl rfl rfl (by decide +kernel) ⟨Nat.le_of_ble_eq_true rfl, Nat.le_of_ble_eq_true rfl⟩) 0 11 cc_a0 rfl rfl rfl (Nat.le_of_ble_eq_true rfl) dX11_act_87 ⟨Nat.zero_le _, Nat.zero_le _⟩ (fun r u hp => ?_)
      obtain ⟨rfl, rfl⟩ := hp
      exact hQ 90 _ _ _ ⟨(dl_r2 h).1, _, hoks, by rw [(dl_r2 h).2]⟩ (vp_nar_int _) dX11_act_90
    rw [if_neg t0] at h
    by_cases t1 : x2 = 1
    · rw [if_pos t1] at h
      refine dl_tabIn (pc := 55) C 36 91 dX11_act_55 (by rw [t1]; decide) (by rw [t1]; decide) (by rw [t1]; rfl) (by decide) ?_
      obtain ⟨r2, g2, h2, h⟩ := dl_b2_some h
      refine dl_aload_n (pc := 91) C 1 dX11_act_91 rfl rfl ?_
      refine dl_aload (pc := 92) C 0 dX11_act_92 rfl ?_
      refine dl_iload_n (pc := 94) C 4 dX11_act_94 rfl rfl ?_
      refine ac_cost (pc := 95) l D cI cP cII TY hTY ad pr R1 g1 C hq2 h2 dX11_act_95 (Nat.le_of_ble_eq_true rfl) ?_
      obtain ⟨r3, g3, h1, h⟩ := dl_b2_some h
      refine dl_vI0 (pc := 98) C (ccl11_done l D cI cP cII TY hTY ad pr _ _ _ h1) (cwV 1 C.2.2.2.2.1 gX11_act_X11_done rfl rfl rfl (by decide +kernel) ⟨Nat.le_of_ble_eq_true rfl, Nat.le_of_ble_eq_true rfl⟩) 0 11 cc_a0 rfl rfl rfl (Nat.le_of_ble_eq_true rfl) dX11_act_98 ⟨Nat.zero_le _, Nat.zero_le _⟩ (fun r u hp => ?_)
      obtain ⟨rfl, rfl⟩ := hp
      exact hQ 101 _ _ _ ⟨(dl_r2 h).1, _, hoks, by rw [(dl_r2 h).2]⟩ (vp_nar_int _) dX11_act_101
    rw [if_neg t1] at h
    by_cases t2 : x2 = 2
    · rw [if_pos t2] at h
      refine dl_tabIn (pc := 55) C 47 102 dX11_act_55 (by rw [t2]; decide) (by rw [t2]; decide) (by rw [t2]; rfl) (by decide) ?_
      obtain ⟨r2, g2, h2, h⟩ := dl_b2_some h
      refine dl_aload_n (pc := 102) C 1 dX11_act_102 rfl rfl ?_
      refine dl_aload (pc := 103) C 0 dX11_act_103 rfl ?_
      refine dl_iload_n (pc := 105) C 4 dX11_act_105 rfl rfl ?_
      refine ac_ask (pc := 106) l D cI cP cII TY hTY ad pr R1 g1 C hq2 h2 dX11_act_106 (Nat.le_of_ble_eq_true rfl) ?_
      obtain ⟨r3, g3, h1, h⟩ := dl_b2_some h
      refine dl_vI0 (pc := 109) C (ccl11_done l D cI cP cII TY hTY ad pr _ _ _ h1) (cwV 1 C.2.2.2.2.1 gX11_act_X11_done rfl rfl rfl (by decide +kernel) ⟨Nat.le_of_ble_eq_true rfl, Nat.le_of_ble_eq_true rfl⟩) 0 11 cc_a0 rfl rfl rfl (Nat.le_of_ble_eq_true rfl) dX11_act_109 ⟨Nat.zero_le _, Nat.zero_le _⟩ (fun r u hp => ?_)
      obtain ⟨rfl, rfl⟩ := hp
      exact hQ 112 _ _ _ ⟨(dl_r2 h).1, _, hoks, by rw [(dl_r2 h).2]⟩ (vp_nar_int _) dX11_act_112
    rw [if_neg t2] at h
    refine dl_tabOut (pc := 55) C 113 dX11_act_55 (by have e0 : x2.toInt ≠ 0 := fun w => t0 (Int32.toInt_inj.mp w); have e1 : x2.toInt ≠ 1 := fun w => t1 (Int32.toInt_inj.mp w); have e2 : x2.toInt ≠ 2 := fun w => t2 (Int32.toInt_inj.mp w); omega) (by decide) ?_
    obtain ⟨r2, g2, h2, h⟩ := dl_b2_some h
    refine dl_aload_n (pc := 113) C 1 dX11_act_113 rfl rfl ?_
    refine dl_aload (pc := 114) C 0 dX11_act_114 rfl ?_
    refine dl_iload_n (pc := 116) C 4 dX11_act_116 rfl rfl ?_
    refine ac_tell (pc := 117) l D cI cP cII TY hTY ad pr R1 g1 C hq2 h2 dX11_act_117 (Nat.le_of_ble_eq_true rfl) ?_
    obtain ⟨r3, g3, h1, h⟩ := dl_b2_some h
    refine dl_vI0 (pc := 120) C (ccl11_done l D cI cP cII TY hTY ad pr _ _ _ h1) (cwV 1 C.2.2.2.2.1 gX11_act_X11_done rfl rfl rfl (by decide +kernel) ⟨Nat.le_of_ble_eq_true rfl, Nat.le_of_ble_eq_true rfl⟩) 0 11 cc_a0 rfl rfl rfl (Nat.le_of_ble_eq_true rfl) dX11_act_120 ⟨Nat.zero_le _, Nat.zero_le _⟩ (fun r u hp => ?_)
    obtain ⟨rfl, rfl⟩ := hp
    exact hQ 123 _ _ _ ⟨(dl_r2 h).1, _, hoks, by rw [(dl_r2 h).2]⟩ (vp_nar_int _) dX11_act_123
  · refine dl_aload_n (pc := 24) C 1 dX11_act_24 rfl rfl ?_
    refine dl_iconst (pc := 25) C 1 dX11_act_25 (by decide) ?_
    obtain ⟨r2, g2, h1, h⟩ := dl_b2_some h
    refine dl_vI0 (pc := 26) C (ccl11_refused l D cI cP cII TY hTY ad pr R _ _ h1) (cwV 1 C.2.2.2.2.1 gX11_act_X11_refused rfl rfl rfl (by decide +kernel) ⟨Nat.le_of_ble_eq_true rfl, Nat.le_of_ble_eq_true rfl⟩) 0 11 cc_a0 rfl rfl rfl (Nat.le_of_ble_eq_true rfl) dX11_act_26 ⟨Nat.zero_le _, Nat.zero_le _⟩ (fun r u hp => ?_)
    obtain ⟨rfl, rfl⟩ := hp
    exact hQ 29 _ _ _ ⟨(dl_r2 h).1, _, dl_okk_rf, by rw [(dl_r2 h).2]⟩ (vp_nar_int _) dX11_act_29
