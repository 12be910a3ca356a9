/-- the places' cells stand as the state tells them -/
def cc_ok (ad : Nat → Nat) (pr : Nat → Option Nat) (g : dl_Sg) (R : va_W) : Prop := ∀ p : Nat, p < (g 1 10).toNatClampNeg → ∃ (q a : Nat) (st : Int32), pr p = some a ∧ R[q]? = some (a, .inr (cc_ci (g 7 p), [.int (nI p), .int (g 8 p), .ref (ad 6), .int st]))
theorem cc_has {g : dl_Sg} {x r : Int32} (h : cl2_hasPlace g x = some r) (hr : ¬ r = 0) : x.toNatClampNeg < (g 1 10).toNatClampNeg := by
  unfold cl2_hasPlace at h
  by_cases q1 : x < 0
  · rw [if_pos q1] at h
    exact absurd (Option.some.inj h).symm hr
  · rw [if_neg q1] at h
    by_cases q2 : (g 1 10) ≤ x
    · rw [if_pos q2] at h
      exact absurd (Option.some.inj h).symm hr
    · have h1 : ¬ x.toInt < (0 : Int32).toInt := fun w => q1 (Int32.lt_iff_toInt_lt.mpr w)
      have h2 : ¬ (g 1 10).toInt ≤ x.toInt := fun w => q2 (Int32.le_iff_toInt_le.mpr w)
      have h3 : (0 : Int32).toInt = 0 := rfl
      show x.toInt.toNat < (g 1 10).toInt.toNat
      omega
theorem dl_aload_nN {p : Program} {l : Launch} {e : Env} {R : Room} {s : State} {m : MethodId} {args : Array Value} {below : List Frame} {meth : Method} {c : Code} {Q : State → Prop} {A : Nat → Prop} {D : va_G} {TY : dl_TY} {nw : List Cond} {cc : ByteArray} {nL cells slots pc : Nat} {lv : List (Nat × Value)} {st : List Value} {ws : va_W} {own : String} {Ts : List Cond} (C : dl_Cx p s m args c A D TY nw cc nL own Ts) (j : Nat) {k0 : Fin 4} {i : Nat} (hd : decode cc pc = .ok (.aload_n k0, 1)) (hi : (k0 : Nat) = i) (hj : lv[j]? = some (i, .null)) (k : dl_At p l e R s m args below meth c Q A D nL cells slots (pc + 1) lv (.null :: st) ws) : dl_At p l e R s m args below meth c Q A D nL cells slots pc lv st ws :=
  fun H locs ls hP hD hS hl => lv_aload_nN C.1 C.2.1 hd hi (lv_at hl j hj) (k H locs ls hP hD hS hl)
def cc_kd (k : Int32) : Option Int32 := if k = 1 then plX4_X4_kind else if k = 2 then plX10_X10_kind else if k = 3 then plX9_X9_kind else if k = 4 then plX0_X0_kind else plX3_X3_kind
def cc_join (k : Int32) (g : dl_Sg) (nr w st x : Int32) : Option (Int32 × dl_Sg) := if k = 1 then plX4_X3_join g nr w st x else if k = 2 then plX10_X3_join g nr w st x else if k = 3 then plX9_X9_join g nr w st x else if k = 4 then plX0_X3_join g nr w st x else plX3_X3_join g nr w st x
def cc_cost (k : Int32) (g : dl_Sg) (nr w st x : Int32) : Option (Int32 × dl_Sg) := if k = 1 then plX4_X4_cost g nr w st x else if k = 2 then plX10_X3_cost g nr w st x else if k = 3 then plX9_X4_cost g nr w st x else if k = 4 then plX0_X0_cost g nr w st x else plX3_X3_cost g nr w st x
def cc_ask (k : Int32) (g : dl_Sg) (nr w st x : Int32) : Option (Int32 × dl_Sg) := if k = 1 then plX4_X3_ask g nr w st x else if k = 2 then plX10_X10_ask g nr w st x else if k = 3 then plX9_X9_ask g nr w st x else if k = 4 then plX0_X3_ask g nr w st x else plX3_X3_ask g nr w st x
def cc_tell (k : Int32) (g : dl_Sg) (nr w st x : Int32) : Option (Int32 × dl_Sg) := if k = 1 then plX4_X4_tell g nr w st x else if k = 2 then plX10_X3_tell g nr w st x else if k = 3 then plX9_X4_tell g nr w st x else if k = 4 then plX0_X0_tell g nr w st x else plX3_X3_tell g nr w st x
set_option maxHeartbeats 4000000 in
set_option maxRecDepth 100000 in
theorem kd_X11_told {p : Program} {e : Env} {Rm : Room} {s : State} {m : MethodId} {args : Array Value} {below : List Frame} {meth : Method} {c : Code} {Q : State → Prop} {A : Nat → Prop} (l : Launch) (D : va_G) (cI cP cII : ClassId) (TY : dl_TY) (hTY : TY[0]? = some (cI, .int)) (ad : Nat → Nat) (pr : Nat → Option Nat) (R : va_W) (g : dl_Sg) {pc : Nat} {lv : List (Nat × Value)} {stk : List Value} (C : dl_Cx p s m args c A D TY cc_nw cX11_told 4 yX11_told.cls wsX11_told) {q a : Nat} {k nr w st r0 : Int32} (hq : R[q]? = some (a, .inr (cc_ci k, [.int nr, .int w, .ref (ad 6), .int st]))) (h : cc_kd k = some r0) (hd : decode cX11_told pc = .ok (.invokevirtual 105, 3)) (hroom : (stk.map fun v => v.category).sum ≤ 8) (hR : 0 + 1 ≤ Rm.frames ∧ 8 + (1 + 11) + 0 ≤ Rm.locals) (kk : dl_At p l e Rm s m args below meth c Q A D 4 0 0 (pc + 3) lv (.int r0 :: stk) (cc_w cI cP cII ad pr g ++ R)) : dl_At p l e Rm s m args below meth c Q A D 4 0 0 pc lv (.ref a :: stk) (cc_w cI cP cII ad pr g ++ R) := by
  unfold cc_kd at h
  by_cases q1 : k = 1
  · rw [if_pos q1] at h
    rw [show cc_ci k = 4 by rw [q1]; rfl] at hq
    refine dl_vIU0 C (cplX4_X4_kind l D cI cP cII TY hTY ad pr R q a nr w st hq g h) (va_cwO 0 C.2.2.2.2.1 gX11_told_X4_kind_u105X4 rfl rfl rfl (b0 := cX3_kind) (m0 := 1) (r0 := some .int) (by decide +kernel) (by decide +kernel) hR) (33 + q) 4 (cc_q hq) rfl rfl rfl hroom hd ⟨Nat.zero_le _, Nat.zero_le _⟩ (fun r u hp => ?_)
    obtain ⟨rfl, rfl⟩ := hp
    exact kk
  rw [if_neg q1] at h
  by_cases q2 : k = 2
  · rw [if_pos q2] at h
    rw [show cc_ci k = 10 by rw [q2]; rfl] at hq
    refine dl_vIU0 C (cplX10_X10_kind l D cI cP cII TY hTY ad pr R q a nr w st hq g h) (va_cwO 0 C.2.2.2.2.1 gX11_told_X10_kind_u105X10 rfl rfl rfl (b0 := cX3_kind) (m0 := 1) (r0 := some .int) (by decide +kernel) (by decide +kernel) hR) (33 + q) 10 (cc_q hq) rfl rfl rfl hroom hd ⟨Nat.zero_le _, Nat.zero_le _⟩ (fun r u hp => ?_)
    obtain ⟨rfl, rfl⟩ := hp
    exact kk
  rw [if_neg q2] at h
  by_cases q3 : k = 3
  · rw [if_pos q3] at h
    rw [show cc_ci k = 9 by rw [q3]; rfl] at hq
    refine dl_vIU0 C (cplX9_X9_kind l D cI cP cII TY hTY ad pr R q a nr w st hq g h) (va_cwO 0 C.2.2.2.2.1 gX11_told_X9_kind_u105X9 rfl rfl rfl (b0 := cX3_kind) (m0 := 1) (r0 := some .int) (by decide +kernel) (by decide +kernel) hR) (33 + q) 9 (cc_q hq) rfl rfl rfl hroom hd ⟨Nat.zero_le _, Nat.zero_le _⟩ (fun r u hp => ?_)
    obtain ⟨rfl, rfl⟩ := hp
    exact kk
  rw [if_neg q3] at h
  by_cases q4 : k = 4
  · rw [if_pos q4] at h
    rw [show cc_ci k = 0 by rw [q4]; rfl] at hq
    refine dl_vIU0 C (cplX0_X0_kind l D cI cP cII TY hTY ad pr R q a nr w st hq g h) (va_cwO 0 C.2.2.2.2.1 gX11_told_X0_kind_u105X0 rfl rfl rfl (b0 := cX3_kind) (m0 := 1) (r0 := some .int) (by decide +kernel) (by decide +kernel) hR) (33 + q) 0 (cc_q hq) rfl rfl rfl hroom hd ⟨Nat.zero_le _, Nat.zero_le _⟩ (fun r u hp => ?_)
    obtain ⟨rfl, rfl⟩ := hp
    exact kk
  rw [if_neg q4] at h
  rw [cc_ci0 q1 q2 q3 q4] at hq
  refine dl_vI0 C (cplX3_X3_kind l D cI cP cII TY hTY ad pr R q a nr w st hq g h) (cwV 0 C.2.2.2.2.1 gX11_told_X3_kind rfl rfl rfl (by decide +kernel) hR) (33 + q) 3 (cc_q hq) rfl rfl rfl hroom hd ⟨Nat.zero_le _, Nat.zero_le _⟩ (fun r u hp => ?_)
  obtain ⟨rfl, rfl⟩ := hp
  exact kk
set_option maxHeartbeats 4000000 in
set_option maxRecDepth 100000 in
theorem kd_X11_takePlaceForKind {p : Program} {e : Env} {Rm : Room} {s : State} {m : MethodId} {args : Array Value} {below : List Frame} {meth : Method} {c : Code} {Q : State → Prop} {A : Nat → Prop} (l : Launch) (D : va_G) (cI cP cII : ClassId) (TY : dl_TY) (hTY : TY[0]? = some (cI, .int)) (ad : Nat → Nat) (pr : Nat → Option Nat) (R : va_W) (g : dl_Sg) {pc : Nat} {lv : List (Nat × Value)} {stk : List Value} (C : dl_Cx p s m args c A D TY cc_nw cX11_takePlaceForKind 4 yX11_takePlaceForKind.cls wsX11_takePlaceForKind) {q a : Nat} {k nr w st r0 : Int32} (hq : R[q]? = some (a, .inr (cc_ci k, [.int nr, .int w, .ref (ad 6), .int st]))) (h : cc_kd k = some r0) (hd : decode cX11_takePlaceForKind pc = .ok (.invokevirtual 105, 3)) (hroom : (stk.map fun v => v.category).sum ≤ 8) (hR : 0 + 1 ≤ Rm.frames ∧ 8 + (1 + 11) + 0 ≤ Rm.locals) (kk : dl_At p l e Rm s m args below meth c Q A D 4 0 0 (pc + 3) lv (.int r0 :: stk) (cc_w cI cP cII ad pr g ++ R)) : dl_At p l e Rm s m args below meth c Q A D 4 0 0 pc lv (.ref a :: stk) (cc_w cI cP cII ad pr g ++ R) := by
  unfold cc_kd at h
  by_cases q1 : k = 1
  · rw [if_pos q1] at h
    rw [show cc_ci k = 4 by rw [q1]; rfl] at hq
    refine dl_vIU0 C (cplX4_X4_kind l D cI cP cII TY hTY ad pr R q a nr w st hq g h) (va_cwO 0 C.2.2.2.2.1 gX11_takePlaceForKind_X4_kind_u105X4 rfl rfl rfl (b0 := cX3_kind) (m0 := 1) (r0 := some .int) (by decide +kernel) (by decide +kernel) hR) (33 + q) 4 (cc_q hq) rfl rfl rfl hroom hd ⟨Nat.zero_le _, Nat.zero_le _⟩ (fun r u hp => ?_)
    obtain ⟨rfl, rfl⟩ := hp
    exact kk
  rw [if_neg q1] at h
  by_cases q2 : k = 2
  · rw [if_pos q2] at h
    rw [show cc_ci k = 10 by rw [q2]; rfl] at hq
    refine dl_vIU0 C (cplX10_X10_kind l D cI cP cII TY hTY ad pr R q a nr w st hq g h) (va_cwO 0 C.2.2.2.2.1 gX11_takePlaceForKind_X10_kind_u105X10 rfl rfl rfl (b0 := cX3_kind) (m0 := 1) (r0 := some .int) (by decide +kernel) (by decide +kernel) hR) (33 + q) 10 (cc_q hq) rfl rfl rfl hroom hd ⟨Nat.zero_le _, Nat.zero_le _⟩ (fun r u hp => ?_)
    obtain ⟨rfl, rfl⟩ := hp
    exact kk
  rw [if_neg q2] at h
  by_cases q3 : k = 3
  · rw [if_pos q3] at h
    rw [show cc_ci k = 9 by rw [q3]; rfl] at hq
    refine dl_vIU0 C (cplX9_X9_kind l D cI cP cII TY hTY ad pr R q a nr w st hq g h) (va_cwO 0 C.2.2.2.2.1 gX11_takePlaceForKind_X9_kind_u105X9 rfl rfl rfl (b0 := cX3_kind) (m0 := 1) (r0 := some .int) (by decide +kernel) (by decide +kernel) hR) (33 + q) 9 (cc_q hq) rfl rfl rfl hroom hd ⟨Nat.zero_le _, Nat.zero_le _⟩ (fun r u hp => ?_)
    obtain ⟨rfl, rfl⟩ := hp
    exact kk
  rw [if_neg q3] at h
  by_cases q4 : k = 4
  · rw [if_pos q4] at h
    rw [show cc_ci k = 0 by rw [q4]; rfl] at hq
    refine dl_vIU0 C (cplX0_X0_kind l D cI cP cII TY hTY ad pr R q a nr w st hq g h) (va_cwO 0 C.2.2.2.2.1 gX11_takePlaceForKind_X0_kind_u105X0 rfl rfl rfl (b0 := cX3_kind) (m0 := 1) (r0 := some .int) (by decide +kernel) (by decide +kernel) hR) (33 + q) 0 (cc_q hq) rfl rfl rfl hroom hd ⟨Nat.zero_le _, Nat.zero_le _⟩ (fun r u hp => ?_)
    obtain ⟨rfl, rfl⟩ := hp
    exact kk
  rw [if_neg q4] at h
  rw [cc_ci0 q1 q2 q3 q4] at hq
  refine dl_vI0 C (cplX3_X3_kind l D cI cP cII TY hTY ad pr R q a nr w st hq g h) (cwV 0 C.2.2.2.2.1 gX11_takePlaceForKind_X3_kind rfl rfl rfl (by decide +kernel) hR) (33 + q) 3 (cc_q hq) rfl rfl rfl hroom hd ⟨Nat.zero_le _, Nat.zero_le _⟩ (fun r u hp => ?_)
  obtain ⟨rfl, rfl⟩ := hp
  exact kk
set_option maxHeartbeats 4000000 in
set_option maxRecDepth 100000 in
theorem kd_X11_putAmongTaps {p : Program} {e : Env} {Rm : Room} {s : State} {m : MethodId} {args : Array Value} {below : List Frame} {meth : Method} {c : Code} {Q : State → Prop} {A : Nat → Prop} (l : Launch) (D : va_G) (cI cP cII : ClassId) (TY : dl_TY) (hTY : TY[0]? = some (cI, .int)) (ad : Nat → Nat) (pr : Nat → Option Nat) (R : va_W) (g : dl_Sg) {pc : Nat} {lv : List (Nat × Value)} {stk : List Value} (C : dl_Cx p s m args c A D TY cc_nw cX11_putAmongTaps 3 yX11_putAmongTaps.cls wsX11_putAmongTaps) {q a : Nat} {k nr w st r0 : Int32} (hq : R[q]? = some (a, .inr (cc_ci k, [.int nr, .int w, .ref (ad 6), .int st]))) (h : cc_kd k = some r0) (hd : decode cX11_putAmongTaps pc = .ok (.invokevirtual 105, 3)) (hroom : (stk.map fun v => v.category).sum ≤ 8) (hR : 0 + 1 ≤ Rm.frames ∧ 8 + (1 + 11) + 0 ≤ Rm.locals) (kk : dl_At p l e Rm s m args below meth c Q A D 3 0 0 (pc + 3) lv (.int r0 :: stk) (cc_w cI cP cII ad pr g ++ R)) : dl_At p l e Rm s m args below meth c Q A D 3 0 0 pc lv (.ref a :: stk) (cc_w cI cP cII ad pr g ++ R) := by
  unfold cc_kd at h
  by_cases q1 : k = 1
  · rw [if_pos q1] at h
    rw [show cc_ci k = 4 by rw [q1]; rfl] at hq
    refine dl_vIU0 C (cplX4_X4_kind l D cI cP cII TY hTY ad pr R q a nr w st hq g h) (va_cwO 0 C.2.2.2.2.1 gX11_putAmongTaps_X4_kind_u105X4 rfl rfl rfl (b0 := cX3_kind) (m0 := 1) (r0 := some .int) (by decide +kernel) (by decide +kernel) hR) (33 + q) 4 (cc_q hq) rfl rfl rfl hroom hd ⟨Nat.zero_le _, Nat.zero_le _⟩ (fun r u hp => ?_)
    obtain ⟨rfl, rfl⟩ := hp
    exact kk
  rw [if_neg q1] at h
  by_cases q2 : k = 2
  · rw [if_pos q2] at h
    rw [show cc_ci k = 10 by rw [q2]; rfl] at hq
    refine dl_vIU0 C (cplX10_X10_kind l D cI cP cII TY hTY ad pr R q a nr w st hq g h) (va_cwO 0 C.2.2.2.2.1 gX11_putAmongTaps_X10_kind_u105X10 rfl rfl rfl (b0 := cX3_kind) (m0 := 1) (r0 := some .int) (by decide +kernel) (by decide +kernel) hR) (33 + q) 10 (cc_q hq) rfl rfl rfl hroom hd ⟨Nat.zero_le _, Nat.zero_le _⟩ (fun r u hp => ?_)
    obtain ⟨rfl, rfl⟩ := hp
    exact kk
  rw [if_neg q2] at h
  by_cases q3 : k = 3
  · rw [if_pos q3] at h
    rw [show cc_ci k = 9 by rw [q3]; rfl] at hq
    refine dl_vIU0 C (cplX9_X9_kind l D cI cP cII TY hTY ad pr R q a nr w st hq g h) (va_cwO 0 C.2.2.2.2.1 gX11_putAmongTaps_X9_kind_u105X9 rfl rfl rfl (b0 := cX3_kind) (m0 := 1) (r0 := some .int) (by decide +kernel) (by decide +kernel) hR) (33 + q) 9 (cc_q hq) rfl rfl rfl hroom hd ⟨Nat.zero_le _, Nat.zero_le _⟩ (fun r u hp => ?_)
    obtain ⟨rfl, rfl⟩ := hp
    exact kk
  rw [if_neg q3] at h
  by_cases q4 : k = 4
  · rw [if_pos q4] at h
    rw [show cc_ci k = 0 by rw [q4]; rfl] at hq
    refine dl_vIU0 C (cplX0_X0_kind l D cI cP cII TY hTY ad pr R q a nr w st hq g h) (va_cwO 0 C.2.2.2.2.1 gX11_putAmongTaps_X0_kind_u105X0 rfl rfl rfl (b0 := cX3_kind) (m0 := 1) (r0 := some .int) (by decide +kernel) (by decide +kernel) hR) (33 + q) 0 (cc_q hq) rfl rfl rfl hroom hd ⟨Nat.zero_le _, Nat.zero_le _⟩ (fun r u hp => ?_)
    obtain ⟨rfl, rfl⟩ := hp
    exact kk
  rw [if_neg q4] at h
  rw [cc_ci0 q1 q2 q3 q4] at hq
  refine dl_vI0 C (cplX3_X3_kind l D cI cP cII TY hTY ad pr R q a nr w st hq g h) (cwV 0 C.2.2.2.2.1 gX11_putAmongTaps_X3_kind rfl rfl rfl (by decide +kernel) hR) (33 + q) 3 (cc_q hq) rfl rfl rfl hroom hd ⟨Nat.zero_le _, Nat.zero_le _⟩ (fun r u hp => ?_)
  obtain ⟨rfl, rfl⟩ := hp
  exact kk
def cc_isk (k x : Int32) : Int32 := if x = 1 then (if k = 1 then 1 else if k = 2 then 0 else if k = 3 then 1 else 0) else if x = 2 then (if k = 2 then 1 else 0) else if x = 3 then (if k = 3 then 1 else 0) else if x = 4 then (if k = 4 then 1 else 0) else 1
set_option maxHeartbeats 4000000 in
set_option maxRecDepth 100000 in
theorem ccl11_isOfKind (l : Launch) (D : va_G) (TY : dl_TY) (ws : va_W) (q a : Nat) (k x1 : Int32) (fs : List Value) (hq : ws[q]? = some (a, .inr (cc_ci k, fs))) : dl_CtI l D TY cc_nw yX11_isOfKind wsX11_isOfKind { frames := 0, cells := 0, slots := 0, locals := 0 } 0 0 [.ref a, .int x1] ws (fun r u => r = cc_isk k x1 ∧ u = ws) := by
  refine dl_metI (ty := .boolean) [(0, .ref a), (1, .int x1)] (by decide) rfl (Nat.le_of_ble_eq_true rfl) rfl ?_
  intro p e s m args below meth c Q A C hQ
  refine dl_iload_n (pc := 0) C 1 dX11_isOfKind_0 rfl rfl ?_
  by_cases t1 : x1 = 1
  · subst t1
    refine dl_tabIn (pc := 1) C 31 32 dX11_isOfKind_1 (by decide) (by decide) rfl (by decide) ?_
    by_cases q1 : k = 1
    · rw [show cc_ci k = 4 by rw [q1]; rfl] at hq
      refine dl_aload_n (pc := 32) C 0 dX11_isOfKind_32 rfl rfl ?_
      refine dl_instS (pc := 33) (Cn := RX4) C (by decide +kernel) q 4 hq rfl dX11_isOfKind_33 ?_
      exact hQ 36 _ _ _ ⟨by rw [q1]; rfl, rfl⟩ rfl dX11_isOfKind_36
    by_cases q2 : k = 2
    · rw [show cc_ci k = 10 by rw [q2]; rfl] at hq
      refine dl_aload_n (pc := 32) C 0 dX11_isOfKind_32 rfl rfl ?_
      refine dl_instN (pc := 33) (Cn := RX10) (nm := "DripLines$Tap") C (by decide +kernel) (by decide +kernel) q 10 hq rfl dX11_isOfKind_33 ?_
      exact hQ 36 _ _ _ ⟨by rw [q2]; rfl, rfl⟩ rfl dX11_isOfKind_36
    by_cases q3 : k = 3
    · rw [show cc_ci k = 9 by rw [q3]; rfl] at hq
      refine dl_aload_n (pc := 32) C 0 dX11_isOfKind_32 rfl rfl ?_
      refine dl_instY (pc := 33) (Cn := RX9) (nm := "DripLines$Tap") C (by decide +kernel) (by decide +kernel) q 9 hq rfl dX11_isOfKind_33 ?_
      exact hQ 36 _ _ _ ⟨by rw [q3]; rfl, rfl⟩ rfl dX11_isOfKind_36
    by_cases q4 : k = 4
    · rw [show cc_ci k = 0 by rw [q4]; rfl] at hq
      refine dl_aload_n (pc := 32) C 0 dX11_isOfKind_32 rfl rfl ?_
      refine dl_instN (pc := 33) (Cn := RX0) (nm := "DripLines$Tap") C (by decide +kernel) (by decide +kernel) q 0 hq rfl dX11_isOfKind_33 ?_
      exact hQ 36 _ _ _ ⟨by rw [q4]; rfl, rfl⟩ rfl dX11_isOfKind_36
    rw [cc_ci0 q1 q2 q3 q4] at hq
    refine dl_aload_n (pc := 32) C 0 dX11_isOfKind_32 rfl rfl ?_
    refine dl_instN (pc := 33) (Cn := RX3) (nm := "DripLines$Tap") C (by decide +kernel) (by decide +kernel) q 3 hq rfl dX11_isOfKind_33 ?_
    exact hQ 36 _ _ _ ⟨by unfold cc_isk; simp [q1, q2, q3, q4], rfl⟩ rfl dX11_isOfKind_36
  by_cases t2 : x1 = 2
  · subst t2
    refine dl_tabIn (pc := 1) C 36 37 dX11_isOfKind_1 (by decide) (by decide) rfl (by decide) ?_
    by_cases q1 : k = 1
    · rw [show cc_ci k = 4 by rw [q1]; rfl] at hq
      refine dl_aload_n (pc := 37) C 0 dX11_isOfKind_37 rfl rfl ?_
      refine dl_instN (pc := 38) (Cn := RX4) (nm := "DripLines$Wish") C (by decide +kernel) (by decide +kernel) q 4 hq rfl dX11_isOfKind_38 ?_
      exact hQ 41 _ _ _ ⟨by rw [q1]; rfl, rfl⟩ rfl dX11_isOfKind_41
    by_cases q2 : k = 2
    · rw [show cc_ci k = 10 by rw [q2]; rfl] at hq
      refine dl_aload_n (pc := 37) C 0 dX11_isOfKind_37 rfl rfl ?_
      refine dl_instS (pc := 38) (Cn := RX10) C (by decide +kernel) q 10 hq rfl dX11_isOfKind_38 ?_
      exact hQ 41 _ _ _ ⟨by rw [q2]; rfl, rfl⟩ rfl dX11_isOfKind_41
    by_cases q3 : k = 3
    · rw [show cc_ci k = 9 by rw [q3]; rfl] at hq
      refine dl_aload_n (pc := 37) C 0 dX11_isOfKind_37 rfl rfl ?_
      refine dl_instN (pc := 38) (Cn := RX9) (nm := "DripLines$Wish") C (by decide +kernel) (by decide +kernel) q 9 hq rfl dX11_isOfKind_38 ?_
      exact hQ 41 _ _ _ ⟨by rw [q3]; rfl, rfl⟩ rfl dX11_isOfKind_41
    by_cases q4 : k = 4
    · rw [show cc_ci k = 0 by rw [q4]; rfl] at hq
      refine dl_aload_n (pc := 37) C 0 dX11_isOfKind_37 rfl rfl ?_
      refine dl_instN (pc := 38) (Cn := RX0) (nm := "DripLines$Wish") C (by decide +kernel) (by decide +kernel) q 0 hq rfl dX11_isOfKind_38 ?_
      exact hQ 41 _ _ _ ⟨by rw [q4]; rfl, rfl⟩ rfl dX11_isOfKind_41
    rw [cc_ci0 q1 q2 q3 q4] at hq
    refine dl_aload_n (pc := 37) C 0 dX11_isOfKind_37 rfl rfl ?_
    refine dl_instN (pc := 38) (Cn := RX3) (nm := "DripLines$Wish") C (by decide +kernel) (by decide +kernel) q 3 hq rfl dX11_isOfKind_38 ?_
    exact hQ 41 _ _ _ ⟨by unfold cc_isk; simp [q1, q2, q3, q4], rfl⟩ rfl dX11_isOfKind_41
  by_cases t3 : x1 = 3
  · subst t3
    refine dl_tabIn (pc := 1) C 41 42 dX11_isOfKind_1 (by decide) (by decide) rfl (by decide) ?_
    by_cases q1 : k = 1
    · rw [show cc_ci k = 4 by rw [q1]; rfl] at hq
      refine dl_aload_n (pc := 42) C 0 dX11_isOfKind_42 rfl rfl ?_
      refine dl_instN (pc := 43) (Cn := RX4) (nm := "DripLines$Well") C (by decide +kernel) (by decide +kernel) q 4 hq rfl dX11_isOfKind_43 ?_
      exact hQ 46 _ _ _ ⟨by rw [q1]; rfl, rfl⟩ rfl dX11_isOfKind_46
    by_cases q2 : k = 2
    · rw [show cc_ci k = 10 by rw [q2]; rfl] at hq
      refine dl_aload_n (pc := 42) C 0 dX11_isOfKind_42 rfl rfl ?_
      refine dl_instN (pc := 43) (Cn := RX10) (nm := "DripLines$Well") C (by decide +kernel) (by decide +kernel) q 10 hq rfl dX11_isOfKind_43 ?_
      exact hQ 46 _ _ _ ⟨by rw [q2]; rfl, rfl⟩ rfl dX11_isOfKind_46
    by_cases q3 : k = 3
    · rw [show cc_ci k = 9 by rw [q3]; rfl] at hq
      refine dl_aload_n (pc := 42) C 0 dX11_isOfKind_42 rfl rfl ?_
      refine dl_instS (pc := 43) (Cn := RX9) C (by decide +kernel) q 9 hq rfl dX11_isOfKind_43 ?_
      exact hQ 46 _ _ _ ⟨by rw [q3]; rfl, rfl⟩ rfl dX11_isOfKind_46
    by_cases q4 : k = 4
    · rw [show cc_ci k = 0 by rw [q4]; rfl] at hq
      refine dl_aload_n (pc := 42) C 0 dX11_isOfKind_42 rfl rfl ?_
      refine dl_instN (pc := 43) (Cn := RX0) (nm := "DripLines$Well") C (by decide +kernel) (by decide +kernel) q 0 hq rfl dX11_isOfKind_43 ?_
      exact hQ 46 _ _ _ ⟨by rw [q4]; rfl, rfl⟩ rfl dX11_isOfKind_46
    rw [cc_ci0 q1 q2 q3 q4] at hq
    refine dl_aload_n (pc := 42) C 0 dX11_isOfKind_42 rfl rfl ?_
    refine dl_instN (pc := 43) (Cn := RX3) (nm := "DripLines$Well") C (by decide +kernel) (by decide +kernel) q 3 hq rfl dX11_isOfKind_43 ?_
    exact hQ 46 _ _ _ ⟨by unfold cc_isk; simp [q1, q2, q3, q4], rfl⟩ rfl dX11_isOfKind_46
  by_cases t4 : x1 = 4
  · subst t4
    refine dl_tabIn (pc := 1) C 46 47 dX11_isOfKind_1 (by decide) (by decide) rfl (by decide) ?_
    by_cases q1 : k = 1
    · rw [show cc_ci k = 4 by rw [q1]; rfl] at hq
      refine dl_aload_n (pc := 47) C 0 dX11_isOfKind_47 rfl rfl ?_
      refine dl_instN (pc := 48) (Cn := RX4) (nm := "DripLines$Gate") C (by decide +kernel) (by decide +kernel) q 4 hq rfl dX11_isOfKind_48 ?_
      exact hQ 51 _ _ _ ⟨by rw [q1]; rfl, rfl⟩ rfl dX11_isOfKind_51
    by_cases q2 : k = 2
    · rw [show cc_ci k = 10 by rw [q2]; rfl] at hq
      refine dl_aload_n (pc := 47) C 0 dX11_isOfKind_47 rfl rfl ?_
      refine dl_instN (pc := 48) (Cn := RX10) (nm := "DripLines$Gate") C (by decide +kernel) (by decide +kernel) q 10 hq rfl dX11_isOfKind_48 ?_
      exact hQ 51 _ _ _ ⟨by rw [q2]; rfl, rfl⟩ rfl dX11_isOfKind_51
    by_cases q3 : k = 3
    · rw [show cc_ci k = 9 by rw [q3]; rfl] at hq
      refine dl_aload_n (pc := 47) C 0 dX11_isOfKind_47 rfl rfl ?_
      refine dl_instN (pc := 48) (Cn := RX9) (nm := "DripLines$Gate") C (by decide +kernel) (by decide +kernel) q 9 hq rfl dX11_isOfKind_48 ?_
      exact hQ 51 _ _ _ ⟨by rw [q3]; rfl, rfl⟩ rfl dX11_isOfKind_51
    by_cases q4 : k = 4
    · rw [show cc_ci k = 0 by rw [q4]; rfl] at hq
      refine dl_aload_n (pc := 47) C 0 dX11_isOfKind_47 rfl rfl ?_
      refine dl_instS (pc := 48) (Cn := RX0) C (by decide +kernel) q 0 hq rfl dX11_isOfKind_48 ?_
      exact hQ 51 _ _ _ ⟨by rw [q4]; rfl, rfl⟩ rfl dX11_isOfKind_51
    rw [cc_ci0 q1 q2 q3 q4] at hq
    refine dl_aload_n (pc := 47) C 0 dX11_isOfKind_47 rfl rfl ?_
    refine dl_instN (pc := 48) (Cn := RX3) (nm := "DripLines$Gate") C (by decide +kernel) (by decide +kernel) q 3 hq rfl dX11_isOfKind_48 ?_
    exact hQ 51 _ _ _ ⟨by unfold cc_isk; simp [q1, q2, q3, q4], rfl⟩ rfl dX11_isOfKind_51
  refine dl_tabOut (pc := 1) C 52 dX11_isOfKind_1 (by have e1 : x1.toInt ≠ 1 := fun w => t1 (Int32.toInt_inj.mp w); have e2 : x1.toInt ≠ 2 := fun w => t2 (Int32.toInt_inj.mp w); have e3 : x1.toInt ≠ 3 := fun w => t3 (Int32.toInt_inj.mp w); have e4 : x1.toInt ≠ 4 := fun w => t4 (Int32.toInt_inj.mp w); omega) (by decide) ?_
  refine dl_iconst (pc := 52) C 1 dX11_isOfKind_52 (by decide) ?_
  exact hQ 53 _ _ _ ⟨by unfold cc_isk; rw [if_neg t1, if_neg t2, if_neg t3, if_neg t4], rfl⟩ rfl dX11_isOfKind_53
def cl11_told (g : dl_Sg) (x1 x2 : Int32) : Option Int32 :=
    dl_bi (cl2_hasPlace g x1) fun r =>
    if r = 0 then (some (-1 : Int32)) else (
    dl_gd (dl_in x1 10) (
    if x2 = 0 then (
    dl_bi (cc_kd (g 7 x1.toNatClampNeg)) fun r2 => some r2)
    else if x2 = 1 then (
    some (g 8 x1.toNatClampNeg))
    else if x2 = 2 then (
    dl_bi (cl2_streetsAt g x1) fun r2 => some r2)
    else some (-1 : Int32)))
theorem hin_X11_told_X11 : ∀ w ∈ u_ws RX11 TX11 6, w ∈ wsX11_told := fun _ h => List.mem_cons_of_mem _ (List.mem_append_left _ (List.mem_append_left _ (List.mem_append_left _ (List.mem_append_left _ (List.mem_append_left _ (List.mem_append_left _ (List.mem_append_right _ h)))))))
theorem hin_X11_told_X0 : ∀ w ∈ u_ws RX0 TX0 4, w ∈ wsX11_told := fun _ h => List.mem_cons_of_mem _ (List.mem_append_left _ (List.mem_append_left _ (List.mem_append_left _ (List.mem_append_left _ (List.mem_append_left _ (List.mem_append_right _ h))))))
theorem hin_X11_told_X3 : ∀ w ∈ u_ws RX3 TX3 4, w ∈ wsX11_told := fun _ h => List.mem_cons_of_mem _ (List.mem_append_left _ (List.mem_append_left _ (List.mem_append_left _ (List.mem_append_left _ (List.mem_append_right _ h)))))
theorem hin_X11_told_X4 : ∀ w ∈ u_ws RX4 TX4 4, w ∈ wsX11_told := fun _ h => List.mem_cons_of_mem _ (List.mem_append_left _ (List.mem_append_left _ (List.mem_append_left _ (List.mem_append_right _ h))))
theorem hin_X11_told_X9 : ∀ w ∈ u_ws RX9 TX9 4, w ∈ wsX11_told := fun _ h => List.mem_cons_of_mem _ (List.mem_append_left _ (List.mem_append_left _ (List.mem_append_right _ h)))
theorem hin_X11_told_X10 : ∀ w ∈ u_ws RX10 TX10 4, w ∈ wsX11_told := fun _ h => List.mem_cons_of_mem _ (List.mem_append_left _ (List.mem_append_right _ h))
theorem lk_X11_told_10 : Cond.fieldLink (yX11_told).cls 10 "DripLines" (TX11 0).2.1 (TX11 0).2.2.1 ∈ wsX11_told := by decide +kernel
set_option maxHeartbeats 4000000 in
set_option maxRecDepth 100000 in
theorem ccl11_told (l : Launch) (D : va_G) (cI cP cII : ClassId) (TY : dl_TY) (hTY : TY[0]? = some (cI, .int)) (hT1 : TY[1]? = some (cP, .object "DripLines$Place")) (ad : Nat → Nat) (pr : Nat → Option Nat) (R : va_W) (g : dl_Sg) (hok : cc_ok ad pr g R) (x1 x2 : Int32) {r0 : Int32} (h : cl11_told g x1 x2 = some r0) : dl_CtI l D TY cc_nw yX11_told wsX11_told { frames := 2, cells := 0, slots := 0, locals := 42 } 0 0 [.ref (ad 0), .int x1, .int x2] (cc_w cI cP cII ad pr g ++ R) (fun r u => r = r0 ∧ u = cc_w cI cP cII ad pr g ++ R) := by
  refine dl_metI (ty := .int) [(0, .ref (ad 0)), (1, .int x1), (2, .int x2)] (by decide) rfl (Nat.le_of_ble_eq_true rfl) rfl ?_
  intro p e s m args below meth c Q A C hQ
  unfold cl11_told at h
  refine dl_aload_n (pc := 0) C 0 dX11_told_0 rfl rfl ?_
  refine dl_get (pc := 1) C hin_X11_told_X11 0 cc_a0 rfl 0 (by decide) lk_X11_told_10 rfl rfl dX11_told_1 ?_
  refine dl_iload_n (pc := 4) C 1 dX11_told_4 rfl rfl ?_
  obtain ⟨r, h1, h⟩ := dl_bi_some h
  by_cases hr : r = 0
  · rw [if_pos hr] at h
    refine dl_vN0 (pc := 5) C (ccl2_placeAtN l D cI cP cII TY hTY ad pr R g x1 h1 hr) (cwV 1 C.2.2.2.2.1 gX11_told_X2_placeAt rfl rfl rfl (by decide +kernel) ⟨Nat.le_of_ble_eq_true rfl, Nat.le_of_ble_eq_true rfl⟩) 1 2 cc_a1 rfl rfl rfl (Nat.le_of_ble_eq_true rfl) dX11_told_5 ⟨Nat.zero_le _, Nat.zero_le _⟩ ?_
    refine dl_astore_nN (pc := 8) C [(3, .null), (0, .ref (ad 0)), (1, .int x1), (2, .int x2)] dX11_told_8 rfl (by decide) rfl ?_
    refine dl_aload_nN (pc := 9) C 0 dX11_told_9 rfl rfl ?_
    refine dl_ifnonnullN (pc := 10) C dX11_told_10 ?_
    refine dl_iconst (pc := 13) C (-1) dX11_told_13 (by decide) ?_
    exact hQ 14 _ _ _ ⟨Option.some.inj h, rfl⟩ (vp_nar_int _) dX11_told_14
  rw [if_neg hr] at h
  obtain ⟨hi, h⟩ := dl_gd_some h
  obtain ⟨q, a, st, hpa, hq⟩ := hok x1.toNatClampNeg (cc_has h1 hr)
  refine dl_vR (pc := 5) C (ccl2_placeAt l D cI cP cII TY hTY hT1 ad pr R g x1 a h1 hr hi hpa) (cwV 1 C.2.2.2.2.1 gX11_told_X2_placeAt rfl rfl rfl (by decide +kernel) ⟨Nat.le_of_ble_eq_true rfl, Nat.le_of_ble_eq_true rfl⟩) 1 2 cc_a1 rfl rfl rfl (Nat.le_of_ble_eq_true rfl) dX11_told_5 ⟨Nat.le_of_ble_eq_true rfl, Nat.le_of_ble_eq_true rfl⟩ (fun a1 u hp => ?_)
  obtain ⟨ha1, rfl⟩ := hp
  rw [ha1]
  clear ha1
  refine dl_astore_n (pc := 8) C [(3, .ref a), (0, .ref (ad 0)), (1, .int x1), (2, .int x2)] dX11_told_8 rfl (by decide) rfl ?_
  refine dl_aload_n (pc := 9) C 0 dX11_told_9 rfl rfl ?_
  refine dl_ifnonnull (pc := 10) C 15 dX11_told_10 (by decide) ?_
  refine dl_iload_n (pc := 15) C 3 dX11_told_15 rfl rfl ?_
  by_cases t0 : x2 = 0
  · rw [if_pos t0] at h
    obtain ⟨r2, h2, h⟩ := dl_bi_some h
    refine dl_tabIn (pc := 16) C 28 44 dX11_told_16 (by rw [t0]; decide) (by rw [t0]; decide) (by rw [t0]; rfl) (by decide) ?_
    refine dl_aload_n (pc := 44) C 0 dX11_told_44 rfl rfl ?_
    refine kd_X11_told (pc := 45) l D cI cP cII TY hTY ad pr R g C hq h2 dX11_told_45 (Nat.le_of_ble_eq_true rfl) ⟨Nat.le_of_ble_eq_true rfl, Nat.le_of_ble_eq_true rfl⟩ ?_
    exact hQ 48 _ _ _ ⟨Option.some.inj h, rfl⟩ (vp_nar_int _) dX11_told_48
  rw [if_neg t0] at h
  by_cases t1 : x2 = 1
  · rw [if_pos t1] at h
    refine dl_tabIn (pc := 16) C 33 49 dX11_told_16 (by rw [t1]; decide) (by rw [t1]; decide) (by rw [t1]; rfl) (by decide) ?_
    refine dl_aload_n (pc := 49) C 0 dX11_told_49 rfl rfl ?_
    by_cases q1 : g 7 x1.toNatClampNeg = 1
    · rw [show cc_ci (g 7 x1.toNatClampNeg) = 4 by rw [q1]; rfl] at hq
      refine dl_get (pc := 50) C hin_X11_told_X4 (33 + q) (cc_q hq) rfl 1 (by decide) (show Cond.fieldLink yX11_told.cls 111 "DripLines$Place" (TX4 1).2.1 (TX4 1).2.2.1 ∈ wsX11_told by decide +kernel) rfl rfl dX11_told_50 ?_
      exact hQ 53 _ _ _ ⟨Option.some.inj h, rfl⟩ (vp_nar_int _) dX11_told_53
    by_cases q2 : g 7 x1.toNatClampNeg = 2
    · rw [show cc_ci (g 7 x1.toNatClampNeg) = 10 by rw [q2]; rfl] at hq
      refine dl_get (pc := 50) C hin_X11_told_X10 (33 + q) (cc_q hq) rfl 1 (by decide) (show Cond.fieldLink yX11_told.cls 111 "DripLines$Place" (TX10 1).2.1 (TX10 1).2.2.1 ∈ wsX11_told by decide +kernel) rfl rfl dX11_told_50 ?_
      exact hQ 53 _ _ _ ⟨Option.some.inj h, rfl⟩ (vp_nar_int _) dX11_told_53
    by_cases q3 : g 7 x1.toNatClampNeg = 3
    · rw [show cc_ci (g 7 x1.toNatClampNeg) = 9 by rw [q3]; rfl] at hq
      refine dl_get (pc := 50) C hin_X11_told_X9 (33 + q) (cc_q hq) rfl 1 (by decide) (show Cond.fieldLink yX11_told.cls 111 "DripLines$Place" (TX9 1).2.1 (TX9 1).2.2.1 ∈ wsX11_told by decide +kernel) rfl rfl dX11_told_50 ?_
      exact hQ 53 _ _ _ ⟨Option.some.inj h, rfl⟩ (vp_nar_int _) dX11_told_53
    by_cases q4 : g 7 x1.toNatClampNeg = 4
    · rw [show cc_ci (g 7 x1.toNatClampNeg) = 0 by rw [q4]; rfl] at hq
      refine dl_get (pc := 50) C hin_X11_told_X0 (33 + q) (cc_q hq) rfl 1 (by decide) (show Cond.fieldLink yX11_told.cls 111 "DripLines$Place" (TX0 1).2.1 (TX0 1).2.2.1 ∈ wsX11_told by decide +kernel) rfl rfl dX11_told_50 ?_
      exact hQ 53 _ _ _ ⟨Option.some.inj h, rfl⟩ (vp_nar_int _) dX11_told_53
    rw [cc_ci0 q1 q2 q3 q4] at hq
    refine dl_get (pc := 50) C hin_X11_told_X3 (33 + q) (cc_q hq) rfl 1 (by decide) (show Cond.fieldLink yX11_told.cls 111 "DripLines$Place" (TX3 1).2.1 (TX3 1).2.2.1 ∈ wsX11_told by decide +kernel) rfl rfl dX11_told_50 ?_
    exact hQ 53 _ _ _ ⟨Option.some.inj h, rfl⟩ (vp_nar_int _) dX11_told_53
  rw [if_neg t1] at h
  by_cases t2 : x2 = 2
  · rw [if_pos t2] at h
    obtain ⟨r2, h2, h⟩ := dl_bi_some h
    refine dl_tabIn (pc := 16) C 38 54 dX11_told_16 (by rw [t2]; decide) (by rw [t2]; decide) (by rw [t2]; rfl) (by decide) ?_
    refine dl_aload_n (pc := 54) C 1 dX11_told_54 rfl rfl ?_
    refine dl_get (pc := 55) C hin_X11_told_X11 0 cc_a0 rfl 0 (by decide) lk_X11_told_10 rfl rfl dX11_told_55 ?_
    refine dl_iload_n (pc := 58) C 2 dX11_told_58 rfl rfl ?_
    refine dl_vI0 (pc := 59) C (ccl2_streetsAt l D cI cP cII TY hTY ad pr R _ _ h2) (cwV 1 C.2.2.2.2.1 gX11_told_X2_streetsAt rfl rfl rfl (by decide +kernel) ⟨Nat.le_of_ble_eq_true rfl, Nat.le_of_ble_eq_true rfl⟩) 1 2 cc_a1 rfl rfl rfl (Nat.le_of_ble_eq_true rfl) dX11_told_59 ⟨Nat.zero_le _, Nat.zero_le _⟩ (fun r u hp => ?_)
    obtain ⟨rfl, rfl⟩ := hp
    exact hQ 62 _ _ _ ⟨Option.some.inj h, rfl⟩ (vp_nar_int _) dX11_told_62
  rw [if_neg t2] at h
  refine dl_tabOut (pc := 16) C 63 dX11_told_16 (by have e0 : x2.toInt ≠ 0 := fun w => t0 (Int32.toInt_inj.mp w); have e1 : x2.toInt ≠ 1 := fun w => t1 (Int32.toInt_inj.mp w); have e2 : x2.toInt ≠ 2 := fun w => t2 (Int32.toInt_inj.mp w); omega) (by decide) ?_
  refine dl_iconst (pc := 63) C (-1) dX11_told_63 (by decide) ?_
  exact hQ 64 _ _ _ ⟨Option.some.inj h, rfl⟩ (vp_nar_int _) dX11_told_64
