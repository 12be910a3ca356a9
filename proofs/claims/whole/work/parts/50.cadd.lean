section
variable {p : Program} {l : Launch} {e : Env} {R : Room} {s : State} {m : MethodId} {args : Array Value} {below : List Frame} {meth : Method} {c : Code} {Q : State → Prop} {A : Nat → Prop} {D : va_G} {TY : dl_TY} {cc : ByteArray} {nL cells slots pc : Nat} {lv lv' : List (Nat × Value)} {st : List Value} {ws : va_W} {own : String} {Ts : List Cond}
/-- a place of whatever KIND goes into the row of places -/
theorem dl_aastP (C : dl_Cx p s m args c A D TY cc_nw cc nL own Ts) {a n v : Nat} {cA : ClassId} {f : Nat → Option Nat} {i : Int32} {ws' : va_W} (k0 : Int32) (q0 t0 qk : Nat) {vs : List Value} (ha : ws[q0]? = some (a, .inl (cA, n, .inr (.inr (.inr (.inr f)))))) (ht : TY[t0]? = some (cA, .object "DripLines$Place")) (hv : ws[qk]? = some (v, .inr (cc_ci k0, vs))) (hin : dl_in i n = true) (hd : decode cc pc = .ok (.aastore, 1)) (hw : ws.set q0 (a, .inl (cA, n, .inr (.inr (.inr (.inr (va_up f i.toNatClampNeg (some v))))))) = ws') (k : dl_At p l e R s m args below meth c Q A D nL cells slots (pc + 1) lv st ws') : dl_At p l e R s m args below meth c Q A D nL cells slots pc lv (.ref v :: .int i :: .ref a :: st) ws := by
  unfold cc_ci at hv
  split at hv
  · exact dl_aastO C q0 t0 qk 4 (r := (RX4, TX4, 4)) ha ht (show Cond.castable "DripLines$Tap" "DripLines$Place" ∈ cc_nw by decide +kernel) hv rfl hin hd hw k
  · split at hv
    · exact dl_aastO C q0 t0 qk 10 (r := (RX10, TX10, 4)) ha ht (show Cond.castable "DripLines$Wish" "DripLines$Place" ∈ cc_nw by decide +kernel) hv rfl hin hd hw k
    · split at hv
      · exact dl_aastO C q0 t0 qk 9 (r := (RX9, TX9, 4)) ha ht (show Cond.castable "DripLines$Well" "DripLines$Place" ∈ cc_nw by decide +kernel) hv rfl hin hd hw k
      · split at hv
        · exact dl_aastO C q0 t0 qk 0 (r := (RX0, TX0, 4)) ha ht (show Cond.castable "DripLines$Gate" "DripLines$Place" ∈ cc_nw by decide +kernel) hv rfl hin hd hw k
        · exact dl_aastE C q0 t0 qk 3 (r := (RX3, TX3, 4)) ha ht hv rfl hin hd hw k
end
theorem dl_istore_nP {p : Program} {l : Launch} {e : Env} {R : Room} {s : State} {m : MethodId} {args : Array Value} {below : List Frame} {meth : Method} {c : Code} {Q : State → Prop} {A : Nat → Prop} {D : va_G} {TY : dl_TY} {nw : List Cond} {cc : ByteArray} {nL cells slots pc : Nat} {lv : List (Nat × Value)} {st : List Value} {ws : va_W} {own : String} {Ts : List Cond} (C : dl_Cx p s m args c A D TY nw cc nL own Ts) {k0 : Fin 4} {i : Nat} {x : Int32} (lv2 : List (Nat × Value)) (hd : decode cc pc = .ok (.istore_n k0, 1)) (hi : (k0 : Nat) = i) (hn : i < nL) (hl2 : (i, Value.int x) :: lv.filter (fun q => !(q.1 == i) && !(q.1 + 1 == i && q.2.category == 2)) = lv2) (k : dl_At p l e R s m args below meth c Q A D nL cells slots (pc + 1) lv2 st ws) : dl_At p l e R s m args below meth c Q A D nL cells slots pc lv (.int x :: st) ws :=
  fun H locs ls hP hD hS hl => lv_istore_n C.1 C.2.1 hd hi hl hn hl2 (fun ls' hl' => k H locs ls' hP hD hS hl')
def cl2_addPlace_b82 (x3 : Int32) (g : dl_Sg) : Option (Int32 × dl_Sg) :=
    dl_nm (dl_s2 g 1 10 ((g 1 10) + (1 : Int32))) fun g1 =>
    dl_bi (cl2_note g1 (-1 : Int32)) fun g2 =>
    some (x3, g2)
def cl2_addPlace_b72 (x1 : Int32) (x3 : Int32) (g : dl_Sg) : Option (Int32 × dl_Sg) :=
    if x1 = (3 : Int32) then (
    dl_nm (dl_s2 g 1 13 x3) fun g1 =>
    cl2_addPlace_b82 x3 g1)
    else (
    cl2_addPlace_b82 x3 g)
def cl2_addPlace_b60 (x1 : Int32) (x3 : Int32) (g : dl_Sg) : Option (Int32 × dl_Sg) :=
    dl_nm (dl_s2 g 1 12 ((g 1 12) ||| ((1 : Int32) <<< (x3 &&& 31)))) fun g1 =>
    cl2_addPlace_b72 x1 x3 g1
def cl2_addPlace_b49 (x1 : Int32) (x3 : Int32) (y1 : Int32) (y2 : Int32) (g : dl_Sg) : Option (Int32 × dl_Sg) :=
    dl_gd (dl_in y1 10) (dl_nm (dl_wr g 11 y1 y2) fun g1 =>
    if x1 = (1 : Int32) then (
    cl2_addPlace_b60 x1 x3 g1)
    else (
    if x1 = (3 : Int32) then (
    cl2_addPlace_b60 x1 x3 g1)
    else (
    cl2_addPlace_b72 x1 x3 g1)))
def cl2_addPlace_b33 (x1 : Int32) (x2 : Int32) (x3 : Int32) (y1 : Int32) (y2 : Int32) (g : dl_Sg) : Option (Int32 × dl_Sg) :=
    dl_gd (dl_in y1 10) (dl_nm (dl_wr g 10 y1 y2) fun g1 =>
    if x1 = (2 : Int32) then (
    cl2_addPlace_b49 x1 x3 x3 x2 g1)
    else (
    cl2_addPlace_b49 x1 x3 x3 (0 : Int32) g1))
def cl2_addPlace (g : dl_Sg) (x1 : Int32) (x2 : Int32) : Option (Int32 × dl_Sg) :=
    dl_nm (g 1 10) fun v1 =>
    dl_gd (dl_in v1 10) (dl_nm (dl_wr g 7 v1 x1) fun gA => dl_nm (dl_wr gA 8 v1 x2) fun gB =>
    if x1 = (4 : Int32) then (
    cl2_addPlace_b33 x1 x2 v1 v1 x2 gB)
    else (
    cl2_addPlace_b33 x1 x2 v1 v1 (0 : Int32) gB))
theorem hin_X2_addPlace_X2 : ∀ w ∈ u_ws RX2 TX2 18, w ∈ wsX2_addPlace := fun _ h => List.mem_cons_of_mem _ (List.mem_append_left _ (List.mem_append_left _ (List.mem_append_left _ (List.mem_append_left _ (List.mem_append_left _ (List.mem_append_right _ h))))))
theorem lk_X2_addPlace_21 : Cond.fieldLink (yX2_addPlace).cls 21 "DripLines$Net" (TX2 2).2.1 (TX2 2).2.2.1 ∈ wsX2_addPlace := by decide +kernel
theorem lk_X2_addPlace_49 : Cond.fieldLink (yX2_addPlace).cls 49 "DripLines$Net" (TX2 13).2.1 (TX2 13).2.2.1 ∈ wsX2_addPlace := by decide +kernel
theorem lk_X2_addPlace_53 : Cond.fieldLink (yX2_addPlace).cls 53 "DripLines$Net" (TX2 10).2.1 (TX2 10).2.2.1 ∈ wsX2_addPlace := by decide +kernel
theorem lk_X2_addPlace_66 : Cond.fieldLink (yX2_addPlace).cls 66 "DripLines$Net" (TX2 12).2.1 (TX2 12).2.2.1 ∈ wsX2_addPlace := by decide +kernel
theorem lk_X2_addPlace_11 : Cond.fieldLink (yX2_addPlace).cls 11 "DripLines$Net" (TX2 0).2.1 (TX2 0).2.2.1 ∈ wsX2_addPlace := by decide +kernel
theorem lk_X2_addPlace_17 : Cond.fieldLink (yX2_addPlace).cls 17 "DripLines$Net" (TX2 1).2.1 (TX2 1).2.2.1 ∈ wsX2_addPlace := by decide +kernel
set_option maxHeartbeats 4000000 in
set_option maxRecDepth 100000 in
theorem cl2_addPlace_t82 {p : Program} {e : Env} {s : State} {m : MethodId} {args : Array Value} {below : List Frame} {meth : Method} {c : Code} {Q : State → Prop} {A : Nat → Prop} (l : Launch) (D : va_G) (cI cP cII : ClassId) (TY : dl_TY) (hTY : TY[0]? = some (cI, .int)) (ad : Nat → Nat) (pr : Nat → Option Nat) (R : va_W) {r0 : Int32} {g0 : dl_Sg} (C : dl_Cx p s m args c A D TY cc_nw cX2_addPlace 4 yX2_addPlace.cls wsX2_addPlace) (hQ : dl_RtI p l e (headSpec wsX2_addPlace { frames := 5, cells := 1, slots := 4, locals := 104 }).room s m args below meth c Q A D cX2_addPlace 4 1 4 .int (fun r u => r = r0 ∧ u = cc_w cI cP cII ad pr g0 ++ R)) (x3 : Int32) (g : dl_Sg) (h : cl2_addPlace_b82 x3 g = some (r0, g0)) : dl_At p l e (headSpec wsX2_addPlace { frames := 5, cells := 1, slots := 4, locals := 104 }).room s m args below meth c Q A D 4 1 4 82 [(0, .ref (ad 1)), (3, .int x3)] [] (cc_w cI cP cII ad pr g ++ R) := by
  unfold cl2_addPlace_b82 at h
  refine dl_aload_n (pc := 82) C 0 dX2_addPlace_82 rfl rfl ?_
  refine dl_dup (pc := 83) C dX2_addPlace_83 rfl ?_
  refine dl_get (pc := 84) C hin_X2_addPlace_X2 1 cc_a1 rfl 10 (by decide) lk_X2_addPlace_53 rfl rfl dX2_addPlace_84 ?_
  refine dl_iconst (pc := 87) C 1 dX2_addPlace_87 (by decide) ?_
  refine dl_iadd (pc := 88) C dX2_addPlace_88 ?_
  refine dl_put (pc := 89) C hin_X2_addPlace_X2 tyX2 tyX2_ok nmX2 1 cc_a1 rfl 10 (by decide) lk_X2_addPlace_53 rfl rfl (ty := .int) rfl (vp_nar_int _) rfl (Nat.le_of_ble_eq_true rfl) dX2_addPlace_89 cc_p1_10 ?_
  obtain ⟨g1, h, hg⟩ := dl_nm_some h
  rw [← hg]
  clear hg
  refine dl_aload_n (pc := 92) C 0 dX2_addPlace_92 rfl rfl ?_
  refine dl_iconst (pc := 93) C (-1) dX2_addPlace_93 (by decide) ?_
  obtain ⟨g2, h1, h⟩ := dl_bi_some h
  refine dl_vV0 (pc := 94) C (ccl2_note l D cI cP cII TY hTY ad pr R _ _ h1) (cwV 1 C.2.2.2.2.1 gX2_addPlace_X2_note rfl rfl rfl (by decide +kernel) ⟨Nat.le_of_ble_eq_true rfl, Nat.le_of_ble_eq_true rfl⟩) 1 2 cc_a1 rfl rfl rfl (Nat.le_of_ble_eq_true rfl) dX2_addPlace_94 ⟨Nat.le_refl _, Nat.le_refl _⟩ (fun u hp => ?_)
  subst hp
  refine dl_iload_n (pc := 97) C 1 dX2_addPlace_97 rfl rfl ?_
  exact hQ 98 _ _ _ ⟨(dl_r2 h).1, by rw [(dl_r2 h).2]⟩ (vp_nar_int _) dX2_addPlace_98
set_option maxHeartbeats 4000000 in
set_option maxRecDepth 100000 in
theorem cl2_addPlace_t72 {p : Program} {e : Env} {s : State} {m : MethodId} {args : Array Value} {below : List Frame} {meth : Method} {c : Code} {Q : State → Prop} {A : Nat → Prop} (l : Launch) (D : va_G) (cI cP cII : ClassId) (TY : dl_TY) (hTY : TY[0]? = some (cI, .int)) (ad : Nat → Nat) (pr : Nat → Option Nat) (R : va_W) {r0 : Int32} {g0 : dl_Sg} (C : dl_Cx p s m args c A D TY cc_nw cX2_addPlace 4 yX2_addPlace.cls wsX2_addPlace) (hQ : dl_RtI p l e (headSpec wsX2_addPlace { frames := 5, cells := 1, slots := 4, locals := 104 }).room s m args below meth c Q A D cX2_addPlace 4 1 4 .int (fun r u => r = r0 ∧ u = cc_w cI cP cII ad pr g0 ++ R)) (x1 : Int32) (x3 : Int32) (g : dl_Sg) (h : cl2_addPlace_b72 x1 x3 g = some (r0, g0)) : dl_At p l e (headSpec wsX2_addPlace { frames := 5, cells := 1, slots := 4, locals := 104 }).room s m args below meth c Q A D 4 1 4 72 [(0, .ref (ad 1)), (1, .int x1), (3, .int x3)] [] (cc_w cI cP cII ad pr g ++ R) := by
  unfold cl2_addPlace_b72 at h
  refine dl_iload_n (pc := 72) C 1 dX2_addPlace_72 rfl rfl ?_
  refine dl_iconst (pc := 73) C 3 dX2_addPlace_73 (by decide) ?_
  refine dl_icmp_ne (pc := 74) C 82 dX2_addPlace_74 (by decide) h (fun q2 h => ?_) (fun q2 h => ?_)
  · refine dl_aload_n (pc := 77) C 0 dX2_addPlace_77 rfl rfl ?_
    refine dl_iload_n (pc := 78) C 2 dX2_addPlace_78 rfl rfl ?_
    refine dl_put (pc := 79) C hin_X2_addPlace_X2 tyX2 tyX2_ok nmX2 1 cc_a1 rfl 13 (by decide) lk_X2_addPlace_49 rfl rfl (ty := .int) rfl (vp_nar_int _) rfl (Nat.le_of_ble_eq_true rfl) dX2_addPlace_79 cc_p1_13 ?_
    obtain ⟨g1, h, hg⟩ := dl_nm_some h
    rw [← hg]
    clear hg
    refine dl_sub [0, 2] rfl ?_
    exact cl2_addPlace_t82 l D cI cP cII TY hTY ad pr R C hQ  _ _ h
  · refine dl_sub [0, 2] rfl ?_
    exact cl2_addPlace_t82 l D cI cP cII TY hTY ad pr R C hQ  _ _ h
set_option maxHeartbeats 4000000 in
set_option maxRecDepth 100000 in
theorem cl2_addPlace_t60 {p : Program} {e : Env} {s : State} {m : MethodId} {args : Array Value} {below : List Frame} {meth : Method} {c : Code} {Q : State → Prop} {A : Nat → Prop} (l : Launch) (D : va_G) (cI cP cII : ClassId) (TY : dl_TY) (hTY : TY[0]? = some (cI, .int)) (ad : Nat → Nat) (pr : Nat → Option Nat) (R : va_W) {r0 : Int32} {g0 : dl_Sg} (C : dl_Cx p s m args c A D TY cc_nw cX2_addPlace 4 yX2_addPlace.cls wsX2_addPlace) (hQ : dl_RtI p l e (headSpec wsX2_addPlace { frames := 5, cells := 1, slots := 4, locals := 104 }).room s m args below meth c Q A D cX2_addPlace 4 1 4 .int (fun r u => r = r0 ∧ u = cc_w cI cP cII ad pr g0 ++ R)) (x1 : Int32) (x3 : Int32) (g : dl_Sg) (h : cl2_addPlace_b60 x1 x3 g = some (r0, g0)) : dl_At p l e (headSpec wsX2_addPlace { frames := 5, cells := 1, slots := 4, locals := 104 }).room s m args below meth c Q A D 4 1 4 60 [(0, .ref (ad 1)), (1, .int x1), (3, .int x3)] [] (cc_w cI cP cII ad pr g ++ R) := by
  unfold cl2_addPlace_b60 at h
  refine dl_aload_n (pc := 60) C 0 dX2_addPlace_60 rfl rfl ?_
  refine dl_dup (pc := 61) C dX2_addPlace_61 rfl ?_
  refine dl_get (pc := 62) C hin_X2_addPlace_X2 1 cc_a1 rfl 12 (by decide) lk_X2_addPlace_66 rfl rfl dX2_addPlace_62 ?_
  refine dl_iconst (pc := 65) C 1 dX2_addPlace_65 (by decide) ?_
  refine dl_iload_n (pc := 66) C 2 dX2_addPlace_66 rfl rfl ?_
  refine dl_ishl (pc := 67) C dX2_addPlace_67 ?_
  refine dl_ior (pc := 68) C dX2_addPlace_68 ?_
  refine dl_put (pc := 69) C hin_X2_addPlace_X2 tyX2 tyX2_ok nmX2 1 cc_a1 rfl 12 (by decide) lk_X2_addPlace_66 rfl rfl (ty := .int) rfl (vp_nar_int _) rfl (Nat.le_of_ble_eq_true rfl) dX2_addPlace_69 cc_p1_12 ?_
  obtain ⟨g1, h, hg⟩ := dl_nm_some h
  rw [← hg]
  clear hg
  refine dl_sub [0, 1, 2] rfl ?_
  exact cl2_addPlace_t72 l D cI cP cII TY hTY ad pr R C hQ  _ _ _ h
set_option maxHeartbeats 4000000 in
set_option maxRecDepth 100000 in
theorem cl2_addPlace_t49 {p : Program} {e : Env} {s : State} {m : MethodId} {args : Array Value} {below : List Frame} {meth : Method} {c : Code} {Q : State → Prop} {A : Nat → Prop} (l : Launch) (D : va_G) (cI cP cII : ClassId) (TY : dl_TY) (hTY : TY[0]? = some (cI, .int)) (ad : Nat → Nat) (pr : Nat → Option Nat) (R : va_W) {r0 : Int32} {g0 : dl_Sg} (C : dl_Cx p s m args c A D TY cc_nw cX2_addPlace 4 yX2_addPlace.cls wsX2_addPlace) (hQ : dl_RtI p l e (headSpec wsX2_addPlace { frames := 5, cells := 1, slots := 4, locals := 104 }).room s m args below meth c Q A D cX2_addPlace 4 1 4 .int (fun r u => r = r0 ∧ u = cc_w cI cP cII ad pr g0 ++ R)) (x1 : Int32) (x3 : Int32) (y1 : Int32) (y2 : Int32) (g : dl_Sg) (h : cl2_addPlace_b49 x1 x3 y1 y2 g = some (r0, g0)) : dl_At p l e (headSpec wsX2_addPlace { frames := 5, cells := 1, slots := 4, locals := 104 }).room s m args below meth c Q A D 4 1 4 49 [(0, .ref (ad 1)), (1, .int x1), (3, .int x3)] [.int y2, .int y1, .ref (ad 11)] (cc_w cI cP cII ad pr g ++ R) := by
  unfold cl2_addPlace_b49 at h
  obtain ⟨h0, h⟩ := dl_gd_some h
  refine dl_iast (pc := 49) C 8 0 cc_a11 hTY h0 dX2_addPlace_49 cc_s11 ?_
  obtain ⟨g1, h, hg⟩ := dl_nm_some h
  rw [← hg]
  clear hg
  refine dl_iload_n (pc := 50) C 1 dX2_addPlace_50 rfl rfl ?_
  refine dl_iconst (pc := 51) C 1 dX2_addPlace_51 (by decide) ?_
  refine dl_icmp_eq (pc := 52) C 60 dX2_addPlace_52 (by decide) h (fun q3 h => ?_) (fun q3 h => ?_)
  · refine dl_sub [0, 1, 2] rfl ?_
    exact cl2_addPlace_t60 l D cI cP cII TY hTY ad pr R C hQ  _ _ _ h
  · refine dl_iload_n (pc := 55) C 1 dX2_addPlace_55 rfl rfl ?_
    refine dl_iconst (pc := 56) C 3 dX2_addPlace_56 (by decide) ?_
    refine dl_icmp_ne (pc := 57) C 72 dX2_addPlace_57 (by decide) h (fun q2 h => ?_) (fun q2 h => ?_)
    · refine dl_sub [0, 1, 2] rfl ?_
      exact cl2_addPlace_t60 l D cI cP cII TY hTY ad pr R C hQ  _ _ _ h
    · refine dl_sub [0, 1, 2] rfl ?_
      exact cl2_addPlace_t72 l D cI cP cII TY hTY ad pr R C hQ  _ _ _ h
set_option maxHeartbeats 4000000 in
set_option maxRecDepth 100000 in
theorem cl2_addPlace_t33 {p : Program} {e : Env} {s : State} {m : MethodId} {args : Array Value} {below : List Frame} {meth : Method} {c : Code} {Q : State → Prop} {A : Nat → Prop} (l : Launch) (D : va_G) (cI cP cII : ClassId) (TY : dl_TY) (hTY : TY[0]? = some (cI, .int)) (ad : Nat → Nat) (pr : Nat → Option Nat) (R : va_W) {r0 : Int32} {g0 : dl_Sg} (C : dl_Cx p s m args c A D TY cc_nw cX2_addPlace 4 yX2_addPlace.cls wsX2_addPlace) (hQ : dl_RtI p l e (headSpec wsX2_addPlace { frames := 5, cells := 1, slots := 4, locals := 104 }).room s m args below meth c Q A D cX2_addPlace 4 1 4 .int (fun r u => r = r0 ∧ u = cc_w cI cP cII ad pr g0 ++ R)) (x1 : Int32) (x2 : Int32) (x3 : Int32) (y1 : Int32) (y2 : Int32) (g : dl_Sg) (h : cl2_addPlace_b33 x1 x2 x3 y1 y2 g = some (r0, g0)) : dl_At p l e (headSpec wsX2_addPlace { frames := 5, cells := 1, slots := 4, locals := 104 }).room s m args below meth c Q A D 4 1 4 33 [(0, .ref (ad 1)), (1, .int x1), (2, .int x2), (3, .int x3)] [.int y2, .int y1, .ref (ad 10)] (cc_w cI cP cII ad pr g ++ R) := by
  unfold cl2_addPlace_b33 at h
  obtain ⟨h0, h⟩ := dl_gd_some h
  refine dl_iast (pc := 33) C 7 0 cc_a10 hTY h0 dX2_addPlace_33 cc_s10 ?_
  obtain ⟨g1, h, hg⟩ := dl_nm_some h
  rw [← hg]
  clear hg
  refine dl_aload_n (pc := 34) C 0 dX2_addPlace_34 rfl rfl ?_
  refine dl_get (pc := 35) C hin_X2_addPlace_X2 1 cc_a1 rfl 2 (by decide) lk_X2_addPlace_21 rfl rfl dX2_addPlace_35 ?_
  refine dl_iload_n (pc := 38) C 3 dX2_addPlace_38 rfl rfl ?_
  refine dl_iload_n (pc := 39) C 1 dX2_addPlace_39 rfl rfl ?_
  refine dl_iconst (pc := 40) C 2 dX2_addPlace_40 (by decide) ?_
  refine dl_icmp_ne (pc := 41) C 48 dX2_addPlace_41 (by decide) h (fun q2 h => ?_) (fun q2 h => ?_)
  · refine dl_iload_n (pc := 44) C 2 dX2_addPlace_44 rfl rfl ?_
    refine dl_goto (pc := 45) C 49 dX2_addPlace_45 (by decide) ?_
    refine dl_sub [0, 1, 3] rfl ?_
    exact cl2_addPlace_t49 l D cI cP cII TY hTY ad pr R C hQ  _ _ _ _ _ h
  · refine dl_iconst (pc := 48) C 0 dX2_addPlace_48 (by decide) ?_
    refine dl_sub [0, 1, 3] rfl ?_
    exact cl2_addPlace_t49 l D cI cP cII TY hTY ad pr R C hQ  _ _ _ _ _ h
set_option maxHeartbeats 4000000 in
set_option maxRecDepth 100000 in
theorem ccl2_addPlace (l : Launch) (D : va_G) (cI cP cII : ClassId) (TY : dl_TY) (hTY : TY[0]? = some (cI, .int)) (hT1 : TY[1]? = some (cP, .object "DripLines$Place")) (ad : Nat → Nat) (pr : Nat → Option Nat) (R : va_W) (g : dl_Sg) (x1 x2 : Int32) {r0 : Int32} {g0 : dl_Sg} (h : cl2_addPlace g x1 x2 = some (r0, g0)) : dl_CtI l D TY cc_nw yX2_addPlace wsX2_addPlace { frames := 5, cells := 1, slots := 4, locals := 104 } 1 4 [.ref (ad 1), .int x1, .int x2] (cc_w cI cP cII ad pr g ++ R) (fun r u => r = r0 ∧ ∃ a, u = cc_w cI cP cII ad (va_up pr (g 1 10).toNatClampNeg (some a)) g0 ++ (R ++ [(a, .inr (cc_ci x1, [.int (g 1 10), .int x2, .ref (ad 6), .int 0]))])) := by
  refine dl_metI (ty := .int) [(0, .ref (ad 1)), (1, .int x1), (2, .int x2)] (by decide) rfl (Nat.le_of_ble_eq_true rfl) rfl ?_
  intro p e s m args below meth c Q A C hQ
  unfold cl2_addPlace at h
  refine dl_aload_n (pc := 0) C 0 dX2_addPlace_0 rfl rfl ?_
  refine dl_get (pc := 1) C hin_X2_addPlace_X2 1 cc_a1 rfl 10 (by decide) lk_X2_addPlace_53 rfl rfl dX2_addPlace_1 ?_
  have h := (show (dl_gd (dl_in (g 1 10) 10) _) = some (r0, g0) from h)
  obtain ⟨h0, h⟩ := dl_gd_some h
  obtain ⟨gA, h, hgA⟩ := dl_nm_some h
  obtain ⟨gB, h, hgB⟩ := dl_nm_some h
  have hwe : ∀ (pr : Nat → Option Nat), cc_w cI cP cII ad pr g = cc_w cI cP cII ad pr gB := fun pr => by rw [hgB, hgA]; rfl
  refine dl_istore_nP (pc := 4) C [(3, .int (g 1 10)), (0, .ref (ad 1)), (1, .int x1), (2, .int x2)] dX2_addPlace_4 rfl (by decide) rfl ?_
  refine dl_aload_n (pc := 5) C 1 dX2_addPlace_5 rfl rfl ?_
  refine dl_get (pc := 6) C hin_X2_addPlace_X2 1 cc_a1 rfl 0 (by decide) lk_X2_addPlace_11 rfl rfl dX2_addPlace_6 ?_
  refine dl_iload_n (pc := 9) C 0 dX2_addPlace_9 rfl rfl ?_
  refine dl_aload_n (pc := 10) C 1 dX2_addPlace_10 rfl rfl ?_
  refine dl_iload_n (pc := 11) C 2 dX2_addPlace_11 rfl rfl ?_
  refine dl_iload_n (pc := 12) C 0 dX2_addPlace_12 rfl rfl ?_
  refine dl_iload_n (pc := 13) C 3 dX2_addPlace_13 rfl rfl ?_
  refine dl_vR (pc := 14) C (ccl2_newPlace l D cI cP cII TY ad pr R g x1 (g 1 10) x2) (cwV 3 C.2.2.2.2.1 gX2_addPlace_X2_newPlace rfl rfl rfl (by decide +kernel) ⟨Nat.le_of_ble_eq_true rfl, Nat.le_of_ble_eq_true rfl⟩) 1 2 cc_a1 rfl rfl rfl (Nat.le_of_ble_eq_true rfl) dX2_addPlace_14 ⟨Nat.le_of_ble_eq_true rfl, Nat.le_of_ble_eq_true rfl⟩ (fun a u hp => ?_)
  subst hp
  have hq : ((cc_w cI cP cII ad pr g ++ R) ++ [(a, .inr (cc_ci x1, [.int (g 1 10), .int x2, .ref (ad 6), .int 0]))] : va_W)[(cc_w cI cP cII ad pr g ++ R).length]? = some (a, .inr (cc_ci x1, [.int (g 1 10), .int x2, .ref (ad 6), .int 0])) := by rw [List.getElem?_append_right (Nat.le_refl _), Nat.sub_self]; rfl
  refine dl_aastP (pc := 17) (cA := cP) (n := 10) (f := pr) C x1 31 1 _ rfl hT1 hq h0 dX2_addPlace_17 (ws' := cc_w cI cP cII ad (va_up pr (g 1 10).toNatClampNeg (some a)) g ++ (R ++ [(a, .inr (cc_ci x1, [.int (g 1 10), .int x2, .ref (ad 6), .int 0]))])) rfl ?_
  rw [hwe]
  refine dl_aload_n (pc := 18) C 1 dX2_addPlace_18 rfl rfl ?_
  refine dl_get (pc := 19) C hin_X2_addPlace_X2 1 cc_a1 rfl 1 (by decide) lk_X2_addPlace_17 rfl rfl dX2_addPlace_19 ?_
  refine dl_iload_n (pc := 22) C 0 dX2_addPlace_22 rfl rfl ?_
  refine dl_iload_n (pc := 23) C 2 dX2_addPlace_23 rfl rfl ?_
  refine dl_iconst (pc := 24) C 4 dX2_addPlace_24 (by decide) ?_
  have hQ2 : dl_RtI p l e (headSpec wsX2_addPlace { frames := 5, cells := 1, slots := 4, locals := 104 }).room s m args below meth c Q A D cX2_addPlace 4 1 4 .int (fun r u => r = r0 ∧ u = cc_w cI cP cII ad (va_up pr (g 1 10).toNatClampNeg (some a)) g0 ++ (R ++ [(a, .inr (cc_ci x1, [.int (g 1 10), .int x2, .ref (ad 6), .int 0]))])) := fun pc lv r u hp hn hd => hQ pc lv r u ⟨hp.1, a, hp.2⟩ hn hd
  refine dl_icmp_ne (pc := 25) C 32 dX2_addPlace_25 (by decide) h (fun q3 h => ?_) (fun q3 h => ?_)
  · refine dl_iload_n (pc := 28) C 3 dX2_addPlace_28 rfl rfl ?_
    refine dl_goto (pc := 29) C 33 dX2_addPlace_29 (by decide) ?_
    refine dl_sub [1, 2, 3, 0] rfl ?_
    exact cl2_addPlace_t33 l D cI cP cII TY hTY ad _ _ C hQ2 _ _ _ _ _ _ h
  · refine dl_iconst (pc := 32) C 0 dX2_addPlace_32 (by decide) ?_
    refine dl_sub [1, 2, 3, 0] rfl ?_
    exact cl2_addPlace_t33 l D cI cP cII TY hTY ad _ _ C hQ2 _ _ _ _ _ _ h
