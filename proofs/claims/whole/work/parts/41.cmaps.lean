theorem dl_in_lt {i : Int32} {n : Nat} (h : dl_in i n = true) : i.toNatClampNeg < n := Nat.not_le.mp fun q => dl_in_t h (Or.inr q)
theorem cc_r5 {ad : Nat → Nat} {j : Nat} (hj : j < 5) : cc_row ad j = some (ad (28 + j)) := by
  match j, hj with
  | 0, _ => rfl
  | 1, _ => rfl
  | 2, _ => rfl
  | 3, _ => rfl
  | 4, _ => rfl
section
variable {cI cP cII : ClassId} {ad : Nat → Nat} {pr : Nat → Option Nat} {g : dl_Sg} {R : va_W}
theorem cc_aR {j : Nat} (hj : j < 5) : (cc_w cI cP cII ad pr g ++ R)[25 + j]? = some (ad (28 + j), .inl (cI, 20, .inl (g (28 + j)))) := by
  match j, hj with
  | 0, _ => rfl
  | 1, _ => rfl
  | 2, _ => rfl
  | 3, _ => rfl
  | 4, _ => rfl
theorem cc_sR {j : Nat} (hj : j < 5) {i v : Int32} : (cc_w cI cP cII ad pr g ++ R).set (25 + j) (ad (28 + j), .inl (cI, 20, .inl (upd (g (28 + j)) i.toNatClampNeg v))) = cc_w cI cP cII ad pr (dl_wr g (28 + j) i v) ++ R := by
  match j, hj with
  | 0, _ => rfl
  | 1, _ => rfl
  | 2, _ => rfl
  | 3, _ => rfl
  | 4, _ => rfl
theorem cc_zR {j : Nat} (hj : j < 5) {v : Int32} : (cc_w cI cP cII ad pr g ++ R).set (25 + j) (ad (28 + j), .inl (cI, 20, .inl (dl_fill (g (28 + j)) 20 v))) = cc_w cI cP cII ad pr (dl_fi g (28 + j) 20 v) ++ R := by
  match j, hj with
  | 0, _ => rfl
  | 1, _ => rfl
  | 2, _ => rfl
  | 3, _ => rfl
  | 4, _ => rfl
end
def cl1_make (g : dl_Sg) (x1 : Int32) (x2 : Int32) (x3 : Int32) : Option dl_Sg :=
    dl_gd (dl_in x1 5) (dl_nm (dl_wr g 25 x1 x2) fun g1 =>
    dl_gd (dl_in x1 5) (dl_nm (dl_wr g1 26 x1 x3) fun g2 =>
    dl_gd (dl_in x1 5) (
    dl_gd (dl_in x1 5) (dl_nm (dl_fi g2 (28 + x1.toNatClampNeg) 20 (0 : Int32)) fun g3 =>
    some g3))))
def cl11_map_b60 (x1 : Int32) (y1 : Int32) (y2 : Int32) (y3 : Int32) (g : dl_Sg) : Option (Int32 × dl_Sg) :=
    dl_bi (cl1_make g y1 y2 y3) fun g1 =>
    dl_b2 (cl11_done g1 (1 : Int32)) fun r2 g3 =>
    some (r2, g3)
def cl11_map_b44 (x1 : Int32) (x2 : Int32) (x3 : Int32) (g : dl_Sg) : Option (Int32 × dl_Sg) :=
    if x2 = (-1 : Int32) then (
    cl11_map_b60 x1 x1 x2 (0 : Int32) g)
    else (
    cl11_map_b60 x1 x1 x2 x3 g)
def cl11_map_b38 (x1 : Int32) (g : dl_Sg) : Option (Int32 × dl_Sg) :=
    dl_b2 (cl11_refused g (1 : Int32)) fun r1 g2 =>
    some (r1, g2)
def cl11_map_b17 (x1 : Int32) (g : dl_Sg) : Option (Int32 × dl_Sg) :=
    dl_b2 (cl11_refused g (1 : Int32)) fun r1 g2 =>
    some (r1, g2)
def cl11_map (g : dl_Sg) (x1 : Int32) (x2 : Int32) (x3 : Int32) : Option (Int32 × dl_Sg) :=
    dl_bi (cl11_isMap x1) fun r1 =>
    if r1 = 0 then (
    cl11_map_b17 x1 g)
    else (
    if x2 < (-1 : Int32) then (
    cl11_map_b17 x1 g)
    else (
    if x2 ≤ (2 : Int32) then (
    if x2 = (-1 : Int32) then (
    cl11_map_b44 x1 x2 x3 g)
    else (
    if x3 < 0 then (
    cl11_map_b38 x1 g)
    else (
    if x3 ≤ (20 : Int32) then (
    cl11_map_b44 x1 x2 x3 g)
    else (
    cl11_map_b38 x1 g))))
    else (
    cl11_map_b17 x1 g)))
def cl11_cell_b74 (x1 : Int32) (y1 : Int32) (y2 : Int32) (g : dl_Sg) : Option (Int32 × dl_Sg) :=
    dl_gd (dl_in x1 5) (dl_gd (dl_in y1 20) (dl_nm (dl_wr g (28 + x1.toNatClampNeg) y1 y2) fun g1 =>
    dl_b2 (cl11_done g1 (1 : Int32)) fun r2 g3 =>
    some (r2, g3)))
def cl11_cell (g : dl_Sg) (x1 : Int32) (x2 : Int32) (x3 : Int32) : Option (Int32 × dl_Sg) :=
    dl_bi (cl11_isMap x1) fun r1 =>
    if r1 = 0 then (
    dl_b2 (cl11_refused g (1 : Int32)) fun r2 g3 =>
    some (r2, g3))
    else (
    dl_gd (dl_in x1 5) (
    dl_bi (cl1_refusal g x1 (g 25 x1.toNatClampNeg) x2 (1 : Int32)) fun r4 =>
    dl_nm r4 fun v5 =>
    if v5 = 0 then (
    dl_gd (dl_in x1 5) (
    dl_gd (dl_in x1 5) (
    if (g 25 x1.toNatClampNeg) = 0 then (
    cl11_cell_b74 x1 x2 x3.toInt8.toInt32 g)
    else (
    cl11_cell_b74 x1 x2 x3 g))))
    else (
    dl_b2 (cl11_refused g v5) fun r7 g8 =>
    some (r7, g8))))
def cl11_fromMap_b16 (x1 : Int32) (g : dl_Sg) : Option (Int32 × dl_Sg) :=
    dl_b2 (cl11_refused g (1 : Int32)) fun r1 g2 =>
    some (r1, g2)
def cl11_fromMap (g : dl_Sg) (x1 : Int32) (x2 : Int32) (x3 : Int32) : Option (Int32 × dl_Sg) :=
    dl_bi (cl11_isMap x1) fun r1 =>
    if r1 = 0 then (
    cl11_fromMap_b16 x1 g)
    else (
    if x2 < 0 then (
    cl11_fromMap_b16 x1 g)
    else (
    if x2 ≤ (2 : Int32) then (
    if (g 1 11) < (16 : Int32) then (
    dl_bi (cl1_refusal g x1 x2 x3 (3 : Int32)) fun r2 =>
    dl_nm r2 fun v3 =>
    if v3 = 0 then (
    dl_gd (dl_in x1 5) (
    dl_gd (dl_in x1 5) (dl_gd (dl_in x3 20) (
    dl_gd (dl_in x1 5) (dl_gd (dl_in (x3 + (1 : Int32)) 20) (
    dl_gd (dl_in x1 5) (dl_gd (dl_in (x3 + (2 : Int32)) 20) (
    dl_bi (cl2_mayJoin g (g (28 + x1.toNatClampNeg) x3.toNatClampNeg) (g (28 + x1.toNatClampNeg) (x3 + (1 : Int32)).toNatClampNeg) (g (28 + x1.toNatClampNeg) (x3 + (2 : Int32)).toNatClampNeg)) fun r4 =>
    if r4 = 0 then (
    dl_b2 (cl11_refused g (3 : Int32)) fun r5 g6 =>
    some (r5, g6))
    else (
    dl_gd (dl_in x1 5) (dl_gd (dl_in x3 20) (
    dl_gd (dl_in x1 5) (dl_gd (dl_in (x3 + (1 : Int32)) 20) (
    dl_gd (dl_in x1 5) (dl_gd (dl_in (x3 + (2 : Int32)) 20) (
    dl_b2 (cl2_addStreet g (g (28 + x1.toNatClampNeg) x3.toNatClampNeg) (g (28 + x1.toNatClampNeg) (x3 + (1 : Int32)).toNatClampNeg) (g (28 + x1.toNatClampNeg) (x3 + (2 : Int32)).toNatClampNeg)) fun r7 g8 =>
    dl_b2 (cl11_done g8 r7) fun r9 g10 =>
    some (r9, g10))))))))))))))))
    else (
    dl_b2 (cl11_refused g v3) fun r12 g13 =>
    some (r12, g13)))
    else (
    dl_b2 (cl11_refused g (2 : Int32)) fun r15 g16 =>
    some (r15, g16)))
    else (
    cl11_fromMap_b16 x1 g)))
def cl11_readInt (g : dl_Sg) (x1 : Int32) (x2 : Int32) : Option (Int32 × dl_Sg) :=
    dl_bi (cl1_refusal g x1 (1 : Int32) x2 (1 : Int32)) fun r1 =>
    dl_nm r1 fun v2 =>
    if v2 = 0 then (
    dl_gd (dl_in x1 5) (
    dl_gd (dl_in x1 5) (dl_gd (dl_in x2 20) (
    dl_b2 (cl11_done g (g (28 + x1.toNatClampNeg) x2.toNatClampNeg)) fun r3 g4 =>
    some (r3, g4)))))
    else (
    dl_b2 (cl11_refused g v2) fun r5 g6 =>
    some (r5, g6))
def cl11_copyBytes_b43 (N : Nat) : Nat → Int32 → Int32 → Int32 → Int32 → dl_Sg → Option (Int32 × dl_Sg)
  | 0, _, _, _, _, _ => none
  | n + 1, x1, x2, x4, x5, g =>
    if x2 < x5 then (
    dl_b2 (cl11_done g x4) fun r1 g2 =>
    some (r1, g2))
    else (
    dl_gd (dl_in x1 5) (
    dl_gd (dl_in x1 5) (dl_gd (dl_in x5 20) (
    dl_nm (x4 + (g (28 + x1.toNatClampNeg) x5.toNatClampNeg)) fun v3 =>
    dl_nm (x5 + 1) fun v4 =>
    cl11_copyBytes_b43 N n x1 x2 v3 v4 g))))
def cl11_copyBytes (N : Nat) (g : dl_Sg) (x1 : Int32) (x2 : Int32) : Option (Int32 × dl_Sg) :=
    dl_bi (cl1_refusal g x1 (0 : Int32) (1 : Int32) x2) fun r1 =>
    dl_nm r1 fun v2 =>
    if v2 = 0 then (
    if (x2 + x2) ≤ (6 : Int32) then (
    dl_nm (0 : Int32) fun v3 =>
    dl_nm (1 : Int32) fun v4 =>
    cl11_copyBytes_b43 N N x1 x2 v3 v4 g)
    else (
    dl_b2 (cl11_refused g (12 : Int32)) fun r5 g6 =>
    some (r5, g6)))
    else (
    dl_b2 (cl11_refused g v2) fun r8 g9 =>
    some (r8, g9))
theorem hin_X1_make_X1 : ∀ w ∈ u_ws RX1 TX1 3, w ∈ wsX1_make := fun _ h => List.mem_cons_of_mem _ (List.mem_append_right _ h)
theorem lk_X1_make_9 : Cond.fieldLink (yX1_make).cls 9 "DripLines$Maps" (TX1 0).2.1 (TX1 0).2.2.1 ∈ wsX1_make := by decide +kernel
theorem lk_X1_make_15 : Cond.fieldLink (yX1_make).cls 15 "DripLines$Maps" (TX1 1).2.1 (TX1 1).2.2.1 ∈ wsX1_make := by decide +kernel
theorem lk_X1_make_20 : Cond.fieldLink (yX1_make).cls 20 "DripLines$Maps" (TX1 2).2.1 (TX1 2).2.2.1 ∈ wsX1_make := by decide +kernel
set_option maxHeartbeats 4000000 in
set_option maxRecDepth 100000 in
theorem ccl1_make (l : Launch) (D : va_G) (cI cP cII : ClassId) (TY : dl_TY) (hTY : TY[0]? = some (cI, .int)) (hT2 : TY[2]? = some (cII, .array .int)) (ad : Nat → Nat) (pr : Nat → Option Nat) (R : va_W) (g : dl_Sg) (x1 : Int32) (x2 : Int32) (x3 : Int32) {g0 : dl_Sg} (h : cl1_make g x1 x2 x3 = some g0) : dl_CtV l D TY cc_nw yX1_make wsX1_make { frames := 1, cells := 0, slots := 0, locals := 23 } 0 0 [.ref (ad 5), .int x1, .int x2, .int x3] (cc_w cI cP cII ad pr g ++ R) (fun u => u = cc_w cI cP cII ad pr g0 ++ R) := by
  refine dl_metV [(0, .ref (ad 5)), (1, .int x1), (2, .int x2), (3, .int x3)] (by decide) rfl (Nat.le_of_ble_eq_true rfl) rfl ?_
  intro p e s m args below meth c Q A C hQ
  unfold cl1_make at h
  refine dl_aload_n (pc := 0) C 0 dX1_make_0 rfl rfl ?_
  refine dl_get (pc := 1) C hin_X1_make_X1 5 cc_a5 rfl 0 (by decide) lk_X1_make_9 rfl rfl dX1_make_1 ?_
  refine dl_iload_n (pc := 4) C 1 dX1_make_4 rfl rfl ?_
  refine dl_iload_n (pc := 5) C 2 dX1_make_5 rfl rfl ?_
  obtain ⟨h0, h⟩ := dl_gd_some h
  refine dl_iast (pc := 6) C 22 0 cc_a25 hTY h0 dX1_make_6 cc_s25 ?_
  obtain ⟨g1, h, hg⟩ := dl_nm_some h
  rw [← hg]
  clear hg
  refine dl_aload_n (pc := 7) C 0 dX1_make_7 rfl rfl ?_
  refine dl_get (pc := 8) C hin_X1_make_X1 5 cc_a5 rfl 1 (by decide) lk_X1_make_15 rfl rfl dX1_make_8 ?_
  refine dl_iload_n (pc := 11) C 1 dX1_make_11 rfl rfl ?_
  refine dl_iload_n (pc := 12) C 3 dX1_make_12 rfl rfl ?_
  obtain ⟨h0, h⟩ := dl_gd_some h
  refine dl_iast (pc := 13) C 23 0 cc_a26 hTY h0 dX1_make_13 cc_s26 ?_
  obtain ⟨g2, h, hg⟩ := dl_nm_some h
  rw [← hg]
  clear hg
  refine dl_aload_n (pc := 14) C 0 dX1_make_14 rfl rfl ?_
  refine dl_get (pc := 15) C hin_X1_make_X1 5 cc_a5 rfl 2 (by decide) lk_X1_make_20 rfl rfl dX1_make_15 ?_
  refine dl_iload_n (pc := 18) C 1 dX1_make_18 rfl rfl ?_
  obtain ⟨h0, h⟩ := dl_gd_some h
  refine dl_aaldA (pc := 19) C 32 2 cc_a35 hT2 h0 (cc_r5 (dl_in_lt h0)) dX1_make_19 ?_
  refine dl_iconst (pc := 20) C 0 dX1_make_20 (by decide) ?_
  obtain ⟨hj, h⟩ := dl_gd_some h
  refine dl_sV0 (pc := 21) C (c_fill l D cI TY hTY cc_nw _ (25 + x1.toNatClampNeg) (ad (28 + x1.toNatClampNeg)) 20 _ (cc_aR (dl_in_lt hj)) (by decide) _) (va_cwS 2 C.2.2.2.2.1 gX1_make_J7_fill_53178 rfl rfl rfl (by decide +kernel) ⟨Nat.le_of_ble_eq_true rfl, Nat.le_of_ble_eq_true rfl⟩) rfl rfl (Nat.le_of_ble_eq_true rfl) dX1_make_21 ⟨Nat.zero_le _, Nat.zero_le _⟩ (fun u hp => ?_)
  rw [hp, cc_zR (dl_in_lt hj)]
  clear hp
  obtain ⟨g3, h, hg⟩ := dl_nm_some h
  rw [← hg]
  clear hg
  exact hQ 24 _ _ (by rw [Option.some.inj h]) dX1_make_24
theorem hin_X11_map_X11 : ∀ w ∈ u_ws RX11 TX11 6, w ∈ wsX11_map := fun _ h => List.mem_cons_of_mem _ (List.mem_append_left _ (List.mem_append_right _ h))
theorem lk_X11_map_42 : Cond.fieldLink (yX11_map).cls 42 "DripLines" (TX11 4).2.1 (TX11 4).2.2.1 ∈ wsX11_map := by decide +kernel
set_option maxHeartbeats 4000000 in
set_option maxRecDepth 100000 in
theorem cl11_map_t60 {p : Program} {e : Env} {s : State} {m : MethodId} {args : Array Value} {below : List Frame} {meth : Method} {c : Code} {Q : State → Prop} {A : Nat → Prop} (l : Launch) (D : va_G) (cI cP cII : ClassId) (TY : dl_TY) (hTY : TY[0]? = some (cI, .int)) (hT2 : TY[2]? = some (cII, .array .int)) (ad : Nat → Nat) (pr : Nat → Option Nat) (R : va_W) {r0 : Int32} {g0 : dl_Sg} (C : dl_Cx p s m args c A D TY cc_nw cX11_map 4 yX11_map.cls wsX11_map) (hQ : dl_RtI p l e (headSpec wsX11_map { frames := 2, cells := 0, slots := 0, locals := 46 }).room s m args below meth c Q A D cX11_map 4 0 0 .int (fun r u => r = r0 ∧ u = cc_w cI cP cII ad pr g0 ++ R)) (x1 : Int32) (y1 : Int32) (y2 : Int32) (y3 : Int32) (g : dl_Sg) (h : cl11_map_b60 x1 y1 y2 y3 g = some (r0, g0)) : dl_At p l e (headSpec wsX11_map { frames := 2, cells := 0, slots := 0, locals := 46 }).room s m args below meth c Q A D 4 0 0 60 [(0, .ref (ad 0)), (1, .int x1)] [.int y3, .int y2, .int y1, .ref (ad 5)] (cc_w cI cP cII ad pr g ++ R) := by
  unfold cl11_map_b60 at h
  obtain ⟨g1, h1, h⟩ := dl_bi_some h
  refine dl_vV0 (pc := 60) C (ccl1_make l D cI cP cII TY hTY hT2 ad pr R _ _ _ _ h1) (cwV 3 C.2.2.2.2.1 gX11_map_X1_make rfl rfl rfl (by decide +kernel) ⟨Nat.le_of_ble_eq_true rfl, Nat.le_of_ble_eq_true rfl⟩) 5 1 cc_a5 rfl rfl rfl (Nat.le_of_ble_eq_true rfl) dX11_map_60 ⟨Nat.zero_le _, Nat.zero_le _⟩ (fun u hp => ?_)
  subst hp
  refine dl_aload_n (pc := 63) C 0 dX11_map_63 rfl rfl ?_
  refine dl_iconst (pc := 64) C 1 dX11_map_64 (by decide) ?_
  obtain ⟨r2, g3, h1, h⟩ := dl_b2_some h
  refine dl_vI0 (pc := 65) C (ccl11_done l D cI cP cII TY hTY ad pr R _ _ h1) (cwV 1 C.2.2.2.2.1 gX11_map_X11_done rfl rfl rfl (by decide +kernel) ⟨Nat.le_of_ble_eq_true rfl, Nat.le_of_ble_eq_true rfl⟩) 0 11 cc_a0 rfl rfl rfl (Nat.le_of_ble_eq_true rfl) dX11_map_65 ⟨Nat.zero_le _, Nat.zero_le _⟩ (fun r u hp => ?_)
  obtain ⟨rfl, rfl⟩ := hp
  exact hQ 68 _ _ _ ⟨(dl_r2 h).1, by rw [(dl_r2 h).2]⟩ (vp_nar_int _) dX11_map_68
set_option maxHeartbeats 4000000 in
set_option maxRecDepth 100000 in
theorem cl11_map_t44 {p : Program} {e : Env} {s : State} {m : MethodId} {args : Array Value} {below : List Frame} {meth : Method} {c : Code} {Q : State → Prop} {A : Nat → Prop} (l : Launch) (D : va_G) (cI cP cII : ClassId) (TY : dl_TY) (hTY : TY[0]? = some (cI, .int)) (hT2 : TY[2]? = some (cII, .array .int)) (ad : Nat → Nat) (pr : Nat → Option Nat) (R : va_W) {r0 : Int32} {g0 : dl_Sg} (C : dl_Cx p s m args c A D TY cc_nw cX11_map 4 yX11_map.cls wsX11_map) (hQ : dl_RtI p l e (headSpec wsX11_map { frames := 2, cells := 0, slots := 0, locals := 46 }).room s m args below meth c Q A D cX11_map 4 0 0 .int (fun r u => r = r0 ∧ u = cc_w cI cP cII ad pr g0 ++ R)) (x1 : Int32) (x2 : Int32) (x3 : Int32) (g : dl_Sg) (h : cl11_map_b44 x1 x2 x3 g = some (r0, g0)) : dl_At p l e (headSpec wsX11_map { frames := 2, cells := 0, slots := 0, locals := 46 }).room s m args below meth c Q A D 4 0 0 44 [(0, .ref (ad 0)), (1, .int x1), (2, .int x2), (3, .int x3)] [] (cc_w cI cP cII ad pr g ++ R) := by
  unfold cl11_map_b44 at h
  refine dl_aload_n (pc := 44) C 0 dX11_map_44 rfl rfl ?_
  refine dl_get (pc := 45) C hin_X11_map_X11 0 cc_a0 rfl 4 (by decide) lk_X11_map_42 rfl rfl dX11_map_45 ?_
  refine dl_iload_n (pc := 48) C 1 dX11_map_48 rfl rfl ?_
  refine dl_iload_n (pc := 49) C 2 dX11_map_49 rfl rfl ?_
  refine dl_iload_n (pc := 50) C 2 dX11_map_50 rfl rfl ?_
  refine dl_iconst (pc := 51) C (-1) dX11_map_51 (by decide) ?_
  refine dl_icmp_ne (pc := 52) C 59 dX11_map_52 (by decide) h (fun q1 h => ?_) (fun q1 h => ?_)
  · refine dl_iconst (pc := 55) C 0 dX11_map_55 (by decide) ?_
    refine dl_goto (pc := 56) C 60 dX11_map_56 (by decide) ?_
    refine dl_sub [0, 1] rfl ?_
    exact cl11_map_t60 l D cI cP cII TY hTY hT2 ad pr R C hQ  _ _ _ _ _ h
  · refine dl_iload_n (pc := 59) C 3 dX11_map_59 rfl rfl ?_
    refine dl_sub [0, 1] rfl ?_
    exact cl11_map_t60 l D cI cP cII TY hTY hT2 ad pr R C hQ  _ _ _ _ _ h
set_option maxHeartbeats 4000000 in
set_option maxRecDepth 100000 in
theorem cl11_map_t38 {p : Program} {e : Env} {s : State} {m : MethodId} {args : Array Value} {below : List Frame} {meth : Method} {c : Code} {Q : State → Prop} {A : Nat → Prop} (l : Launch) (D : va_G) (cI cP cII : ClassId) (TY : dl_TY) (hTY : TY[0]? = some (cI, .int)) (hT2 : TY[2]? = some (cII, .array .int)) (ad : Nat → Nat) (pr : Nat → Option Nat) (R : va_W) {r0 : Int32} {g0 : dl_Sg} (C : dl_Cx p s m args c A D TY cc_nw cX11_map 4 yX11_map.cls wsX11_map) (hQ : dl_RtI p l e (headSpec wsX11_map { frames := 2, cells := 0, slots := 0, locals := 46 }).room s m args below meth c Q A D cX11_map 4 0 0 .int (fun r u => r = r0 ∧ u = cc_w cI cP cII ad pr g0 ++ R)) (x1 : Int32) (g : dl_Sg) (h : cl11_map_b38 x1 g = some (r0, g0)) : dl_At p l e (headSpec wsX11_map { frames := 2, cells := 0, slots := 0, locals := 46 }).room s m args below meth c Q A D 4 0 0 38 [(0, .ref (ad 0)), (1, .int x1)] [] (cc_w cI cP cII ad pr g ++ R) := by
  unfold cl11_map_b38 at h
  refine dl_aload_n (pc := 38) C 0 dX11_map_38 rfl rfl ?_
  refine dl_iconst (pc := 39) C 1 dX11_map_39 (by decide) ?_
  obtain ⟨r1, g2, h1, h⟩ := dl_b2_some h
  refine dl_vI0 (pc := 40) C (ccl11_refused l D cI cP cII TY hTY ad pr R _ _ h1) (cwV 1 C.2.2.2.2.1 gX11_map_X11_refused rfl rfl rfl (by decide +kernel) ⟨Nat.le_of_ble_eq_true rfl, Nat.le_of_ble_eq_true rfl⟩) 0 11 cc_a0 rfl rfl rfl (Nat.le_of_ble_eq_true rfl) dX11_map_40 ⟨Nat.zero_le _, Nat.zero_le _⟩ (fun r u hp => ?_)
  obtain ⟨rfl, rfl⟩ := hp
  exact hQ 43 _ _ _ ⟨(dl_r2 h).1, by rw [(dl_r2 h).2]⟩ (vp_nar_int _) dX11_map_43
set_option maxHeartbeats 4000000 in
set_option maxRecDepth 100000 in
theorem cl11_map_t17 {p : Program} {e : Env} {s : State} {m : MethodId} {args : Array Value} {below : List Frame} {meth : Method} {c : Code} {Q : State → Prop} {A : Nat → Prop} (l : Launch) (D : va_G) (cI cP cII : ClassId) (TY : dl_TY) (hTY : TY[0]? = some (cI, .int)) (hT2 : TY[2]? = some (cII, .array .int)) (ad : Nat → Nat) (pr : Nat → Option Nat) (R : va_W) {r0 : Int32} {g0 : dl_Sg} (C : dl_Cx p s m args c A D TY cc_nw cX11_map 4 yX11_map.cls wsX11_map) (hQ : dl_RtI p l e (headSpec wsX11_map { frames := 2, cells := 0, slots := 0, locals := 46 }).room s m args below meth c Q A D cX11_map 4 0 0 .int (fun r u => r = r0 ∧ u = cc_w cI cP cII ad pr g0 ++ R)) (x1 : Int32) (g : dl_Sg) (h : cl11_map_b17 x1 g = some (r0, g0)) : dl_At p l e (headSpec wsX11_map { frames := 2, cells := 0, slots := 0, locals := 46 }).room s m args below meth c Q A D 4 0 0 17 [(0, .ref (ad 0)), (1, .int x1)] [] (cc_w cI cP cII ad pr g ++ R) := by
  unfold cl11_map_b17 at h
  refine dl_aload_n (pc := 17) C 0 dX11_map_17 rfl rfl ?_
  refine dl_iconst (pc := 18) C 1 dX11_map_18 (by decide) ?_
  obtain ⟨r1, g2, h1, h⟩ := dl_b2_some h
  refine dl_vI0 (pc := 19) C (ccl11_refused l D cI cP cII TY hTY ad pr R _ _ h1) (cwV 1 C.2.2.2.2.1 gX11_map_X11_refused rfl rfl rfl (by decide +kernel) ⟨Nat.le_of_ble_eq_true rfl, Nat.le_of_ble_eq_true rfl⟩) 0 11 cc_a0 rfl rfl rfl (Nat.le_of_ble_eq_true rfl) dX11_map_19 ⟨Nat.zero_le _, Nat.zero_le _⟩ (fun r u hp => ?_)
  obtain ⟨rfl, rfl⟩ := hp
  exact hQ 22 _ _ _ ⟨(dl_r2 h).1, by rw [(dl_r2 h).2]⟩ (vp_nar_int _) dX11_map_22
set_option maxHeartbeats 4000000 in
set_option maxRecDepth 100000 in
theorem ccl11_map (l : Launch) (D : va_G) (cI cP cII : ClassId) (TY : dl_TY) (hTY : TY[0]? = some (cI, .int)) (hT2 : TY[2]? = some (cII, .array .int)) (ad : Nat → Nat) (pr : Nat → Option Nat) (R : va_W) (g : dl_Sg) (x1 : Int32) (x2 : Int32) (x3 : Int32) {r0 : Int32} {g0 : dl_Sg} (h : cl11_map g x1 x2 x3 = some (r0, g0)) : dl_CtI l D TY cc_nw yX11_map wsX11_map { frames := 2, cells := 0, slots := 0, locals := 46 } 0 0 [.ref (ad 0), .int x1, .int x2, .int x3] (cc_w cI cP cII ad pr g ++ R) (fun r u => r = r0 ∧ u = cc_w cI cP cII ad pr g0 ++ R) := by
  refine dl_metI (ty := .int) [(0, .ref (ad 0)), (1, .int x1), (2, .int x2), (3, .int x3)] (by decide) rfl (Nat.le_of_ble_eq_true rfl) rfl ?_
  intro p e s m args below meth c Q A C hQ
  unfold cl11_map at h
  refine dl_iload_n (pc := 0) C 1 dX11_map_0 rfl rfl ?_
  obtain ⟨r1, h1, h⟩ := dl_bi_some h
  refine dl_sI0 (pc := 1) C (ccl11_isMap l D TY cc_nw _ _ h1) (va_cwS 1 C.2.2.2.2.1 gX11_map_X11_isMap rfl rfl rfl (by decide +kernel) ⟨Nat.le_of_ble_eq_true rfl, Nat.le_of_ble_eq_true rfl⟩) rfl rfl (Nat.le_of_ble_eq_true rfl) dX11_map_1 ⟨Nat.zero_le _, Nat.zero_le _⟩ (fun r u hp => ?_)
  obtain ⟨rfl, hu⟩ := hp
  rw [hu]
  clear hu
  refine dl_if_eq (pc := 4) C 17 dX11_map_4 (by decide) h (fun q7 h => ?_) (fun q7 h => ?_)
  · refine dl_sub [0, 1] rfl ?_
    exact cl11_map_t17 l D cI cP cII TY hTY hT2 ad pr R C hQ  _ _ h
  · refine dl_iload_n (pc := 7) C 2 dX11_map_7 rfl rfl ?_
    refine dl_iconst (pc := 8) C (-1) dX11_map_8 (by decide) ?_
    refine dl_icmp_lt (pc := 9) C 17 dX11_map_9 (by decide) h (fun q6 h => ?_) (fun q6 h => ?_)
    · refine dl_sub [0, 1] rfl ?_
      exact cl11_map_t17 l D cI cP cII TY hTY hT2 ad pr R C hQ  _ _ h
    · refine dl_iload_n (pc := 12) C 2 dX11_map_12 rfl rfl ?_
      refine dl_iconst (pc := 13) C 2 dX11_map_13 (by decide) ?_
      refine dl_icmp_le (pc := 14) C 23 dX11_map_14 (by decide) h (fun q5 h => ?_) (fun q5 h => ?_)
      · refine dl_iload_n (pc := 23) C 2 dX11_map_23 rfl rfl ?_
        refine dl_iconst (pc := 24) C (-1) dX11_map_24 (by decide) ?_
        refine dl_icmp_eq (pc := 25) C 44 dX11_map_25 (by decide) h (fun q4 h => ?_) (fun q4 h => ?_)
        · refine dl_sub [0, 1, 2, 3] rfl ?_
          exact cl11_map_t44 l D cI cP cII TY hTY hT2 ad pr R C hQ  _ _ _ _ h
        · refine dl_iload_n (pc := 28) C 3 dX11_map_28 rfl rfl ?_
          refine dl_if_lt (pc := 29) C 38 dX11_map_29 (by decide) h (fun q3 h => ?_) (fun q3 h => ?_)
          · refine dl_sub [0, 1] rfl ?_
            exact cl11_map_t38 l D cI cP cII TY hTY hT2 ad pr R C hQ  _ _ h
          · refine dl_iload_n (pc := 32) C 3 dX11_map_32 rfl rfl ?_
            refine dl_bipush (pc := 33) C 20 dX11_map_33 (by decide) ?_
            refine dl_icmp_le (pc := 35) C 44 dX11_map_35 (by decide) h (fun q2 h => ?_) (fun q2 h => ?_)
            · refine dl_sub [0, 1, 2, 3] rfl ?_
              exact cl11_map_t44 l D cI cP cII TY hTY hT2 ad pr R C hQ  _ _ _ _ h
            · refine dl_sub [0, 1] rfl ?_
              exact cl11_map_t38 l D cI cP cII TY hTY hT2 ad pr R C hQ  _ _ h
      · refine dl_sub [0, 1] rfl ?_
        exact cl11_map_t17 l D cI cP cII TY hTY hT2 ad pr R C hQ  _ _ h
theorem hin_X11_cell_X1 : ∀ w ∈ u_ws RX1 TX1 3, w ∈ wsX11_cell := fun _ h => List.mem_cons_of_mem _ (List.mem_append_right _ h)
theorem hin_X11_cell_X11 : ∀ w ∈ u_ws RX11 TX11 6, w ∈ wsX11_cell := fun _ h => List.mem_cons_of_mem _ (List.mem_append_left _ (List.mem_append_right _ h))
theorem lk_X11_cell_42 : Cond.fieldLink (yX11_cell).cls 42 "DripLines" (TX11 4).2.1 (TX11 4).2.2.1 ∈ wsX11_cell := by decide +kernel
set_option maxHeartbeats 4000000 in
set_option maxRecDepth 100000 in
theorem cl11_cell_t74 {p : Program} {e : Env} {s : State} {m : MethodId} {args : Array Value} {below : List Frame} {meth : Method} {c : Code} {Q : State → Prop} {A : Nat → Prop} (l : Launch) (D : va_G) (cI cP cII : ClassId) (TY : dl_TY) (hTY : TY[0]? = some (cI, .int)) (hT2 : TY[2]? = some (cII, .array .int)) (ad : Nat → Nat) (pr : Nat → Option Nat) (R : va_W) {r0 : Int32} {g0 : dl_Sg} (C : dl_Cx p s m args c A D TY cc_nw cX11_cell 5 yX11_cell.cls wsX11_cell) (hQ : dl_RtI p l e (headSpec wsX11_cell { frames := 1, cells := 0, slots := 0, locals := 24 }).room s m args below meth c Q A D cX11_cell 5 0 0 .int (fun r u => r = r0 ∧ u = cc_w cI cP cII ad pr g0 ++ R)) (x1 : Int32) (y1 : Int32) (y2 : Int32) (g : dl_Sg) (h : cl11_cell_b74 x1 y1 y2 g = some (r0, g0)) : dl_At p l e (headSpec wsX11_cell { frames := 1, cells := 0, slots := 0, locals := 24 }).room s m args below meth c Q A D 5 0 0 74 [(0, .ref (ad 0)), (1, .int x1)] [.int y2, .int y1, .ref (ad (28 + x1.toNatClampNeg))] (cc_w cI cP cII ad pr g ++ R) := by
  unfold cl11_cell_b74 at h
  obtain ⟨hj, h⟩ := dl_gd_some h
  obtain ⟨h0, h⟩ := dl_gd_some h
  refine dl_iast (pc := 74) C (25 + x1.toNatClampNeg) 0 (cc_aR (dl_in_lt hj)) hTY h0 dX11_cell_74 (cc_sR (dl_in_lt hj)) ?_
  obtain ⟨g1, h, hg⟩ := dl_nm_some h
  rw [← hg]
  clear hg
  refine dl_aload_n (pc := 75) C 0 dX11_cell_75 rfl rfl ?_
  refine dl_iconst (pc := 76) C 1 dX11_cell_76 (by decide) ?_
  obtain ⟨r2, g3, h1, h⟩ := dl_b2_some h
  refine dl_vI0 (pc := 77) C (ccl11_done l D cI cP cII TY hTY ad pr R _ _ h1) (cwV 1 C.2.2.2.2.1 gX11_cell_X11_done rfl rfl rfl (by decide +kernel) ⟨Nat.le_of_ble_eq_true rfl, Nat.le_of_ble_eq_true rfl⟩) 0 11 cc_a0 rfl rfl rfl (Nat.le_of_ble_eq_true rfl) dX11_cell_77 ⟨Nat.zero_le _, Nat.zero_le _⟩ (fun r u hp => ?_)
  obtain ⟨rfl, rfl⟩ := hp
  exact hQ 80 _ _ _ ⟨(dl_r2 h).1, by rw [(dl_r2 h).2]⟩ (vp_nar_int _) dX11_cell_80
set_option maxHeartbeats 4000000 in
set_option maxRecDepth 100000 in
theorem ccl11_cell (l : Launch) (D : va_G) (cI cP cII : ClassId) (TY : dl_TY) (hTY : TY[0]? = some (cI, .int)) (hT2 : TY[2]? = some (cII, .array .int)) (ad : Nat → Nat) (pr : Nat → Option Nat) (R : va_W) (g : dl_Sg) (x1 : Int32) (x2 : Int32) (x3 : Int32) {r0 : Int32} {g0 : dl_Sg} (h : cl11_cell g x1 x2 x3 = some (r0, g0)) : dl_CtI l D TY cc_nw yX11_cell wsX11_cell { frames := 1, cells := 0, slots := 0, locals := 24 } 0 0 [.ref (ad 0), .int x1, .int x2, .int x3] (cc_w cI cP cII ad pr g ++ R) (fun r u => r = r0 ∧ u = cc_w cI cP cII ad pr g0 ++ R) := by
  refine dl_metI (ty := .int) [(0, .ref (ad 0)), (1, .int x1), (2, .int x2), (3, .int x3)] (by decide) rfl (Nat.le_of_ble_eq_true rfl) rfl ?_
  intro p e s m args below meth c Q A C hQ
  unfold cl11_cell at h
  refine dl_iload_n (pc := 0) C 1 dX11_cell_0 rfl rfl ?_
  obtain ⟨r1, h1, h⟩ := dl_bi_some h
  refine dl_sI0 (pc := 1) C (ccl11_isMap l D TY cc_nw _ _ h1) (va_cwS 1 C.2.2.2.2.1 gX11_cell_X11_isMap rfl rfl rfl (by decide +kernel) ⟨Nat.le_of_ble_eq_true rfl, Nat.le_of_ble_eq_true rfl⟩) rfl rfl (Nat.le_of_ble_eq_true rfl) dX11_cell_1 ⟨Nat.zero_le _, Nat.zero_le _⟩ (fun r u hp => ?_)
  obtain ⟨rfl, hu⟩ := hp
  rw [hu]
  clear hu
  refine dl_if_ne (pc := 4) C 13 dX11_cell_4 (by decide) h (fun q10 h => ?_) (fun q10 h => ?_)
  · refine dl_aload_n (pc := 7) C 0 dX11_cell_7 rfl rfl ?_
    refine dl_iconst (pc := 8) C 1 dX11_cell_8 (by decide) ?_
    obtain ⟨r2, g3, h1, h⟩ := dl_b2_some h
    refine dl_vI0 (pc := 9) C (ccl11_refused l D cI cP cII TY hTY ad pr R _ _ h1) (cwV 1 C.2.2.2.2.1 gX11_cell_X11_refused rfl rfl rfl (by decide +kernel) ⟨Nat.le_of_ble_eq_true rfl, Nat.le_of_ble_eq_true rfl⟩) 0 11 cc_a0 rfl rfl rfl (Nat.le_of_ble_eq_true rfl) dX11_cell_9 ⟨Nat.zero_le _, Nat.zero_le _⟩ (fun r u hp => ?_)
    obtain ⟨rfl, rfl⟩ := hp
    exact hQ 12 _ _ _ ⟨(dl_r2 h).1, by rw [(dl_r2 h).2]⟩ (vp_nar_int _) dX11_cell_12
  · refine dl_aload_n (pc := 13) C 0 dX11_cell_13 rfl rfl ?_
    refine dl_get (pc := 14) C hin_X11_cell_X11 0 cc_a0 rfl 4 (by decide) lk_X11_cell_42 rfl rfl dX11_cell_14 ?_
    refine dl_iload_n (pc := 17) C 1 dX11_cell_17 rfl rfl ?_
    refine dl_aload_n (pc := 18) C 0 dX11_cell_18 rfl rfl ?_
    refine dl_get (pc := 19) C hin_X11_cell_X11 0 cc_a0 rfl 4 (by decide) lk_X11_cell_42 rfl rfl dX11_cell_19 ?_
    refine dl_getN (pc := 22) C hin_X11_cell_X1 5 cc_a5 rfl 0 (by decide) nk_RX11_226 rfl rfl dX11_cell_22 ?_
    refine dl_iload_n (pc := 25) C 1 dX11_cell_25 rfl rfl ?_
    obtain ⟨h0, h⟩ := dl_gd_some h
    refine dl_iald (pc := 26) C 22 0 cc_a25 hTY h0 dX11_cell_26 ?_
    refine dl_iload_n (pc := 27) C 2 dX11_cell_27 rfl rfl ?_
    refine dl_iconst (pc := 28) C 1 dX11_cell_28 (by decide) ?_
    obtain ⟨r4, h1, h⟩ := dl_bi_some h
    refine dl_vI0 (pc := 29) C (ccl1_refusal l D cI cP cII TY hTY ad pr R _ _ _ _ _ h1) (cwV 4 C.2.2.2.2.1 gX11_cell_X1_refusal rfl rfl rfl (by decide +kernel) ⟨Nat.le_of_ble_eq_true rfl, Nat.le_of_ble_eq_true rfl⟩) 5 1 cc_a5 rfl rfl rfl (Nat.le_of_ble_eq_true rfl) dX11_cell_29 ⟨Nat.zero_le _, Nat.zero_le _⟩ (fun r u hp => ?_)
    obtain ⟨rfl, rfl⟩ := hp
    refine dl_istore (pc := 32) C (fun v5 => [(4, .int v5), (0, .ref (ad 0)), (1, .int x1), (2, .int x2), (3, .int x3)]) dX11_cell_32 (by decide) (fun _ => rfl) h (fun v5 h => ?_)
    refine dl_iload (pc := 34) C 0 dX11_cell_34 rfl ?_
    refine dl_if_eq (pc := 36) C 46 dX11_cell_36 (by decide) h (fun q9 h => ?_) (fun q9 h => ?_)
    · refine dl_aload_n (pc := 46) C 1 dX11_cell_46 rfl rfl ?_
      refine dl_get (pc := 47) C hin_X11_cell_X11 0 cc_a0 rfl 4 (by decide) lk_X11_cell_42 rfl rfl dX11_cell_47 ?_
      refine dl_getN (pc := 50) C hin_X11_cell_X1 5 cc_a5 rfl 2 (by decide) nk_RX11_233 rfl rfl dX11_cell_50 ?_
      refine dl_iload_n (pc := 53) C 2 dX11_cell_53 rfl rfl ?_
      obtain ⟨h0, h⟩ := dl_gd_some h
      refine dl_aaldA (pc := 54) C 32 2 cc_a35 hT2 h0 (cc_r5 (dl_in_lt h0)) dX11_cell_54 ?_
      refine dl_iload_n (pc := 55) C 3 dX11_cell_55 rfl rfl ?_
      refine dl_aload_n (pc := 56) C 1 dX11_cell_56 rfl rfl ?_
      refine dl_get (pc := 57) C hin_X11_cell_X11 0 cc_a0 rfl 4 (by decide) lk_X11_cell_42 rfl rfl dX11_cell_57 ?_
      refine dl_getN (pc := 60) C hin_X11_cell_X1 5 cc_a5 rfl 0 (by decide) nk_RX11_226 rfl rfl dX11_cell_60 ?_
      refine dl_iload_n (pc := 63) C 2 dX11_cell_63 rfl rfl ?_
      obtain ⟨h0, h⟩ := dl_gd_some h
      refine dl_iald (pc := 64) C 22 0 cc_a25 hTY h0 dX11_cell_64 ?_
      refine dl_if_ne (pc := 65) C 73 dX11_cell_65 (by decide) h (fun q6 h => ?_) (fun q6 h => ?_)
      · refine dl_iload_n (pc := 68) C 4 dX11_cell_68 rfl rfl ?_
        refine dl_i2b (pc := 69) C dX11_cell_69 ?_
        refine dl_goto (pc := 70) C 74 dX11_cell_70 (by decide) ?_
        refine dl_sub [1, 2] rfl ?_
        exact cl11_cell_t74 l D cI cP cII TY hTY hT2 ad pr R C hQ  _ _ _ _ h
      · refine dl_iload_n (pc := 73) C 4 dX11_cell_73 rfl rfl ?_
        refine dl_sub [1, 2] rfl ?_
        exact cl11_cell_t74 l D cI cP cII TY hTY hT2 ad pr R C hQ  _ _ _ _ h
    · refine dl_aload_n (pc := 39) C 1 dX11_cell_39 rfl rfl ?_
      refine dl_iload (pc := 40) C 0 dX11_cell_40 rfl ?_
      obtain ⟨r7, g8, h1, h⟩ := dl_b2_some h
      refine dl_vI0 (pc := 42) C (ccl11_refused l D cI cP cII TY hTY ad pr R _ _ h1) (cwV 1 C.2.2.2.2.1 gX11_cell_X11_refused rfl rfl rfl (by decide +kernel) ⟨Nat.le_of_ble_eq_true rfl, Nat.le_of_ble_eq_true rfl⟩) 0 11 cc_a0 rfl rfl rfl (Nat.le_of_ble_eq_true rfl) dX11_cell_42 ⟨Nat.zero_le _, Nat.zero_le _⟩ (fun r u hp => ?_)
      obtain ⟨rfl, rfl⟩ := hp
      exact hQ 45 _ _ _ ⟨(dl_r2 h).1, by rw [(dl_r2 h).2]⟩ (vp_nar_int _) dX11_cell_45
theorem hin_X11_fromMap_X1 : ∀ w ∈ u_ws RX1 TX1 3, w ∈ wsX11_fromMap := fun _ h => List.mem_cons_of_mem _ (List.mem_append_right _ h)
theorem hin_X11_fromMap_X11 : ∀ w ∈ u_ws RX11 TX11 6, w ∈ wsX11_fromMap := fun _ h => List.mem_cons_of_mem _ (List.mem_append_left _ (List.mem_append_left _ (List.mem_append_right _ h)))
theorem hin_X11_fromMap_X2 : ∀ w ∈ u_ws RX2 TX2 18, w ∈ wsX11_fromMap := fun _ h => List.mem_cons_of_mem _ (List.mem_append_left _ (List.mem_append_right _ h))
theorem lk_X11_fromMap_10 : Cond.fieldLink (yX11_fromMap).cls 10 "DripLines" (TX11 0).2.1 (TX11 0).2.2.1 ∈ wsX11_fromMap := by decide +kernel
theorem lk_X11_fromMap_42 : Cond.fieldLink (yX11_fromMap).cls 42 "DripLines" (TX11 4).2.1 (TX11 4).2.2.1 ∈ wsX11_fromMap := by decide +kernel
set_option maxHeartbeats 4000000 in
set_option maxRecDepth 100000 in
theorem cl11_fromMap_t16 {p : Program} {e : Env} {s : State} {m : MethodId} {args : Array Value} {below : List Frame} {meth : Method} {c : Code} {Q : State → Prop} {A : Nat → Prop} (l : Launch) (D : va_G) (cI cP cII : ClassId) (TY : dl_TY) (hTY : TY[0]? = some (cI, .int)) (hT2 : TY[2]? = some (cII, .array .int)) (ad : Nat → Nat) (pr : Nat → Option Nat) (R : va_W) {r0 : Int32} {g0 : dl_Sg} (C : dl_Cx p s m args c A D TY cc_nw cX11_fromMap 6 yX11_fromMap.cls wsX11_fromMap) (hQ : dl_RtI p l e (headSpec wsX11_fromMap { frames := 3, cells := 0, slots := 0, locals := 105 }).room s m args below meth c Q A D cX11_fromMap 6 0 0 .int (fun r u => r = r0 ∧ u = cc_w cI cP cII ad pr g0 ++ R)) (x1 : Int32) (g : dl_Sg) (h : cl11_fromMap_b16 x1 g = some (r0, g0)) : dl_At p l e (headSpec wsX11_fromMap { frames := 3, cells := 0, slots := 0, locals := 105 }).room s m args below meth c Q A D 6 0 0 16 [(0, .ref (ad 0)), (1, .int x1)] [] (cc_w cI cP cII ad pr g ++ R) := by
  unfold cl11_fromMap_b16 at h
  refine dl_aload_n (pc := 16) C 0 dX11_fromMap_16 rfl rfl ?_
  refine dl_iconst (pc := 17) C 1 dX11_fromMap_17 (by decide) ?_
  obtain ⟨r1, g2, h1, h⟩ := dl_b2_some h
  refine dl_vI0 (pc := 18) C (ccl11_refused l D cI cP cII TY hTY ad pr R _ _ h1) (cwV 1 C.2.2.2.2.1 gX11_fromMap_X11_refused rfl rfl rfl (by decide +kernel) ⟨Nat.le_of_ble_eq_true rfl, Nat.le_of_ble_eq_true rfl⟩) 0 11 cc_a0 rfl rfl rfl (Nat.le_of_ble_eq_true rfl) dX11_fromMap_18 ⟨Nat.zero_le _, Nat.zero_le _⟩ (fun r u hp => ?_)
  obtain ⟨rfl, rfl⟩ := hp
  exact hQ 21 _ _ _ ⟨(dl_r2 h).1, by rw [(dl_r2 h).2]⟩ (vp_nar_int _) dX11_fromMap_21
set_option maxHeartbeats 4000000 in
set_option maxRecDepth 100000 in
theorem ccl11_fromMap (l : Launch) (D : va_G) (cI cP cII : ClassId) (TY : dl_TY) (hTY : TY[0]? = some (cI, .int)) (hT2 : TY[2]? = some (cII, .array .int)) (ad : Nat → Nat) (pr : Nat → Option Nat) (R : va_W) (g : dl_Sg) (x1 : Int32) (x2 : Int32) (x3 : Int32) {r0 : Int32} {g0 : dl_Sg} (h : cl11_fromMap g x1 x2 x3 = some (r0, g0)) : dl_CtI l D TY cc_nw yX11_fromMap wsX11_fromMap { frames := 3, cells := 0, slots := 0, locals := 105 } 0 0 [.ref (ad 0), .int x1, .int x2, .int x3] (cc_w cI cP cII ad pr g ++ R) (fun r u => r = r0 ∧ u = cc_w cI cP cII ad pr g0 ++ R) := by
  refine dl_metI (ty := .int) [(0, .ref (ad 0)), (1, .int x1), (2, .int x2), (3, .int x3)] (by decide) rfl (Nat.le_of_ble_eq_true rfl) rfl ?_
  intro p e s m args below meth c Q A C hQ
  unfold cl11_fromMap at h
  refine dl_iload_n (pc := 0) C 1 dX11_fromMap_0 rfl rfl ?_
  obtain ⟨r1, h1, h⟩ := dl_bi_some h
  refine dl_sI0 (pc := 1) C (ccl11_isMap l D TY cc_nw _ _ h1) (va_cwS 1 C.2.2.2.2.1 gX11_fromMap_X11_isMap rfl rfl rfl (by decide +kernel) ⟨Nat.le_of_ble_eq_true rfl, Nat.le_of_ble_eq_true rfl⟩) rfl rfl (Nat.le_of_ble_eq_true rfl) dX11_fromMap_1 ⟨Nat.zero_le _, Nat.zero_le _⟩ (fun r u hp => ?_)
  obtain ⟨rfl, hu⟩ := hp
  rw [hu]
  clear hu
  refine dl_if_eq (pc := 4) C 16 dX11_fromMap_4 (by decide) h (fun q20 h => ?_) (fun q20 h => ?_)
  · refine dl_sub [0, 1] rfl ?_
    exact cl11_fromMap_t16 l D cI cP cII TY hTY hT2 ad pr R C hQ  _ _ h
  · refine dl_iload_n (pc := 7) C 2 dX11_fromMap_7 rfl rfl ?_
    refine dl_if_lt (pc := 8) C 16 dX11_fromMap_8 (by decide) h (fun q19 h => ?_) (fun q19 h => ?_)
    · refine dl_sub [0, 1] rfl ?_
      exact cl11_fromMap_t16 l D cI cP cII TY hTY hT2 ad pr R C hQ  _ _ h
    · refine dl_iload_n (pc := 11) C 2 dX11_fromMap_11 rfl rfl ?_
      refine dl_iconst (pc := 12) C 2 dX11_fromMap_12 (by decide) ?_
      refine dl_icmp_le (pc := 13) C 22 dX11_fromMap_13 (by decide) h (fun q18 h => ?_) (fun q18 h => ?_)
      · refine dl_aload_n (pc := 22) C 0 dX11_fromMap_22 rfl rfl ?_
        refine dl_get (pc := 23) C hin_X11_fromMap_X11 0 cc_a0 rfl 0 (by decide) lk_X11_fromMap_10 rfl rfl dX11_fromMap_23 ?_
        refine dl_getN (pc := 26) C hin_X11_fromMap_X2 1 cc_a1 rfl 11 (by decide) nk_RX11_78 rfl rfl dX11_fromMap_26 ?_
        refine dl_bipush (pc := 29) C 16 dX11_fromMap_29 (by decide) ?_
        refine dl_icmp_lt (pc := 31) C 40 dX11_fromMap_31 (by decide) h (fun q17 h => ?_) (fun q17 h => ?_)
        · refine dl_aload_n (pc := 40) C 0 dX11_fromMap_40 rfl rfl ?_
          refine dl_get (pc := 41) C hin_X11_fromMap_X11 0 cc_a0 rfl 4 (by decide) lk_X11_fromMap_42 rfl rfl dX11_fromMap_41 ?_
          refine dl_iload_n (pc := 44) C 1 dX11_fromMap_44 rfl rfl ?_
          refine dl_iload_n (pc := 45) C 2 dX11_fromMap_45 rfl rfl ?_
          refine dl_iload_n (pc := 46) C 3 dX11_fromMap_46 rfl rfl ?_
          refine dl_iconst (pc := 47) C 3 dX11_fromMap_47 (by decide) ?_
          obtain ⟨r2, h1, h⟩ := dl_bi_some h
          refine dl_vI0 (pc := 48) C (ccl1_refusal l D cI cP cII TY hTY ad pr R _ _ _ _ _ h1) (cwV 4 C.2.2.2.2.1 gX11_fromMap_X1_refusal rfl rfl rfl (by decide +kernel) ⟨Nat.le_of_ble_eq_true rfl, Nat.le_of_ble_eq_true rfl⟩) 5 1 cc_a5 rfl rfl rfl (Nat.le_of_ble_eq_true rfl) dX11_fromMap_48 ⟨Nat.zero_le _, Nat.zero_le _⟩ (fun r u hp => ?_)
          obtain ⟨rfl, rfl⟩ := hp
          refine dl_istore (pc := 51) C (fun v3 => [(4, .int v3), (0, .ref (ad 0)), (1, .int x1), (2, .int x2), (3, .int x3)]) dX11_fromMap_51 (by decide) (fun _ => rfl) h (fun v3 h => ?_)
          refine dl_iload (pc := 53) C 0 dX11_fromMap_53 rfl ?_
          refine dl_if_eq (pc := 55) C 65 dX11_fromMap_55 (by decide) h (fun q14 h => ?_) (fun q14 h => ?_)
          · refine dl_aload_n (pc := 65) C 1 dX11_fromMap_65 rfl rfl ?_
            refine dl_get (pc := 66) C hin_X11_fromMap_X11 0 cc_a0 rfl 4 (by decide) lk_X11_fromMap_42 rfl rfl dX11_fromMap_66 ?_
            refine dl_getN (pc := 69) C hin_X11_fromMap_X1 5 cc_a5 rfl 2 (by decide) nk_RX11_233 rfl rfl dX11_fromMap_69 ?_
            refine dl_iload_n (pc := 72) C 2 dX11_fromMap_72 rfl rfl ?_
            obtain ⟨h0, h⟩ := dl_gd_some h
            refine dl_aaldA (pc := 73) C 32 2 cc_a35 hT2 h0 (cc_r5 (dl_in_lt h0)) dX11_fromMap_73 ?_
            refine dl_astore (pc := 74) C [(5, .ref (ad (28 + x1.toNatClampNeg))), (4, .int v3), (0, .ref (ad 0)), (1, .int x1), (2, .int x2), (3, .int x3)] dX11_fromMap_74 (by decide) rfl ?_
            refine dl_aload_n (pc := 76) C 2 dX11_fromMap_76 rfl rfl ?_
            refine dl_get (pc := 77) C hin_X11_fromMap_X11 0 cc_a0 rfl 0 (by decide) lk_X11_fromMap_10 rfl rfl dX11_fromMap_77 ?_
            refine dl_aload (pc := 80) C 0 dX11_fromMap_80 rfl ?_
            refine dl_iload_n (pc := 82) C 5 dX11_fromMap_82 rfl rfl ?_
            obtain ⟨hj, h⟩ := dl_gd_some h
            obtain ⟨h0, h⟩ := dl_gd_some h
            refine dl_iald (pc := 83) C (25 + x1.toNatClampNeg) 0 (cc_aR (dl_in_lt hj)) hTY h0 dX11_fromMap_83 ?_
            refine dl_aload (pc := 84) C 0 dX11_fromMap_84 rfl ?_
            refine dl_iload_n (pc := 86) C 5 dX11_fromMap_86 rfl rfl ?_
            refine dl_iconst (pc := 87) C 1 dX11_fromMap_87 (by decide) ?_
            refine dl_iadd (pc := 88) C dX11_fromMap_88 ?_
            obtain ⟨hj, h⟩ := dl_gd_some h
            obtain ⟨h0, h⟩ := dl_gd_some h
            refine dl_iald (pc := 89) C (25 + x1.toNatClampNeg) 0 (cc_aR (dl_in_lt hj)) hTY h0 dX11_fromMap_89 ?_
            refine dl_aload (pc := 90) C 0 dX11_fromMap_90 rfl ?_
            refine dl_iload_n (pc := 92) C 5 dX11_fromMap_92 rfl rfl ?_
            refine dl_iconst (pc := 93) C 2 dX11_fromMap_93 (by decide) ?_
            refine dl_iadd (pc := 94) C dX11_fromMap_94 ?_
            obtain ⟨hj, h⟩ := dl_gd_some h
            obtain ⟨h0, h⟩ := dl_gd_some h
            refine dl_iald (pc := 95) C (25 + x1.toNatClampNeg) 0 (cc_aR (dl_in_lt hj)) hTY h0 dX11_fromMap_95 ?_
            obtain ⟨r4, h1, h⟩ := dl_bi_some h
            refine dl_vI0 (pc := 96) C (ccl2_mayJoin l D cI cP cII TY hTY ad pr R _ _ _ _ h1) (cwV 3 C.2.2.2.2.1 gX11_fromMap_X2_mayJoin rfl rfl rfl (by decide +kernel) ⟨Nat.le_of_ble_eq_true rfl, Nat.le_of_ble_eq_true rfl⟩) 1 2 cc_a1 rfl rfl rfl (Nat.le_of_ble_eq_true rfl) dX11_fromMap_96 ⟨Nat.zero_le _, Nat.zero_le _⟩ (fun r u hp => ?_)
            obtain ⟨rfl, rfl⟩ := hp
            refine dl_if_ne (pc := 99) C 108 dX11_fromMap_99 (by decide) h (fun q11 h => ?_) (fun q11 h => ?_)
            · refine dl_aload_n (pc := 102) C 2 dX11_fromMap_102 rfl rfl ?_
              refine dl_iconst (pc := 103) C 3 dX11_fromMap_103 (by decide) ?_
              obtain ⟨r5, g6, h1, h⟩ := dl_b2_some h
              refine dl_vI0 (pc := 104) C (ccl11_refused l D cI cP cII TY hTY ad pr R _ _ h1) (cwV 1 C.2.2.2.2.1 gX11_fromMap_X11_refused rfl rfl rfl (by decide +kernel) ⟨Nat.le_of_ble_eq_true rfl, Nat.le_of_ble_eq_true rfl⟩) 0 11 cc_a0 rfl rfl rfl (Nat.le_of_ble_eq_true rfl) dX11_fromMap_104 ⟨Nat.zero_le _, Nat.zero_le _⟩ (fun r u hp => ?_)
              obtain ⟨rfl, rfl⟩ := hp
              exact hQ 107 _ _ _ ⟨(dl_r2 h).1, by rw [(dl_r2 h).2]⟩ (vp_nar_int _) dX11_fromMap_107
            · refine dl_aload_n (pc := 108) C 2 dX11_fromMap_108 rfl rfl ?_
              refine dl_aload_n (pc := 109) C 2 dX11_fromMap_109 rfl rfl ?_
              refine dl_get (pc := 110) C hin_X11_fromMap_X11 0 cc_a0 rfl 0 (by decide) lk_X11_fromMap_10 rfl rfl dX11_fromMap_110 ?_
              refine dl_aload (pc := 113) C 0 dX11_fromMap_113 rfl ?_
              refine dl_iload_n (pc := 115) C 5 dX11_fromMap_115 rfl rfl ?_
              obtain ⟨hj, h⟩ := dl_gd_some h
              obtain ⟨h0, h⟩ := dl_gd_some h
              refine dl_iald (pc := 116) C (25 + x1.toNatClampNeg) 0 (cc_aR (dl_in_lt hj)) hTY h0 dX11_fromMap_116 ?_
              refine dl_aload (pc := 117) C 0 dX11_fromMap_117 rfl ?_
              refine dl_iload_n (pc := 119) C 5 dX11_fromMap_119 rfl rfl ?_
              refine dl_iconst (pc := 120) C 1 dX11_fromMap_120 (by decide) ?_
              refine dl_iadd (pc := 121) C dX11_fromMap_121 ?_
              obtain ⟨hj, h⟩ := dl_gd_some h
              obtain ⟨h0, h⟩ := dl_gd_some h
              refine dl_iald (pc := 122) C (25 + x1.toNatClampNeg) 0 (cc_aR (dl_in_lt hj)) hTY h0 dX11_fromMap_122 ?_
              refine dl_aload (pc := 123) C 0 dX11_fromMap_123 rfl ?_
              refine dl_iload_n (pc := 125) C 5 dX11_fromMap_125 rfl rfl ?_
              refine dl_iconst (pc := 126) C 2 dX11_fromMap_126 (by decide) ?_
              refine dl_iadd (pc := 127) C dX11_fromMap_127 ?_
              obtain ⟨hj, h⟩ := dl_gd_some h
              obtain ⟨h0, h⟩ := dl_gd_some h
              refine dl_iald (pc := 128) C (25 + x1.toNatClampNeg) 0 (cc_aR (dl_in_lt hj)) hTY h0 dX11_fromMap_128 ?_
              obtain ⟨r7, g8, h1, h⟩ := dl_b2_some h
              refine dl_vI0 (pc := 129) C (ccl2_addStreet l D cI cP cII TY hTY ad pr R _ _ _ _ h1) (cwV 3 C.2.2.2.2.1 gX11_fromMap_X2_addStreet rfl rfl rfl (by decide +kernel) ⟨Nat.le_of_ble_eq_true rfl, Nat.le_of_ble_eq_true rfl⟩) 1 2 cc_a1 rfl rfl rfl (Nat.le_of_ble_eq_true rfl) dX11_fromMap_129 ⟨Nat.zero_le _, Nat.zero_le _⟩ (fun r u hp => ?_)
              obtain ⟨rfl, rfl⟩ := hp
              obtain ⟨r9, g10, h1, h⟩ := dl_b2_some h
              refine dl_vI0 (pc := 132) C (ccl11_done l D cI cP cII TY hTY ad pr R _ _ h1) (cwV 1 C.2.2.2.2.1 gX11_fromMap_X11_done rfl rfl rfl (by decide +kernel) ⟨Nat.le_of_ble_eq_true rfl, Nat.le_of_ble_eq_true rfl⟩) 0 11 cc_a0 rfl rfl rfl (Nat.le_of_ble_eq_true rfl) dX11_fromMap_132 ⟨Nat.zero_le _, Nat.zero_le _⟩ (fun r u hp => ?_)
              obtain ⟨rfl, rfl⟩ := hp
              exact hQ 135 _ _ _ ⟨(dl_r2 h).1, by rw [(dl_r2 h).2]⟩ (vp_nar_int _) dX11_fromMap_135
          · refine dl_aload_n (pc := 58) C 1 dX11_fromMap_58 rfl rfl ?_
            refine dl_iload (pc := 59) C 0 dX11_fromMap_59 rfl ?_
            obtain ⟨r12, g13, h1, h⟩ := dl_b2_some h
            refine dl_vI0 (pc := 61) C (ccl11_refused l D cI cP cII TY hTY ad pr R _ _ h1) (cwV 1 C.2.2.2.2.1 gX11_fromMap_X11_refused rfl rfl rfl (by decide +kernel) ⟨Nat.le_of_ble_eq_true rfl, Nat.le_of_ble_eq_true rfl⟩) 0 11 cc_a0 rfl rfl rfl (Nat.le_of_ble_eq_true rfl) dX11_fromMap_61 ⟨Nat.zero_le _, Nat.zero_le _⟩ (fun r u hp => ?_)
            obtain ⟨rfl, rfl⟩ := hp
            exact hQ 64 _ _ _ ⟨(dl_r2 h).1, by rw [(dl_r2 h).2]⟩ (vp_nar_int _) dX11_fromMap_64
        · refine dl_aload_n (pc := 34) C 0 dX11_fromMap_34 rfl rfl ?_
          refine dl_iconst (pc := 35) C 2 dX11_fromMap_35 (by decide) ?_
          obtain ⟨r15, g16, h1, h⟩ := dl_b2_some h
          refine dl_vI0 (pc := 36) C (ccl11_refused l D cI cP cII TY hTY ad pr R _ _ h1) (cwV 1 C.2.2.2.2.1 gX11_fromMap_X11_refused rfl rfl rfl (by decide +kernel) ⟨Nat.le_of_ble_eq_true rfl, Nat.le_of_ble_eq_true rfl⟩) 0 11 cc_a0 rfl rfl rfl (Nat.le_of_ble_eq_true rfl) dX11_fromMap_36 ⟨Nat.zero_le _, Nat.zero_le _⟩ (fun r u hp => ?_)
          obtain ⟨rfl, rfl⟩ := hp
          exact hQ 39 _ _ _ ⟨(dl_r2 h).1, by rw [(dl_r2 h).2]⟩ (vp_nar_int _) dX11_fromMap_39
      · refine dl_sub [0, 1] rfl ?_
        exact cl11_fromMap_t16 l D cI cP cII TY hTY hT2 ad pr R C hQ  _ _ h
theorem hin_X11_readInt_X1 : ∀ w ∈ u_ws RX1 TX1 3, w ∈ wsX11_readInt := fun _ h => List.mem_cons_of_mem _ (List.mem_append_right _ h)
theorem hin_X11_readInt_X11 : ∀ w ∈ u_ws RX11 TX11 6, w ∈ wsX11_readInt := fun _ h => List.mem_cons_of_mem _ (List.mem_append_left _ (List.mem_append_right _ h))
theorem lk_X11_readInt_42 : Cond.fieldLink (yX11_readInt).cls 42 "DripLines" (TX11 4).2.1 (TX11 4).2.2.1 ∈ wsX11_readInt := by decide +kernel
set_option maxHeartbeats 4000000 in
set_option maxRecDepth 100000 in
theorem ccl11_readInt (l : Launch) (D : va_G) (cI cP cII : ClassId) (TY : dl_TY) (hTY : TY[0]? = some (cI, .int)) (hT2 : TY[2]? = some (cII, .array .int)) (ad : Nat → Nat) (pr : Nat → Option Nat) (R : va_W) (g : dl_Sg) (x1 : Int32) (x2 : Int32) {r0 : Int32} {g0 : dl_Sg} (h : cl11_readInt g x1 x2 = some (r0, g0)) : dl_CtI l D TY cc_nw yX11_readInt wsX11_readInt { frames := 1, cells := 0, slots := 0, locals := 24 } 0 0 [.ref (ad 0), .int x1, .int x2] (cc_w cI cP cII ad pr g ++ R) (fun r u => r = r0 ∧ u = cc_w cI cP cII ad pr g0 ++ R) := by
  refine dl_metI (ty := .int) [(0, .ref (ad 0)), (1, .int x1), (2, .int x2)] (by decide) rfl (Nat.le_of_ble_eq_true rfl) rfl ?_
  intro p e s m args below meth c Q A C hQ
  unfold cl11_readInt at h
  refine dl_aload_n (pc := 0) C 0 dX11_readInt_0 rfl rfl ?_
  refine dl_get (pc := 1) C hin_X11_readInt_X11 0 cc_a0 rfl 4 (by decide) lk_X11_readInt_42 rfl rfl dX11_readInt_1 ?_
  refine dl_iload_n (pc := 4) C 1 dX11_readInt_4 rfl rfl ?_
  refine dl_iconst (pc := 5) C 1 dX11_readInt_5 (by decide) ?_
  refine dl_iload_n (pc := 6) C 2 dX11_readInt_6 rfl rfl ?_
  refine dl_iconst (pc := 7) C 1 dX11_readInt_7 (by decide) ?_
  obtain ⟨r1, h1, h⟩ := dl_bi_some h
  refine dl_vI0 (pc := 8) C (ccl1_refusal l D cI cP cII TY hTY ad pr R _ _ _ _ _ h1) (cwV 4 C.2.2.2.2.1 gX11_readInt_X1_refusal rfl rfl rfl (by decide +kernel) ⟨Nat.le_of_ble_eq_true rfl, Nat.le_of_ble_eq_true rfl⟩) 5 1 cc_a5 rfl rfl rfl (Nat.le_of_ble_eq_true rfl) dX11_readInt_8 ⟨Nat.zero_le _, Nat.zero_le _⟩ (fun r u hp => ?_)
  obtain ⟨rfl, rfl⟩ := hp
  refine dl_istore_n (pc := 11) C (fun v2 => [(3, .int v2), (0, .ref (ad 0)), (1, .int x1), (2, .int x2)]) dX11_readInt_11 rfl (by decide) (fun _ => rfl) h (fun v2 h => ?_)
  refine dl_iload_n (pc := 12) C 0 dX11_readInt_12 rfl rfl ?_
  refine dl_if_ne (pc := 13) C 34 dX11_readInt_13 (by decide) h (fun q7 h => ?_) (fun q7 h => ?_)
  · refine dl_aload_n (pc := 16) C 1 dX11_readInt_16 rfl rfl ?_
    refine dl_aload_n (pc := 17) C 1 dX11_readInt_17 rfl rfl ?_
    refine dl_get (pc := 18) C hin_X11_readInt_X11 0 cc_a0 rfl 4 (by decide) lk_X11_readInt_42 rfl rfl dX11_readInt_18 ?_
    refine dl_getN (pc := 21) C hin_X11_readInt_X1 5 cc_a5 rfl 2 (by decide) nk_RX11_233 rfl rfl dX11_readInt_21 ?_
    refine dl_iload_n (pc := 24) C 2 dX11_readInt_24 rfl rfl ?_
    obtain ⟨h0, h⟩ := dl_gd_some h
    refine dl_aaldA (pc := 25) C 32 2 cc_a35 hT2 h0 (cc_r5 (dl_in_lt h0)) dX11_readInt_25 ?_
    refine dl_iload_n (pc := 26) C 3 dX11_readInt_26 rfl rfl ?_
    obtain ⟨hj, h⟩ := dl_gd_some h
    obtain ⟨h0, h⟩ := dl_gd_some h
    refine dl_iald (pc := 27) C (25 + x1.toNatClampNeg) 0 (cc_aR (dl_in_lt hj)) hTY h0 dX11_readInt_27 ?_
    obtain ⟨r3, g4, h1, h⟩ := dl_b2_some h
    refine dl_vI0 (pc := 28) C (ccl11_done l D cI cP cII TY hTY ad pr R _ _ h1) (cwV 1 C.2.2.2.2.1 gX11_readInt_X11_done rfl rfl rfl (by decide +kernel) ⟨Nat.le_of_ble_eq_true rfl, Nat.le_of_ble_eq_true rfl⟩) 0 11 cc_a0 rfl rfl rfl (Nat.le_of_ble_eq_true rfl) dX11_readInt_28 ⟨Nat.zero_le _, Nat.zero_le _⟩ (fun r u hp => ?_)
    obtain ⟨rfl, rfl⟩ := hp
    refine dl_goto (pc := 31) C 39 dX11_readInt_31 (by decide) ?_
    exact hQ 39 _ _ _ ⟨(dl_r2 h).1, by rw [(dl_r2 h).2]⟩ (vp_nar_int _) dX11_readInt_39
  · refine dl_aload_n (pc := 34) C 1 dX11_readInt_34 rfl rfl ?_
    refine dl_iload_n (pc := 35) C 0 dX11_readInt_35 rfl rfl ?_
    obtain ⟨r5, g6, h1, h⟩ := dl_b2_some h
    refine dl_vI0 (pc := 36) C (ccl11_refused l D cI cP cII TY hTY ad pr R _ _ h1) (cwV 1 C.2.2.2.2.1 gX11_readInt_X11_refused rfl rfl rfl (by decide +kernel) ⟨Nat.le_of_ble_eq_true rfl, Nat.le_of_ble_eq_true rfl⟩) 0 11 cc_a0 rfl rfl rfl (Nat.le_of_ble_eq_true rfl) dX11_readInt_36 ⟨Nat.zero_le _, Nat.zero_le _⟩ (fun r u hp => ?_)
    obtain ⟨rfl, rfl⟩ := hp
    exact hQ 39 _ _ _ ⟨(dl_r2 h).1, by rw [(dl_r2 h).2]⟩ (vp_nar_int _) dX11_readInt_39
theorem hin_X11_copyBytes_X1 : ∀ w ∈ u_ws RX1 TX1 3, w ∈ wsX11_copyBytes := fun _ h => List.mem_cons_of_mem _ (List.mem_append_right _ h)
theorem hin_X11_copyBytes_X11 : ∀ w ∈ u_ws RX11 TX11 6, w ∈ wsX11_copyBytes := fun _ h => List.mem_cons_of_mem _ (List.mem_append_left _ (List.mem_append_right _ h))
theorem lk_X11_copyBytes_42 : Cond.fieldLink (yX11_copyBytes).cls 42 "DripLines" (TX11 4).2.1 (TX11 4).2.2.1 ∈ wsX11_copyBytes := by decide +kernel
set_option maxHeartbeats 4000000 in
set_option maxRecDepth 100000 in
theorem cl11_copyBytes_t43 {p : Program} {e : Env} {s : State} {m : MethodId} {args : Array Value} {below : List Frame} {meth : Method} {c : Code} {Q : State → Prop} {A : Nat → Prop} (l : Launch) (D : va_G) (cI cP cII : ClassId) (TY : dl_TY) (hTY : TY[0]? = some (cI, .int)) (hT2 : TY[2]? = some (cII, .array .int)) (N : Nat) (ad : Nat → Nat) (pr : Nat → Option Nat) (R : va_W) {r0 : Int32} {g0 : dl_Sg} (C : dl_Cx p s m args c A D TY cc_nw cX11_copyBytes 6 yX11_copyBytes.cls wsX11_copyBytes) (hQ : dl_RtI p l e (headSpec wsX11_copyBytes { frames := 1, cells := 0, slots := 0, locals := 24 }).room s m args below meth c Q A D cX11_copyBytes 6 0 0 .int (fun r u => r = r0 ∧ u = cc_w cI cP cII ad pr g0 ++ R)) : ∀ (n : Nat) (x1 : Int32) (x2 : Int32) (x4 : Int32) (x5 : Int32) (g : dl_Sg), cl11_copyBytes_b43 N n x1 x2 x4 x5 g = some (r0, g0) → dl_At p l e (headSpec wsX11_copyBytes { frames := 1, cells := 0, slots := 0, locals := 24 }).room s m args below meth c Q A D 6 0 0 43 [(0, .ref (ad 0)), (1, .int x1), (2, .int x2), (4, .int x4), (5, .int x5)] [] (cc_w cI cP cII ad pr g ++ R) := by
  intro n
  induction n with
  | zero => exact fun _ _ _ _ _ h => absurd (show (none : Option (Int32 × dl_Sg)) = some _ from h) (by intro q; cases q)
  | succ n ih =>
    intro x1 x2 x4 x5 g h
    rw [cl11_copyBytes_b43] at h
    refine dl_iload (pc := 43) C 4 dX11_copyBytes_43 rfl ?_
    refine dl_iload_n (pc := 45) C 2 dX11_copyBytes_45 rfl rfl ?_
    refine dl_icmp_gt (pc := 46) C 72 dX11_copyBytes_46 (by decide) h (fun q5 h => ?_) (fun q5 h => ?_)
    · refine dl_aload_n (pc := 72) C 0 dX11_copyBytes_72 rfl rfl ?_
      refine dl_iload (pc := 73) C 3 dX11_copyBytes_73 rfl ?_
      obtain ⟨r1, g2, h1, h⟩ := dl_b2_some h
      refine dl_vI0 (pc := 75) C (ccl11_done l D cI cP cII TY hTY ad pr R _ _ h1) (cwV 1 C.2.2.2.2.1 gX11_copyBytes_X11_done rfl rfl rfl (by decide +kernel) ⟨Nat.le_of_ble_eq_true rfl, Nat.le_of_ble_eq_true rfl⟩) 0 11 cc_a0 rfl rfl rfl (Nat.le_of_ble_eq_true rfl) dX11_copyBytes_75 ⟨Nat.zero_le _, Nat.zero_le _⟩ (fun r u hp => ?_)
      obtain ⟨rfl, rfl⟩ := hp
      exact hQ 78 _ _ _ ⟨(dl_r2 h).1, by rw [(dl_r2 h).2]⟩ (vp_nar_int _) dX11_copyBytes_78
    · refine dl_iload (pc := 49) C 3 dX11_copyBytes_49 rfl ?_
      refine dl_aload_n (pc := 51) C 0 dX11_copyBytes_51 rfl rfl ?_
      refine dl_get (pc := 52) C hin_X11_copyBytes_X11 0 cc_a0 rfl 4 (by decide) lk_X11_copyBytes_42 rfl rfl dX11_copyBytes_52 ?_
      refine dl_getN (pc := 55) C hin_X11_copyBytes_X1 5 cc_a5 rfl 2 (by decide) nk_RX11_233 rfl rfl dX11_copyBytes_55 ?_
      refine dl_iload_n (pc := 58) C 1 dX11_copyBytes_58 rfl rfl ?_
      obtain ⟨h0, h⟩ := dl_gd_some h
      refine dl_aaldA (pc := 59) C 32 2 cc_a35 hT2 h0 (cc_r5 (dl_in_lt h0)) dX11_copyBytes_59 ?_
      refine dl_iload (pc := 60) C 4 dX11_copyBytes_60 rfl ?_
      obtain ⟨hj, h⟩ := dl_gd_some h
      obtain ⟨h0, h⟩ := dl_gd_some h
      refine dl_iald (pc := 62) C (25 + x1.toNatClampNeg) 0 (cc_aR (dl_in_lt hj)) hTY h0 dX11_copyBytes_62 ?_
      refine dl_iadd (pc := 63) C dX11_copyBytes_63 ?_
      refine dl_istore (pc := 64) C (fun v3 => [(4, .int v3), (0, .ref (ad 0)), (1, .int x1), (2, .int x2), (5, .int x5)]) dX11_copyBytes_64 (by decide) (fun _ => rfl) h (fun v3 h => ?_)
      refine dl_iinc (pc := 66) C 4 (fun v4 => [(5, .int v4), (4, .int v3), (0, .ref (ad 0)), (1, .int x1), (2, .int x2)]) dX11_copyBytes_66 rfl rfl (by decide) (fun _ => rfl) h (fun v4 h => ?_)
      refine dl_goto (pc := 69) C 43 dX11_copyBytes_69 (by decide) ?_
      refine dl_sub [2, 3, 4, 1, 0] rfl ?_
      exact ih _ _ _ _ _ h
set_option maxHeartbeats 4000000 in
set_option maxRecDepth 100000 in
theorem ccl11_copyBytes (l : Launch) (D : va_G) (cI cP cII : ClassId) (TY : dl_TY) (hTY : TY[0]? = some (cI, .int)) (hT2 : TY[2]? = some (cII, .array .int)) (N : Nat) (ad : Nat → Nat) (pr : Nat → Option Nat) (R : va_W) (g : dl_Sg) (x1 : Int32) (x2 : Int32) {r0 : Int32} {g0 : dl_Sg} (h : cl11_copyBytes N g x1 x2 = some (r0, g0)) : dl_CtI l D TY cc_nw yX11_copyBytes wsX11_copyBytes { frames := 1, cells := 0, slots := 0, locals := 24 } 0 0 [.ref (ad 0), .int x1, .int x2] (cc_w cI cP cII ad pr g ++ R) (fun r u => r = r0 ∧ u = cc_w cI cP cII ad pr g0 ++ R) := by
  refine dl_metI (ty := .int) [(0, .ref (ad 0)), (1, .int x1), (2, .int x2)] (by decide) rfl (Nat.le_of_ble_eq_true rfl) rfl ?_
  intro p e s m args below meth c Q A C hQ
  unfold cl11_copyBytes at h
  refine dl_aload_n (pc := 0) C 0 dX11_copyBytes_0 rfl rfl ?_
  refine dl_get (pc := 1) C hin_X11_copyBytes_X11 0 cc_a0 rfl 4 (by decide) lk_X11_copyBytes_42 rfl rfl dX11_copyBytes_1 ?_
  refine dl_iload_n (pc := 4) C 1 dX11_copyBytes_4 rfl rfl ?_
  refine dl_iconst (pc := 5) C 0 dX11_copyBytes_5 (by decide) ?_
  refine dl_iconst (pc := 6) C 1 dX11_copyBytes_6 (by decide) ?_
  refine dl_iload_n (pc := 7) C 2 dX11_copyBytes_7 rfl rfl ?_
  obtain ⟨r1, h1, h⟩ := dl_bi_some h
  refine dl_vI0 (pc := 8) C (ccl1_refusal l D cI cP cII TY hTY ad pr R _ _ _ _ _ h1) (cwV 4 C.2.2.2.2.1 gX11_copyBytes_X1_refusal rfl rfl rfl (by decide +kernel) ⟨Nat.le_of_ble_eq_true rfl, Nat.le_of_ble_eq_true rfl⟩) 5 1 cc_a5 rfl rfl rfl (Nat.le_of_ble_eq_true rfl) dX11_copyBytes_8 ⟨Nat.zero_le _, Nat.zero_le _⟩ (fun r u hp => ?_)
  obtain ⟨rfl, rfl⟩ := hp
  refine dl_istore_n (pc := 11) C (fun v2 => [(3, .int v2), (0, .ref (ad 0)), (1, .int x1), (2, .int x2)]) dX11_copyBytes_11 rfl (by decide) (fun _ => rfl) h (fun v2 h => ?_)
  refine dl_iload_n (pc := 12) C 0 dX11_copyBytes_12 rfl rfl ?_
  refine dl_if_eq (pc := 13) C 22 dX11_copyBytes_13 (by decide) h (fun q10 h => ?_) (fun q10 h => ?_)
  · refine dl_iload_n (pc := 22) C 3 dX11_copyBytes_22 rfl rfl ?_
    refine dl_iload_n (pc := 23) C 3 dX11_copyBytes_23 rfl rfl ?_
    refine dl_iadd (pc := 24) C dX11_copyBytes_24 ?_
    refine dl_bipush (pc := 25) C 6 dX11_copyBytes_25 (by decide) ?_
    refine dl_icmp_le (pc := 27) C 37 dX11_copyBytes_27 (by decide) h (fun q7 h => ?_) (fun q7 h => ?_)
    · refine dl_iconst (pc := 37) C 0 dX11_copyBytes_37 (by decide) ?_
      refine dl_istore (pc := 38) C (fun v3 => [(4, .int v3), (3, .int v2), (0, .ref (ad 0)), (1, .int x1), (2, .int x2)]) dX11_copyBytes_38 (by decide) (fun _ => rfl) h (fun v3 h => ?_)
      refine dl_iconst (pc := 40) C 1 dX11_copyBytes_40 (by decide) ?_
      refine dl_istore (pc := 41) C (fun v4 => [(5, .int v4), (4, .int v3), (3, .int v2), (0, .ref (ad 0)), (1, .int x1), (2, .int x2)]) dX11_copyBytes_41 (by decide) (fun _ => rfl) h (fun v4 h => ?_)
      refine dl_sub [3, 4, 5, 1, 0] rfl ?_
      exact cl11_copyBytes_t43 l D cI cP cII TY hTY hT2 N ad pr R C hQ N _ _ _ _ _ h
    · refine dl_aload_n (pc := 30) C 1 dX11_copyBytes_30 rfl rfl ?_
      refine dl_bipush (pc := 31) C 12 dX11_copyBytes_31 (by decide) ?_
      obtain ⟨r5, g6, h1, h⟩ := dl_b2_some h
      refine dl_vI0 (pc := 33) C (ccl11_refused l D cI cP cII TY hTY ad pr R _ _ h1) (cwV 1 C.2.2.2.2.1 gX11_copyBytes_X11_refused rfl rfl rfl (by decide +kernel) ⟨Nat.le_of_ble_eq_true rfl, Nat.le_of_ble_eq_true rfl⟩) 0 11 cc_a0 rfl rfl rfl (Nat.le_of_ble_eq_true rfl) dX11_copyBytes_33 ⟨Nat.zero_le _, Nat.zero_le _⟩ (fun r u hp => ?_)
      obtain ⟨rfl, rfl⟩ := hp
      exact hQ 36 _ _ _ ⟨(dl_r2 h).1, by rw [(dl_r2 h).2]⟩ (vp_nar_int _) dX11_copyBytes_36
  · refine dl_aload_n (pc := 16) C 1 dX11_copyBytes_16 rfl rfl ?_
    refine dl_iload_n (pc := 17) C 0 dX11_copyBytes_17 rfl rfl ?_
    obtain ⟨r8, g9, h1, h⟩ := dl_b2_some h
    refine dl_vI0 (pc := 18) C (ccl11_refused l D cI cP cII TY hTY ad pr R _ _ h1) (cwV 1 C.2.2.2.2.1 gX11_copyBytes_X11_refused rfl rfl rfl (by decide +kernel) ⟨Nat.le_of_ble_eq_true rfl, Nat.le_of_ble_eq_true rfl⟩) 0 11 cc_a0 rfl rfl rfl (Nat.le_of_ble_eq_true rfl) dX11_copyBytes_18 ⟨Nat.zero_le _, Nat.zero_le _⟩ (fun r u hp => ?_)
    obtain ⟨rfl, rfl⟩ := hp
    exact hQ 21 _ _ _ ⟨(dl_r2 h).1, by rw [(dl_r2 h).2]⟩ (vp_nar_int _) dX11_copyBytes_21
