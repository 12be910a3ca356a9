/-! THE LAW, from its entry -/
theorem lw_okE : dl_okE (fun U => va_AO RX3 U ∧ dl_AOA .int U) := ⟨fun _ _ hW h => ⟨va_AO.moved hW.alike h.1, (Cond.arrayOver_setVmC (args := #[]) hW.alike (.array .int)).trans h.2⟩, fun _ _ _ _ h => h⟩
theorem lw_D {args : Array Value} {s : State} (hts : ∀ w ∈ lw_tbl, w.before args s = true) : ∃ D : va_G, ∀ (c : Nat) (q : vw_C), vwCl[c]? = some q → u_Kn s q.1 q.2.1 q.2.2 (D.1 c) (D.2 c) := by
  obtain ⟨c0, i0, k0⟩ := u_known (C := RX0) (T := TX0) (N := 4) (n := 4) hts inX0 (hts (.instantiable RX0 4) (by decide +kernel))
  obtain ⟨c1, i1, k1⟩ := u_known (C := RX1) (T := TX1) (N := 3) (n := 3) hts inX1 (hts (.instantiable RX1 3) (by decide +kernel))
  obtain ⟨c2, i2, k2⟩ := u_known (C := RX2) (T := TX2) (N := 18) (n := 18) hts inX2 (hts (.instantiable RX2 18) (by decide +kernel))
  obtain ⟨c3, i3, k3⟩ := u_known (C := RX3) (T := TX3) (N := 4) (n := 4) hts inX3 (hts (.instantiable RX3 4) (by decide +kernel))
  obtain ⟨c4, i4, k4⟩ := u_known (C := RX4) (T := TX4) (N := 4) (n := 4) hts inX4 (hts (.instantiable RX4 4) (by decide +kernel))
  obtain ⟨c5, i5, k5⟩ := u_known (C := RX5) (T := TX5) (N := 2) (n := 2) hts inX5 (hts (.instantiable RX5 2) (by decide +kernel))
  obtain ⟨c6, i6, k6⟩ := u_known (C := RX6) (T := TX6) (N := 9) (n := 9) hts inX6 (hts (.instantiable RX6 9) (by decide +kernel))
  obtain ⟨c7, i7, k7⟩ := u_known (C := RX7) (T := TX7) (N := 8) (n := 8) hts inX7 (hts (.instantiable RX7 8) (by decide +kernel))
  obtain ⟨c8, i8, k8⟩ := u_known (C := RX8) (T := TX8) (N := 3) (n := 3) hts inX8 (hts (.instantiable RX8 3) (by decide +kernel))
  obtain ⟨c9, i9, k9⟩ := u_known (C := RX9) (T := TX9) (N := 4) (n := 4) hts inX9 (hts (.instantiable RX9 4) (by decide +kernel))
  obtain ⟨c10, i10, k10⟩ := u_known (C := RX10) (T := TX10) (N := 4) (n := 4) hts inX10 (hts (.instantiable RX10 4) (by decide +kernel))
  obtain ⟨c11, i11, k11⟩ := u_known (C := RX11) (T := TX11) (N := 6) (n := 6) hts inX11 (hts (.instantiable RX11 6) (by decide +kernel))
  obtain ⟨c12, i12, k12⟩ := u_known (C := RX12) (T := TX12) (N := 32) (n := 32) hts inX12 (hts (.instantiable RX12 32) (by decide +kernel))
  have h : ∀ c : Nat, ∃ d : ClassId × (Nat → Nat), ∀ q : vw_C, vwCl[c]? = some q → u_Kn s q.1 q.2.1 q.2.2 d.1 d.2 := fun c => by
    match c with
    | 0 => exact ⟨(c0, i0), fun q hq => by cases hq; exact k0⟩
    | 1 => exact ⟨(c1, i1), fun q hq => by cases hq; exact k1⟩
    | 2 => exact ⟨(c2, i2), fun q hq => by cases hq; exact k2⟩
    | 3 => exact ⟨(c3, i3), fun q hq => by cases hq; exact k3⟩
    | 4 => exact ⟨(c4, i4), fun q hq => by cases hq; exact k4⟩
    | 5 => exact ⟨(c5, i5), fun q hq => by cases hq; exact k5⟩
    | 6 => exact ⟨(c6, i6), fun q hq => by cases hq; exact k6⟩
    | 7 => exact ⟨(c7, i7), fun q hq => by cases hq; exact k7⟩
    | 8 => exact ⟨(c8, i8), fun q hq => by cases hq; exact k8⟩
    | 9 => exact ⟨(c9, i9), fun q hq => by cases hq; exact k9⟩
    | 10 => exact ⟨(c10, i10), fun q hq => by cases hq; exact k10⟩
    | 11 => exact ⟨(c11, i11), fun q hq => by cases hq; exact k11⟩
    | 12 => exact ⟨(c12, i12), fun q hq => by cases hq; exact k12⟩
    | c + 13 => exact ⟨(c0, i0), fun q hq => by cases hq⟩
  exact ⟨(fun c => (Classical.choose (h c)).1, fun c => (Classical.choose (h c)).2), fun c q hq => Classical.choose_spec (h c) q hq⟩
section
variable {p : Program} {l : Launch} {e : Env} {R : Room} {s : State} {m : MethodId} {args : Array Value} {below : List Frame} {meth : Method} {c : Code} {Q : State → Prop} {A : Nat → Prop} {D : va_G} {nL cells slots pc : Nat} {lv : List (Nat × Value)} {st : List Value} {ws : va_W}
theorem dl_ord {ws' : va_W} (is : List Nat) (hn : va_nd is = true) (hs : is.filterMap (fun i => ws[i]?) = ws') (hs2 : is.map (fun i => ws[i]?) = ws'.map some) (k : dl_At p l e R s m args below meth c Q A D nL cells slots pc lv st ws') : dl_At p l e R s m args below meth c Q A D nL cells slots pc lv st ws :=
  fun H locs ls hP hD hS hl => k H locs ls (hP.sub is hs) (hD.sub is hn hs2) hS hl
end
theorem lw_row {ad mr : Nat → Nat} (h0 : ad 28 = mr 0) (h1 : ad 29 = mr 1) (h2 : ad 30 = mr 2) (h3 : ad 31 = mr 3) (h4 : ad 32 = mr 4) : (fun i => if i < 5 then some (mr i) else none) = cc_row ad := by
  funext i
  match i with
  | 0 => exact (if_pos (by decide)).trans (congrArg some h0.symm)
  | 1 => exact (if_pos (by decide)).trans (congrArg some h1.symm)
  | 2 => exact (if_pos (by decide)).trans (congrArg some h2.symm)
  | 3 => exact (if_pos (by decide)).trans (congrArg some h3.symm)
  | 4 => exact (if_pos (by decide)).trans (congrArg some h4.symm)
  | i + 5 => exact if_neg (by omega)
set_option maxHeartbeats 8000000 in
set_option maxRecDepth 100000 in
theorem whole_start {p : Program} {e : Env} {s : State} {m : MethodId} {below : List Frame} {meth : Method} {c : Code} (l : Launch) {b L : Nat} {xs : Nat → Int32} (hL : L ≤ 2048) (C0 : lw_At p s m meth c b L xs) : W p l e room_1 s m #[Value.ref b] below meth c s.heap [] 0 0 (lw_Z below #[Value.ref b] s) (entryFrame m ([Value.ref b] : List Value).toArray 4) := by
  obtain ⟨hx, hb, hr, hml, hown, hts, hX, hbl, hlocks, hgv⟩ := id C0
  obtain ⟨D, hDD⟩ := lw_D hts
  obtain ⟨cI, i1, i2⟩ := lw_ty_int (hts (.arrayClass .int) (by decide +kernel))
  have ho1 := hts (.arrayOver (.object "DripLines$Place")) (by decide +kernel)
  have ho2 := hts (.arrayOver (.array .int)) (by decide +kernel)
  obtain ⟨cP, p1, p2⟩ := lw_ty_obj ho1
  obtain ⟨cII, q1, q2⟩ := lw_ty_arr ho2
  have hK : va_K D vwCl [(cI, .int), (cP, .object "DripLines$Place"), (cII, .array .int)] s := by
    refine ⟨hDD, fun k q hq => ?_⟩
    match k, hq with
    | 0, hq => cases hq; exact ⟨i1, i2⟩
    | 1, hq => cases hq; exact ⟨p1, p2⟩
    | 2, hq => cases hq; exact ⟨q1, q2⟩
    | k + 3, hq => cases hq
  have hbA : ¬ (fun q : Nat => s.heap.size ≤ q) b := Nat.not_le.mpr hbl
  have C : dl_Cx p s m #[Value.ref b] c (fun q : Nat => s.heap.size ≤ q) D [(cI, .int), (cP, .object "DripLines$Place"), (cII, .array .int)] cc_nw cL_law 4 RL wsL_law := ⟨hx, hb, hml, hown, fun w h => hts w (wsL_law_in w h), hK, fun _ h => h, lw_nw hts (lw_neg hgv)⟩
  have X : lw_X p s m c (fun q : Nat => s.heap.size ≤ q) D [(cI, .int), (cP, .object "DripLines$Place"), (cII, .array .int)] cI cP cII b L xs := ⟨C, hX, hbl, hbA, rfl, rfl, rfl, hL⟩
  have hEs : (fun U => va_AO RX3 U ∧ dl_AOA .int U) s := ⟨va_AO.of ho1, ho2⟩
  have hl := lv_entry ([.ref b]) (n := 4) (Nat.le_of_ble_eq_true rfl)
  rw [lg_entry_eq]
  have start : dl_At p l e room_1 s m #[Value.ref b] below meth c (lw_Z below #[Value.ref b] s) (fun q : Nat => s.heap.size ≤ q) D 4 0 0 0 [(0, .ref b)] [] [] := by
    refine dl_new (pc := 0) (ci := 11) C [.null, .null, .null, .null, .null, .int 0] inlX11 tyX11 tyX11_ok (by decide +kernel) (by decide +kernel) (by decide +kernel) rfl (fun j hj => by rcases (show j = 0 ∨ j = 1 ∨ j = 2 ∨ j = 3 ∨ j = 4 ∨ j = 5 by omega) with rfl | rfl | rfl | rfl | rfl | rfl <;> rfl) ⟨Nat.le_of_ble_eq_true rfl, Nat.le_of_ble_eq_true rfl⟩ dL_law_0 (fun a => ?_)
    refine dl_wid (mc := 1) (ms := 6) (Nat.le_of_ble_eq_true rfl) (Nat.le_of_ble_eq_true rfl) ?_
    refine dl_dup (pc := 3) C dL_law_3 rfl ?_
    refine dl_iVE (pc := 4) C lw_okE hEs (ccl11_init lw_okE (fun _ h => h.1) (fun _ h => h.2) l D cI cP cII _ rfl rfl rfl [] a) (cwI 0 C.2.2.2.2.1 gL_law_X11_init rfl rfl rfl (C.2.2.2.2.1 _ (show Cond.initialized RX11 ∈ wsL_law by decide +kernel)) (C.2.2.2.2.1 _ (show Cond.methodLink RL 9 yX11_init ∈ wsL_law by decide +kernel)) (C.2.2.2.2.1 _ (show Cond.instanceMethod yX11_init ∈ wsL_law by decide +kernel)) rfl (by decide +kernel) ⟨Nat.le_of_ble_eq_true rfl, Nat.le_of_ble_eq_true rfl⟩) rfl rfl (Nat.le_of_ble_eq_true rfl) dL_law_4 ⟨Nat.le_of_ble_eq_true rfl, Nat.le_of_ble_eq_true rfl⟩ (fun u hp => ?_)
    obtain ⟨n0, n1, n2, n3, n4, n5, n6, n7, n8, n9, t0, t1, w0, w1, w2, e0, e1, e2, e3, l0, l1, l2, l3, m0, m1, m2, m3, mr, hu⟩ := hp
    refine dl_wid (mc := 33) (ms := 1473) (Nat.le_of_ble_eq_true rfl) (Nat.le_of_ble_eq_true rfl) ?_
    have hrow := lw_row (ad := (fun k => if k = 0 then a else if k = 1 then n0 else if k = 2 then w0 else if k = 3 then e0 else if k = 4 then l0 else if k = 5 then m0 else if k = 6 then t0 else if k = 10 then n2 else if k = 11 then n3 else if k = 12 then n4 else if k = 13 then n5 else if k = 14 then n6 else if k = 15 then n7 else if k = 16 then n8 else if k = 17 then n9 else if k = 18 then w1 else if k = 19 then w2 else if k = 20 then e1 else if k = 21 then e2 else if k = 22 then l1 else if k = 23 then l2 else if k = 24 then l3 else if k = 25 then m1 else if k = 26 then m2 else if k = 27 then t1 else if k = 28 then (mr 0) else if k = 29 then (mr 1) else if k = 30 then (mr 2) else if k = 31 then (mr 3) else if k = 32 then (mr 4) else if k = 33 then e3 else if k = 34 then n1 else if k = 35 then m3 else 0)) (mr := mr) rfl rfl rfl rfl rfl
    rw [hu, hrow]
    refine dl_ord (ws' := cc_w cI cP cII (fun k => if k = 0 then a else if k = 1 then n0 else if k = 2 then w0 else if k = 3 then e0 else if k = 4 then l0 else if k = 5 then m0 else if k = 6 then t0 else if k = 10 then n2 else if k = 11 then n3 else if k = 12 then n4 else if k = 13 then n5 else if k = 14 then n6 else if k = 15 then n7 else if k = 16 then n8 else if k = 17 then n9 else if k = 18 then w1 else if k = 19 then w2 else if k = 20 then e1 else if k = 21 then e2 else if k = 22 then l1 else if k = 23 then l2 else if k = 24 then l3 else if k = 25 then m1 else if k = 26 then m2 else if k = 27 then t1 else if k = 28 then (mr 0) else if k = 29 then (mr 1) else if k = 30 then (mr 2) else if k = 31 then (mr 3) else if k = 32 then (mr 4) else if k = 33 then e3 else if k = 34 then n1 else if k = 35 then m3 else 0) (fun _ => none) cl_ini) [0, 1, 13, 16, 20, 24, 11, 3, 4, 5, 6, 7, 8, 9, 10, 14, 15, 17, 18, 21, 22, 23, 25, 26, 12, 28, 29, 30, 31, 32, 19, 2, 27] (by decide) rfl rfl ?_
    refine dl_astore_n (pc := 7) C [(1, .ref a), (0, .ref b)] dL_law_7 rfl (by decide) rfl ?_
    generalize hac : (fun k => if k = 0 then a else if k = 1 then n0 else if k = 2 then w0 else if k = 3 then e0 else if k = 4 then l0 else if k = 5 then m0 else if k = 6 then t0 else if k = 10 then n2 else if k = 11 then n3 else if k = 12 then n4 else if k = 13 then n5 else if k = 14 then n6 else if k = 15 then n7 else if k = 16 then n8 else if k = 17 then n9 else if k = 18 then w1 else if k = 19 then w2 else if k = 20 then e1 else if k = 21 then e2 else if k = 22 then l1 else if k = 23 then l2 else if k = 24 then l3 else if k = 25 then m1 else if k = 26 then m2 else if k = 27 then t1 else if k = 28 then (mr 0) else if k = 29 then (mr 1) else if k = 30 then (mr 2) else if k = 31 then (mr 3) else if k = 32 then (mr 4) else if k = 33 then e3 else if k = 34 then n1 else if k = 35 then m3 else 0) = ac
    have ha : a = ac 0 := by rw [← hac]; rfl
    refine dl_new (pc := 8) (ci := 12) C [.int 0, .null, .null, .int 0, .null, .null, .null, .int 0, .int 0, .int 0, .null, .null, .null, .null, .int 0, .null, .int 0, .null, .int 0, .int 0, .int 0, .null, .null, .null, .int 0, .int 0, .null, .int 0, .null, .null, .null, .int 0] inlX12 tyX12 tyX12_ok (by decide +kernel) (by decide +kernel) (by decide +kernel) rfl (fun j hj => by rcases (show j = 0 ∨ j = 1 ∨ j = 2 ∨ j = 3 ∨ j = 4 ∨ j = 5 ∨ j = 6 ∨ j = 7 ∨ j = 8 ∨ j = 9 ∨ j = 10 ∨ j = 11 ∨ j = 12 ∨ j = 13 ∨ j = 14 ∨ j = 15 ∨ j = 16 ∨ j = 17 ∨ j = 18 ∨ j = 19 ∨ j = 20 ∨ j = 21 ∨ j = 22 ∨ j = 23 ∨ j = 24 ∨ j = 25 ∨ j = 26 ∨ j = 27 ∨ j = 28 ∨ j = 29 ∨ j = 30 ∨ j = 31 by omega) with rfl | rfl | rfl | rfl | rfl | rfl | rfl | rfl | rfl | rfl | rfl | rfl | rfl | rfl | rfl | rfl | rfl | rfl | rfl | rfl | rfl | rfl | rfl | rfl | rfl | rfl | rfl | rfl | rfl | rfl | rfl | rfl <;> rfl) ⟨Nat.le_of_ble_eq_true rfl, Nat.le_of_ble_eq_true rfl⟩ dL_law_8 (fun am0 => ?_)
    refine dl_wid (mc := 34) (ms := 1505) (Nat.le_of_ble_eq_true rfl) (Nat.le_of_ble_eq_true rfl) ?_
    refine dl_dup (pc := 11) C dL_law_11 rfl ?_
    refine dl_iV (pc := 12) C (cmo_init l D cI _ rfl cc_nw _ am0) (cwI 0 C.2.2.2.2.1 gL_law_X12_init rfl rfl rfl (C.2.2.2.2.1 _ (show Cond.initialized RX12 ∈ wsL_law by decide +kernel)) (C.2.2.2.2.1 _ (show Cond.methodLink RL 12 yX12_init ∈ wsL_law by decide +kernel)) (C.2.2.2.2.1 _ (show Cond.instanceMethod yX12_init ∈ wsL_law by decide +kernel)) rfl (by decide +kernel) ⟨Nat.le_of_ble_eq_true rfl, Nat.le_of_ble_eq_true rfl⟩) rfl rfl (Nat.le_of_ble_eq_true rfl) dL_law_12 ⟨Nat.le_of_ble_eq_true rfl, Nat.le_of_ble_eq_true rfl⟩ (fun u hp => ?_)
    obtain ⟨am, ham, hu⟩ := hp
    refine dl_wid (mc := 52) (ms := 198421) (Nat.le_of_ble_eq_true rfl) (Nat.le_of_ble_eq_true rfl) ?_
    rw [hu, ha, ← ham]
    refine dl_astore_n (pc := 15) C [(2, .ref (am 0)), (1, .ref (ac 0)), (0, .ref b)] dL_law_15 rfl (by decide) rfl ?_
    refine dl_iconst (pc := 16) C 0 dL_law_16 (by decide) ?_
    refine dl_istore_n (pc := 17) C (z := ()) (f := fun y => if y = 0 then some () else none) (fun y => [(3, .int y), (2, .ref (am 0)), (1, .ref (ac 0)), (0, .ref b)]) dL_law_17 rfl (by decide) (fun _ => rfl) (show (if (0 : Int32) = 0 then some () else none) = some () from if_pos rfl) (fun y hy => ?_)
    have hy : y = 0 := by
      by_cases q : y = 0
      · exact q
      · have hy : (if y = 0 then some () else none) = some () := hy
        rw [if_neg q] at hy
        cases hy
    rw [hy]
    have K := law_18 X (fun k n hk => law_end (am := am) (x1 := ac 0) (l := l) (e := e) (below := below) (D := D) (cI := cI) (cP := cP) (cII := cII) (b := b) hx hb hr hlocks hk) 513 0 0 rfl (Nat.zero_le _) (by omega) ac (fun _ => none) cl_ini mo_ini [] 52 198421 rfl ⟨E_0, iv_0.re (Nat.le_refl _), cc_ok_0, by decide +kernel, by decide +kernel⟩
    rw [List.append_nil] at K
    exact dl_sub [3, 2, 1, 0] rfl K
  exact start s.heap [] _ (fun k q h => (by simp at h)) ⟨fun i j p q h => (by simp at h), fun k q h => (by simp at h)⟩ va_S.rf hl
