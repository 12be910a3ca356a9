/-- how many places the row of the best trees has -/
def dl_al (g : dl_Sg) : Nat := (g 9 0).toNatClampNeg
theorem dl_bud {c0 s0 mc ms a b d : Nat} (he : c0 + (d - a) ≤ mc ∧ s0 + 2 * (d - a) ≤ ms) (h1 : a ≤ b) (h2 : b ≤ d) : c0 + (b - a) ≤ mc ∧ s0 + 2 * (b - a) ≤ ms := ⟨by omega, by omega⟩
theorem dl_bud2 {c0 s0 mc ms a b d : Nat} (he : c0 + (d - a) ≤ mc ∧ s0 + 2 * (d - a) ≤ ms) (h1 : a ≤ b) (h2 : b ≤ d) : (c0 + (b - a)) + (d - b) ≤ mc ∧ (s0 + 2 * (b - a)) + 2 * (d - b) ≤ ms := ⟨by omega, by omega⟩
/-- the row of the best trees twice as long -/
def dl_g33 (g : dl_Sg) : dl_Sg := fun k => if k = 33 then dl_cof (g 33) (dl_al g) else if k = 9 then upd (g 9) 0 (nI (2 * dl_al g)) else g k
def dl_kok (g : dl_Sg) : Bool := decide (0 < dl_al g ∧ 2 * dl_al g ≤ 67108864)
theorem dl_al33 {g : dl_Sg} (h : 2 * dl_al g ≤ 67108864) : dl_al (dl_g33 g) = 2 * dl_al g := by
  show (nI (2 * dl_al g)).toNatClampNeg = 2 * dl_al g
  exact nI_clamp (by omega)
theorem dl_mv_P {L1 L2 R : va_W} {x y : Nat × va_E} {D : va_G} {H : Heap} (h : va_P D vwCl (L1 ++ (x :: (L2 ++ (R ++ [y])))) H) : va_P D vwCl (L1 ++ (y :: (L2 ++ R))) H := by
  refine dl_P_sub h (fun q hq => ?_)
  simp only [List.mem_append, List.mem_cons, List.mem_nil_iff, or_false] at hq ⊢
  rcases hq with h | h | h | h
  · exact Or.inl h
  · exact Or.inr (Or.inr (Or.inr (Or.inr h)))
  · exact Or.inr (Or.inr (Or.inl h))
  · exact Or.inr (Or.inr (Or.inr (Or.inl h)))
theorem dl_mv_D {L1 L2 R : va_W} {x y : Nat × va_E} {A : Nat → Prop} (h : va_D A (L1 ++ (x :: (L2 ++ (R ++ [y]))))) : va_D A (L1 ++ (y :: (L2 ++ R))) := by
  have h1 : (L1 ++ (x :: (L2 ++ (R ++ [y])))).Perm (x :: (L1 ++ (y :: (L2 ++ R)))) := by
    refine List.perm_middle.trans (List.Perm.cons x ?_)
    refine List.Perm.append_left L1 ?_
    rw [← List.append_assoc]
    exact List.perm_append_singleton y (L2 ++ R)
  exact dl_D_subl (dl_D_perm h h1) (List.sublist_cons_self _ _)
theorem hin_X6_keep_X6 : ∀ w ∈ u_ws RX6 TX6 9, w ∈ wsX6_keep := fun _ h => List.mem_cons_of_mem _ (List.mem_append_right _ h)
theorem lk_X6_keep_18 : Cond.fieldLink (yX6_keep).cls 18 "DripLines$Trees" (TX6 3).2.1 (TX6 3).2.2.1 ∈ wsX6_keep := by decide +kernel
theorem lk_X6_keep_103 : Cond.fieldLink (yX6_keep).cls 103 "DripLines$Trees" (TX6 4).2.1 (TX6 4).2.2.1 ∈ wsX6_keep := by decide +kernel
theorem lk_X6_keep_110 : Cond.fieldLink (yX6_keep).cls 110 "DripLines$Trees" (TX6 6).2.1 (TX6 6).2.2.1 ∈ wsX6_keep := by decide +kernel
theorem lk_X6_keep_113 : Cond.fieldLink (yX6_keep).cls 113 "DripLines$Trees" (TX6 7).2.1 (TX6 7).2.2.1 ∈ wsX6_keep := by decide +kernel
def cl6_keep_b30 (x1 : Int32) (g : dl_Sg) : Option dl_Sg :=
    dl_gd (dl_in (g 3 4) ((g 9 0).toNatClampNeg)) (dl_nm (dl_wr g 33 (g 3 4) x1) fun g1 =>
    dl_nm (dl_s2 g1 3 4 ((g1 3 4) + (1 : Int32))) fun g2 =>
    dl_nm (dl_s2 g2 3 6 ((g2 3 6) &&& x1)) fun g3 =>
    dl_nm (dl_s2 g3 3 7 ((g3 3 7) ||| x1)) fun g4 =>
    some g4)
set_option maxHeartbeats 4000000 in
set_option maxRecDepth 100000 in
theorem cl6_keep_m30 {g0 : dl_Sg} (x1 : Int32) (g : dl_Sg) (h : cl6_keep_b30 x1 g = some g0) : dl_al g ≤ dl_al g0 := by
  unfold cl6_keep_b30 at h
  obtain ⟨-, h⟩ := dl_gd_some h
  obtain ⟨g1, h, hg⟩ := dl_nm_some h
  have ea : dl_al g1 = dl_al g := by rw [hg]; rfl
  rw [← ea]
  clear hg ea
  obtain ⟨g2, h, hg⟩ := dl_nm_some h
  have ea : dl_al g2 = dl_al g1 := by rw [hg]; rfl
  rw [← ea]
  clear hg ea
  obtain ⟨g3, h, hg⟩ := dl_nm_some h
  have ea : dl_al g3 = dl_al g2 := by rw [hg]; rfl
  rw [← ea]
  clear hg ea
  obtain ⟨g4, h, hg⟩ := dl_nm_some h
  have ea : dl_al g4 = dl_al g3 := by rw [hg]; rfl
  rw [← ea]
  clear hg ea
  exact Nat.le_of_eq (congrArg dl_al (Option.some.inj h))
set_option maxHeartbeats 4000000 in
set_option maxRecDepth 100000 in
theorem cl6_keep_t30 {p : Program} {e : Env} {s : State} {m : MethodId} {args : Array Value} {below : List Frame} {meth : Method} {c : Code} {Q : State → Prop} {A : Nat → Prop} (l : Launch) (D : va_G) (cI cP cII : ClassId) (TY : dl_TY) (hTY : TY[0]? = some (cI, .int)) (ad : Nat → Nat) (pr : Nat → Option Nat) (R : va_W) {g0 : dl_Sg} (mc ms : Nat) (C : dl_Cx p s m args c A D TY cc_nw cX6_keep 2 yX6_keep.cls wsX6_keep) (hQ : dl_RtV p l e (headSpec wsX6_keep { frames := 2, cells := mc, slots := ms, locals := 82 }).room s m args below meth c Q A D cX6_keep 2 mc ms (fun u => ∃ b1, u = cc_w cI cP cII (va_up ad 33 b1) pr g0 ++ R)) (x1 : Int32) (b : Nat) (g : dl_Sg) (c0 s0 : Nat) (he : c0 + (dl_al g0 - dl_al g) ≤ mc ∧ s0 + 2 * (dl_al g0 - dl_al g) ≤ ms) (h : cl6_keep_b30 x1 g = some g0) : dl_At p l e (headSpec wsX6_keep { frames := 2, cells := mc, slots := ms, locals := 82 }).room s m args below meth c Q A D 2 c0 s0 30 [(0, .ref (ad 3)), (1, .int x1)] [] (cc_w cI cP cII (va_up ad 33 b) pr g ++ R) := by
  unfold cl6_keep_b30 at h
  refine dl_aload_n (pc := 30) C 0 dX6_keep_30 rfl rfl ?_
  refine dl_get (pc := 31) C hin_X6_keep_X6 3 cc_a3 rfl 3 (by decide) lk_X6_keep_18 rfl rfl dX6_keep_31 ?_
  refine dl_aload_n (pc := 34) C 0 dX6_keep_34 rfl rfl ?_
  refine dl_get (pc := 35) C hin_X6_keep_X6 3 cc_a3 rfl 4 (by decide) lk_X6_keep_103 rfl rfl dX6_keep_35 ?_
  refine dl_iload_n (pc := 38) C 1 dX6_keep_38 rfl rfl ?_
  obtain ⟨h0, h⟩ := dl_gd_some h
  refine dl_iast (pc := 39) C 30 0 cc_a33 hTY h0 dX6_keep_39 cc_s33 ?_
  obtain ⟨g1, h, hg⟩ := dl_nm_some h
  have ea : dl_al g1 = dl_al g := by rw [hg]; rfl
  rw [← ea] at he
  rw [← hg]
  clear hg ea
  refine dl_aload_n (pc := 40) C 0 dX6_keep_40 rfl rfl ?_
  refine dl_dup (pc := 41) C dX6_keep_41 rfl ?_
  refine dl_get (pc := 42) C hin_X6_keep_X6 3 cc_a3 rfl 4 (by decide) lk_X6_keep_103 rfl rfl dX6_keep_42 ?_
  refine dl_iconst (pc := 45) C 1 dX6_keep_45 (by decide) ?_
  refine dl_iadd (pc := 46) C dX6_keep_46 ?_
  refine dl_put (pc := 47) C hin_X6_keep_X6 tyX6 tyX6_ok nmX6 3 cc_a3 rfl 4 (by decide) lk_X6_keep_103 rfl rfl (ty := .int) rfl (vp_nar_int _) rfl (Nat.le_of_ble_eq_true rfl) dX6_keep_47 cc_p3_4 ?_
  obtain ⟨g2, h, hg⟩ := dl_nm_some h
  have ea : dl_al g2 = dl_al g1 := by rw [hg]; rfl
  rw [← ea] at he
  rw [← hg]
  clear hg ea
  refine dl_aload_n (pc := 50) C 0 dX6_keep_50 rfl rfl ?_
  refine dl_dup (pc := 51) C dX6_keep_51 rfl ?_
  refine dl_get (pc := 52) C hin_X6_keep_X6 3 cc_a3 rfl 6 (by decide) lk_X6_keep_110 rfl rfl dX6_keep_52 ?_
  refine dl_iload_n (pc := 55) C 1 dX6_keep_55 rfl rfl ?_
  refine dl_iand (pc := 56) C dX6_keep_56 ?_
  refine dl_put (pc := 57) C hin_X6_keep_X6 tyX6 tyX6_ok nmX6 3 cc_a3 rfl 6 (by decide) lk_X6_keep_110 rfl rfl (ty := .int) rfl (vp_nar_int _) rfl (Nat.le_of_ble_eq_true rfl) dX6_keep_57 cc_p3_6 ?_
  obtain ⟨g3, h, hg⟩ := dl_nm_some h
  have ea : dl_al g3 = dl_al g2 := by rw [hg]; rfl
  rw [← ea] at he
  rw [← hg]
  clear hg ea
  refine dl_aload_n (pc := 60) C 0 dX6_keep_60 rfl rfl ?_
  refine dl_dup (pc := 61) C dX6_keep_61 rfl ?_
  refine dl_get (pc := 62) C hin_X6_keep_X6 3 cc_a3 rfl 7 (by decide) lk_X6_keep_113 rfl rfl dX6_keep_62 ?_
  refine dl_iload_n (pc := 65) C 1 dX6_keep_65 rfl rfl ?_
  refine dl_ior (pc := 66) C dX6_keep_66 ?_
  refine dl_put (pc := 67) C hin_X6_keep_X6 tyX6 tyX6_ok nmX6 3 cc_a3 rfl 7 (by decide) lk_X6_keep_113 rfl rfl (ty := .int) rfl (vp_nar_int _) rfl (Nat.le_of_ble_eq_true rfl) dX6_keep_67 cc_p3_7 ?_
  obtain ⟨g4, h, hg⟩ := dl_nm_some h
  have ea : dl_al g4 = dl_al g3 := by rw [hg]; rfl
  rw [← ea] at he
  rw [← hg]
  clear hg ea
  refine dl_wid (Nat.le_trans (Nat.le_add_right _ _) he.1) (Nat.le_trans (Nat.le_add_right _ _) he.2) ?_
  exact hQ 70 _ _ ⟨_, by rw [Option.some.inj h]⟩ dX6_keep_70
def cc_hd (cI : ClassId) (ad : Nat → Nat) (g : dl_Sg) : va_W := [(ad 0, .inr (11, cc_f0 ad g)), (ad 1, .inr (2, cc_f1 ad g)), (ad 2, .inr (8, cc_f2 ad g)), (ad 3, .inr (6, cc_f3 ad g)), (ad 4, .inr (7, cc_f4 ad g)), (ad 5, .inr (1, cc_f5 ad g)), (ad 6, .inr (5, cc_f6 ad g)), (ad 10, .inl (cI, 10, .inl (g 10))), (ad 11, .inl (cI, 10, .inl (g 11))), (ad 12, .inl (cI, 10, .inl (g 12))), (ad 13, .inl (cI, 16, .inl (g 13))), (ad 14, .inl (cI, 16, .inl (g 14))), (ad 15, .inl (cI, 16, .inl (g 15))), (ad 16, .inl (cI, 16, .inl (g 16))), (ad 17, .inl (cI, 10, .inl (g 17))), (ad 18, .inl (cI, 10, .inl (g 18))), (ad 19, .inl (cI, 10, .inl (g 19))), (ad 20, .inl (cI, 10, .inl (g 20))), (ad 21, .inl (cI, 1001, .inl (g 21))), (ad 22, .inl (cI, 20, .inl (g 22))), (ad 23, .inl (cI, 20, .inl (g 23))), (ad 24, .inl (cI, 10, .inl (g 24))), (ad 25, .inl (cI, 5, .inl (g 25))), (ad 26, .inl (cI, 5, .inl (g 26))), (ad 27, .inl (cI, 50, .inl (g 27))), (ad 28, .inl (cI, 20, .inl (g 28))), (ad 29, .inl (cI, 20, .inl (g 29))), (ad 30, .inl (cI, 20, .inl (g 30))), (ad 31, .inl (cI, 20, .inl (g 31))), (ad 32, .inl (cI, 20, .inl (g 32)))]
def cc_tl (cP cII : ClassId) (ad : Nat → Nat) (pr : Nat → Option Nat) : va_W := [(ad 34, .inl (cP, 10, .inr (.inr (.inr (.inr pr))))), (ad 35, .inl (cII, 5, .inr (.inr (.inr (.inr (cc_row ad))))))]
def cl6_keep (g : dl_Sg) (x1 : Int32) : Option dl_Sg :=
    if (g 3 4) < Int32.ofNat (dl_al g) then (
    cl6_keep_b30 x1 g)
    else (
    dl_gd (dl_kok g) (dl_nm (dl_g33 g) fun g1 =>
    cl6_keep_b30 x1 g1))
theorem cl6_keep_me (g : dl_Sg) (x1 : Int32) {g0 : dl_Sg} (h : cl6_keep g x1 = some g0) : dl_al g ≤ dl_al g0 := by
  unfold cl6_keep at h
  by_cases q : (g 3 4) < Int32.ofNat (dl_al g)
  · rw [if_pos q] at h
    exact cl6_keep_m30 _ _ h
  · rw [if_neg q] at h
    obtain ⟨h0, h⟩ := dl_gd_some h
    obtain ⟨g1, h, rfl⟩ := dl_nm_some h
    have h2 := (of_decide_eq_true h0 : 0 < dl_al g ∧ 2 * dl_al g ≤ 67108864)
    have h1 := cl6_keep_m30 _ _ h
    rw [dl_al33 h2.2] at h1
    omega
set_option maxHeartbeats 4000000 in
set_option maxRecDepth 100000 in
theorem ccl6_keep (l : Launch) (D : va_G) (cI cP cII : ClassId) (TY : dl_TY) (hTY : TY[0]? = some (cI, .int)) (ad : Nat → Nat) (pr : Nat → Option Nat) (R : va_W) (b : Nat) (g : dl_Sg) (x1 : Int32) {g0 : dl_Sg} (h : cl6_keep g x1 = some g0) : dl_CtV l D TY cc_nw yX6_keep wsX6_keep { frames := 2, cells := dl_al g0 - dl_al g, slots := 2 * (dl_al g0 - dl_al g), locals := 82 } (dl_al g0 - dl_al g) (2 * (dl_al g0 - dl_al g)) [.ref (ad 3), .int x1] (cc_w cI cP cII (va_up ad 33 b) pr g ++ R) (fun u => ∃ b1, u = cc_w cI cP cII (va_up ad 33 b1) pr g0 ++ R) := by
  refine dl_metV [(0, .ref (ad 3)), (1, .int x1)] (by decide) rfl (Nat.le_of_ble_eq_true rfl) rfl ?_
  intro p e s m args below meth c Q A C hQ
  unfold cl6_keep at h
  have he : 0 + (dl_al g0 - dl_al g) ≤ dl_al g0 - dl_al g ∧ 0 + 2 * (dl_al g0 - dl_al g) ≤ 2 * (dl_al g0 - dl_al g) := ⟨by omega, by omega⟩
  refine dl_aload_n (pc := 0) C 0 dX6_keep_0 rfl rfl ?_
  refine dl_get (pc := 1) C hin_X6_keep_X6 3 cc_a3 rfl 4 (by decide) lk_X6_keep_103 rfl rfl dX6_keep_1 ?_
  refine dl_aload_n (pc := 4) C 0 dX6_keep_4 rfl rfl ?_
  refine dl_get (pc := 5) C hin_X6_keep_X6 3 cc_a3 rfl 3 (by decide) lk_X6_keep_18 rfl rfl dX6_keep_5 ?_
  refine dl_alen (pc := 8) C 30 0 cc_a33 hTY rfl dX6_keep_8 ?_
  refine dl_icmp_lt (pc := 9) C 30 dX6_keep_9 (by decide) h (fun q h => ?_) (fun q h => ?_)
  · refine dl_sub [0, 1] rfl ?_
    exact cl6_keep_t30 l D cI cP cII TY hTY ad pr R _ _ C hQ _ _ _ _ _ he h
  · obtain ⟨h0, h⟩ := dl_gd_some h
    have h2 := (of_decide_eq_true h0 : 0 < dl_al g ∧ 2 * dl_al g ≤ 67108864)
    obtain ⟨g1, h, hg⟩ := dl_nm_some h
    have hm := cl6_keep_m30 _ _ h
    have ea : dl_al g1 = 2 * dl_al g := by rw [hg]; exact dl_al33 h2.2
    refine dl_aload_n (pc := 12) C 0 dX6_keep_12 rfl rfl ?_
    refine dl_aload_n (pc := 13) C 0 dX6_keep_13 rfl rfl ?_
    refine dl_get (pc := 14) C hin_X6_keep_X6 3 cc_a3 rfl 3 (by decide) lk_X6_keep_18 rfl rfl dX6_keep_14 ?_
    refine dl_aload_n (pc := 17) C 0 dX6_keep_17 rfl rfl ?_
    refine dl_get (pc := 18) C hin_X6_keep_X6 3 cc_a3 rfl 3 (by decide) lk_X6_keep_18 rfl rfl dX6_keep_18 ?_
    refine dl_alen (pc := 21) C (v := nI (dl_al g)) 30 0 cc_a33 hTY rfl dX6_keep_21 ?_
    refine dl_iconst (pc := 22) C 2 dX6_keep_22 (by decide) ?_
    refine dl_imul (pc := 23) C dX6_keep_23 ?_
    have e2 : nI (dl_al g) * 2 = nI (2 * dl_al g) := by
      rw [show (2 : Int32) = nI 2 from rfl, pk_mul, Nat.mul_comm]
    rw [e2]
    refine dl_sR (pc := 24) C (c_copyOf l D cI TY hTY cc_nw _ 30 b (dl_al g) (2 * dl_al g) (g 33) cc_a33 (by omega) (by omega)) (va_cwS 2 C.2.2.2.2.1 gX6_keep_J7_copyOf_59c91 rfl rfl rfl (by decide +kernel) ⟨Nat.le_of_ble_eq_true rfl, Nat.le_of_ble_eq_true rfl⟩) rfl rfl (Nat.le_of_ble_eq_true rfl) dX6_keep_24 ⟨by show 0 + 1 ≤ dl_al g0 - dl_al g; omega, by show 0 + 2 * dl_al g ≤ 2 * (dl_al g0 - dl_al g); omega⟩ (fun r u hp => ?_)
    subst hp
    refine dl_put (pc := 27) (ci := 6) (fs := cc_f3 (va_up ad 33 b) g) C hin_X6_keep_X6 tyX6 tyX6_ok nmX6 3 rfl rfl 3 (by decide) lk_X6_keep_18 rfl rfl (ty := .array .int) rfl rfl rfl (Nat.le_of_ble_eq_true rfl) dX6_keep_27 rfl ?_
    refine dl_ws (ws' := cc_w cI cP cII (va_up ad 33 r) pr (dl_g33 g) ++ R) (fun D H h => ?_) (fun A h => ?_) ?_
    · have h9 := dl_mv_P (L1 := cc_hd cI (va_up ad 33 r) (dl_g33 g)) (L2 := cc_tl cP cII (va_up ad 33 r) pr) (R := R) (x := (b, .inl (cI, dl_al g, .inl (g 33)))) (y := (r, .inl (cI, 2 * dl_al g, .inl (dl_cof (g 33) (dl_al g))))) h
      rw [← dl_al33 h2.2] at h9
      exact h9
    · have h9 := dl_mv_D (L1 := cc_hd cI (va_up ad 33 r) (dl_g33 g)) (L2 := cc_tl cP cII (va_up ad 33 r) pr) (R := R) (x := (b, .inl (cI, dl_al g, .inl (g 33)))) (y := (r, .inl (cI, 2 * dl_al g, .inl (dl_cof (g 33) (dl_al g))))) h
      rw [← dl_al33 h2.2] at h9
      exact h9
    rw [← hg]
    refine dl_sub [0, 1] rfl ?_
    exact cl6_keep_t30 l D cI cP cII TY hTY ad pr R _ _ C hQ _ _ _ _ _ ⟨by omega, by omega⟩ h
