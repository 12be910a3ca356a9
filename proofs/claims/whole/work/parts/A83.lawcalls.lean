/-! The law: its calls -/
section
variable {p : Program} {l : Launch} {e : Env} {s : State} {m : MethodId} {below : List Frame} {meth : Method} {c : Code} {Q : State → Prop} {A : Nat → Prop} {D : va_G} {TY : dl_TY} {cI cP cII : ClassId} {b L : Nat} {xs : Nat → Int32} {am : Nat → Nat} {x1 k n : Nat}
set_option maxHeartbeats 4000000 in
set_option maxRecDepth 100000 in
theorem law_clear (X : lw_X p s m c A D TY cI cP cII b L xs) (hn : n + 3 < L) (hk : k < 590) (K : lw_K p l e s m below meth c Q A D cI cP cII b am x1 965 (k + 1) n) : lw_K p l e s m below meth c Q A D cI cP cII b am x1 590 k n := by
  intro ac pr gc gm R cells slots hac hI
  obtain ⟨E, h, hok, hce, hsl⟩ := hI
  have hal := h.aw
  obtain ⟨C, hX, hbl, hbA, hTY, hT1, hT2, hL⟩ := X
  subst hac
  obtain ⟨r, gc1, gm1, e1, e2, F, kF, h1⟩ := do_clear (N := 140000) (by omega) h
  have hal1 := h1.aw
  have hme := h1.ax
  refine dl_aload_n (pc := 590) C 1 dL_law_590 rfl rfl ?_
  refine dl_vI0 (pc := 591) C (ccl11_clear l D cI cP cII TY hTY ac pr (mm_w cI am gm ++ R) gc e1) (cwV 0 C.2.2.2.2.1 gL_law_X11_clear rfl rfl rfl (by decide +kernel) ⟨Nat.le_of_ble_eq_true rfl, Nat.le_of_ble_eq_true rfl⟩) 0 11 cc_a0 rfl rfl rfl (Nat.le_of_ble_eq_true rfl) dL_law_591 (lw_rm hal hce hsl (by omega)) (fun r' u hp => ?_)
  obtain ⟨hr, rfl⟩ := hp
  rw [hr]
  refine dl_aload_n (pc := 594) C 2 dL_law_594 rfl rfl ?_
  refine dl_perm (List.perm_append_comm_assoc _ _ _) ?_
  refine dl_vI0 (pc := 595) C (cmo_clear l D cI TY hTY cc_nw 140000 am (cc_w cI cP cII ac pr gc1 ++ R) gm e2) (cwV 0 C.2.2.2.2.1 gL_law_X12_clear rfl rfl rfl (by decide +kernel) ⟨Nat.le_of_ble_eq_true rfl, Nat.le_of_ble_eq_true rfl⟩) 0 12 rfl rfl rfl rfl (Nat.le_of_ble_eq_true rfl) dL_law_595 (lw_rm hal hce hsl (by omega)) (fun r2 u hp => ?_)
  obtain ⟨hr2, rfl⟩ := hp
  rw [hr2]
  refine dl_perm (List.perm_append_comm_assoc _ _ _) ?_
  refine dl_eqj (pc := 598) C 965 dL_law_598 (by decide) ?_
  exact K ac pr gc1 gm1 R cells slots rfl ⟨F, (h1.re (Nat.le_refl _)).up (by omega), (cc_ok_to hok h h1 kF), by omega, by omega⟩
set_option maxHeartbeats 4000000 in
set_option maxRecDepth 100000 in
theorem law_why (X : lw_X p s m c A D TY cI cP cII b L xs) (hn : n + 3 < L) (hk : k < 590) (K : lw_K p l e s m below meth c Q A D cI cP cII b am x1 965 (k + 1) n) : lw_K p l e s m below meth c Q A D cI cP cII b am x1 603 k n := by
  intro ac pr gc gm R cells slots hac hI
  obtain ⟨E, h, hok, hce, hsl⟩ := hI
  have hal := h.aw
  obtain ⟨C, hX, hbl, hbA, hTY, hT1, hT2, hL⟩ := X
  subst hac
  obtain ⟨r, gc1, gm1, e1, e2, F, kF, h1⟩ := ask_why (N := 140000) (by omega) h
  have hal1 := h1.aw
  have hme := h1.ax
  refine dl_aload_n (pc := 603) C 1 dL_law_603 rfl rfl ?_
  refine dl_vI0 (pc := 604) C (ccl11_why l D cI cP cII TY hTY 140000 ac pr (mm_w cI am gm ++ R) gc e1) (cwV 0 C.2.2.2.2.1 gL_law_X11_why rfl rfl rfl (by decide +kernel) ⟨Nat.le_of_ble_eq_true rfl, Nat.le_of_ble_eq_true rfl⟩) 0 11 cc_a0 rfl rfl rfl (Nat.le_of_ble_eq_true rfl) dL_law_604 (lw_rm hal hce hsl (by omega)) (fun r' u hp => ?_)
  obtain ⟨hr, rfl⟩ := hp
  rw [hr]
  refine dl_aload_n (pc := 607) C 2 dL_law_607 rfl rfl ?_
  refine dl_perm (List.perm_append_comm_assoc _ _ _) ?_
  refine dl_vI0 (pc := 608) C (cmo_why l D cI TY hTY cc_nw 140000 am (cc_w cI cP cII ac pr gc1 ++ R) gm e2) (cwV 0 C.2.2.2.2.1 gL_law_X12_why rfl rfl rfl (by decide +kernel) ⟨Nat.le_of_ble_eq_true rfl, Nat.le_of_ble_eq_true rfl⟩) 0 12 rfl rfl rfl rfl (Nat.le_of_ble_eq_true rfl) dL_law_608 (lw_rm hal hce hsl (by omega)) (fun r2 u hp => ?_)
  obtain ⟨hr2, rfl⟩ := hp
  rw [hr2]
  refine dl_perm (List.perm_append_comm_assoc _ _ _) ?_
  refine dl_eqj (pc := 611) C 965 dL_law_611 (by decide) ?_
  exact K ac pr gc1 gm1 R cells slots rfl ⟨F, (h1.re (Nat.le_refl _)).up (by omega), (cc_ok_to hok h h1 kF), by omega, by omega⟩
set_option maxHeartbeats 4000000 in
set_option maxRecDepth 100000 in
theorem law_tag (X : lw_X p s m c A D TY cI cP cII b L xs) (hn : n + 3 < L) (hk : k < 590) (K : lw_K p l e s m below meth c Q A D cI cP cII b am x1 965 (k + 1) n) : lw_K p l e s m below meth c Q A D cI cP cII b am x1 616 k n := by
  intro ac pr gc gm R cells slots hac hI
  obtain ⟨E, h, hok, hce, hsl⟩ := hI
  have hal := h.aw
  obtain ⟨C, hX, hbl, hbA, hTY, hT1, hT2, hL⟩ := X
  subst hac
  obtain ⟨r, gc1, gm1, e1, e2, F, kF, h1⟩ := ask_tag (N := 140000) (by omega) h
  have hal1 := h1.aw
  have hme := h1.ax
  refine dl_aload_n (pc := 616) C 1 dL_law_616 rfl rfl ?_
  refine dl_vI0 (pc := 617) C (ccl11_tag l D cI cP cII TY hTY 140000 ac pr (mm_w cI am gm ++ R) gc e1) (cwV 0 C.2.2.2.2.1 gL_law_X11_tag rfl rfl rfl (by decide +kernel) ⟨Nat.le_of_ble_eq_true rfl, Nat.le_of_ble_eq_true rfl⟩) 0 11 cc_a0 rfl rfl rfl (Nat.le_of_ble_eq_true rfl) dL_law_617 (lw_rm hal hce hsl (by omega)) (fun r' u hp => ?_)
  obtain ⟨hr, rfl⟩ := hp
  rw [hr]
  refine dl_aload_n (pc := 620) C 2 dL_law_620 rfl rfl ?_
  refine dl_perm (List.perm_append_comm_assoc _ _ _) ?_
  refine dl_vI0 (pc := 621) C (cmo_tag l D cI TY hTY cc_nw 140000 am (cc_w cI cP cII ac pr gc1 ++ R) gm e2) (cwV 0 C.2.2.2.2.1 gL_law_X12_tag rfl rfl rfl (by decide +kernel) ⟨Nat.le_of_ble_eq_true rfl, Nat.le_of_ble_eq_true rfl⟩) 0 12 rfl rfl rfl rfl (Nat.le_of_ble_eq_true rfl) dL_law_621 (lw_rm hal hce hsl (by omega)) (fun r2 u hp => ?_)
  obtain ⟨hr2, rfl⟩ := hp
  rw [hr2]
  refine dl_perm (List.perm_append_comm_assoc _ _ _) ?_
  refine dl_eqj (pc := 624) C 965 dL_law_624 (by decide) ?_
  exact K ac pr gc1 gm1 R cells slots rfl ⟨F, (h1.re (Nat.le_refl _)).up (by omega), (cc_ok_to hok h h1 kF), by omega, by omega⟩
set_option maxHeartbeats 4000000 in
set_option maxRecDepth 100000 in
theorem law_trim (X : lw_X p s m c A D TY cI cP cII b L xs) (hn : n + 3 < L) (hk : k < 590) (K : lw_K p l e s m below meth c Q A D cI cP cII b am x1 965 (k + 1) n) : lw_K p l e s m below meth c Q A D cI cP cII b am x1 629 k n := by
  intro ac pr gc gm R cells slots hac hI
  obtain ⟨E, h, hok, hce, hsl⟩ := hI
  have hal := h.aw
  obtain ⟨C, hX, hbl, hbA, hTY, hT1, hT2, hL⟩ := X
  subst hac
  obtain ⟨r, gc1, gm1, e1, e2, F, kF, h1⟩ := do_trim (N := 140000) (by omega) h
  have hal1 := h1.aw
  have hme := h1.ax
  refine dl_aload_n (pc := 629) C 1 dL_law_629 rfl rfl ?_
  refine dl_vI0 (pc := 630) C (ccl11_trim l D cI cP cII TY hTY 140000 ac pr (mm_w cI am gm ++ R) gc e1) (cwV 0 C.2.2.2.2.1 gL_law_X11_trim rfl rfl rfl (by decide +kernel) ⟨Nat.le_of_ble_eq_true rfl, Nat.le_of_ble_eq_true rfl⟩) 0 11 cc_a0 rfl rfl rfl (Nat.le_of_ble_eq_true rfl) dL_law_630 (lw_rm hal hce hsl (by omega)) (fun r' u hp => ?_)
  obtain ⟨hr, rfl⟩ := hp
  rw [hr]
  refine dl_aload_n (pc := 633) C 2 dL_law_633 rfl rfl ?_
  refine dl_perm (List.perm_append_comm_assoc _ _ _) ?_
  refine dl_vI0 (pc := 634) C (cmo_trim l D cI TY hTY cc_nw 140000 am (cc_w cI cP cII ac pr gc1 ++ R) gm e2) (cwV 0 C.2.2.2.2.1 gL_law_X12_trim rfl rfl rfl (by decide +kernel) ⟨Nat.le_of_ble_eq_true rfl, Nat.le_of_ble_eq_true rfl⟩) 0 12 rfl rfl rfl rfl (Nat.le_of_ble_eq_true rfl) dL_law_634 (lw_rm hal hce hsl (by omega)) (fun r2 u hp => ?_)
  obtain ⟨hr2, rfl⟩ := hp
  rw [hr2]
  refine dl_perm (List.perm_append_comm_assoc _ _ _) ?_
  refine dl_eqj (pc := 637) C 965 dL_law_637 (by decide) ?_
  exact K ac pr gc1 gm1 R cells slots rfl ⟨F, (h1.re (Nat.le_refl _)).up (by omega), (cc_ok_to hok h h1 kF), by omega, by omega⟩
set_option maxHeartbeats 4000000 in
set_option maxRecDepth 100000 in
theorem law_better (X : lw_X p s m c A D TY cI cP cII b L xs) (hn : n + 3 < L) (hk : k < 590) (K : lw_K p l e s m below meth c Q A D cI cP cII b am x1 965 (k + 1) n) : lw_K p l e s m below meth c Q A D cI cP cII b am x1 642 k n := by
  intro ac pr gc gm R cells slots hac hI
  obtain ⟨E, h, hok, hce, hsl⟩ := hI
  have hal := h.aw
  obtain ⟨C, hX, hbl, hbA, hTY, hT1, hT2, hL⟩ := X
  subst hac
  obtain ⟨r, gc1, gm1, e1, e2, F, kF, h1⟩ := do_better (N := 140000) (by omega) h
  have hal1 := h1.aw
  have hme := h1.ax
  refine dl_aload_n (pc := 642) C 1 dL_law_642 rfl rfl ?_
  refine dl_vI0 (pc := 643) C (ccl11_better l D cI cP cII TY hTY 140000 ac pr (mm_w cI am gm ++ R) gc e1) (cwV 0 C.2.2.2.2.1 gL_law_X11_better rfl rfl rfl (by decide +kernel) ⟨Nat.le_of_ble_eq_true rfl, Nat.le_of_ble_eq_true rfl⟩) 0 11 cc_a0 rfl rfl rfl (Nat.le_of_ble_eq_true rfl) dL_law_643 (lw_rm hal hce hsl (by omega)) (fun r' u hp => ?_)
  obtain ⟨hr, rfl⟩ := hp
  rw [hr]
  refine dl_aload_n (pc := 646) C 2 dL_law_646 rfl rfl ?_
  refine dl_perm (List.perm_append_comm_assoc _ _ _) ?_
  refine dl_vI0 (pc := 647) C (cmo_better l D cI TY hTY cc_nw 140000 am (cc_w cI cP cII ac pr gc1 ++ R) gm e2) (cwV 0 C.2.2.2.2.1 gL_law_X12_better rfl rfl rfl (by decide +kernel) ⟨Nat.le_of_ble_eq_true rfl, Nat.le_of_ble_eq_true rfl⟩) 0 12 rfl rfl rfl rfl (Nat.le_of_ble_eq_true rfl) dL_law_647 (lw_rm hal hce hsl (by omega)) (fun r2 u hp => ?_)
  obtain ⟨hr2, rfl⟩ := hp
  rw [hr2]
  refine dl_perm (List.perm_append_comm_assoc _ _ _) ?_
  refine dl_eqj (pc := 650) C 965 dL_law_650 (by decide) ?_
  exact K ac pr gc1 gm1 R cells slots rfl ⟨F, (h1.re (Nat.le_refl _)).up (by omega), (cc_ok_to hok h h1 kF), by omega, by omega⟩
set_option maxHeartbeats 4000000 in
set_option maxRecDepth 100000 in
theorem law_walls (X : lw_X p s m c A D TY cI cP cII b L xs) (hn : n + 3 < L) (hk : k < 590) (K : lw_K p l e s m below meth c Q A D cI cP cII b am x1 965 (k + 1) n) : lw_K p l e s m below meth c Q A D cI cP cII b am x1 655 k n := by
  intro ac pr gc gm R cells slots hac hI
  obtain ⟨E, h, hok, hce, hsl⟩ := hI
  have hal := h.aw
  obtain ⟨C, hX, hbl, hbA, hTY, hT1, hT2, hL⟩ := X
  subst hac
  obtain ⟨r, gc1, gm1, e1, e2, F, kF, h1⟩ := ask_walls (N := 140000) (by omega) h
  have hal1 := h1.aw
  have hme := h1.ax
  refine dl_aload_n (pc := 655) C 1 dL_law_655 rfl rfl ?_
  refine dl_vI0 (pc := 656) C (ccl11_walls l D cI cP cII TY hTY 140000 ac pr (mm_w cI am gm ++ R) gc e1) (cwV 0 C.2.2.2.2.1 gL_law_X11_walls rfl rfl rfl (by decide +kernel) ⟨Nat.le_of_ble_eq_true rfl, Nat.le_of_ble_eq_true rfl⟩) 0 11 cc_a0 rfl rfl rfl (Nat.le_of_ble_eq_true rfl) dL_law_656 (lw_rm hal hce hsl (by omega)) (fun r' u hp => ?_)
  obtain ⟨hr, rfl⟩ := hp
  rw [hr]
  refine dl_aload_n (pc := 659) C 2 dL_law_659 rfl rfl ?_
  refine dl_perm (List.perm_append_comm_assoc _ _ _) ?_
  refine dl_vI0 (pc := 660) C (cmo_walls l D cI TY hTY cc_nw 140000 am (cc_w cI cP cII ac pr gc1 ++ R) gm e2) (cwV 0 C.2.2.2.2.1 gL_law_X12_walls rfl rfl rfl (by decide +kernel) ⟨Nat.le_of_ble_eq_true rfl, Nat.le_of_ble_eq_true rfl⟩) 0 12 rfl rfl rfl rfl (Nat.le_of_ble_eq_true rfl) dL_law_660 (lw_rm hal hce hsl (by omega)) (fun r2 u hp => ?_)
  obtain ⟨hr2, rfl⟩ := hp
  rw [hr2]
  refine dl_perm (List.perm_append_comm_assoc _ _ _) ?_
  refine dl_eqj (pc := 663) C 965 dL_law_663 (by decide) ?_
  exact K ac pr gc1 gm1 R cells slots rfl ⟨F, (h1.re (Nat.le_refl _)).up (by omega), (cc_ok_to hok h h1 kF), by omega, by omega⟩
set_option maxHeartbeats 4000000 in
set_option maxRecDepth 100000 in
theorem law_wall (X : lw_X p s m c A D TY cI cP cII b L xs) (hn : n + 3 < L) (hk : k < 590) (K : lw_K p l e s m below meth c Q A D cI cP cII b am x1 965 (k + 1) n) : lw_K p l e s m below meth c Q A D cI cP cII b am x1 668 k n := by
  intro ac pr gc gm R cells slots hac hI
  obtain ⟨E, h, hok, hce, hsl⟩ := hI
  have hal := h.aw
  obtain ⟨C, hX, hbl, hbA, hTY, hT1, hT2, hL⟩ := X
  subst hac
  obtain ⟨r, gc1, gm1, e1, e2, F, kF, h1⟩ := ask_wall (N := 140000) (by omega) h (xs (n + 1)) (xs (n + 2))
  have hal1 := h1.aw
  have hme := h1.ax
  refine dl_aload_n (pc := 668) C 1 dL_law_668 rfl rfl ?_
  refine lw_arg (pc := 669) C hX hbl hbA (by omega) 1 (by omega) rfl dL_law_669 dL_law_670 dL_law_671 dL_law_672 dL_law_673 ?_
  refine lw_arg (pc := 674) C hX hbl hbA (by omega) 2 (by omega) rfl dL_law_674 dL_law_675 dL_law_676 dL_law_677 dL_law_678 ?_
  refine dl_vI0 (pc := 679) C (ccl11_wall l D cI cP cII TY hTY 140000 ac pr (mm_w cI am gm ++ R) gc _ _ e1) (cwV 2 C.2.2.2.2.1 gL_law_X11_wall rfl rfl rfl (by decide +kernel) ⟨Nat.le_of_ble_eq_true rfl, Nat.le_of_ble_eq_true rfl⟩) 0 11 cc_a0 rfl rfl rfl (Nat.le_of_ble_eq_true rfl) dL_law_679 (lw_rm hal hce hsl (by omega)) (fun r' u hp => ?_)
  obtain ⟨hr, rfl⟩ := hp
  rw [hr]
  refine dl_aload_n (pc := 682) C 2 dL_law_682 rfl rfl ?_
  refine lw_arg (pc := 683) C hX hbl hbA (by omega) 1 (by omega) rfl dL_law_683 dL_law_684 dL_law_685 dL_law_686 dL_law_687 ?_
  refine lw_arg (pc := 688) C hX hbl hbA (by omega) 2 (by omega) rfl dL_law_688 dL_law_689 dL_law_690 dL_law_691 dL_law_692 ?_
  refine dl_perm (List.perm_append_comm_assoc _ _ _) ?_
  refine dl_vI0 (pc := 693) C (cmo_wall l D cI TY hTY cc_nw 140000 am (cc_w cI cP cII ac pr gc1 ++ R) gm _ _ e2) (cwV 2 C.2.2.2.2.1 gL_law_X12_wall rfl rfl rfl (by decide +kernel) ⟨Nat.le_of_ble_eq_true rfl, Nat.le_of_ble_eq_true rfl⟩) 0 12 rfl rfl rfl rfl (Nat.le_of_ble_eq_true rfl) dL_law_693 (lw_rm hal hce hsl (by omega)) (fun r2 u hp => ?_)
  obtain ⟨hr2, rfl⟩ := hp
  rw [hr2]
  refine dl_perm (List.perm_append_comm_assoc _ _ _) ?_
  refine dl_eqj (pc := 696) C 965 dL_law_696 (by decide) ?_
  exact K ac pr gc1 gm1 R cells slots rfl ⟨F, (h1.re (Nat.le_refl _)).up (by omega), (cc_ok_to hok h h1 kF), by omega, by omega⟩
set_option maxHeartbeats 4000000 in
set_option maxRecDepth 100000 in
theorem law_bound (X : lw_X p s m c A D TY cI cP cII b L xs) (hn : n + 3 < L) (hk : k < 590) (K : lw_K p l e s m below meth c Q A D cI cP cII b am x1 965 (k + 1) n) : lw_K p l e s m below meth c Q A D cI cP cII b am x1 701 k n := by
  intro ac pr gc gm R cells slots hac hI
  obtain ⟨E, h, hok, hce, hsl⟩ := hI
  have hal := h.aw
  obtain ⟨C, hX, hbl, hbA, hTY, hT1, hT2, hL⟩ := X
  subst hac
  obtain ⟨r, gc1, gm1, e1, e2, F, kF, h1⟩ := ask_bound (N := 140000) (by omega) h
  have hal1 := h1.aw
  have hme := h1.ax
  refine dl_aload_n (pc := 701) C 1 dL_law_701 rfl rfl ?_
  refine dl_vI0 (pc := 702) C (ccl11_bound l D cI cP cII TY hTY 140000 ac pr (mm_w cI am gm ++ R) gc e1) (cwV 0 C.2.2.2.2.1 gL_law_X11_bound rfl rfl rfl (by decide +kernel) ⟨Nat.le_of_ble_eq_true rfl, Nat.le_of_ble_eq_true rfl⟩) 0 11 cc_a0 rfl rfl rfl (Nat.le_of_ble_eq_true rfl) dL_law_702 (lw_rm hal hce hsl (by omega)) (fun r' u hp => ?_)
  obtain ⟨hr, rfl⟩ := hp
  rw [hr]
  refine dl_aload_n (pc := 705) C 2 dL_law_705 rfl rfl ?_
  refine dl_perm (List.perm_append_comm_assoc _ _ _) ?_
  refine dl_vI0 (pc := 706) C (cmo_bound l D cI TY hTY cc_nw 140000 am (cc_w cI cP cII ac pr gc1 ++ R) gm e2) (cwV 0 C.2.2.2.2.1 gL_law_X12_bound rfl rfl rfl (by decide +kernel) ⟨Nat.le_of_ble_eq_true rfl, Nat.le_of_ble_eq_true rfl⟩) 0 12 rfl rfl rfl rfl (Nat.le_of_ble_eq_true rfl) dL_law_706 (lw_rm hal hce hsl (by omega)) (fun r2 u hp => ?_)
  obtain ⟨hr2, rfl⟩ := hp
  rw [hr2]
  refine dl_perm (List.perm_append_comm_assoc _ _ _) ?_
  refine dl_eqj (pc := 709) C 965 dL_law_709 (by decide) ?_
  exact K ac pr gc1 gm1 R cells slots rfl ⟨F, (h1.re (Nat.le_refl _)).up (by omega), (cc_ok_to hok h h1 kF), by omega, by omega⟩
end
