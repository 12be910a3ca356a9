/-! The law: its calls -/
section
variable {p : Program} {l : Launch} {e : Env} {s : State} {m : MethodId} {below : List Frame} {meth : Method} {c : Code} {Q : State → Prop} {A : Nat → Prop} {D : va_G} {TY : dl_TY} {cI cP cII : ClassId} {b L : Nat} {xs : Nat → Int32} {am : Nat → Nat} {x1 k n : Nat}
set_option maxHeartbeats 4000000 in
set_option maxRecDepth 100000 in
theorem law_act (X : lw_X p s m c A D TY cI cP cII b L xs) (hn : n + 3 < L) (hk : k < 590) (K : lw_K p l e s m below meth c Q A D cI cP cII b am x1 965 (k + 1) n) : lw_K p l e s m below meth c Q A D cI cP cII b am x1 714 k n := by
  intro ac pr gc gm R cells slots hac hI
  obtain ⟨E, h, hok, hce, hsl⟩ := hI
  have hal := h.aw
  obtain ⟨C, hX, hbl, hbA, hTY, hT1, hT2, hL⟩ := X
  subst hac
  obtain ⟨r, gc1, gm1, e1, e2, F, kF, h1⟩ := do_act (N := 140000) (by omega) h (xs (n + 1)) (xs (n + 2)) (xs (n + 3))
  have hal1 := h1.aw
  have hme := h1.ax
  refine dl_aload_n (pc := 714) C 1 dL_law_714 rfl rfl ?_
  refine lw_arg (pc := 715) C hX hbl hbA (by omega) 1 (by omega) rfl dL_law_715 dL_law_716 dL_law_717 dL_law_718 dL_law_719 ?_
  refine lw_arg (pc := 720) C hX hbl hbA (by omega) 2 (by omega) rfl dL_law_720 dL_law_721 dL_law_722 dL_law_723 dL_law_724 ?_
  refine lw_arg (pc := 725) C hX hbl hbA (by omega) 3 (by omega) rfl dL_law_725 dL_law_726 dL_law_727 dL_law_728 dL_law_729 ?_
  refine dl_vI0 (pc := 730) C (ccl11_act l D cI cP cII TY hTY hT1 ac pr (mm_w cI am gm ++ R) gc (cc_ok_app _ hok) _ _ _ e1) (cwV 3 C.2.2.2.2.1 gL_law_X11_act rfl rfl rfl (by decide +kernel) ⟨Nat.le_of_ble_eq_true rfl, Nat.le_of_ble_eq_true rfl⟩) 0 11 cc_a0 rfl rfl rfl (Nat.le_of_ble_eq_true rfl) dL_law_730 (lw_rm hal hce hsl (by omega)) (fun r' u hp => ?_)
  obtain ⟨hr, R1, hk1, rfl⟩ := hp
  obtain ⟨R2, rfl, hok2⟩ := okk_app hok hk1
  rw [hr]
  refine dl_aload_n (pc := 733) C 2 dL_law_733 rfl rfl ?_
  refine lw_arg (pc := 734) C hX hbl hbA (by omega) 1 (by omega) rfl dL_law_734 dL_law_735 dL_law_736 dL_law_737 dL_law_738 ?_
  refine lw_arg (pc := 739) C hX hbl hbA (by omega) 2 (by omega) rfl dL_law_739 dL_law_740 dL_law_741 dL_law_742 dL_law_743 ?_
  refine lw_arg (pc := 744) C hX hbl hbA (by omega) 3 (by omega) rfl dL_law_744 dL_law_745 dL_law_746 dL_law_747 dL_law_748 ?_
  refine dl_perm (List.perm_append_comm_assoc _ _ _) ?_
  refine dl_vI0 (pc := 749) C (cmo_act l D cI TY hTY cc_nw 140000 am (cc_w cI cP cII ac pr gc1 ++ R2) gm _ _ _ e2) (cwV 3 C.2.2.2.2.1 gL_law_X12_act rfl rfl rfl (by decide +kernel) ⟨Nat.le_of_ble_eq_true rfl, Nat.le_of_ble_eq_true rfl⟩) 0 12 rfl rfl rfl rfl (Nat.le_of_ble_eq_true rfl) dL_law_749 (lw_rm hal hce hsl (by omega)) (fun r2 u hp => ?_)
  obtain ⟨hr2, rfl⟩ := hp
  rw [hr2]
  refine dl_perm (List.perm_append_comm_assoc _ _ _) ?_
  refine dl_eqj (pc := 752) C 965 dL_law_752 (by decide) ?_
  exact K ac pr gc1 gm1 R2 cells slots rfl ⟨F, (h1.re (Nat.le_refl _)).up (by omega), (cc_ok_to hok2 h h1 kF), by omega, by omega⟩
set_option maxHeartbeats 4000000 in
set_option maxRecDepth 100000 in
theorem law_trace (X : lw_X p s m c A D TY cI cP cII b L xs) (hn : n + 3 < L) (hk : k < 590) (K : lw_K p l e s m below meth c Q A D cI cP cII b am x1 965 (k + 1) n) : lw_K p l e s m below meth c Q A D cI cP cII b am x1 757 k n := by
  intro ac pr gc gm R cells slots hac hI
  obtain ⟨E, h, hok, hce, hsl⟩ := hI
  have hal := h.aw
  obtain ⟨C, hX, hbl, hbA, hTY, hT1, hT2, hL⟩ := X
  subst hac
  obtain ⟨r, e1, e2⟩ := ask_trace h (xs (n + 1))
  refine dl_aload_n (pc := 757) C 1 dL_law_757 rfl rfl ?_
  refine lw_arg (pc := 758) C hX hbl hbA (by omega) 1 (by omega) rfl dL_law_758 dL_law_759 dL_law_760 dL_law_761 dL_law_762 ?_
  refine dl_vI0 (pc := 763) C (ccl11_trace l D cI cP cII TY hTY ac pr (mm_w cI am gm ++ R) gc _ e1) (cwV 1 C.2.2.2.2.1 gL_law_X11_trace rfl rfl rfl (by decide +kernel) ⟨Nat.le_of_ble_eq_true rfl, Nat.le_of_ble_eq_true rfl⟩) 0 11 cc_a0 rfl rfl rfl (Nat.le_of_ble_eq_true rfl) dL_law_763 (lw_rm hal hce hsl (by omega)) (fun r' u hp => ?_)
  obtain ⟨hr, rfl⟩ := hp
  rw [hr]
  refine dl_aload_n (pc := 766) C 2 dL_law_766 rfl rfl ?_
  refine lw_arg (pc := 767) C hX hbl hbA (by omega) 1 (by omega) rfl dL_law_767 dL_law_768 dL_law_769 dL_law_770 dL_law_771 ?_
  refine dl_perm (List.perm_append_comm_assoc _ _ _) ?_
  refine dl_vI0 (pc := 772) C (cmo_trace l D cI TY hTY cc_nw am (cc_w cI cP cII ac pr gc ++ R) gm _ e2) (cwV 1 C.2.2.2.2.1 gL_law_X12_trace rfl rfl rfl (by decide +kernel) ⟨Nat.le_of_ble_eq_true rfl, Nat.le_of_ble_eq_true rfl⟩) 0 12 rfl rfl rfl rfl (Nat.le_of_ble_eq_true rfl) dL_law_772 (lw_rm hal hce hsl (by omega)) (fun r2 u hp => ?_)
  obtain ⟨hr2, rfl⟩ := hp
  rw [hr2]
  refine dl_perm (List.perm_append_comm_assoc _ _ _) ?_
  refine dl_eqj (pc := 775) C 965 dL_law_775 (by decide) ?_
  exact K ac pr gc gm R cells slots rfl ⟨E, h.up (by omega), hok, by omega, by omega⟩
set_option maxHeartbeats 4000000 in
set_option maxRecDepth 100000 in
theorem law_map (X : lw_X p s m c A D TY cI cP cII b L xs) (hn : n + 3 < L) (hk : k < 590) (K : lw_K p l e s m below meth c Q A D cI cP cII b am x1 965 (k + 1) n) : lw_K p l e s m below meth c Q A D cI cP cII b am x1 780 k n := by
  intro ac pr gc gm R cells slots hac hI
  obtain ⟨E, h, hok, hce, hsl⟩ := hI
  have hal := h.aw
  obtain ⟨C, hX, hbl, hbA, hTY, hT1, hT2, hL⟩ := X
  subst hac
  obtain ⟨r, gc1, gm1, e1, e2, F, kF, h1⟩ := do_map (N := 140000) (by omega) h (xs (n + 1)) (xs (n + 2)) (xs (n + 3))
  have hal1 := h1.aw
  have hme := h1.ax
  refine dl_aload_n (pc := 780) C 1 dL_law_780 rfl rfl ?_
  refine lw_arg (pc := 781) C hX hbl hbA (by omega) 1 (by omega) rfl dL_law_781 dL_law_782 dL_law_783 dL_law_784 dL_law_785 ?_
  refine lw_arg (pc := 786) C hX hbl hbA (by omega) 2 (by omega) rfl dL_law_786 dL_law_787 dL_law_788 dL_law_789 dL_law_790 ?_
  refine lw_arg (pc := 791) C hX hbl hbA (by omega) 3 (by omega) rfl dL_law_791 dL_law_792 dL_law_793 dL_law_794 dL_law_795 ?_
  refine dl_vI0 (pc := 796) C (ccl11_map l D cI cP cII TY hTY hT2 ac pr (mm_w cI am gm ++ R) gc _ _ _ e1) (cwV 3 C.2.2.2.2.1 gL_law_X11_map rfl rfl rfl (by decide +kernel) ⟨Nat.le_of_ble_eq_true rfl, Nat.le_of_ble_eq_true rfl⟩) 0 11 cc_a0 rfl rfl rfl (Nat.le_of_ble_eq_true rfl) dL_law_796 (lw_rm hal hce hsl (by omega)) (fun r' u hp => ?_)
  obtain ⟨hr, rfl⟩ := hp
  rw [hr]
  refine dl_aload_n (pc := 799) C 2 dL_law_799 rfl rfl ?_
  refine lw_arg (pc := 800) C hX hbl hbA (by omega) 1 (by omega) rfl dL_law_800 dL_law_801 dL_law_802 dL_law_803 dL_law_804 ?_
  refine lw_arg (pc := 805) C hX hbl hbA (by omega) 2 (by omega) rfl dL_law_805 dL_law_806 dL_law_807 dL_law_808 dL_law_809 ?_
  refine lw_arg (pc := 810) C hX hbl hbA (by omega) 3 (by omega) rfl dL_law_810 dL_law_811 dL_law_812 dL_law_813 dL_law_814 ?_
  refine dl_perm (List.perm_append_comm_assoc _ _ _) ?_
  refine dl_vI0 (pc := 815) C (cmo_map l D cI TY hTY cc_nw 140000 am (cc_w cI cP cII ac pr gc1 ++ R) gm _ _ _ e2) (cwV 3 C.2.2.2.2.1 gL_law_X12_map rfl rfl rfl (by decide +kernel) ⟨Nat.le_of_ble_eq_true rfl, Nat.le_of_ble_eq_true rfl⟩) 0 12 rfl rfl rfl rfl (Nat.le_of_ble_eq_true rfl) dL_law_815 (lw_rm hal hce hsl (by omega)) (fun r2 u hp => ?_)
  obtain ⟨hr2, rfl⟩ := hp
  rw [hr2]
  refine dl_perm (List.perm_append_comm_assoc _ _ _) ?_
  refine dl_eqj (pc := 818) C 965 dL_law_818 (by decide) ?_
  exact K ac pr gc1 gm1 R cells slots rfl ⟨F, (h1.re (Nat.le_refl _)).up (by omega), (cc_ok_to hok h h1 kF), by omega, by omega⟩
set_option maxHeartbeats 4000000 in
set_option maxRecDepth 100000 in
theorem law_cell (X : lw_X p s m c A D TY cI cP cII b L xs) (hn : n + 3 < L) (hk : k < 590) (K : lw_K p l e s m below meth c Q A D cI cP cII b am x1 965 (k + 1) n) : lw_K p l e s m below meth c Q A D cI cP cII b am x1 823 k n := by
  intro ac pr gc gm R cells slots hac hI
  obtain ⟨E, h, hok, hce, hsl⟩ := hI
  have hal := h.aw
  obtain ⟨C, hX, hbl, hbA, hTY, hT1, hT2, hL⟩ := X
  subst hac
  obtain ⟨r, gc1, gm1, e1, e2, F, kF, h1⟩ := do_cell h (xs (n + 1)) (xs (n + 2)) (xs (n + 3))
  have hal1 := h1.aw
  have hme := h1.ax
  refine dl_aload_n (pc := 823) C 1 dL_law_823 rfl rfl ?_
  refine lw_arg (pc := 824) C hX hbl hbA (by omega) 1 (by omega) rfl dL_law_824 dL_law_825 dL_law_826 dL_law_827 dL_law_828 ?_
  refine lw_arg (pc := 829) C hX hbl hbA (by omega) 2 (by omega) rfl dL_law_829 dL_law_830 dL_law_831 dL_law_832 dL_law_833 ?_
  refine lw_arg (pc := 834) C hX hbl hbA (by omega) 3 (by omega) rfl dL_law_834 dL_law_835 dL_law_836 dL_law_837 dL_law_838 ?_
  refine dl_vI0 (pc := 839) C (ccl11_cell l D cI cP cII TY hTY hT2 ac pr (mm_w cI am gm ++ R) gc _ _ _ e1) (cwV 3 C.2.2.2.2.1 gL_law_X11_cell rfl rfl rfl (by decide +kernel) ⟨Nat.le_of_ble_eq_true rfl, Nat.le_of_ble_eq_true rfl⟩) 0 11 cc_a0 rfl rfl rfl (Nat.le_of_ble_eq_true rfl) dL_law_839 (lw_rm hal hce hsl (by omega)) (fun r' u hp => ?_)
  obtain ⟨hr, rfl⟩ := hp
  rw [hr]
  refine dl_aload_n (pc := 842) C 2 dL_law_842 rfl rfl ?_
  refine lw_arg (pc := 843) C hX hbl hbA (by omega) 1 (by omega) rfl dL_law_843 dL_law_844 dL_law_845 dL_law_846 dL_law_847 ?_
  refine lw_arg (pc := 848) C hX hbl hbA (by omega) 2 (by omega) rfl dL_law_848 dL_law_849 dL_law_850 dL_law_851 dL_law_852 ?_
  refine lw_arg (pc := 853) C hX hbl hbA (by omega) 3 (by omega) rfl dL_law_853 dL_law_854 dL_law_855 dL_law_856 dL_law_857 ?_
  refine dl_perm (List.perm_append_comm_assoc _ _ _) ?_
  refine dl_vI0 (pc := 858) C (cmo_cell l D cI TY hTY cc_nw am (cc_w cI cP cII ac pr gc1 ++ R) gm _ _ _ e2) (cwV 3 C.2.2.2.2.1 gL_law_X12_cell rfl rfl rfl (by decide +kernel) ⟨Nat.le_of_ble_eq_true rfl, Nat.le_of_ble_eq_true rfl⟩) 0 12 rfl rfl rfl rfl (Nat.le_of_ble_eq_true rfl) dL_law_858 (lw_rm hal hce hsl (by omega)) (fun r2 u hp => ?_)
  obtain ⟨hr2, rfl⟩ := hp
  rw [hr2]
  refine dl_perm (List.perm_append_comm_assoc _ _ _) ?_
  refine dl_eqj (pc := 861) C 965 dL_law_861 (by decide) ?_
  exact K ac pr gc1 gm1 R cells slots rfl ⟨F, (h1.re (Nat.le_refl _)).up (by omega), (cc_ok_to hok h h1 kF), by omega, by omega⟩
set_option maxHeartbeats 4000000 in
set_option maxRecDepth 100000 in
theorem law_fromMap (X : lw_X p s m c A D TY cI cP cII b L xs) (hn : n + 3 < L) (hk : k < 590) (K : lw_K p l e s m below meth c Q A D cI cP cII b am x1 965 (k + 1) n) : lw_K p l e s m below meth c Q A D cI cP cII b am x1 866 k n := by
  intro ac pr gc gm R cells slots hac hI
  obtain ⟨E, h, hok, hce, hsl⟩ := hI
  have hal := h.aw
  obtain ⟨C, hX, hbl, hbA, hTY, hT1, hT2, hL⟩ := X
  subst hac
  obtain ⟨r, gc1, gm1, e1, e2, F, kF, h1⟩ := do_fromMap (N := 140000) (by omega) h (by omega) (xs (n + 1)) (xs (n + 2)) (xs (n + 3))
  have hal1 := h1.aw
  have hme := h1.ax
  refine dl_aload_n (pc := 866) C 1 dL_law_866 rfl rfl ?_
  refine lw_arg (pc := 867) C hX hbl hbA (by omega) 1 (by omega) rfl dL_law_867 dL_law_868 dL_law_869 dL_law_870 dL_law_871 ?_
  refine lw_arg (pc := 872) C hX hbl hbA (by omega) 2 (by omega) rfl dL_law_872 dL_law_873 dL_law_874 dL_law_875 dL_law_876 ?_
  refine lw_arg (pc := 877) C hX hbl hbA (by omega) 3 (by omega) rfl dL_law_877 dL_law_878 dL_law_879 dL_law_880 dL_law_881 ?_
  refine dl_vI0 (pc := 882) C (ccl11_fromMap l D cI cP cII TY hTY hT2 ac pr (mm_w cI am gm ++ R) gc _ _ _ e1) (cwV 3 C.2.2.2.2.1 gL_law_X11_fromMap rfl rfl rfl (by decide +kernel) ⟨Nat.le_of_ble_eq_true rfl, Nat.le_of_ble_eq_true rfl⟩) 0 11 cc_a0 rfl rfl rfl (Nat.le_of_ble_eq_true rfl) dL_law_882 (lw_rm hal hce hsl (by omega)) (fun r' u hp => ?_)
  obtain ⟨hr, rfl⟩ := hp
  rw [hr]
  refine dl_aload_n (pc := 885) C 2 dL_law_885 rfl rfl ?_
  refine lw_arg (pc := 886) C hX hbl hbA (by omega) 1 (by omega) rfl dL_law_886 dL_law_887 dL_law_888 dL_law_889 dL_law_890 ?_
  refine lw_arg (pc := 891) C hX hbl hbA (by omega) 2 (by omega) rfl dL_law_891 dL_law_892 dL_law_893 dL_law_894 dL_law_895 ?_
  refine lw_arg (pc := 896) C hX hbl hbA (by omega) 3 (by omega) rfl dL_law_896 dL_law_897 dL_law_898 dL_law_899 dL_law_900 ?_
  refine dl_perm (List.perm_append_comm_assoc _ _ _) ?_
  refine dl_vI0 (pc := 901) C (cmo_fromMap l D cI TY hTY cc_nw 140000 am (cc_w cI cP cII ac pr gc1 ++ R) gm _ _ _ e2) (cwV 3 C.2.2.2.2.1 gL_law_X12_fromMap rfl rfl rfl (by decide +kernel) ⟨Nat.le_of_ble_eq_true rfl, Nat.le_of_ble_eq_true rfl⟩) 0 12 rfl rfl rfl rfl (Nat.le_of_ble_eq_true rfl) dL_law_901 (lw_rm hal hce hsl (by omega)) (fun r2 u hp => ?_)
  obtain ⟨hr2, rfl⟩ := hp
  rw [hr2]
  refine dl_perm (List.perm_append_comm_assoc _ _ _) ?_
  refine dl_eqj (pc := 904) C 965 dL_law_904 (by decide) ?_
  exact K ac pr gc1 gm1 R cells slots rfl ⟨F, (h1.re (Nat.le_refl _)), (cc_ok_to hok h h1 kF), by omega, by omega⟩
set_option maxHeartbeats 4000000 in
set_option maxRecDepth 100000 in
theorem law_forge (X : lw_X p s m c A D TY cI cP cII b L xs) (hn : n + 3 < L) (hk : k < 590) (K : lw_K p l e s m below meth c Q A D cI cP cII b am x1 965 (k + 1) n) : lw_K p l e s m below meth c Q A D cI cP cII b am x1 909 k n := by
  intro ac pr gc gm R cells slots hac hI
  obtain ⟨E, h, hok, hce, hsl⟩ := hI
  have hal := h.aw
  obtain ⟨C, hX, hbl, hbA, hTY, hT1, hT2, hL⟩ := X
  subst hac
  obtain ⟨r, gc1, gm1, e1, e2, F, kF, h1⟩ := do_forge (N := 140000) (by omega) h (xs (n + 1)) (xs (n + 2)) (xs (n + 3))
  have hal1 := h1.aw
  have hme := h1.ax
  refine dl_aload_n (pc := 909) C 1 dL_law_909 rfl rfl ?_
  refine lw_arg (pc := 910) C hX hbl hbA (by omega) 1 (by omega) rfl dL_law_910 dL_law_911 dL_law_912 dL_law_913 dL_law_914 ?_
  refine lw_arg (pc := 915) C hX hbl hbA (by omega) 2 (by omega) rfl dL_law_915 dL_law_916 dL_law_917 dL_law_918 dL_law_919 ?_
  refine lw_arg (pc := 920) C hX hbl hbA (by omega) 3 (by omega) rfl dL_law_920 dL_law_921 dL_law_922 dL_law_923 dL_law_924 ?_
  refine dl_vI0 (pc := 925) C (ccl11_forge l D cI cP cII TY hTY hT1 hT2 140000 ac pr (mm_w cI am gm ++ R) gc _ _ _ (cc_ok_app _ hok) e1) (cwV 3 C.2.2.2.2.1 gL_law_X11_forge rfl rfl rfl (by decide +kernel) ⟨Nat.le_of_ble_eq_true rfl, Nat.le_of_ble_eq_true rfl⟩) 0 11 cc_a0 rfl rfl rfl (Nat.le_of_ble_eq_true rfl) dL_law_925 (lw_rm hal hce hsl (by omega)) (fun r' u hp => ?_)
  obtain ⟨hr, rfl⟩ := hp
  rw [hr]
  refine dl_aload_n (pc := 928) C 2 dL_law_928 rfl rfl ?_
  refine lw_arg (pc := 929) C hX hbl hbA (by omega) 1 (by omega) rfl dL_law_929 dL_law_930 dL_law_931 dL_law_932 dL_law_933 ?_
  refine lw_arg (pc := 934) C hX hbl hbA (by omega) 2 (by omega) rfl dL_law_934 dL_law_935 dL_law_936 dL_law_937 dL_law_938 ?_
  refine lw_arg (pc := 939) C hX hbl hbA (by omega) 3 (by omega) rfl dL_law_939 dL_law_940 dL_law_941 dL_law_942 dL_law_943 ?_
  refine dl_perm (List.perm_append_comm_assoc _ _ _) ?_
  refine dl_vI0 (pc := 944) C (cmo_forge l D cI TY hTY cc_nw 140000 am (cc_w cI cP cII ac pr gc1 ++ R) gm _ _ _ e2) (cwV 3 C.2.2.2.2.1 gL_law_X12_forge rfl rfl rfl (by decide +kernel) ⟨Nat.le_of_ble_eq_true rfl, Nat.le_of_ble_eq_true rfl⟩) 0 12 rfl rfl rfl rfl (Nat.le_of_ble_eq_true rfl) dL_law_944 (lw_rm hal hce hsl (by omega)) (fun r2 u hp => ?_)
  obtain ⟨hr2, rfl⟩ := hp
  rw [hr2]
  refine dl_perm (List.perm_append_comm_assoc _ _ _) ?_
  refine dl_eqj (pc := 947) C 965 dL_law_947 (by decide) ?_
  exact K ac pr gc1 gm1 R cells slots rfl ⟨F, (h1.re (Nat.le_refl _)).up (by omega), (cc_ok_to hok h h1 kF), by omega, by omega⟩
set_option maxHeartbeats 4000000 in
set_option maxRecDepth 100000 in
theorem law_status (X : lw_X p s m c A D TY cI cP cII b L xs) (hn : n + 3 < L) (hk : k < 590) (K : lw_K p l e s m below meth c Q A D cI cP cII b am x1 965 (k + 1) n) : lw_K p l e s m below meth c Q A D cI cP cII b am x1 952 k n := by
  intro ac pr gc gm R cells slots hac hI
  obtain ⟨E, h, hok, hce, hsl⟩ := hI
  have hal := h.aw
  obtain ⟨C, hX, hbl, hbA, hTY, hT1, hT2, hL⟩ := X
  subst hac
  obtain ⟨r, e1, e2⟩ := ask_status h
  refine dl_aload_n (pc := 952) C 1 dL_law_952 rfl rfl ?_
  refine dl_vI0 (pc := 953) C (ccl11_status l D cI cP cII TY hTY ac pr (mm_w cI am gm ++ R) gc e1) (cwV 0 C.2.2.2.2.1 gL_law_X11_status rfl rfl rfl (by decide +kernel) ⟨Nat.le_of_ble_eq_true rfl, Nat.le_of_ble_eq_true rfl⟩) 0 11 cc_a0 rfl rfl rfl (Nat.le_of_ble_eq_true rfl) dL_law_953 (lw_rm hal hce hsl (by omega)) (fun r' u hp => ?_)
  obtain ⟨hr, rfl⟩ := hp
  rw [hr]
  refine dl_aload_n (pc := 956) C 2 dL_law_956 rfl rfl ?_
  refine dl_perm (List.perm_append_comm_assoc _ _ _) ?_
  refine dl_vI0 (pc := 957) C (cmo_status l D cI TY hTY cc_nw am (cc_w cI cP cII ac pr gc ++ R) gm e2) (cwV 0 C.2.2.2.2.1 gL_law_X12_status rfl rfl rfl (by decide +kernel) ⟨Nat.le_of_ble_eq_true rfl, Nat.le_of_ble_eq_true rfl⟩) 0 12 rfl rfl rfl rfl (Nat.le_of_ble_eq_true rfl) dL_law_957 (lw_rm hal hce hsl (by omega)) (fun r2 u hp => ?_)
  obtain ⟨hr2, rfl⟩ := hp
  rw [hr2]
  refine dl_perm (List.perm_append_comm_assoc _ _ _) ?_
  refine dl_eqj (pc := 960) C 965 dL_law_960 (by decide) ?_
  exact K ac pr gc gm R cells slots rfl ⟨E, h.up (by omega), hok, by omega, by omega⟩
end
