/-! The law: its loop -/
section
variable {p : Program} {l : Launch} {e : Env} {s : State} {m : MethodId} {below : List Frame} {meth : Method} {c : Code} {Q : State → Prop} {A : Nat → Prop} {D : va_G} {TY : dl_TY} {cI cP cII : ClassId} {b L : Nat} {xs : Nat → Int32} {am : Nat → Nat} {x1 k n : Nat}
theorem law_965 (X : lw_X p s m c A D TY cI cP cII b L xs) (K : lw_K p l e s m below meth c Q A D cI cP cII b am x1 18 k (n + 4)) : lw_K p l e s m below meth c Q A D cI cP cII b am x1 965 k n := by
  intro ac pr gc gm R cells slots hac hI
  have C := X.1
  refine dl_iinc (pc := 965) C 3 (z := ()) (f := fun y => if y = nI (n + 4) then some () else none) (fun y => [(3, .int y), (0, .ref b), (1, .ref x1), (2, .ref (am 0))]) dL_law_965 rfl (show nI n + Int32.ofInt 4 = nI (n + 4) from nI_add n 4) (by decide) (fun _ => rfl) (if_pos rfl) (fun y hy => ?_)
  have hy : y = nI (n + 4) := by
    by_cases q : y = nI (n + 4)
    · exact q
    · have hy : (if y = nI (n + 4) then some () else none) = some () := hy
      rw [if_neg q] at hy
      cases hy
  refine dl_goto (pc := 968) C 18 dL_law_968 (by decide) ?_
  rw [hy]
  exact dl_sub [1, 2, 3, 0] rfl (K ac pr gc gm R cells slots hac hI)
theorem lw_31 (x : Int32) : ∃ j, j < 32 ∧ x &&& 31 = nI j := by
  have hj := Nat.mod_lt x.toBitVec.toNat (show 0 < 32 by decide)
  refine ⟨x.toBitVec.toNat % 32, hj, ?_⟩
  apply Int32.toBitVec_inj.mp
  apply BitVec.eq_of_toNat_eq
  rw [Int32.toBitVec_and, BitVec.toNat_and, pk_tn (by omega)]
  show x.toBitVec.toNat &&& (2 ^ 5 - 1) = x.toBitVec.toNat % 2 ^ 5
  exact Nat.and_two_pow_sub_one_eq_mod _ 5
theorem lw_I.up {ac : Nat → Nat} {pr : Nat → Option Nat} {gc gm : dl_Sg} {R : va_W} {cells slots : Nat} (h : lw_I k ac pr gc gm R cells slots) : lw_I (k + 1) ac pr gc gm R cells slots := by
  obtain ⟨E, h1, h2, h3, h4⟩ := h
  exact ⟨E, h1.up (by omega), h2, by omega, by omega⟩
set_option maxHeartbeats 4000000 in
set_option maxRecDepth 100000 in
theorem law_18 (X : lw_X p s m c A D TY cI cP cII b L xs) (Kend : ∀ k n, k < 590 → lw_K p l e s m below meth c Q A D cI cP cII b am x1 971 k n) : ∀ f k n, n = 4 * k → n ≤ L → L + 4 ≤ n + 4 * f → lw_K p l e s m below meth c Q A D cI cP cII b am x1 18 k n := by
  intro f
  induction f with
  | zero => intro k n _ h1 h2; exact absurd h2 (by omega)
  | succ f ih =>
    intro k n hnk hnL hf ac pr gc gm R cells slots hac hI
    obtain ⟨C, hX, hbl, hbA, hTY, hT1, hT2, hL⟩ := id X
    refine dl_iload_n (pc := 18) C 3 dL_law_18 rfl rfl ?_
    refine dl_aload_n (pc := 19) C 0 dL_law_19 rfl rfl ?_
    refine dl_slen (pc := 20) C hX hbl hbA dL_law_20 ?_
    refine dl_iconst (pc := 21) C 4 dL_law_21 (by decide) ?_
    refine dl_isub (pc := 22) C dL_law_22 ?_
    refine dl_icmp_gt (pc := 23) C 971 (z := ()) (F1 := some ()) (F2 := some ()) dL_law_23 (by decide) (ite_self _) (fun q _ => ?_) (fun q _ => ?_)
    · exact Kend k n (by omega) ac pr gc gm R cells slots hac hI
    · have hq : n + 4 ≤ L := by
        have a1 := (not_congr (fa_lt _ _)).mp q
        have a2 := pk_sub_toInt (a := L) (b := 4) (by omega) (by omega)
        have a3 : (nI L - 4).toInt = (L : Int) - (4 : Nat) := a2
        rw [a3, nI_toInt (by omega)] at a1
        omega
      refine dl_aload_n (pc := 26) C 0 dL_law_26 rfl rfl ?_
      refine dl_iload_n (pc := 27) C 3 dL_law_27 rfl rfl ?_
      refine dl_sld (pc := 28) C hX hbl hbA (j := n) rfl (by omega) (by omega) dL_law_28 ?_
      refine dl_bipush (pc := 29) C 31 dL_law_29 (by decide) ?_
      refine dl_iand (pc := 31) C dL_law_31 ?_
      obtain ⟨j, j1, j2⟩ := lw_31 (xs n)
      rw [j2]
      have K : lw_K p l e s m below meth c Q A D cI cP cII b am x1 965 (k + 1) n := law_965 X (ih (k + 1) (n + 4) (by omega) (by omega) (by omega))
      match j, j1 with
      | 0, _ => exact dl_tabIn (pc := 32) C 140 172 dL_law_32 (by decide) (by decide) rfl (by decide) (law_place X (by omega) (by omega) K ac pr gc gm R cells slots hac hI)
      | 1, _ => exact dl_tabIn (pc := 32) C 173 205 dL_law_32 (by decide) (by decide) rfl (by decide) (law_street X (by omega) (by omega) K ac pr gc gm R cells slots hac hI)
      | 2, _ => exact dl_tabIn (pc := 32) C 216 248 dL_law_32 (by decide) (by decide) rfl (by decide) (law_drop X (by omega) (by omega) K ac pr gc gm R cells slots hac hI)
      | 3, _ => exact dl_tabIn (pc := 32) C 239 271 dL_law_32 (by decide) (by decide) rfl (by decide) (law_undo X (by omega) (by omega) K ac pr gc gm R cells slots hac hI)
      | 4, _ => exact dl_tabIn (pc := 32) C 252 284 dL_law_32 (by decide) (by decide) rfl (by decide) (law_told X (by omega) (by omega) K ac pr gc gm R cells slots hac hI)
      | 5, _ => exact dl_tabIn (pc := 32) C 285 317 dL_law_32 (by decide) (by decide) rfl (by decide) (law_streetTold X (by omega) (by omega) K ac pr gc gm R cells slots hac hI)
      | 6, _ => exact dl_tabIn (pc := 32) C 318 350 dL_law_32 (by decide) (by decide) rfl (by decide) (law_count X (by omega) (by omega) K ac pr gc gm R cells slots hac hI)
      | 7, _ => exact dl_tabIn (pc := 32) C 341 373 dL_law_32 (by decide) (by decide) rfl (by decide) (law_apart X (by omega) (by omega) K ac pr gc gm R cells slots hac hI)
      | 8, _ => exact dl_tabIn (pc := 32) C 374 406 dL_law_32 (by decide) (by decide) rfl (by decide) (law_way X (by omega) (by omega) K ac pr gc gm R cells slots hac hI)
      | 9, _ => exact dl_tabIn (pc := 32) C 417 449 dL_law_32 (by decide) (by decide) rfl (by decide) (law_span X (by omega) (by omega) K ac pr gc gm R cells slots hac hI)
      | 10, _ => exact dl_tabIn (pc := 32) C 430 462 dL_law_32 (by decide) (by decide) rfl (by decide) (law_least X (by omega) (by omega) K ac pr gc gm R cells slots hac hI)
      | 11, _ => exact dl_tabIn (pc := 32) C 443 475 dL_law_32 (by decide) (by decide) rfl (by decide) (law_many X (by omega) (by omega) K ac pr gc gm R cells slots hac hI)
      | 12, _ => exact dl_tabIn (pc := 32) C 456 488 dL_law_32 (by decide) (by decide) rfl (by decide) (law_best X (by omega) (by omega) K ac pr gc gm R cells slots hac hI)
      | 13, _ => exact dl_tabIn (pc := 32) C 489 521 dL_law_32 (by decide) (by decide) rfl (by decide) (law_must X (by omega) (by omega) K ac pr gc gm R cells slots hac hI)
      | 14, _ => exact dl_tabIn (pc := 32) C 512 544 dL_law_32 (by decide) (by decide) rfl (by decide) (law_most X (by omega) (by omega) K ac pr gc gm R cells slots hac hI)
      | 15, _ => exact dl_tabIn (pc := 32) C 535 567 dL_law_32 (by decide) (by decide) rfl (by decide) (law_lay X (by omega) (by omega) K ac pr gc gm R cells slots hac hI)
      | 16, _ => exact dl_tabIn (pc := 32) C 558 590 dL_law_32 (by decide) (by decide) rfl (by decide) (law_clear X (by omega) (by omega) K ac pr gc gm R cells slots hac hI)
      | 17, _ => exact dl_tabIn (pc := 32) C 571 603 dL_law_32 (by decide) (by decide) rfl (by decide) (law_why X (by omega) (by omega) K ac pr gc gm R cells slots hac hI)
      | 18, _ => exact dl_tabIn (pc := 32) C 584 616 dL_law_32 (by decide) (by decide) rfl (by decide) (law_tag X (by omega) (by omega) K ac pr gc gm R cells slots hac hI)
      | 19, _ => exact dl_tabIn (pc := 32) C 597 629 dL_law_32 (by decide) (by decide) rfl (by decide) (law_trim X (by omega) (by omega) K ac pr gc gm R cells slots hac hI)
      | 20, _ => exact dl_tabIn (pc := 32) C 610 642 dL_law_32 (by decide) (by decide) rfl (by decide) (law_better X (by omega) (by omega) K ac pr gc gm R cells slots hac hI)
      | 21, _ => exact dl_tabIn (pc := 32) C 623 655 dL_law_32 (by decide) (by decide) rfl (by decide) (law_walls X (by omega) (by omega) K ac pr gc gm R cells slots hac hI)
      | 22, _ => exact dl_tabIn (pc := 32) C 636 668 dL_law_32 (by decide) (by decide) rfl (by decide) (law_wall X (by omega) (by omega) K ac pr gc gm R cells slots hac hI)
      | 23, _ => exact dl_tabIn (pc := 32) C 669 701 dL_law_32 (by decide) (by decide) rfl (by decide) (law_bound X (by omega) (by omega) K ac pr gc gm R cells slots hac hI)
      | 24, _ => exact dl_tabIn (pc := 32) C 682 714 dL_law_32 (by decide) (by decide) rfl (by decide) (law_act X (by omega) (by omega) K ac pr gc gm R cells slots hac hI)
      | 25, _ => exact dl_tabIn (pc := 32) C 725 757 dL_law_32 (by decide) (by decide) rfl (by decide) (law_trace X (by omega) (by omega) K ac pr gc gm R cells slots hac hI)
      | 26, _ => exact dl_tabIn (pc := 32) C 748 780 dL_law_32 (by decide) (by decide) rfl (by decide) (law_map X (by omega) (by omega) K ac pr gc gm R cells slots hac hI)
      | 27, _ => exact dl_tabIn (pc := 32) C 791 823 dL_law_32 (by decide) (by decide) rfl (by decide) (law_cell X (by omega) (by omega) K ac pr gc gm R cells slots hac hI)
      | 28, _ => exact dl_tabIn (pc := 32) C 834 866 dL_law_32 (by decide) (by decide) rfl (by decide) (law_fromMap X (by omega) (by omega) K ac pr gc gm R cells slots hac hI)
      | 29, _ => exact dl_tabIn (pc := 32) C 877 909 dL_law_32 (by decide) (by decide) rfl (by decide) (law_forge X (by omega) (by omega) K ac pr gc gm R cells slots hac hI)
      | 30, _ => exact dl_tabIn (pc := 32) C 920 952 dL_law_32 (by decide) (by decide) rfl (by decide) (law_status X (by omega) (by omega) K ac pr gc gm R cells slots hac hI)
      | 31, _ => exact dl_tabOut (pc := 32) C 965 dL_law_32 (Or.inr (by decide)) (by decide) (K ac pr gc gm R cells slots hac hI.up)
      | j + 32, h => exact absurd h (by omega)
end
