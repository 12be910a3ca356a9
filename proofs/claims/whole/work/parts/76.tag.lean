/-! The mathematics: costs, prices, worths of a set of streets -/
def fl_cs (E : ma_E) (T : Int32) (k : Nat) : Nat := fb_sm (fun s => if bt T s = true then en_c E s else 0) k
noncomputable def fl_ps (E : ma_E) (T : Int32) (k : Nat) : Nat := fb_sm (fun p => if bt (en_ends E T (en_m E)) p = true then en_pr E p else 0) k
noncomputable def fl_ws (E : ma_E) (T : Int32) (k : Nat) : Nat := fb_sm (fun p => if bt (en_ends E T (en_m E)) p = true then en_wi E p else 0) k
noncomputable def fl_co (E : ma_E) (T : Int32) : Nat := fl_cs E T (en_m E) + fl_ps E T (en_n E)
noncomputable def fl_wo (E : ma_E) (T : Int32) : Nat := fl_ws E T (en_n E)
noncomputable def fl_tg (E : ma_E) (T : Int32) : Int32 := nI (fl_co E T) - nI (fl_wo E T)
section
variable {E : ma_E} {N : Nat} {T : Int32}
theorem fl_co_le (ho : en_ok E) : fl_co E T ≤ 2600 := by
  have hn := ho.n
  have hm := ho.m
  have h1 : fl_cs E T (en_m E) ≤ en_m E * 100 := fb_sm_bound (fun k hk => by
    have := ho.c2 hk
    split <;> omega)
  have h2 : fl_ps E T (en_n E) ≤ en_n E * 100 := fb_sm_bound (fun k hk => by
    have := en_pr_le ho hk
    split <;> omega)
  unfold fl_co
  omega
theorem fl_wo_le (ho : en_ok E) : fl_wo E T ≤ 1000 := by
  have hn := ho.n
  have h2 : fl_ws E T (en_n E) ≤ en_n E * 100 := fb_sm_bound (fun k hk => by
    have := en_wi_le ho hk
    split <;> omega)
  unfold fl_wo
  omega
theorem fl_tg_I (ho : en_ok E) : (fl_tg E T).toInt = (fl_co E T : Int) - fl_wo E T := by
  have h1 := fl_co_le (T := T) ho
  have h2 := fl_wo_le (T := T) ho
  exact pk_sub_toInt (by omega) (by omega)
theorem fl_tg_no (ho : en_ok E) : ¬ fl_tg E T = -1000000 := fun e => by
  have h1 := fl_tg_I (T := T) ho
  have h2 := fl_wo_le (T := T) ho
  rw [e] at h1
  have : (-1000000 : Int32).toInt = -1000000 := rfl
  omega
theorem ma_mul01 (b : Bool) (x : Int32) : (if b = true then (1 : Int32) else 0) * x = if b = true then x else 0 := by
  cases b
  · rw [if_neg (by decide), if_neg (by decide)]; exact Int32.zero_mul
  · rw [if_pos rfl, if_pos rfl]; exact Int32.one_mul x
theorem ma_ss (a b c d : Int32) : (a - b) + (c - d) = (a + c) - (b + d) := by grind
/-- the class's price tag -/
theorem ma_ctag (hN : 17 ≤ N) (ho : en_ok E) {g : dl_Sg} (hC : en_C E g) : cl6_tagOf N g T = some (fl_tg E T) := by
  have hn := ho.n
  have hm := ho.m
  unfold cl6_tagOf
  rw [dl_bi_e (ma_endsOf hN ho hC), ma_nme, ma_nme, ma_nme]
  refine ma_is ?_
  have key : ma_wp (cl6_tagOf_b52 N g N (en_ends E T (en_m E)) (nI (fl_cs E T (en_m E))) 0) (fun r => r = fl_tg E T) := by
    refine ma_loop (fun k p (x : Int32) => cl6_tagOf_b52 N g k (en_ends E T (en_m E)) x (nI p)) (fun p x => x = nI (fl_cs E T (en_m E) + fl_ps E T p) - nI (fl_ws E T p)) _ (en_n E) ?_ ?_ N 0 _ (by omega) (by omega) ?_
    · rintro k x h
      rw [cl6_tagOf_b52, hC.n, if_pos ((ma_le (by omega) (by omega)).mpr (by omega))]
      exact ma_some h
    · rintro k p x hp h ih
      rw [cl6_tagOf_b52, hC.n, if_neg (fun q => absurd ((ma_le (by omega) (by omega)).mp q) (by omega)), dl_bi_e (ma_bitAt _ (by omega)), ma_gde (ma_in_t (by omega) (by omega)), ma_gde (ma_in_t (by omega) (by omega)), ma_nme, ma_nme, nI_1, nI_clamp (by omega), hC.pr hp, hC.wi hp]
      refine ih _ ?_
      rw [ma_mul01, h]
      unfold fl_ps fl_ws
      rw [fb_sm_succ, fb_sm_succ]
      cases bt (en_ends E T (en_m E)) p
      · rw [if_neg (by decide), if_neg (by decide), if_neg (by decide)]
        exact Int32.add_zero _
      · rw [if_pos rfl, if_pos rfl, if_pos rfl, ma_ss, nI_add, nI_add, Nat.add_assoc]
    · show nI (fl_cs E T (en_m E)) = nI (fl_cs E T (en_m E) + 0) - nI 0
      rw [Nat.add_zero]
      exact (Int32.sub_zero _).symm
  refine ma_loop (fun k s (x : Int32) => cl6_tagOf_b11 N g k T (en_ends E T (en_m E)) x (nI s)) (fun s x => x = nI (fl_cs E T s)) _ (en_m E) ?_ ?_ N 0 0 (by omega) (by omega) rfl
  · rintro k x h
    rw [cl6_tagOf_b11, hC.m, if_pos ((ma_le (by omega) (by omega)).mpr (by omega)), ma_nme, h]
    exact key
  · rintro k s x hs h ih
    rw [cl6_tagOf_b11, hC.m, if_neg (fun q => absurd ((ma_le (by omega) (by omega)).mp q) (by omega)), dl_bi_e (ma_bitAt _ (by omega)), ma_gde (ma_in_t (by omega) (by omega)), ma_nme, ma_nme, nI_1, nI_clamp (by omega), hC.c hs]
    refine ih _ ?_
    rw [ma_mul01, h]
    unfold fl_cs
    rw [fb_sm_succ]
    cases bt T s
    · rw [if_neg (by decide), if_neg (by decide)]
      exact Int32.add_zero _
    · rw [if_pos rfl, if_pos rfl, nI_add]
/-- the reference's costs -/
theorem ma_costOf (hN : 17 ≤ N) (ho : en_ok E) {g : dl_Sg} (hM : en_M E g) (he : ∀ p, p < en_n E → en_tap E p = false → (bt (g 0 18) p = true ↔ fl_end E T (en_m E) p)) : mo_costOf N g T = some (nI (fl_co E T)) := by
  have hn := ho.n
  have hm := ho.m
  unfold mo_costOf
  rw [ma_nme, ma_nme]
  refine ma_is ?_
  have key : ma_wp (mo_costOf_b41 N g N (nI (fl_cs E T (en_m E))) 0) (fun r => r = nI (fl_co E T)) := by
    refine ma_loop (fun k p (x : Int32) => mo_costOf_b41 N g k x (nI p)) (fun p x => x = nI (fl_cs E T (en_m E) + fl_ps E T p)) _ (en_n E) ?_ ?_ N 0 _ (by omega) (by omega) rfl
    · rintro k x h
      rw [mo_costOf_b41, hM.n, if_pos ((ma_le (by omega) (by omega)).mpr (by omega))]
      exact ma_some h
    · rintro k p x hp h ih
      have hk := ho.k hp
      rw [mo_costOf_b41, hM.n, if_neg (fun q => absurd ((ma_le (by omega) (by omega)).mp q) (by omega)), dl_bi_e (ma_has _ (by omega)), ma_gde (ma_in_t (by omega) (by omega)), nI_clamp (by omega), hM.k hp, hM.w hp, ma_gde (ma_in_t (by omega) (by omega))]
      unfold mo_costOf_b80 mo_costOf_b81
      have e4 : nI (en_k E p) = (4 : Int32) ↔ en_k E p = 4 := nI_eq (b := 4) (by omega) (by omega)
      -- what is added
      have fin : ∀ v, nI v = nI (if bt (en_ends E T (en_m E)) p = true then en_pr E p else 0) → ma_wp (mo_costOf_b41 N g k (x + nI v) (nI (p + 1))) (fun r => r = nI (fl_co E T)) := by
        intro v hv
        refine ih _ ?_
        rw [hv, h, nI_add]
        unfold fl_ps
        rw [fb_sm_succ, Nat.add_assoc]
      have hzero : ¬ en_k E p = 4 → en_pr E p = 0 := fun q => if_neg q
      by_cases c4 : en_k E p = 4
      · have ht : en_tap E p = false := decide_eq_false (by omega)
        have hep := he p hp ht
        rw [← en_ends_b ho (Nat.le_refl _)] at hep
        by_cases c : bt (g 0 18) p = true
        · rw [if_pos c, if_neg (by decide), if_pos (e4.mpr c4), ma_nme, ma_nme, nI_1]
          refine fin (en_w E p) ?_
          rw [if_pos (hep.mp c)]
          unfold en_pr
          rw [if_pos c4]
        · rw [if_neg c, if_pos rfl, ma_nme, ma_nme, nI_1]
          refine fin 0 ?_
          rw [if_neg (fun q => c (hep.mpr q))]
      · have fin0 := fin 0 (by rw [hzero c4, ite_self])
        by_cases c : bt (g 0 18) p = true
        · rw [if_pos c, if_neg (by decide), if_neg (fun q => c4 (e4.mp q)), ma_nme, ma_nme, nI_1]
          exact fin0
        · rw [if_neg c, if_pos rfl, ma_nme, ma_nme, nI_1]
          exact fin0
  refine ma_loop (fun k s (x : Int32) => mo_costOf_b4 N g k T x (nI s)) (fun s x => x = nI (fl_cs E T s)) _ (en_m E) ?_ ?_ N 0 0 (by omega) (by omega) rfl
  · rintro k x h
    rw [mo_costOf_b4, hM.m, if_pos ((ma_le (by omega) (by omega)).mpr (by omega)), ma_nme, h]
    exact key
  · rintro k s x hs h ih
    rw [mo_costOf_b4, hM.m, if_neg (fun q => absurd ((ma_le (by omega) (by omega)).mp q) (by omega)), dl_bi_e (ma_has _ (by omega)), ma_gde (ma_in_t (by omega) (by omega)), nI_clamp (by omega), hM.c hs]
    unfold mo_costOf_b31
    by_cases c : bt T s = true
    · rw [if_pos c, if_neg (by decide), ma_nme, ma_nme, nI_1]
      refine ih _ ?_
      unfold fl_cs
      rw [h, nI_add, fb_sm_succ, if_pos c]
      rfl
    · rw [if_neg c, if_pos rfl, ma_nme, ma_nme, nI_1]
      refine ih _ ?_
      unfold fl_cs
      rw [h, fb_sm_succ, if_neg c, Nat.add_zero]
      exact Int32.add_zero _
theorem ma_worthOf (hN : 17 ≤ N) (ho : en_ok E) {g : dl_Sg} (hM : en_M E g) (he : ∀ p, p < en_n E → en_tap E p = false → (bt (g 0 18) p = true ↔ fl_end E T (en_m E) p)) : mo_worthOf N g = some (nI (fl_wo E T)) := by
  have hn := ho.n
  unfold mo_worthOf
  rw [ma_nme, ma_nme]
  refine ma_is ?_
  refine ma_loop (fun k p (x : Int32) => mo_worthOf_b4 N g k x (nI p)) (fun p x => x = nI (fl_ws E T p)) _ (en_n E) ?_ ?_ N 0 0 (by omega) (by omega) rfl
  · rintro k x h
    rw [mo_worthOf_b4, hM.n, if_pos ((ma_le (by omega) (by omega)).mpr (by omega))]
    exact ma_some h
  · rintro k p x hp h ih
    have hk := ho.k hp
    rw [mo_worthOf_b4, hM.n, if_neg (fun q => absurd ((ma_le (by omega) (by omega)).mp q) (by omega)), dl_bi_e (ma_has _ (by omega)), ma_gde (ma_in_t (by omega) (by omega)), nI_clamp (by omega), hM.k hp, hM.w hp, ma_gde (ma_in_t (by omega) (by omega))]
    unfold mo_worthOf_b43 mo_worthOf_b44
    have e2 : nI (en_k E p) = (2 : Int32) ↔ en_k E p = 2 := nI_eq (b := 2) (by omega) (by omega)
    have fin : ∀ v, nI v = nI (if bt (en_ends E T (en_m E)) p = true then en_wi E p else 0) → ma_wp (mo_worthOf_b4 N g k (x + nI v) (nI (p + 1))) (fun r => r = nI (fl_wo E T)) := by
      intro v hv
      refine ih _ ?_
      rw [hv, h, nI_add]
      unfold fl_ws
      rw [fb_sm_succ]
    have hzero : ¬ en_k E p = 2 → en_wi E p = 0 := fun q => if_neg q
    by_cases c2 : en_k E p = 2
    · have ht : en_tap E p = false := decide_eq_false (by omega)
      have hep := he p hp ht
      rw [← en_ends_b ho (Nat.le_refl _)] at hep
      by_cases c : bt (g 0 18) p = true
      · rw [if_pos c, if_neg (by decide), if_pos (e2.mpr c2), ma_nme, ma_nme, nI_1]
        refine fin (en_w E p) ?_
        rw [if_pos (hep.mp c)]
        unfold en_wi
        rw [if_pos c2]
      · rw [if_neg c, if_pos rfl, ma_nme, ma_nme, nI_1]
        refine fin 0 ?_
        rw [if_neg (fun q => c (hep.mpr q))]
    · have fin0 := fin 0 (by rw [hzero c2, ite_self])
      by_cases c : bt (g 0 18) p = true
      · rw [if_pos c, if_neg (by decide), if_neg (fun q => c2 (e2.mp q)), ma_nme, ma_nme, nI_1]
        exact fin0
      · rw [if_neg c, if_pos rfl, ma_nme, ma_nme, nI_1]
        exact fin0
/-- the reference's price tag -/
theorem ma_mtagOf (hN : 17 ≤ N) (ho : en_ok E) {g0 : dl_Sg} (hM : en_M E g0) (hT : ∀ i, bt T i = true → i < en_m E) : ma_wp (mo_tagOf N g0 T) (fun x => ma_f17 x.2 g0 ∧ ((fl_tree E T ∧ x.1 = fl_tg E T) ∨ (¬ fl_tree E T ∧ x.1 = -1000000))) := by
  unfold mo_tagOf
  obtain ⟨⟨r, g1⟩, e, hf, hi, hz⟩ := ma_treeOf hN ho hM hT
  rw [dl_b2_e e]
  by_cases c : r = 0
  · rw [if_pos c, dl_bi_e (ma_costOf hN ho (hf.M hM) (hz c)), dl_bi_e (ma_worthOf hN ho (hf.M hM) (hz c))]
    exact ma_some ⟨hf, Or.inl ⟨(fl_is_0 hi).mp c, rfl⟩⟩
  · rw [if_neg c]
    exact ma_some ⟨hf, Or.inr ⟨fun q => c ((fl_is_0 hi).mpr q), rfl⟩⟩
end
