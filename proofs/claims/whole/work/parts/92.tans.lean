/-! The mathematics: what is answered of the best trees -/
section
variable {E : ma_E} {N : Nat}
/-- the class behind a question of its trees -/
def tq (E : ma_E) (g0 g : dl_Sg) : Prop := (∀ k, k ≠ 3 → k ≠ 9 → k ≠ 21 → k ≠ 33 → g k = g0 k) ∧ g 3 8 = g0 1 17 ∧ tc_ok E g ∧ ac_al g
theorem ma_cleast (hN : 131073 ≤ N) (ho : en_ok E) {g0 : dl_Sg} (hC : en_C E g0) (hal : ac_al g0) (hc : g0 3 8 = g0 1 17 → tc_ok E g0) : ma_wp (cl11_least N g0) (fun x => tq E g0 x.2 ∧ ta_least E x.1) := by
  unfold cl11_least cl6_leastTag
  obtain ⟨g1, e1, q⟩ := ma_ctrees hN ho hC hal hc
  refine ma_b2 (ma_mono (P := fun x => tq E g0 x.2 ∧ ta_least E x.1) ?_ (fun a h => ma_some h))
  rw [dl_bi_e e1]
  rcases q.2.2.1.2 with ⟨a1, a2⟩ | ⟨t, b, a1, a2, a3, a4, a5, _⟩
  · rw [if_pos a2]
    exact ma_some ⟨q, Or.inl ⟨a1, rfl⟩⟩
  · have := tb_ne a1
    rw [a3, if_neg (nI_ne0 this (by omega))]
    exact ma_some ⟨q, Or.inr ⟨t, b, a1, a2⟩⟩
theorem ma_cmany (hN : 131073 ≤ N) (ho : en_ok E) {g0 : dl_Sg} (hC : en_C E g0) (hal : ac_al g0) (hc : g0 3 8 = g0 1 17 → tc_ok E g0) : ma_wp (cl11_many N g0) (fun x => tq E g0 x.2 ∧ ta_many E x.1) := by
  unfold cl11_many cl6_howManyBest
  obtain ⟨g1, e1, q⟩ := ma_ctrees hN ho hC hal hc
  refine ma_b2 (ma_mono (P := fun x => tq E g0 x.2 ∧ ta_many E x.1) ?_ (fun a h => ma_some h))
  rw [dl_bi_e e1]
  rcases q.2.2.1.2 with ⟨a1, a2⟩ | ⟨t, b, a1, a2, a3, _⟩
  · exact ma_some ⟨q, Or.inl ⟨a1, a2⟩⟩
  · exact ma_some ⟨q, Or.inr ⟨t, b, a1, a3⟩⟩
theorem ma_cuse (hN : 131073 ≤ N) (ho : en_ok E) {g0 : dl_Sg} (hC : en_C E g0) (hal : ac_al g0) (hc : g0 3 8 = g0 1 17 → tc_ok E g0) {s : Nat} (hs : s < 32) : ma_wp (cl6_useInBest N g0 (nI s)) (fun x => tq E g0 x.2 ∧ ta_must E s x.1) := by
  unfold cl6_useInBest
  obtain ⟨g1, e1, q⟩ := ma_ctrees hN ho hC hal hc
  rw [dl_bi_e e1]
  rcases q.2.2.1.2 with ⟨a1, a2⟩ | ⟨t, b, a1, a2, a3, a4, a5, a6, a7, a8⟩
  · rw [if_pos a2]
    exact ma_some ⟨q, Or.inl ⟨a1, rfl⟩⟩
  · have := tb_ne a1
    rw [a3, if_neg (nI_ne0 this (by omega)), dl_bi_e (ma_bitAt _ hs), dl_bi_e (ma_bitAt _ hs)]
    refine ma_some ⟨q, Or.inr ⟨t, b, a1, ?_⟩⟩
    show (if bt (g1 3 6) s = true then (1 : Int32) else 0) + (if bt (g1 3 7) s = true then 1 else 0) = nI (ta_m b s)
    have h6 : bt (g1 3 6) s = true ↔ ma_dec (∀ X, X ∈ b → bt X s = true) = true := by
      rw [a7, ma_dec_t]
      exact ⟨fun q => q.2, fun q => ⟨hs, q⟩⟩
    have h7 : bt (g1 3 7) s = true ↔ ma_dec (∃ X, X ∈ b ∧ bt X s = true) = true := by
      rw [a8, ma_dec_t]
    unfold ta_m
    rw [← nI_add]
    congr 1
    · by_cases c : bt (g1 3 6) s = true
      · rw [if_pos c, if_pos (h6.mp c)]; rfl
      · rw [if_neg c, if_neg (fun q => c (h6.mpr q))]; rfl
    · by_cases c : bt (g1 3 7) s = true
      · rw [if_pos c, if_pos (h7.mp c)]; rfl
      · rw [if_neg c, if_neg (fun q => c (h7.mpr q))]; rfl
theorem ma_cmost (hN : 131073 ≤ N) (ho : en_ok E) {g0 : dl_Sg} (hC : en_C E g0) (hal : ac_al g0) (hc : g0 3 8 = g0 1 17 → tc_ok E g0) (sum : Int32) : ma_wp (cl11_most N g0 sum) (fun x => tq E g0 x.2 ∧ ta_most E sum x.1) := by
  have em : ∀ x : Int32, x + (-1) = x - 1 := fun x => (Int32.sub_eq_add_neg x 1).symm
  unfold cl11_most cl6_mostWorth
  obtain ⟨g1, e1, q⟩ := ma_ctrees hN ho hC hal hc
  refine ma_b2 (ma_mono (P := fun x => tq E g0 x.2 ∧ ta_most E sum x.1) ?_ (fun a h => ma_some h))
  rw [dl_bi_e e1, ma_nme]
  obtain ⟨l, hl, hch⟩ := q.2.2.1.1
  refine ma_mono (P := fun x => x.2 = g1 ∧ ta_most E sum x.1) ?_ (fun x hx => ⟨by rw [hx.1]; exact q, hx.2⟩)
  have key : ∀ j k, j ≤ 1001 → j < k → (∀ X, tr_set E X → nI (fl_co E X) ≤ sum → fl_wo E X < j) → ma_wp (cl6_mostWorth_b8 N k sum (nI j - 1) g1) (fun x => x.2 = g1 ∧ ta_most E sum x.1) := by
    intro j
    induction j with
    | zero =>
      intro k _ hk hno
      obtain ⟨k2, rfl⟩ : ∃ k2, k = k2 + 1 := ⟨k - 1, by omega⟩
      rw [cl6_mostWorth_b8, if_pos (by decide)]
      exact ma_some ⟨rfl, Or.inl ⟨fun X hX z => absurd (hno X hX z) (by omega), rfl⟩⟩
    | succ j ih =>
      intro k hj hk hno
      obtain ⟨k2, rfl⟩ : ∃ k2, k = k2 + 1 := ⟨k - 1, by omega⟩
      rw [nI_pred, cl6_mostWorth_b8, if_neg (nI_pos (by omega)), ma_gde (ma_in_t (by omega) (by omega)), nI_clamp (by omega), ma_gde (ma_in_t (by omega) (by omega))]
      unfold cl6_mostWorth_b34
      rcases hch j (by omega) with ⟨c1, c2⟩ | ⟨c, c1, ⟨X, c2, c3, c4⟩, c5⟩
      · rw [if_pos c1, ma_nme, em]
        refine ih k2 (by omega) (by omega) (fun X hX z => ?_)
        have h1 := hno X hX z
        have h2 := c2 X ((hl X).mpr hX)
        omega
      · have hcX := fl_co_le (T := X) ho
        rw [c1, if_neg (ma_m1 (by omega))]
        by_cases d : sum < nI c
        · rw [if_pos d, ma_nme, em]
          refine ih k2 (by omega) (by omega) (fun Y hY z => ?_)
          have h1 := hno Y hY z
          by_cases e : fl_wo E Y = j
          · exfalso
            have h2 := c5 Y ((hl Y).mpr hY) e
            have hcY := fl_co_le (T := Y) ho
            have h3 : nI c ≤ nI (fl_co E Y) := (ma_le (by omega) (by omega)).mpr h2
            rw [fa_lt] at d
            rw [fa_le] at h3 z
            omega
          · omega
        · rw [if_neg d]
          refine ma_some ⟨rfl, Or.inr ⟨X, (hl X).mp c2, by rw [c4]; exact Int32.not_lt.mp d, by rw [c3], fun Y hY z => ?_⟩⟩
          have := hno Y hY z
          omega
  have := key 1001 N (Nat.le_refl _) (by omega) (fun X hX _ => by have := fl_wo_le (T := X) ho; omega)
  rw [nI_pred] at this
  exact this
theorem ma_cbest (hN : 131073 ≤ N) (ho : en_ok E) {g0 : dl_Sg} (hC : en_C E g0) (hal : ac_al g0) (hc : g0 3 8 = g0 1 17 → tc_ok E g0) (k i : Int32) : ma_wp (cl11_best N g0 k i) (fun x => tq E g0 x.2 ∧ ta_best E k i x.1) := by
  have hm := ho.m
  unfold cl11_best cl6_streetOfBest
  obtain ⟨g1, e1, q⟩ := ma_ctrees hN ho hC hal hc
  have hC1 : en_C E g1 := hC.same (fun i _ _ => by rw [q.1 1 (by omega) (by omega) (by omega) (by omega)]) (fun k h1 h2 => q.1 k (by omega) (by omega) (by omega) (by omega)) (fun k h1 h2 => q.1 k (by omega) (by omega) (by omega) (by omega))
  have hal1 := q.2.2.2.2.2
  refine ma_b2 (ma_mono (P := fun x => tq E g0 x.2 ∧ ta_best E k i x.1) ?_ (fun a h => ma_some h))
  rw [dl_bi_e e1]
  rcases q.2.2.1.2 with ⟨a1, a2⟩ | ⟨t, b, a1, a2, a3, a4, a5, a6, _⟩
  · by_cases c1 : k < 0
    · rw [if_pos c1]; exact ma_some ⟨q, Or.inl ⟨a1, rfl⟩⟩
    · rw [if_neg c1, a2, if_pos (Int32.not_lt.mp c1)]
      exact ma_some ⟨q, Or.inl ⟨a1, rfl⟩⟩
  · have no : (∀ k', k' < b.length → k ≠ nI k') → ta_best E k i (-1) := fun h => Or.inr ⟨t, b, a1, a5, Or.inr ⟨h, rfl⟩⟩
    by_cases c1 : k < 0
    · rw [if_pos c1]
      refine ma_some ⟨q, no (fun k' hk' e => ?_)⟩
      rw [e] at c1
      exact nI_pos (by omega) c1
    · rw [if_neg c1, a3]
      obtain ⟨k', hk1, rfl⟩ := nI_of c1
      by_cases c2 : b.length ≤ k'
      · rw [if_pos ((ma_le (by omega) hk1).mpr c2)]
        refine ma_some ⟨q, no (fun k2 hk2 e => ?_)⟩
        have := (nI_eq hk1 (by omega)).mp e
        omega
      · rw [if_neg (fun z => c2 ((ma_le (by omega) hk1).mp z))]
        have hk' : k' < b.length := by omega
        have hX := a6 k' hk'
        have hin : ∀ r, ta_nth (g1 33 k') i r → ta_best E (nI k') i r := fun r h => Or.inr ⟨t, b, a1, a5, Or.inl ⟨k', g1 33 k', rfl, hk', hX, h⟩⟩
        have hset : tr_set E (g1 33 k') := ((a1.2.2.1 _).mp (List.mem_of_getElem? hX)).1
        by_cases c3 : i < 0
        · rw [if_pos c3]
          refine ma_some ⟨q, hin _ (Or.inr ⟨fun s hs _ e => ?_, rfl⟩)⟩
          have := fb_ct_le (bt (g1 33 k')) s
          rw [e] at c3
          exact nI_pos (by omega) c3
        · rw [if_neg c3]
          by_cases c4 : i < 16
          · rw [if_pos c4, ma_nme, ma_nme]
            have h9 : (g1 9 0).toNatClampNeg = dl_al g1 := rfl
            refine ma_mono (P := fun x => x.2 = g1 ∧ ta_nth (g1 33 k') i x.1) ?_ (fun x hx => ⟨by rw [hx.1]; exact q, hin _ hx.2⟩)
            refine ma_loop (fun f s (x : Int32) => cl6_streetOfBest_b33 N f (nI k') i x (nI s) g1) (fun s x => x = nI (fb_ct (bt (g1 33 k')) s) ∧ ∀ s', s' < s → bt (g1 33 k') s' = true → i ≠ nI (fb_ct (bt (g1 33 k')) s')) _ (en_m E) ?_ ?_ N 0 0 (by omega) (by omega) ⟨rfl, fun s h => absurd h (Nat.not_lt_zero s)⟩
            · rintro f x ⟨h1, h2⟩
              rw [cl6_streetOfBest_b33, hC1.m, if_pos ((ma_le (by omega) (by omega)).mpr (by omega))]
              refine ma_some ⟨rfl, Or.inr ⟨fun s _ hb => h2 s (ho.t (hset.1 s hb)) hb, rfl⟩⟩
            · rintro f s x hs ⟨h1, h2⟩ ih
              rw [cl6_streetOfBest_b33, hC1.m, if_neg (fun z => absurd ((ma_le (by omega) (by omega)).mp z) (by omega)), h9, ma_gde (ma_in_t (show k' < dl_al g1 by omega) (by omega)), nI_clamp hk1, dl_bi_e (ma_bitAt _ (by omega))]
              unfold cl6_streetOfBest_b71
              by_cases cb : bt (g1 33 k') s = true
              · rw [if_pos cb, if_pos rfl]
                by_cases ci : x = i
                · rw [if_pos ci]
                  exact ma_some ⟨rfl, Or.inl ⟨s, by omega, cb, ci.symm.trans h1, rfl⟩⟩
                · rw [if_neg ci, ma_nme, ma_nme, nI_1]
                  refine ih _ ⟨?_, fun s' hs' hb' => ?_⟩
                  · rw [fb_ct_succ, if_pos cb, h1, nI_1]
                  · by_cases e : s' = s
                    · rw [e, ← h1]; exact fun z => ci z.symm
                    · exact h2 s' (by omega) hb'
              · rw [if_neg cb, if_neg (by decide), ma_nme, nI_1]
                refine ih _ ⟨?_, fun s' hs' hb' => ?_⟩
                · rw [fb_ct_succ, if_neg cb, h1, Nat.add_zero]
                · by_cases e : s' = s
                  · rw [e] at hb'; exact absurd hb' cb
                  · exact h2 s' (by omega) hb'
          · rw [if_neg c4]
            refine ma_some ⟨q, hin _ (Or.inr ⟨fun s hs _ e => ?_, rfl⟩)⟩
            have := fb_ct_le (bt (g1 33 k')) s
            rw [e] at c4
            exact c4 ((ma_lt (b := 16) (by omega) (by omega)).mpr (by omega))
/-! the reference -/
def kq (E : ma_E) (g0 g : dl_Sg) : Prop := ma_fk g g0 ∧ ¬ g 0 19 = 0 ∧ kn_ok E g
theorem ma_mleast (hN : 65540 ≤ N) (ho : en_ok E) {g0 : dl_Sg} (hM : en_M E g0) (hk : ¬ g0 0 19 = 0 → kn_ok E g0) : ma_wp (mo_least N g0) (fun x => kq E g0 x.2 ∧ ta_least E x.1) := by
  unfold mo_least
  obtain ⟨g1, e1, q⟩ := ma_know hN ho hM hk
  rw [dl_bi_e e1]
  obtain ⟨l, h1, h2, h3, h4, h5⟩ := q.2.2
  rcases h5 with ⟨a1, a2⟩ | ⟨t, a1, a2, a3⟩
  · rw [h4.1, a1, if_pos (show nI ([] : List Int32).length = 0 from rfl)]
    exact ma_some ⟨q, Or.inl ⟨kn_no h1 a1, rfl⟩⟩
  · obtain ⟨X, m1, _⟩ := a1.2
    rw [h4.1, if_neg (nI_ne0 (List.length_pos_of_mem m1) (by omega))]
    exact ma_some ⟨q, Or.inr ⟨t, _, kn_tb h1 h2 a1, a2⟩⟩
theorem ma_mmany (hN : 65540 ≤ N) (ho : en_ok E) {g0 : dl_Sg} (hM : en_M E g0) (hk : ¬ g0 0 19 = 0 → kn_ok E g0) : ma_wp (mo_many N g0) (fun x => kq E g0 x.2 ∧ ta_many E x.1) := by
  unfold mo_many
  obtain ⟨g1, e1, q⟩ := ma_know hN ho hM hk
  rw [dl_bi_e e1]
  obtain ⟨l, h1, h2, h3, h4, h5⟩ := q.2.2
  rcases h5 with ⟨a1, a2⟩ | ⟨t, a1, a2, a3⟩
  · exact ma_some ⟨q, Or.inl ⟨kn_no h1 a1, a2⟩⟩
  · exact ma_some ⟨q, Or.inr ⟨t, _, kn_tb h1 h2 a1, a3⟩⟩
/-- is it one of the best -/
theorem ma_isBest (ho : en_ok E) {l : List Int32} {t : Int} {g : dl_Sg} (hlen : l.length ≤ 65536) (hrow : kn_row E l g) (h24 : (g 0 24).toInt = t) {i : Nat} (hi : i < l.length) : mo_isBest g (nI i) = some (if decide (tg_tag E (g 21 i) = t) = true then 1 else 0) := by
  obtain ⟨e22, e23⟩ := hrow.2.2 i hi
  unfold mo_isBest
  rw [ma_gde (ma_in_t (by omega) (by omega)), ma_gde (ma_in_t (by omega) (by omega)), nI_clamp (by omega), e22, e23, show nI (fl_co E (g 21 i)) - nI (fl_wo E (g 21 i)) = fl_tg E (g 21 i) from rfl]
  have eeq : fl_tg E (g 21 i) = g 0 24 ↔ tg_tag E (g 21 i) = t := by rw [fa_eq, h24, tg_tag_I ho]
  by_cases c : tg_tag E (g 21 i) = t
  · rw [if_pos (eeq.mpr c), if_pos (decide_eq_true c)]
  · rw [if_neg (fun q => c (eeq.mp q)), if_neg (fun q => c (of_decide_eq_true q))]
theorem ma_nth (hN : 17 ≤ N) (X i : Int32) : ma_wp (mo_nth N X i) (ta_nth X i) := by
  unfold mo_nth
  rw [ma_nme, ma_nme]
  by_cases ci : i < 0
  · obtain ⟨N2, rfl⟩ : ∃ N2, N = N2 + 1 := ⟨N - 1, by omega⟩
    rw [mo_nth_b4, if_neg (by decide), if_pos ci]
    refine ma_some (Or.inr ⟨fun s hs _ e => ?_, rfl⟩)
    have := fb_ct_le (bt X) s
    rw [e] at ci
    exact nI_pos (by omega) ci
  · obtain ⟨i', i1, rfl⟩ := nI_of ci
    refine ma_loop (fun f s (x : Int32) => mo_nth_b4 N f X x (nI s)) (fun s x => fb_ct (bt X) s ≤ i' ∧ x = nI (i' - fb_ct (bt X) s) ∧ ∀ s', s' < s → bt X s' = true → nI i' ≠ nI (fb_ct (bt X) s')) _ 16 ?_ ?_ N 0 (nI i') (by omega) (by omega) ⟨Nat.zero_le _, rfl, fun s h => absurd h (Nat.not_lt_zero s)⟩
    · rintro f x ⟨h0, h1, h2⟩
      rw [mo_nth_b4, if_pos ((ma_L16 (by omega)).mpr (by omega))]
      exact ma_some (Or.inr ⟨h2, rfl⟩)
    · rintro f s x hs ⟨h0, h1, h2⟩ ih
      have hct := fb_ct_le (bt X) s
      rw [mo_nth_b4, if_neg (fun q => absurd ((ma_L16 (by omega)).mp q) (by omega)), h1, if_neg (nI_pos (by omega)), dl_bi_e (ma_has _ (by omega))]
      unfold mo_nth_b31
      by_cases cb : bt X s = true
      · rw [if_pos cb, if_neg (by decide)]
        have ez : nI (i' - fb_ct (bt X) s) = 0 ↔ i' = fb_ct (bt X) s := by
          rw [show (0 : Int32) = nI 0 from rfl, nI_eq (by omega) (by omega)]
          omega
        by_cases c2 : i' = fb_ct (bt X) s
        · rw [if_pos (ez.mpr c2)]
          exact ma_some (Or.inl ⟨s, hs, cb, by rw [c2], rfl⟩)
        · rw [if_neg (fun q => c2 (ez.mp q)), ma_nme, ma_nme, nI_1]
          have e : fb_ct (bt X) (s + 1) = fb_ct (bt X) s + 1 := by rw [fb_ct_succ, if_pos cb]
          refine ih _ ⟨by omega, ?_, fun s' hs' hb' => ?_⟩
          · rw [e, show i' - fb_ct (bt X) s = (i' - (fb_ct (bt X) s + 1)) + 1 by omega]
            exact pk_m1 _
          · by_cases e2 : s' = s
            · rw [e2]; exact fun q => c2 ((nI_eq (by omega) (by omega)).mp q)
            · exact h2 s' (by omega) hb'
      · have e : fb_ct (bt X) (s + 1) = fb_ct (bt X) s := by rw [fb_ct_succ, if_neg cb, Nat.add_zero]
        rw [if_neg cb, if_pos rfl, ma_nme, nI_1]
        refine ih _ ⟨by omega, by rw [e], fun s' hs' hb' => ?_⟩
        by_cases e2 : s' = s
        · rw [e2] at hb'; exact absurd hb' cb
        · exact h2 s' (by omega) hb'
theorem ac_B_app (l l' : List Int32) (t : Int) : ac_B E (l ++ l') t = ac_B E l t ++ ac_B E l' t := by
  unfold ac_B
  rw [List.filter_append]
theorem ac_B_yes {X : Int32} {t : Int} (h : tg_tag E X = t) : ac_B E [X] t = [X] := by
  unfold ac_B
  simp [h]
theorem ac_B_no {X : Int32} {t : Int} (h : ¬ tg_tag E X = t) : ac_B E [X] t = [] := by
  unfold ac_B
  simp [h]
theorem ma_mbest (hN : 65540 ≤ N) (ho : en_ok E) {g0 : dl_Sg} (hM : en_M E g0) (hk : ¬ g0 0 19 = 0 → kn_ok E g0) (k i : Int32) : ma_wp (mo_best N g0 k i) (fun x => kq E g0 x.2 ∧ ta_best E k i x.1) := by
  unfold mo_best
  obtain ⟨g1, e1, q⟩ := ma_know hN ho hM hk
  rw [dl_bi_e e1, ma_nme, ma_nme]
  obtain ⟨l, h1, h2, h3, h4, h5⟩ := q.2.2
  refine ma_mono (P := fun x => x.2 = g1 ∧ ta_best E k i x.1) ?_ (fun x hx => ⟨by rw [hx.1]; exact q, hx.2⟩)
  rcases h5 with ⟨a1, a2⟩ | ⟨t, a1, a2, a3⟩
  · obtain ⟨N2, rfl⟩ : ∃ N2, N = N2 + 1 := ⟨N - 1, by omega⟩
    rw [mo_best_b9, h4.1, a1, if_pos (by decide)]
    exact ma_some ⟨rfl, Or.inl ⟨kn_no h1 a1, rfl⟩⟩
  · have htb := kn_tb h1 h2 a1
    have hbl : (ac_B E l t).length ≤ 65536 := Nat.le_trans (List.length_filter_le _ _) h3
    have no : (∀ k', k' < (ac_B E l t).length → k ≠ nI k') → ta_best E k i (-1) := fun h => Or.inr ⟨t, _, htb, hbl, Or.inr ⟨h, rfl⟩⟩
    by_cases ck : k < 0
    · have hno := no (fun k' hk' e => by rw [e] at ck; exact nI_pos (by omega) ck)
      obtain ⟨N2, rfl⟩ : ∃ N2, N = N2 + 1 := ⟨N - 1, by omega⟩
      rw [mo_best_b9]
      by_cases c2 : g1 0 20 ≤ 0
      · rw [if_pos c2]; exact ma_some ⟨rfl, hno⟩
      · rw [if_neg c2, if_pos ck]; exact ma_some ⟨rfl, hno⟩
    · obtain ⟨k', hk1, rfl⟩ := nI_of ck
      refine ma_loop (fun f p (x : Int32) => mo_best_b9 N f i x (nI p) g1) (fun p x => (ac_B E (l.take p) t).length ≤ k' ∧ x = nI (k' - (ac_B E (l.take p) t).length)) _ l.length ?_ ?_ N 0 (nI k') (by omega) (by omega) ⟨by rw [List.take_zero]; exact Nat.zero_le _, by rw [List.take_zero]; rfl⟩
      · rintro f x ⟨b0, b1⟩
        rw [mo_best_b9, h4.1, if_pos ((ma_le (by omega) (by omega)).mpr (by omega))]
        rw [List.take_length] at b0
        refine ma_some ⟨rfl, no (fun k2 hk2 e => ?_)⟩
        have := (nI_eq hk1 (by omega)).mp e
        omega
      · rintro f p x hp ⟨b0, b1⟩ ih
        have htk := ma_take h4.2.1 hp
        have hX := h4.2.1 p hp
        rw [mo_best_b9, h4.1, if_neg (fun z => absurd ((ma_le (by omega) (by omega)).mp z) (by omega)), b1, if_neg (nI_pos (by omega)), dl_bi_e (ma_isBest ho h3 h4 a2 hp)]
        unfold mo_best_b50
        by_cases cb : tg_tag E (g1 21 p) = t
        · rw [if_pos (decide_eq_true cb), if_neg (by decide)]
          have eB : ac_B E (l.take (p + 1)) t = ac_B E (l.take p) t ++ [g1 21 p] := by rw [htk, ac_B_app, ac_B_yes cb]
          have ez : nI (k' - (ac_B E (l.take p) t).length) = 0 ↔ k' = (ac_B E (l.take p) t).length := by
            rw [show (0 : Int32) = nI 0 from rfl, nI_eq (by omega) (by omega)]
            omega
          by_cases c2 : k' = (ac_B E (l.take p) t).length
          · rw [if_pos (ez.mpr c2), ma_gde (ma_in_t (by omega) (by omega)), nI_clamp (by omega)]
            obtain ⟨r, er, hr⟩ := ma_nth (N := N) (by omega) (g1 21 p) i
            rw [dl_bi_e er]
            have eAll : ac_B E l t = (ac_B E (l.take p) t ++ [g1 21 p]) ++ ac_B E (l.drop (p + 1)) t := by
              rw [← eB, ← ac_B_app, List.take_append_drop]
            have hlt : k' < (ac_B E l t).length := by
              rw [eAll, List.length_append, List.length_append, List.length_singleton]; omega
            refine ma_some ⟨rfl, Or.inr ⟨t, _, htb, hbl, Or.inl ⟨k', g1 21 p, rfl, hlt, ?_, hr⟩⟩⟩
            rw [eAll, List.getElem?_append_left (by rw [List.length_append, List.length_singleton]; omega), c2]
            simp
          · rw [if_neg (fun z => c2 (ez.mp z)), ma_nme, ma_nme, nI_1]
            have el : (ac_B E (l.take (p + 1)) t).length = (ac_B E (l.take p) t).length + 1 := by rw [eB, List.length_append, List.length_singleton]
            refine ih _ ⟨by omega, ?_⟩
            rw [el, show k' - (ac_B E (l.take p) t).length = (k' - ((ac_B E (l.take p) t).length + 1)) + 1 by omega]
            exact pk_m1 _
        · have eB : ac_B E (l.take (p + 1)) t = ac_B E (l.take p) t := by rw [htk, ac_B_app, ac_B_no cb, List.append_nil]
          rw [if_neg (fun z => cb (of_decide_eq_true z)), if_pos rfl, ma_nme, nI_1]
          exact ih _ ⟨by rw [eB]; exact b0, by rw [eB]⟩
theorem ma_mmust (hN : 65540 ≤ N) (ho : en_ok E) {g0 : dl_Sg} (hM : en_M E g0) (hk : ¬ g0 0 19 = 0 → kn_ok E g0) {s : Nat} (hs : s < en_m E) : ma_wp (mo_must N g0 (nI s)) (fun x => kq E g0 x.2 ∧ ta_must E s x.1) := by
  have hm := ho.m
  unfold mo_must
  obtain ⟨g1, e1, q⟩ := ma_know hN ho hM hk
  have hM1 := q.1.M hM
  have hin : ma_in (nI s) 0 (g1 0 3 - 1) = true := by
    rw [hM1.m]
    unfold ma_in
    rw [Bool.and_eq_true, decide_eq_true_iff, decide_eq_true_iff]
    obtain ⟨m', e⟩ : ∃ m', en_m E = m' + 1 := ⟨en_m E - 1, by omega⟩
    rw [e, nI_pred]
    exact ⟨nI_pos' (by omega), (ma_le (by omega) (by omega)).mpr (by omega)⟩
  rw [dl_bi_e e1, dl_bi_e (mo_isStreet_e _ _), hin, if_pos rfl, if_neg (by decide)]
  obtain ⟨l, h1, h2, h3, h4, h5⟩ := q.2.2
  refine ma_mono (P := fun x => x.2 = g1 ∧ ta_must E s x.1) ?_ (fun x hx => ⟨by rw [hx.1]; exact q, hx.2⟩)
  rcases h5 with ⟨a1, a2⟩ | ⟨t, a1, a2, a3⟩
  · rw [h4.1, a1, if_pos (show nI ([] : List Int32).length = 0 from rfl)]
    exact ma_some ⟨rfl, Or.inl ⟨kn_no h1 a1, rfl⟩⟩
  · have htb := kn_tb h1 h2 a1
    have hpos := tb_ne htb
    obtain ⟨X0, m1, _⟩ := a1.2
    rw [h4.1, if_neg (nI_ne0 (List.length_pos_of_mem m1) (by omega)), ma_nme, ma_nme]
    have hbl : (ac_B E l t).length ≤ 65536 := Nat.le_trans (List.length_filter_le _ _) h3
    refine ma_loop (fun f p (x : Int32) => mo_must_b25 N f (nI s) x (nI p) g1) (fun p x => x = nI ((ac_B E (l.take p) t).filter (fun X => bt X s)).length) _ l.length ?_ ?_ N 0 0 (by omega) (by omega) (by rw [List.take_zero]; rfl)
    · rintro f x hx
      rw [List.take_length] at hx
      have hfl : ((ac_B E l t).filter (fun X => bt X s)).length ≤ (ac_B E l t).length := List.length_filter_le _ _
      rw [mo_must_b25, h4.1, if_pos ((ma_le (by omega) (by omega)).mpr (by omega)), hx, a3]
      have hall : ((ac_B E l t).filter (fun X => bt X s)).length = (ac_B E l t).length ↔ ∀ X, X ∈ ac_B E l t → bt X s = true := by
        rw [List.length_filter_eq_length_iff]
      have hsome : 0 < ((ac_B E l t).filter (fun X => bt X s)).length ↔ ∃ X, X ∈ ac_B E l t ∧ bt X s = true := by
        rw [List.length_pos_iff_exists_mem]
        constructor
        · rintro ⟨X, hX⟩
          rw [List.mem_filter] at hX
          exact ⟨X, hX⟩
        · rintro ⟨X, hX⟩
          exact ⟨X, List.mem_filter.mpr hX⟩
      have e1 : nI ((ac_B E l t).filter (fun X => bt X s)).length = nI (ac_B E l t).length ↔ ((ac_B E l t).filter (fun X => bt X s)).length = (ac_B E l t).length := nI_eq (by omega) (by omega)
      by_cases c1 : ((ac_B E l t).filter (fun X => bt X s)).length = (ac_B E l t).length
      · rw [if_pos (e1.mpr c1)]
        refine ma_some ⟨rfl, Or.inr ⟨t, _, htb, ?_⟩⟩
        unfold ta_m
        rw [if_pos (ma_dec_t.mpr (hall.mp c1)), if_pos (ma_dec_t.mpr (hsome.mp (by omega)))]
        rfl
      · rw [if_neg (fun z => c1 (e1.mp z))]
        by_cases c2 : 0 < ((ac_B E l t).filter (fun X => bt X s)).length
        · rw [if_neg (fun z => (ma_le0 (by omega)).mp z c2)]
          refine ma_some ⟨rfl, Or.inr ⟨t, _, htb, ?_⟩⟩
          unfold ta_m
          rw [if_neg (fun z => c1 (hall.mpr (ma_dec_t.mp z))), if_pos (ma_dec_t.mpr (hsome.mp c2))]
          rfl
        · rw [if_pos ((ma_le0 (by omega)).mpr c2)]
          refine ma_some ⟨rfl, Or.inr ⟨t, _, htb, ?_⟩⟩
          unfold ta_m
          rw [if_neg (fun z => c1 (hall.mpr (ma_dec_t.mp z))), if_neg (fun z => c2 (hsome.mpr (ma_dec_t.mp z)))]
          rfl
    · rintro f p x hp hx ih
      have htk := ma_take h4.2.1 hp
      rw [mo_must_b25, h4.1, if_neg (fun z => absurd ((ma_le (by omega) (by omega)).mp z) (by omega)), dl_bi_e (ma_isBest ho h3 h4 a2 hp), ma_gde (ma_in_t (by omega) (by omega)), nI_clamp (by omega), dl_bi_e (ma_has _ (by omega))]
      unfold mo_must_b59 mo_must_b60
      by_cases cb : tg_tag E (g1 21 p) = t
      · have eB : ac_B E (l.take (p + 1)) t = ac_B E (l.take p) t ++ [g1 21 p] := by rw [htk, ac_B_app, ac_B_yes cb]
        rw [if_pos (decide_eq_true cb), if_neg (by decide)]
        by_cases cs : bt (g1 21 p) s = true
        · rw [if_pos cs, if_neg (by decide), ma_nme, ma_nme, nI_1]
          refine ih _ ?_
          rw [eB, List.filter_append, List.length_append, hx]
          simp [cs]
          exact nI_add _ 1
        · rw [if_neg cs, if_pos rfl, ma_nme, ma_nme, nI_1]
          refine ih _ ?_
          rw [eB, List.filter_append, List.length_append, hx]
          simp [cs]
      · have eB : ac_B E (l.take (p + 1)) t = ac_B E (l.take p) t := by rw [htk, ac_B_app, ac_B_no cb, List.append_nil]
        rw [if_neg (fun z => cb (of_decide_eq_true z)), if_pos rfl, ma_nme, ma_nme, nI_1]
        refine ih _ ?_
        rw [eB, hx]
        exact Int32.add_zero _
theorem ma_mmost (hN : 65540 ≤ N) (ho : en_ok E) {g0 : dl_Sg} (hM : en_M E g0) (hk : ¬ g0 0 19 = 0 → kn_ok E g0) (sum : Int32) : ma_wp (mo_most N g0 sum) (fun x => kq E g0 x.2 ∧ ta_most E sum x.1) := by
  unfold mo_most
  obtain ⟨g1, e1, q⟩ := ma_know hN ho hM hk
  rw [dl_bi_e e1, ma_nme, ma_nme]
  obtain ⟨l, h1, h2, h3, h4, h5⟩ := q.2.2
  refine ma_mono (P := fun x => x.2 = g1 ∧ ta_most E sum x.1) ?_ (fun x hx => ⟨by rw [hx.1]; exact q, hx.2⟩)
  refine ma_loop (fun f p (x : Int32) => mo_most_b9 N f sum x (nI p) g1) (fun p x => ((∀ X, X ∈ l.take p → ¬ nI (fl_co E X) ≤ sum) ∧ x = -1000000) ∨ ∃ X, X ∈ l.take p ∧ nI (fl_co E X) ≤ sum ∧ x = nI (fl_wo E X) ∧ ∀ Y, Y ∈ l.take p → nI (fl_co E Y) ≤ sum → fl_wo E Y ≤ fl_wo E X) _ l.length ?_ ?_ N 0 (-1000000) (by omega) (by omega) (Or.inl ⟨fun X hX => (by rw [List.take_zero] at hX; cases hX), rfl⟩)
  · rintro f x hx
    rw [List.take_length] at hx
    rw [mo_most_b9, h4.1, if_pos ((ma_le (by omega) (by omega)).mpr (by omega))]
    refine ma_some ⟨rfl, ?_⟩
    rcases hx with ⟨a, e⟩ | ⟨X, a1, a2, a3, a4⟩
    · exact Or.inl ⟨fun X hX => a X ((h1 X).mpr hX), e⟩
    · exact Or.inr ⟨X, (h1 X).mp a1, a2, a3, fun Y hY => a4 Y ((h1 Y).mpr hY)⟩
  · rintro f p x hp hx ih
    have htk := ma_take h4.2.1 hp
    obtain ⟨e22, e23⟩ := h4.2.2 p hp
    have hw := fl_wo_le (T := g1 21 p) ho
    rw [mo_most_b9, h4.1, if_neg (fun z => absurd ((ma_le (by omega) (by omega)).mp z) (by omega)), ma_gde (ma_in_t (by omega) (by omega)), nI_clamp (by omega), e22, e23, ma_gde (ma_in_t (by omega) (by omega)), ma_gde (ma_in_t (by omega) (by omega))]
    unfold mo_most_b46 mo_most_b47
    have mem : ∀ Y, Y ∈ l.take (p + 1) ↔ Y ∈ l.take p ∨ Y = g1 21 p := fun Y => by rw [htk, List.mem_append, List.mem_singleton]
    by_cases c1 : sum < nI (fl_co E (g1 21 p))
    · rw [if_pos c1, ma_nme, ma_nme, nI_1]
      refine ih _ ?_
      have hn : ¬ nI (fl_co E (g1 21 p)) ≤ sum := Int32.not_le.mpr c1
      rcases hx with ⟨a, e⟩ | ⟨X, a1, a2, a3, a4⟩
      · refine Or.inl ⟨fun X hX => ?_, e⟩
        rcases (mem X).mp hX with z | z
        · exact a X z
        · rw [z]; exact hn
      · refine Or.inr ⟨X, (mem X).mpr (Or.inl a1), a2, a3, fun Y hY z => ?_⟩
        rcases (mem Y).mp hY with w | w
        · exact a4 Y w z
        · rw [w] at z; exact absurd z hn
    · rw [if_neg c1]
      have hle : nI (fl_co E (g1 21 p)) ≤ sum := Int32.not_lt.mp c1
      rcases hx with ⟨a, e⟩ | ⟨X, a1, a2, a3, a4⟩
      · have hlt : ¬ nI (fl_wo E (g1 21 p)) ≤ x := by
          rw [e, fa_le, nI_toInt (by omega)]
          have : (-1000000 : Int32).toInt = -1000000 := rfl
          omega
        rw [if_neg hlt, ma_nme, ma_nme, nI_1]
        refine ih _ (Or.inr ⟨g1 21 p, (mem _).mpr (Or.inr rfl), hle, rfl, fun Y hY z => ?_⟩)
        rcases (mem Y).mp hY with w | w
        · exact absurd z (a Y w)
        · rw [w]; exact Nat.le_refl _
      · have hwX := fl_wo_le (T := X) ho
        rw [a3]
        by_cases c2 : fl_wo E (g1 21 p) ≤ fl_wo E X
        · rw [if_pos ((ma_le (by omega) (by omega)).mpr c2), ma_nme, ma_nme, nI_1]
          refine ih _ (Or.inr ⟨X, (mem X).mpr (Or.inl a1), a2, rfl, fun Y hY z => ?_⟩)
          rcases (mem Y).mp hY with w | w
          · exact a4 Y w z
          · rw [w]; exact c2
        · rw [if_neg (fun z => c2 ((ma_le (by omega) (by omega)).mp z)), ma_nme, ma_nme, nI_1]
          refine ih _ (Or.inr ⟨g1 21 p, (mem _).mpr (Or.inr rfl), hle, rfl, fun Y hY z => ?_⟩)
          rcases (mem Y).mp hY with w | w
          · have := a4 Y w z; omega
          · rw [w]; exact Nat.le_refl _
end
