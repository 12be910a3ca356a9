/-! The mathematics: what the reference knows -/
def kn_ok (E : ma_E) (g : dl_Sg) : Prop := ∃ l, (∀ X, X ∈ l ↔ tr_set E X) ∧ l.Pairwise ah ∧ l.length ≤ 65536 ∧ kn_row E l g ∧ ((l = [] ∧ g 0 25 = 0) ∨ ∃ t, ac_min E l t ∧ (g 0 24).toInt = t ∧ g 0 25 = nI (ac_B E l t).length)
section
variable {E : ma_E} {N : Nat}
theorem ma_take {l : List Int32} {f : Nat → Int32} (h : ma_rowL l f) {i : Nat} (hi : i < l.length) : l.take (i + 1) = l.take i ++ [f i] := by
  rw [List.take_succ, h i hi]
  rfl
theorem kn_row.fr {l : List Int32} {g g' : dl_Sg} (h : kn_row E l g) (h20 : g' 0 20 = g 0 20) (h21 : g' 21 = g 21) (h22 : g' 22 = g 22) (h23 : g' 23 = g 23) : kn_row E l g' := by
  unfold kn_row
  rw [h20, h21, h22, h23]
  exact h
theorem ma_least2 (hN : 65540 ≤ N) (ho : en_ok E) {l : List Int32} (hmem : ∀ X, X ∈ l ↔ tr_set E X) (hpw : l.Pairwise ah) (hlen : l.length ≤ 65536) {g0 : dl_Sg} (hrow : kn_row E l g0) (h25 : g0 0 25 = 0) : ma_wp (mo_know_b115 N N 0 g0) (fun g => ma_fk g g0 ∧ g 0 19 = g0 0 19 ∧ kn_ok E g) := by
  refine ma_loop (fun k i (g : dl_Sg) => mo_know_b115 N k (nI i) g) (fun i g => ma_fk g g0 ∧ g 0 19 = g0 0 19 ∧ kn_row E l g ∧ ((i = 0 ∧ g 0 25 = 0) ∨ (0 < i ∧ ∃ t, ac_min E (l.take i) t ∧ (g 0 24).toInt = t ∧ g 0 25 = nI (ac_B E (l.take i) t).length))) _ l.length ?_ ?_ N 0 g0 (by omega) (by omega) ⟨ma_fk.rf _, rfl, hrow, Or.inl ⟨rfl, h25⟩⟩
  · rintro k g ⟨f1, f2, f3, f4⟩
    rw [mo_know_b115, f3.1, if_pos ((ma_le (by omega) (by omega)).mpr (by omega))]
    refine ma_some ⟨f1, f2, l, hmem, hpw, hlen, f3, ?_⟩
    rcases f4 with ⟨q1, q2⟩ | ⟨_, t, q1, q2, q3⟩
    · exact Or.inl ⟨List.length_eq_zero_iff.mp q1, q2⟩
    · rw [List.take_length] at q1 q3
      exact Or.inr ⟨t, q1, q2, q3⟩
  · rintro k i g hi ⟨f1, f2, f3, f4⟩ ih
    have htk := ma_take f3.2.1 hi
    obtain ⟨e22, e23⟩ := f3.2.2 i hi
    have hbl : ∀ t, (ac_B E (l.take i) t).length ≤ 65536 := fun t => Nat.le_trans (List.length_filter_le _ _) (by rw [List.length_take]; omega)
    rw [mo_know_b115, f3.1, if_neg (fun q => absurd ((ma_le (by omega) (by omega)).mp q) (by omega)), ma_gde (ma_in_t (by omega) (by omega)), ma_gde (ma_in_t (by omega) (by omega)), nI_clamp (by omega), e22, e23, show nI (fl_co E (g 21 i)) - nI (fl_wo E (g 21 i)) = fl_tg E (g 21 i) from rfl, ma_nme]
    -- the end of a turn
    have fin : ∀ (v w : Int32), (∃ t, ac_min E (l.take (i + 1)) t ∧ v.toInt = t ∧ w = nI (ac_B E (l.take (i + 1)) t).length) → ma_wp (mo_know_b115 N k (nI (i + 1)) (dl_s2 (dl_s2 g 0 25 w) 0 24 v)) (fun g => ma_fk g g0 ∧ g 0 19 = g0 0 19 ∧ kn_ok E g) := by
      rintro v w ⟨t, q1, q2, q3⟩
      refine ih _ ⟨(ma_fk.s0 _ (by omega) _).t ((ma_fk.s0 _ (by omega) _).t f1), ?_, f3.fr ?_ ?_ ?_ ?_, Or.inr ⟨by omega, t, q1, ?_, ?_⟩⟩
      · rw [ma_s2n _ _ (by omega), ma_s2n _ _ (by omega)]; exact f2
      · rw [ma_s2n _ _ (by omega), ma_s2n _ _ (by omega)]
      · rw [ma_s2r _ _ _ _ (by decide), ma_s2r _ _ _ _ (by decide)]
      · rw [ma_s2r _ _ _ _ (by decide), ma_s2r _ _ _ _ (by decide)]
      · rw [ma_s2r _ _ _ _ (by decide), ma_s2r _ _ _ _ (by decide)]
      · rw [ma_s2s]; exact q2
      · rw [ma_s2n _ _ (by omega), ma_s2s]; exact q3
    unfold mo_know_b150 mo_know_b175 mo_know_b191 mo_know_b199
    have e24 : ∀ w : Int32, dl_s2 g 0 25 w 0 24 = g 0 24 := fun w => ma_s2n _ _ (by omega)
    rcases f4 with ⟨q1, q2⟩ | ⟨q0, t, q1, q2, q3⟩
    · subst q1
      rw [if_pos nI_0, ma_nme, if_pos nI_0, ma_nme, ma_nme, nI_1]
      refine fin _ _ ⟨tg_tag E (g 21 0), ?_⟩
      rw [htk, List.take_zero]
      obtain ⟨a1, a2⟩ := ac_new (E := E) (l := []) (X := g 21 0) (fun Y hY => (by cases hY))
      exact ⟨a1, tg_tag_I ho _, by rw [a2]; rfl⟩
    · have n0 : ¬ nI i = 0 := nI_ne0 q0 (by omega)
      have ecmp : g 0 24 ≤ fl_tg E (g 21 i) ↔ t ≤ tg_tag E (g 21 i) := by rw [fa_le, q2, tg_tag_I ho]
      have eeq : fl_tg E (g 21 i) = g 0 24 ↔ tg_tag E (g 21 i) = t := by rw [fa_eq, q2, tg_tag_I ho]
      rw [if_neg n0]
      by_cases c1 : t ≤ tg_tag E (g 21 i)
      · rw [if_pos (ecmp.mpr c1)]
        by_cases c2 : tg_tag E (g 21 i) = t
        · rw [if_pos (eeq.mpr c2), ma_nme, if_neg n0, e24, if_pos (ecmp.mpr c1), ma_nme, ma_nme, nI_1]
          obtain ⟨a1, a2⟩ := ac_same q1 c2
          refine fin _ _ ⟨t, by rw [htk]; exact a1, q2, ?_⟩
          rw [htk, a2, q3, List.length_append, nI_1]; rfl
        · rw [if_neg (fun q => c2 (eeq.mp q)), ma_nme, if_neg n0, e24, if_pos (ecmp.mpr c1), ma_nme, ma_nme, nI_1]
          obtain ⟨a1, a2⟩ := ac_more (X := g 21 i) q1 (by omega)
          exact fin _ _ ⟨t, by rw [htk]; exact a1, q2, by rw [htk, a2]; exact q3⟩
      · rw [if_neg (fun q => c1 (ecmp.mp q)), ma_nme, if_neg n0, e24, if_neg (fun q => c1 (ecmp.mp q)), ma_nme, ma_nme, nI_1]
        obtain ⟨a1, a2⟩ := ac_new (E := E) (l := l.take i) (X := g 21 i) (fun Y hY => by have := q1.1 Y hY; omega)
        exact fin _ _ ⟨_, by rw [htk]; exact a1, tg_tag_I ho _, by rw [htk, a2]; rfl⟩
theorem ma_know (hN : 65540 ≤ N) (ho : en_ok E) {g0 : dl_Sg} (hM : en_M E g0) (hk : ¬ g0 0 19 = 0 → kn_ok E g0) : ma_wp (mo_know N g0) (fun g => ma_fk g g0 ∧ ¬ g 0 19 = 0 ∧ kn_ok E g) := by
  unfold mo_know
  by_cases c : g0 0 19 = 0
  · rw [if_pos c, ma_nme, ma_nme, ma_nme]
    have f2 : ma_fk (dl_s2 (dl_s2 g0 0 19 1) 0 20 0) g0 := (ma_fk.s0 _ (by omega) _).t (ma_fk.s0 _ (by omega) _)
    have h19 : (dl_s2 (dl_s2 g0 0 19 1) 0 20 0) 0 19 = 1 := by rw [ma_s2n _ _ (by omega), ma_s2s]
    have h20 : (dl_s2 (dl_s2 g0 0 19 1) 0 20 0) 0 20 = 0 := ma_s2s _ _ _ _
    generalize dl_s2 (dl_s2 g0 0 19 1) 0 20 0 = g2 at f2 h19 h20
    refine ma_mono (ma_sets hN ho (f2.M hM) (fun g => ma_fk g g2 ∧ g 0 19 = g2 0 19 ∧ kn_ok E g) ?_ 65536 N [] g2 (Nat.le_refl _) (by omega) (ma_fk.rf _) ⟨by rw [h20]; rfl, fun i hi => absurd hi (by simp), fun i hi => absurd hi (by simp)⟩ (Nat.zero_le _) (by simp) (fun X => ⟨fun q => (by cases q), fun ⟨_, k, q1, q2, _⟩ => by omega⟩) rfl) ?_
    · intro l g f1 r1 r2 r3 r4 r5
      refine ma_mono (ma_least2 hN ho r4 r3 r2 (r1.fr ?_ ?_ ?_ ?_) ?_) ?_
      · rw [ma_s2n _ _ (by omega), ma_s2n _ _ (by omega)]
      · rw [ma_s2r _ _ _ _ (by decide), ma_s2r _ _ _ _ (by decide)]
      · rw [ma_s2r _ _ _ _ (by decide), ma_s2r _ _ _ _ (by decide)]
      · rw [ma_s2r _ _ _ _ (by decide), ma_s2r _ _ _ _ (by decide)]
      · exact ma_s2s _ _ _ _
      · rintro g' ⟨q1, q2, q3⟩
        refine ⟨q1.t ((ma_fk.s0 _ (by omega) _).t ((ma_fk.s0 _ (by omega) _).t f1)), ?_, q3⟩
        rw [q2, ma_s2n _ _ (by omega), ma_s2n _ _ (by omega)]; exact r5
    · rintro g ⟨q1, q2, q3⟩
      exact ⟨q1.t f2, by rw [q2, h19]; decide, q3⟩
  · rw [if_neg c]
    exact ma_some ⟨ma_fk.rf _, c, hk c⟩
/-- the best ones of what the reference knows -/
theorem kn_tb {l : List Int32} {t : Int} (hmem : ∀ X, X ∈ l ↔ tr_set E X) (hpw : l.Pairwise ah) (h : ac_min E l t) : tb E t (ac_B E l t) := by
  obtain ⟨h1, X, h2, h3⟩ := h
  refine ⟨fun Y hY => h1 Y ((hmem Y).mpr hY), ⟨X, (hmem X).mp h2, h3⟩, fun Y => ?_, List.Pairwise.sublist List.filter_sublist hpw⟩
  unfold ac_B
  rw [List.mem_filter, hmem, decide_eq_true_iff]
theorem kn_no {l : List Int32} (hmem : ∀ X, X ∈ l ↔ tr_set E X) (h : l = []) : tr_no E := fun X q => by
  rw [← hmem, h] at q; cases q
/-! what is answered -/
def ta_least (E : ma_E) (r : Int32) : Prop := (tr_no E ∧ r = -1000000) ∨ ∃ t b, tb E t b ∧ r.toInt = t
def ta_many (E : ma_E) (r : Int32) : Prop := (tr_no E ∧ r = 0) ∨ ∃ t b, tb E t b ∧ r = nI b.length
noncomputable def ta_m (b : List Int32) (s : Nat) : Nat := (if ma_dec (∀ X, X ∈ b → bt X s = true) = true then 1 else 0) + (if ma_dec (∃ X, X ∈ b ∧ bt X s = true) = true then 1 else 0)
def ta_must (E : ma_E) (s : Nat) (r : Int32) : Prop := (tr_no E ∧ r = -1) ∨ ∃ t b, tb E t b ∧ r = nI (ta_m b s)
def ta_most (E : ma_E) (sum r : Int32) : Prop := ((∀ X, tr_set E X → ¬ nI (fl_co E X) ≤ sum) ∧ r = -1000000) ∨ ∃ X, tr_set E X ∧ nI (fl_co E X) ≤ sum ∧ r = nI (fl_wo E X) ∧ ∀ Y, tr_set E Y → nI (fl_co E Y) ≤ sum → fl_wo E Y ≤ fl_wo E X
def ta_nth (X i r : Int32) : Prop := (∃ s, s < 16 ∧ bt X s = true ∧ i = nI (fb_ct (bt X) s) ∧ r = nI s) ∨ ((∀ s, s < 16 → bt X s = true → i ≠ nI (fb_ct (bt X) s)) ∧ r = -1)
def ta_best (E : ma_E) (k i r : Int32) : Prop := (tr_no E ∧ r = -1) ∨ ∃ t b, tb E t b ∧ b.length ≤ 65536 ∧ ((∃ k' X, k = nI k' ∧ k' < b.length ∧ b[k']? = some X ∧ ta_nth X i r) ∨ ((∀ k', k' < b.length → k ≠ nI k') ∧ r = -1))
theorem tb_no {t : Int} {b : List Int32} (h : tb E t b) : ¬ tr_no E := fun q => by
  obtain ⟨_, ⟨X, h1, _⟩, _⟩ := h
  exact q X h1
theorem ta_least_one {r q : Int32} (h : ta_least E r) (h2 : ta_least E q) : r = q := by
  rcases h with ⟨a, e⟩ | ⟨t, b, a, e⟩ <;> rcases h2 with ⟨a', e'⟩ | ⟨t', b', a', e'⟩
  · rw [e, e']
  · exact absurd a (tb_no a')
  · exact absurd a' (tb_no a)
  · exact Int32.toInt_inj.mp (by rw [e, e', (tb_one a a').1])
theorem ta_many_one {r q : Int32} (h : ta_many E r) (h2 : ta_many E q) : r = q := by
  rcases h with ⟨a, e⟩ | ⟨t, b, a, e⟩ <;> rcases h2 with ⟨a', e'⟩ | ⟨t', b', a', e'⟩
  · rw [e, e']
  · exact absurd a (tb_no a')
  · exact absurd a' (tb_no a)
  · rw [e, e', (tb_one a a').2]
theorem ta_must_one {s : Nat} {r q : Int32} (h : ta_must E s r) (h2 : ta_must E s q) : r = q := by
  rcases h with ⟨a, e⟩ | ⟨t, b, a, e⟩ <;> rcases h2 with ⟨a', e'⟩ | ⟨t', b', a', e'⟩
  · rw [e, e']
  · exact absurd a (tb_no a')
  · exact absurd a' (tb_no a)
  · rw [e, e', (tb_one a a').2]
theorem ta_most_one {sum r q : Int32} (h : ta_most E sum r) (h2 : ta_most E sum q) : r = q := by
  rcases h with ⟨a, e⟩ | ⟨X, a1, a2, a3, a4⟩ <;> rcases h2 with ⟨a', e'⟩ | ⟨Y, b1, b2, b3, b4⟩
  · rw [e, e']
  · exact absurd b2 (a Y b1)
  · exact absurd a2 (a' X a1)
  · rw [a3, b3, Nat.le_antisymm (b4 X a1 a2) (a4 Y b1 b2)]
theorem ta_nth_one {X i r q : Int32} (h : ta_nth X i r) (h2 : ta_nth X i q) : r = q := by
  rcases h with ⟨s, a1, a2, a3, a4⟩ | ⟨a, e⟩ <;> rcases h2 with ⟨s', b1, b2, b3, b4⟩ | ⟨a', e'⟩
  · have h1 := fb_ct_le (bt X) s
    have h2 := fb_ct_le (bt X) s'
    rw [a4, b4, fb_ct_kth_one a2 b2 ((nI_eq (by omega) (by omega)).mp (a3.symm.trans b3))]
  · exact absurd a3 (a' s a1 a2)
  · exact absurd b3 (a s' b1 b2)
  · rw [e, e']
theorem ta_best_one {k i r q : Int32} (h : ta_best E k i r) (h2 : ta_best E k i q) : r = q := by
  rcases h with ⟨a, e⟩ | ⟨t, b, a, al, c⟩ <;> rcases h2 with ⟨a', e'⟩ | ⟨t', b', a', al', c'⟩
  · rw [e, e']
  · exact absurd a (tb_no a')
  · exact absurd a' (tb_no a)
  · have := (tb_one a a').2
    subst this
    rcases c with ⟨k1, X, c1, c2, c3, c4⟩ | ⟨c1, c2⟩ <;> rcases c' with ⟨k2, Y, d1, d2, d3, d4⟩ | ⟨d1, d2⟩
    · have e : k1 = k2 := (nI_eq (by omega) (by omega)).mp (c1.symm.trans d1)
      subst e
      rw [c3] at d3
      have := Option.some.inj d3
      subst this
      exact ta_nth_one c4 d4
    · exact absurd c1 (d1 k1 c2)
    · exact absurd d1 (c1 k2 d2)
    · rw [c2, d2]
end
