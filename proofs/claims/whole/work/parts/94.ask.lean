/-! The mathematics: the questions -/
/-- both answer the same, and what holds between them still holds -/
def kw (F E : ma_E) : Prop := en_n F ≤ en_n E ∧ en_k F = en_k E ∧ en_w F = en_w E
theorem kw.rf (E : ma_E) : kw E E := ⟨Nat.le_refl _, rfl, rfl⟩
def IW (al : Nat) (E : ma_E) (c : Nat) (g1 g2 : dl_Sg) : Prop := ∃ F, kw F E ∧ iv al F c g1 g2
def ma_two (al : Nat) (E : ma_E) (c : Nat) (x y : Option (Int32 × dl_Sg)) : Prop := ∃ r g1 g2, x = some (r, g1) ∧ y = some (r, g2) ∧ IW al E c g1 g2
/-- both answer the same, and nothing is changed -/
def ma_one (x y : Option Int32) : Prop := ∃ r, x = some r ∧ y = some r
theorem ma_q1 : ¬ ((if true = true then (1 : Int32) else 0) = 0) := by decide
theorem ma_q0 : (if false = true then (1 : Int32) else 0) = 0 := rfl
section
variable {al : Nat} {E : ma_E} {c N : Nat} {gc gm : dl_Sg}
theorem ma_two.by {x y : Option (Int32 × dl_Sg)} {P Q : Int32 × dl_Sg → Prop} (hx : ma_wp x P) (hy : ma_wp y Q) (h : ∀ a b, P a → Q b → a.1 = b.1 ∧ IW al E c a.2 b.2) : ma_two al E c x y := by
  obtain ⟨⟨r, g1⟩, e1, p⟩ := hx
  obtain ⟨⟨q, g2⟩, e2, w⟩ := hy
  obtain ⟨h1, h2⟩ := h _ _ p w
  have h1 : r = q := h1
  subst h1
  exact ⟨r, g1, g2, e1, e2, h2⟩
theorem same_m.f17 {g g0 : dl_Sg} (h : ma_f17 g g0) : same_m g g0 := ⟨fun k a b _ _ _ _ => h.1 k b a, fun i a _ _ => h.2 i a⟩
theorem same_m.fm {g g0 : dl_Sg} (h : ma_fm g g0) : same_m g g0 := ⟨fun k a _ _ b d e => h.1 k a b d e, fun i _ a b => h.2 i a b⟩
theorem same_m.f26 {g g0 : dl_Sg} (h : ∀ k, k ≠ 26 → g k = g0 k) : same_m g g0 := ⟨fun k _ _ a _ _ _ => h k a, fun i _ _ _ => by rw [h 0 (by decide)]⟩
theorem iv.ok (h : iv al E c gc gm) : en_ok E := h.1
theorem iv.M (h : iv al E c gc gm) : en_M E gm := h.2.1
theorem iv.C (h : iv al E c gc gm) : en_C E gc := h.2.2.1
theorem iv.hd (h : iv al E c gc gm) : gc 1 15 = gm 0 8 ∧ ma_sub (gm 0 8) (en_t E) := h.2.2.2.1
theorem iv.aw (h : iv al E c gc gm) : ac_al gc := h.2.2.2.2.2.2.2.2.2.2.1.1
theorem iv.tc (h : iv al E c gc gm) : gc 3 8 = gc 1 17 → tc_ok E gc := h.2.2.2.2.2.2.2.2.2.1
theorem iv.wc (h : iv al E c gc gm) : gc 4 7 = gc 1 17 → wc_ok E gc := h.2.2.2.2.2.2.2.2.2.2.2.1
theorem iv.kn (h : iv al E c gc gm) : ¬ gm 0 19 = 0 → kn_ok E gm := h.2.2.2.2.2.2.2.2.2.2.2.2
theorem ask_least (hN : 131073 ≤ N) (h : iv al E c gc gm) : ma_two 64 E c (cl11_least N gc) (mo_least N gm) :=
  ma_two.by (ma_cleast hN h.ok h.C h.aw h.tc) (ma_mleast (by omega) h.ok h.M h.kn) fun _ _ p q => ⟨ta_least_one p.2 q.2, E, kw.rf E, (h.t p.1).k q.1⟩
theorem ask_many (hN : 131073 ≤ N) (h : iv al E c gc gm) : ma_two 64 E c (cl11_many N gc) (mo_many N gm) :=
  ma_two.by (ma_cmany hN h.ok h.C h.aw h.tc) (ma_mmany (by omega) h.ok h.M h.kn) fun _ _ p q => ⟨ta_many_one p.2 q.2, E, kw.rf E, (h.t p.1).k q.1⟩
theorem ask_best (hN : 131073 ≤ N) (h : iv al E c gc gm) (k i : Int32) : ma_two 64 E c (cl11_best N gc k i) (mo_best N gm k i) :=
  ma_two.by (ma_cbest hN h.ok h.C h.aw h.tc k i) (ma_mbest (by omega) h.ok h.M h.kn k i) fun _ _ p q => ⟨ta_best_one p.2 q.2, E, kw.rf E, (h.t p.1).k q.1⟩
theorem ask_most (hN : 131073 ≤ N) (h : iv al E c gc gm) (x : Int32) : ma_two 64 E c (cl11_most N gc x) (mo_most N gm x) :=
  ma_two.by (ma_cmost hN h.ok h.C h.aw h.tc x) (ma_mmost (by omega) h.ok h.M h.kn x) fun _ _ p q => ⟨ta_most_one p.2 q.2, E, kw.rf E, (h.t p.1).k q.1⟩
theorem ask_walls (hN : 131073 ≤ N) (h : iv al E c gc gm) : ma_two al E c (cl11_walls N gc) (mo_walls N gm) :=
  ma_two.by (ma_cwalls (by omega) h.ok h.C h.wc) (ma_mwalls (by omega) h.ok h.M) fun _ _ p q => ⟨wa_walls_one h.ok p.2.2.2 q.2, E, kw.rf E, (h.w p.1 p.2.1 p.2.2.1).m (same_m.fm q.1)⟩
theorem ask_bound (hN : 131073 ≤ N) (h : iv al E c gc gm) : ma_two al E c (cl11_bound N gc) (mo_bound N gm) :=
  ma_two.by (ma_cbound (by omega) h.ok h.C h.wc) (ma_mbound (by omega) h.ok h.M) fun _ _ p q => ⟨wa_bound_one h.ok p.2.2.2 q.2, E, kw.rf E, (h.w p.1 p.2.1 p.2.2.1).m (same_m.fm q.1)⟩
theorem ask_wall (hN : 131073 ≤ N) (h : iv al E c gc gm) (i w : Int32) : ma_two al E c (cl11_wall N gc i w) (mo_wall N gm i w) :=
  ma_two.by (ma_cwall (by omega) h.ok h.C h.wc i w) (ma_mwall (by omega) h.ok h.M i w) fun _ _ p q => ⟨wa_wall_one h.ok p.2.2.2 q.2, E, kw.rf E, (h.w p.1 p.2.1 p.2.2.1).m (same_m.fm q.1)⟩
theorem ask_span (hN : 131073 ≤ N) (h : iv al E c gc gm) : ma_two al E c (cl11_span N gc) (mo_span N gm) :=
  ma_two.by (ma_cspan (by omega) h.ok h.C) (ma_mspan (by omega) h.ok h.M) fun _ _ p q => ⟨sp_ans_one p.2 q.2, E, kw.rf E, (h.cl (fun k a b _ => p.1 k a b)).m (same_m.f26 q.1)⟩
theorem iv.hl (h : iv al E c gc gm) : ∀ i, bt (gm 0 8) i = true → i < en_m E := fun i q => h.ok.t (h.hd.2 i q)
theorem ask_why (hN : 131073 ≤ N) (h : iv al E c gc gm) : ma_two al E c (cl11_why N gc) (mo_why N gm) := by
  refine ma_two.by (P := fun x => (∀ k, k ≠ 20 → x.2 k = gc k) ∧ fl_is E (gm 0 8) x.1) (Q := fun x => ma_f17 x.2 gm ∧ fl_is E (gm 0 8) x.1) ?_ ?_ fun _ _ p q => ⟨fl_is_one p.2 q.2, E, kw.rf E, (h.cl (fun k _ _ b => p.1 k b)).m (same_m.f17 q.1)⟩
  · unfold cl11_why
    rw [h.hd.1]
    exact ma_b2 (ma_mono (ma_flawOf (by omega) h.ok h.C h.hl) fun x q => ma_some q)
  · unfold mo_why
    exact ma_b2 (ma_mono (ma_treeOf (by omega) h.ok h.M h.hl) fun x q => ma_some ⟨q.1, q.2.1⟩)
theorem ask_tag (hN : 131073 ≤ N) (h : iv al E c gc gm) : ma_two al E c (cl11_tag N gc) (mo_tag N gm) := by
  have one : ∀ r q : Int32, ((fl_tree E (gm 0 8) ∧ r = fl_tg E (gm 0 8)) ∨ (¬ fl_tree E (gm 0 8) ∧ r = -1000000)) → ((fl_tree E (gm 0 8) ∧ q = fl_tg E (gm 0 8)) ∨ (¬ fl_tree E (gm 0 8) ∧ q = -1000000)) → r = q := by
    rintro r q (⟨a, b⟩ | ⟨a, b⟩) (⟨d, e⟩ | ⟨d, e⟩)
    · rw [b, e]
    · exact absurd a d
    · exact absurd d a
    · rw [b, e]
  refine ma_two.by (P := fun x => (∀ k, k ≠ 20 → x.2 k = gc k) ∧ ((fl_tree E (gm 0 8) ∧ x.1 = fl_tg E (gm 0 8)) ∨ (¬ fl_tree E (gm 0 8) ∧ x.1 = -1000000))) ?_ (Q := fun x => ma_f17 x.2 gm ∧ ((fl_tree E (gm 0 8) ∧ x.1 = fl_tg E (gm 0 8)) ∨ (¬ fl_tree E (gm 0 8) ∧ x.1 = -1000000))) ?_ fun _ _ p q => ⟨one _ _ p.2 q.2, E, kw.rf E, (h.cl (fun k _ _ b => p.1 k b)).m (same_m.f17 q.1)⟩
  · unfold cl11_tag
    rw [h.hd.1]
    refine ma_b2 (ma_mono (ma_flawOf (by omega) h.ok h.C h.hl) fun x q => ?_)
    have hC : en_C E x.2 := h.C.same (fun i _ _ => by rw [q.1 1 (by decide)]) (fun k _ _ => q.1 k (by omega)) (fun k _ _ => q.1 k (by omega))
    refine ma_if (fun z => ?_) (fun z => ?_)
    · have e : x.2 1 15 = gm 0 8 := by rw [q.1 1 (by decide)]; exact h.hd.1
      rw [e]
      exact ma_bie (ma_ctag (by omega) h.ok hC) (ma_some ⟨q.1, Or.inl ⟨(fl_is_0 q.2).mp z, rfl⟩⟩)
    · exact ma_some ⟨q.1, Or.inr ⟨fun w => z ((fl_is_0 q.2).mpr w), rfl⟩⟩
  · unfold mo_tag
    exact ma_b2 (ma_mono (ma_mtagOf (by omega) h.ok h.M h.hl) fun x q => ma_some q)
theorem ask_must (hN : 131073 ≤ N) (h : iv al E c gc gm) (x : Int32) : ma_two 64 E c (cl11_must N gc x) (mo_must N gm x) := by
  have hm := h.ok.m
  by_cases hx : px (en_m E) x
  · obtain ⟨s, s1, s2⟩ := hx
    rw [s2]
    refine ma_two.by (P := fun x => tq E gc x.2 ∧ ta_must E s x.1) ?_ (ma_mmust (by omega) h.ok h.M h.kn s1) fun _ _ p q => ⟨ta_must_one p.2 q.2, E, kw.rf E, (h.t p.1).k q.1⟩
    unfold cl11_must
    rw [dl_bi_e (ma_hasStreet h.ok h.C _), show ma_dec (px (en_m E) (nI s)) = true from ma_dec_t.mpr ⟨s, s1, rfl⟩]
    refine ma_iff (by decide) (ma_b2 (ma_mono (ma_cuse hN h.ok h.C h.aw h.tc (by omega)) fun x q => ma_some q))
  · unfold cl11_must mo_must
    rw [dl_bi_e (ma_hasStreet h.ok h.C _), ma_dec_f.mpr hx, if_pos ma_q0]
    refine ma_two.by (P := fun x => x.2 = gc ∧ x.1 = -1) (ma_some ⟨rfl, rfl⟩) (Q := fun x => kq E gm x.2 ∧ x.1 = -1) ?_ fun _ _ p q => ⟨p.2.trans q.2.symm, E, kw.rf E, by rw [p.1]; exact (h.re h.aw.2.1).k q.1⟩
    refine ma_bi (ma_mono (ma_know (by omega) h.ok h.M h.kn) fun g q => ?_)
    have hM : en_M E g := q.1.M h.M
    rw [dl_bi_e (ma_isStreet h.ok hM _), ma_dec_f.mpr hx, if_pos ma_q0]
    exact ma_some ⟨q, rfl⟩
theorem ma_F (a : Nat) (ha : a ≤ ds_F) : (nI a = (100000000 : Int32) ↔ a = ds_F) ∧ ((100000000 : Int32) ≤ nI a ↔ ds_F ≤ a) :=
  have e : (100000000 : Int32) = nI ds_F := rfl
  have f : ds_F = 100000000 := rfl
  ⟨by rw [e]; exact ma_eqn (by omega) (by omega), by rw [e]; exact ma_le (by omega) (by omega)⟩
theorem ask_apart (hN : 131073 ≤ N) (h : iv al E c gc gm) (x y : Int32) : ma_two al E c (cl11_apart N gc x y) (mo_apart N gm x y) := by
  have hn := h.ok.n
  unfold cl11_apart mo_apart
  rw [dl_bi_e (ma_hasPlace h.ok h.C x), dl_bi_e (ma_isPlace h.ok h.M x), dl_bi_e (ma_hasPlace h.ok h.C y), dl_bi_e (ma_isPlace h.ok h.M y)]
  by_cases hx : px (en_n E) x
  · rw [ma_dec_t.mpr hx, if_neg ma_q1, if_neg ma_q1]
    by_cases hy : px (en_n E) y
    · rw [ma_dec_t.mpr hy, if_neg ma_q1, if_neg ma_q1]
      obtain ⟨a, a1, rfl⟩ := hx
      obtain ⟨b, b1, rfl⟩ := hy
      have hF := ma_F _ (ds_le E b a)
      have hle := ds_le E b a
      refine ma_two.by (P := fun x => (∀ k, k ≠ 18 → x.2 k = gc k) ∧ x.1 = if ds_d E b a = ds_F then -1000000 else nI (ds_d E b a)) (Q := fun x => (∀ k, k ≠ 26 → x.2 k = gm k) ∧ x.1 = if ds_d E b a = ds_F then -1000000 else nI (ds_d E b a)) ?_ ?_ fun _ _ p q => ⟨p.2.trans q.2.symm, E, kw.rf E, (h.cl (fun k a _ _ => p.1 k a)).m (same_m.f26 q.1)⟩
      · unfold cl8_sumOf
        refine ma_b2 (ma_bi (ma_mono (ma_measure (by omega) h.ok h.C b1) fun g q => ?_))
        rw [ma_gde (ma_in_t (by omega) (by omega)), ma_gde (ma_in_t (by omega) (by omega)), nI_clamp (by omega), q.2 a a1]
        refine ma_if (fun z => ma_some (ma_some ⟨q.1, ?_⟩)) (fun z => ma_some (ma_some ⟨q.1, ?_⟩))
        · rw [if_pos (Nat.le_antisymm hle (hF.2.mp z))]
        · rw [if_neg (fun w => z (hF.2.mpr (Nat.le_of_eq w.symm)))]
      · unfold mo_apart0
        refine ma_b2 (ma_bi (ma_mono (ma_fars (by omega) h.ok h.M b1) fun g q => ?_))
        rw [ma_gde (ma_in_t (by omega) (by omega)), nI_clamp (by omega), q.2 a a1]
        refine ma_some (ma_nm (ma_if (fun z => ma_some ⟨q.1, ?_⟩) (fun z => ma_some ⟨q.1, ?_⟩)))
        · rw [if_pos (hF.1.mp z)]
        · rw [if_neg (fun w => z (hF.1.mpr w))]
    · rw [ma_dec_f.mpr hy, if_pos ma_q0, if_pos ma_q0]
      exact ⟨_, _, _, rfl, rfl, E, kw.rf E, h⟩
  · rw [ma_dec_f.mpr hx, if_pos ma_q0, if_pos ma_q0]
    exact ⟨_, _, _, rfl, rfl, E, kw.rf E, h⟩
theorem ask_way (hN : 131073 ≤ N) (h : iv al E c gc gm) (x y i : Int32) : ma_two al E c (cl11_way N gc x y i) (mo_way N gm x y i) := by
  have hn := h.ok.n
  unfold cl11_way mo_way
  rw [dl_bi_e (ma_hasPlace h.ok h.C x), dl_bi_e (ma_isPlace h.ok h.M x), dl_bi_e (ma_hasPlace h.ok h.C y), dl_bi_e (ma_isPlace h.ok h.M y)]
  by_cases hx : px (en_n E) x
  · rw [ma_dec_t.mpr hx, if_neg ma_q1, if_neg ma_q1]
    by_cases hy : px (en_n E) y
    · rw [ma_dec_t.mpr hy, if_neg ma_q1, if_neg ma_q1]
      by_cases hi : i < 0
      · rw [if_pos hi]
        unfold cl8_placeOn
        rw [if_pos hi]
        exact ⟨_, _, _, rfl, rfl, E, kw.rf E, h⟩
      · rw [if_neg hi]
        obtain ⟨a, a1, rfl⟩ := hx
        obtain ⟨b, b1, rfl⟩ := hy
        obtain ⟨j, j1, rfl⟩ := nI_of hi
        have hF := ma_F _ (ds_le E b a)
        have hle := ds_le E b a
        refine ma_two.by (P := fun x => (∀ k, k ≠ 18 → x.2 k = gc k) ∧ ((ds_d E b a < ds_F ∧ ds_ans E b a j x.1) ∨ (ds_d E b a = ds_F ∧ x.1 = -1))) (Q := fun x => (∀ k, k ≠ 26 → x.2 k = gm k) ∧ ((ds_d E b a < ds_F ∧ ds_ans E b a j x.1) ∨ (ds_d E b a = ds_F ∧ x.1 = -1))) ?_ ?_ fun _ _ p q => ⟨?_, E, kw.rf E, (h.cl (fun k a _ _ => p.1 k a)).m (same_m.f26 q.1)⟩
        · exact ma_b2 (ma_mono (ma_placeOn (by omega) h.ok h.C a1 b1 j1) fun x q => ma_some q)
        · unfold mo_apart0
          refine ma_b2 (ma_bi (ma_mono (ma_fars (by omega) h.ok h.M b1) fun g q => ?_))
          rw [ma_gde (ma_in_t (by omega) (by omega)), nI_clamp (by omega), q.2 a a1]
          refine ma_some (ma_if (fun z => ma_some ⟨q.1, Or.inr ⟨hF.1.mp z, rfl⟩⟩) (fun z => ma_nm (ma_nm ?_)))
          have hM : en_M E g := h.M.same (by rw [q.1 0 (by decide)]) (by rw [q.1 0 (by decide)]) (by rw [q.1 0 (by decide)]) (q.1 1 (by decide)) (q.1 2 (by decide)) (q.1 4 (by decide)) (q.1 5 (by decide)) (q.1 6 (by decide))
          have hlt : ds_d E b a < ds_F := by
            rcases Nat.lt_or_ge (ds_d E b a) ds_F with w | w
            · exact w
            · exact absurd (hF.1.mpr (Nat.le_antisymm hle w)) z
          refine ma_mono (ma_way (by omega) h.ok hM a1 b1 j1 q.2 hlt) fun x w => ?_
          rw [w.1]
          exact ⟨q.1, Or.inl ⟨hlt, w.2⟩⟩
        · rcases p.2 with ⟨p1, p2⟩ | ⟨p1, p2⟩
          · rcases q.2 with ⟨q1, q2⟩ | ⟨q1, q2⟩
            · exact ds_ans_one p2 q2
            · omega
          · rcases q.2 with ⟨q1, q2⟩ | ⟨q1, q2⟩
            · omega
            · exact p2.trans q2.symm
    · rw [ma_dec_f.mpr hy, if_pos ma_q0, if_pos ma_q0]
      exact ⟨_, _, _, rfl, rfl, E, kw.rf E, h⟩
  · rw [ma_dec_f.mpr hx, if_pos ma_q0, if_pos ma_q0]
    exact ⟨_, _, _, rfl, rfl, E, kw.rf E, h⟩
/-! the questions that change nothing -/
theorem ask_status (h : iv al E c gc gm) : ma_one (cl11_status gc) (mo_status gm) := ⟨_, rfl, by rw [h.2.2.2.2.2.2.1]; rfl⟩
theorem cc_kd_e {k : Nat} (hk : k ≤ 4) : cc_kd (nI k) = some (nI k) := (by decide : ∀ k, k < 5 → cc_kd (nI k) = some (nI k)) k (by omega)
theorem ask_told (hN : 131073 ≤ N) (h : iv al E c gc gm) (x y : Int32) : ma_one (cl11_told gc x y) (mo_told N gm x y) := by
  have hn := h.ok.n
  unfold cl11_told mo_told
  rw [dl_bi_e (ma_hasPlace h.ok h.C x), dl_bi_e (ma_isPlace h.ok h.M x)]
  by_cases hx : px (en_n E) x
  · rw [ma_dec_t.mpr hx, if_neg ma_q1, if_neg ma_q1]
    obtain ⟨p, p1, rfl⟩ := hx
    rw [ma_gde (ma_in_t (by omega) (by omega)), nI_clamp (by omega)]
    by_cases y0 : y = 0
    · rw [if_pos y0, if_pos y0, h.C.k p1, dl_bi_e (cc_kd_e (h.ok.k p1)), ma_gde (ma_in_t (by omega) (by omega)), h.M.k p1]
      exact ⟨_, rfl, rfl⟩
    · rw [if_neg y0, if_neg y0]
      by_cases y1 : y = 1
      · rw [if_pos y1, if_pos y1, h.C.w p1, ma_gde (ma_in_t (by omega) (by omega)), h.M.w p1]
        exact ⟨_, rfl, rfl⟩
      · rw [if_neg y1, if_neg y1]
        by_cases y2 : y = 2
        · rw [if_pos y2, if_pos y2, h.M.t, dl_bi_e (ma_degree (by omega) h.ok h.M p1)]
          unfold cl2_streetsAt
          have hl : ma_lo (gc 12 p) 16 := fun i q => h.C.ofl h.ok (by omega) i (by have := h.ok.m; omega)
          have e := ma_cdeg (T := en_t E) h.ok h.C p1 (fun i q => q)
          have e2 : fb_ct (bt (gc 12 p)) 16 = fb_ct (bt (gc 12 p &&& en_t E)) 16 := by
            refine congrArg (fun f => fb_ct f 16) (funext (fun i => ?_))
            rw [b_and, h.C.of (by omega)]
            cases bt (en_t E) i <;> simp
          rw [ma_gde (ma_in_t (by omega) (by omega)), nI_clamp (by omega), dl_bi_e (ma_bitc hl), e2, e]
          exact ⟨_, rfl, rfl⟩
        · rw [if_neg y2, if_neg y2]
          exact ⟨_, rfl, rfl⟩
  · rw [ma_dec_f.mpr hx, if_pos ma_q0, if_pos ma_q0]
    exact ⟨_, rfl, rfl⟩
theorem ask_streetTold (h : iv al E c gc gm) (x y : Int32) : ma_one (cl11_streetTold gc x y) (mo_streetTold gm x y) := by
  have hm := h.ok.m
  unfold cl11_streetTold mo_streetTold
  rw [dl_bi_e (ma_hasStreet h.ok h.C x), dl_bi_e (ma_isStreet h.ok h.M x)]
  by_cases hx : px (en_m E) x
  · rw [ma_dec_t.mpr hx, if_neg ma_q1, if_neg ma_q1]
    obtain ⟨p, p1, rfl⟩ := hx
    rw [nI_clamp (by omega), h.C.a p1, h.C.b p1, h.C.c p1, h.M.a p1, h.M.b p1, h.M.c p1, h.C.t, h.M.t, h.hd.1]
    by_cases y0 : y = 0
    · rw [if_pos y0, if_pos y0, ma_gde (ma_in_t (by omega) (by omega))]
      exact ⟨_, rfl, rfl⟩
    · rw [if_neg y0, if_neg y0]
      by_cases y1 : y = 1
      · rw [if_pos y1, if_pos y1, ma_gde (ma_in_t (by omega) (by omega))]
        exact ⟨_, rfl, rfl⟩
      · rw [if_neg y1, if_neg y1]
        by_cases y2 : y = 2
        · rw [if_pos y2, if_pos y2, ma_gde (ma_in_t (by omega) (by omega))]
          exact ⟨_, rfl, rfl⟩
        · rw [if_neg y2, if_neg y2]
          by_cases y3 : y = 3
          · rw [if_pos y3, if_pos y3]
            exact ⟨_, rfl, rfl⟩
          · rw [if_neg y3, if_neg y3]
            by_cases y4 : y = 4
            · rw [if_pos y4, if_pos y4]
              exact ⟨_, rfl, rfl⟩
            · rw [if_neg y4, if_neg y4]
              exact ⟨_, rfl, rfl⟩
  · rw [ma_dec_f.mpr hx, if_pos ma_q0, if_pos ma_q0]
    exact ⟨_, rfl, rfl⟩
theorem ask_count (hN : 131073 ≤ N) (h : iv al E c gc gm) (x : Int32) : ma_one (cl11_count gc x) (mo_count N gm x) := by
  have hn := h.ok.n
  have hm := h.ok.m
  unfold cl11_count mo_count
  obtain ⟨t, t1, t2, t3, _⟩ := h.2.2.2.2.2.2.2.1
  obtain ⟨L, l1, l2, l3, _⟩ := h.2.2.2.2.1
  rw [h.C.n, h.C.m, h.M.n, h.M.m, t2, t3, l2, l3]
  by_cases y0 : x = 0
  · rw [if_pos y0, if_pos y0]
    exact ⟨_, rfl, rfl⟩
  · rw [if_neg y0, if_neg y0]
    by_cases y1 : x = 1
    · rw [if_pos y1, if_pos y1]
      exact ⟨_, rfl, rfl⟩
    · rw [if_neg y1, if_neg y1]
      by_cases y2 : x = 2
      · rw [if_pos y2, if_pos y2, h.C.t, h.M.t, dl_bi_e (ma_bits (by omega) _), dl_bi_e (ma_bitc (fun i q => h.ok.tl i (by omega)))]
        exact ⟨_, rfl, rfl⟩
      · rw [if_neg y2, if_neg y2]
        by_cases y3 : x = 3
        · rw [if_pos y3, if_pos y3, h.C.taps, dl_bi_e (ma_taps (by omega) h.ok h.M), dl_bi_e (ma_bits (by omega) _), dl_bi_e (ma_bitc (fun i q => en_taps_lo h.ok i (by omega)))]
          exact ⟨_, rfl, rfl⟩
        · rw [if_neg y3, if_neg y3]
          by_cases y4 : x = 4
          · rw [if_pos y4, if_pos y4, h.hd.1, dl_bi_e (ma_bits (by omega) _), dl_bi_e (ma_bitc (fun i q => ?_))]
            · exact ⟨_, rfl, rfl⟩
            · cases e : bt (gm 0 8) i
              · rfl
              · have := h.hl i e
                omega
          · rw [if_neg y4, if_neg y4]
            by_cases y5 : x = 5
            · rw [if_pos y5]
              exact ⟨_, rfl, rfl⟩
            · rw [if_neg y5]
              by_cases y6 : x = 6
              · rw [if_pos y6]
                exact ⟨_, rfl, rfl⟩
              · rw [if_neg y6]
                exact ⟨_, rfl, rfl⟩
theorem ask_trace (h : iv al E c gc gm) (x : Int32) : ma_one (cl11_trace gc x) (mo_trace gm x) := by
  obtain ⟨t, t1, t2, t3, t4⟩ := h.2.2.2.2.2.2.2.1
  have e : mo_trace gm x = mo_trace_b20 gm x x 0 (nI t) := by
    unfold mo_trace
    rw [t3]
    by_cases q : (50 : Int32) ≤ nI t
    · rw [if_pos q]
      have := (ma_le (a := 50) (by omega) (by omega)).mp q
      have : t = 50 := by omega
      subst this
      rfl
    · rw [if_neg q]
  rw [e]
  unfold mo_trace_b20
  rw [dl_bi_e (mo_in_e _ _ _), px_in (by omega)]
  unfold cl11_trace cl5_bodyAt
  rw [t2]
  by_cases hx : px t x
  · rw [ma_dec_t.mpr hx, if_neg ma_q1]
    obtain ⟨p, p1, rfl⟩ := hx
    rw [if_neg (nI_pos (by omega)), if_neg (fun q => absurd ((ma_le (by omega) (by omega)).mp q) (by omega)), ma_gde (ma_in_t (by omega) (by omega)), ma_gde (ma_in_t (by omega) (by omega)), nI_clamp (by omega), t4 p p1]
    exact ⟨_, rfl, rfl⟩
  · rw [ma_dec_f.mpr hx, if_pos ma_q0]
    rcases pk_ix x (show t < 2 ^ 31 by omega) with q | q | ⟨j, j1, j2⟩
    · rw [if_pos q]
      exact ⟨_, rfl, rfl⟩
    · rw [if_pos q, ite_self]
      exact ⟨_, rfl, rfl⟩
    · exact absurd ⟨j, j1, j2⟩ hx
end
