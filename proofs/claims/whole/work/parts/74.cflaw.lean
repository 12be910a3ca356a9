/-! The mathematics: what is wrong with a set of streets, by the class -/
section
variable {E : ma_E} {N : Nat} {T : Int32}
theorem ma_fr20 {g g0 : dl_Sg} (hC : en_C E g0) (h : ∀ k, k ≠ 20 → g k = g0 k) : en_C E g :=
  hC.same (fun i _ _ => by rw [h 1 (by omega)]) (fun k h1 h2 => h k (by omega)) (fun k h1 h2 => h k (by omega))
theorem ma_joinGroups (hN : 17 ≤ N) (ho : en_ok E) {g0 : dl_Sg} (hC : en_C E g0) (J : Int32) : ma_wp (cl6_joinGroups N g0 J) (fun g => (∀ k, k ≠ 20 → g k = g0 k) ∧ ∀ p, p < en_n E → g 20 p = if bt J p = true then J else g0 20 p) := by
  have hn := ho.n
  unfold cl6_joinGroups
  rw [ma_nme]
  refine ma_loop (fun k p (g : dl_Sg) => cl6_joinGroups_b2 N k J (nI p) g) (fun m g => (∀ k, k ≠ 20 → g k = g0 k) ∧ ∀ p, p < en_n E → g 20 p = if p < m ∧ bt J p = true then J else g0 20 p) _ (en_n E) ?_ ?_ N 0 g0 (by omega) (by omega) ⟨fun _ _ => rfl, fun p _ => by rw [if_neg (fun q => absurd q.1 (Nat.not_lt_zero p))]⟩
  · rintro k g ⟨h1, h2⟩
    rw [cl6_joinGroups_b2, (ma_fr20 hC h1).n, if_pos ((ma_le (by omega) (by omega)).mpr (by omega))]
    refine ma_some ⟨h1, fun p hp => ?_⟩
    rw [h2 p hp]
    by_cases q : bt J p = true
    · rw [if_pos ⟨hp, q⟩, if_pos q]
    · rw [if_neg (fun z => q z.2), if_neg q]
  · rintro k p g hp ⟨h1, h2⟩ ih
    rw [cl6_joinGroups_b2, (ma_fr20 hC h1).n, if_neg (fun q => absurd ((ma_le (by omega) (by omega)).mp q) (by omega)), dl_bi_e (ma_bitAt _ (by omega))]
    unfold cl6_joinGroups_b29
    by_cases q : bt J p = true
    · rw [if_pos q, if_pos rfl, ma_gde (ma_in_t (by omega) (by omega)), ma_nme, ma_nme, nI_1, ma_wr _ (by omega)]
      refine ih _ ⟨fun k hk => ?_, fun x hx => ?_⟩
      · rw [show dl_s2 g 20 p J k = g k from if_neg hk]; exact h1 k hk
      · rw [ma_s2]
        by_cases e : x = p
        · subst e; rw [if_pos ⟨rfl, rfl⟩, if_pos ⟨Nat.lt_succ_self x, q⟩]
        · rw [if_neg (fun z => e z.2), h2 x hx]
          by_cases c : x < p ∧ bt J x = true
          · rw [if_pos c, if_pos ⟨by omega, c.2⟩]
          · rw [if_neg c, if_neg (fun z => c ⟨by have := z.1; omega, z.2⟩)]
    · rw [if_neg q, if_neg (by decide), ma_nme, nI_1]
      refine ih _ ⟨h1, fun x hx => ?_⟩
      rw [h2 x hx]
      by_cases c : x < p ∧ bt J x = true
      · rw [if_pos c, if_pos ⟨by omega, c.2⟩]
      · rw [if_neg c, if_neg (fun z => c ⟨by have := z.1; have : x ≠ p := fun w => q (w ▸ z.2); omega, z.2⟩)]
theorem fl_end_s {k p : Nat} : fl_end E T (k + 1) p ↔ fl_end E T k p ∨ (bt T k = true ∧ (en_a E k = p ∨ en_b E k = p)) := by
  constructor
  · rintro ⟨s, h1, h2, h3⟩
    rcases Nat.lt_or_ge s k with q | q
    · exact Or.inl ⟨s, q, h2, h3⟩
    · have e : s = k := by omega
      subst e
      exact Or.inr ⟨h2, h3⟩
  · rintro (⟨s, h1, h2, h3⟩ | ⟨h2, h3⟩)
    · exact ⟨s, by omega, h2, h3⟩
    · exact ⟨k, by omega, h2, h3⟩
theorem ma_ext {x y : Int32} (h : ∀ i, bt x i = true ↔ bt y i = true) : x = y := b_ext fun i _ => by
  cases e : bt y i
  · exact Bool.eq_false_iff.mpr (fun q => by rw [h, e] at q; cases q)
  · exact (h i).mpr e
theorem ma_endsOf (hN : 17 ≤ N) (ho : en_ok E) {g : dl_Sg} (hC : en_C E g) : cl6_endsOf N g T = some (en_ends E T (en_m E)) := by
  have hn := ho.n
  have hm := ho.m
  refine ma_is ?_
  unfold cl6_endsOf
  rw [ma_nme, ma_nme]
  refine ma_loop (fun k s (x : Int32) => cl6_endsOf_b4 N g k T x (nI s)) (fun s x => x = en_ends E T s) _ (en_m E) ?_ ?_ N 0 0 (by omega) (by omega) ?_
  · rintro k x h
    rw [cl6_endsOf_b4, hC.m, if_pos ((ma_le (by omega) (by omega)).mpr (by omega))]
    exact ma_some h
  · rintro k s x hs h ih
    have ha := ho.a hs
    have hb := ho.b hs
    rw [cl6_endsOf_b4, hC.m, if_neg (fun q => absurd ((ma_le (by omega) (by omega)).mp q) (by omega)), dl_bi_e (ma_bitAt _ (by omega))]
    unfold cl6_endsOf_b36
    by_cases q : bt T s = true
    · rw [if_pos q, if_pos rfl, ma_gde (ma_in_t (by omega) (by omega)), ma_nme, ma_nme, nI_1, nI_clamp (by omega)]
      refine ih _ (ma_ext fun i => ?_)
      rw [b_or, hC.eb ho hs, h, Bool.or_eq_true, Bool.or_eq_true, decide_eq_true_iff, decide_eq_true_iff, en_ends_b ho (by omega), en_ends_b ho (by omega), fl_end_s]
      constructor
      · rintro (w | w | w)
        · exact Or.inl w
        · exact Or.inr ⟨q, Or.inl w.symm⟩
        · exact Or.inr ⟨q, Or.inr w.symm⟩
      · rintro (w | ⟨_, w | w⟩)
        · exact Or.inl w
        · exact Or.inr (Or.inl w.symm)
        · exact Or.inr (Or.inr w.symm)
    · rw [if_neg q, if_neg (by decide), ma_nme, nI_1]
      refine ih _ ?_
      rw [h]
      refine ma_ext fun i => ?_
      rw [en_ends_b ho (by omega), en_ends_b ho (by omega), fl_end_s]
      exact ⟨Or.inl, fun w => w.resolve_right (fun z => q z.1)⟩
  · refine ma_ext fun i => ?_
    rw [b_0, en_ends_b ho (by omega)]
    exact ⟨fun w => absurd w (by decide), fun ⟨s, h, _⟩ => absurd h (Nat.not_lt_zero s)⟩
theorem en_onetap (ho : en_ok E) (h0 : ¬ en_taps E = 0) : fb_ct (bt (en_taps E)) 16 = 1 ↔ ∀ p q, sp_tap E p → sp_tap E q → p = q := by
  have hn := ho.n
  have htap : ∀ p, bt (en_taps E) p = true ↔ sp_tap E p := fun p => by
    rw [en_taps_b ho, Bool.and_eq_true, decide_eq_true_iff]
    exact Iff.rfl
  rw [ma_ct_one]
  constructor
  · rintro ⟨i, i1, i2, i3⟩ p q hp hq
    have h1 := hp.1
    have h2 := hq.1
    rw [i3 p (by omega) ((htap p).mpr hp), i3 q (by omega) ((htap q).mpr hq)]
  · intro h
    obtain ⟨i, _, hi⟩ := ma_nz h0
    have hi' := (htap i).mp hi
    have h1 := hi'.1
    exact ⟨i, by omega, hi, fun j _ hj => h j i ((htap j).mp hj) hi'⟩
/-- the last look of both: the taps, and what has them -/
theorem fl_last (ho : en_ok E) {P : Int32} (hP : ∀ p, sp_tap E p → (bt P p = true ↔ fl_pl E T p)) : fl_good E T ↔ ¬ en_taps E = 0 ∧ en_taps E &&& (P ^^^ (-1 : Int32)) = 0 := by
  have hn := ho.n
  have htap : ∀ p, bt (en_taps E) p = true ↔ sp_tap E p := fun p => by
    rw [en_taps_b ho, Bool.and_eq_true, decide_eq_true_iff]
    exact Iff.rfl
  constructor
  · rintro ⟨⟨p, hp⟩, h⟩
    refine ⟨fun e => ?_, ma_z.mpr fun i hi => ?_⟩
    · have := (htap p).mpr hp
      rw [e, b_0] at this
      cases this
    · rw [b_and, ma_bn _ hi]
      cases e : bt (en_taps E) i
      · rfl
      · have := (hP i ((htap i).mp e)).mpr (h i ((htap i).mp e))
        rw [this]; rfl
  · rintro ⟨h1, h2⟩
    obtain ⟨i, _, hi⟩ := ma_nz h1
    refine ⟨⟨i, (htap i).mp hi⟩, fun p hp => (hP p hp).mp ?_⟩
    have hp1 := hp.1
    have := ma_z.mp h2 p (by omega)
    rw [b_and, ma_bn _ (by omega), (htap p).mpr hp, Bool.true_and] at this
    cases e : bt P p
    · rw [e] at this; cases this
    · rfl
/-- the class's look at a set of streets -/
theorem ma_flawOf (hN : 17 ≤ N) (ho : en_ok E) {g0 : dl_Sg} (hC : en_C E g0) (hT : ∀ i, bt T i = true → i < en_m E) : ma_wp (cl6_flawOf N g0 T) (fun x => (∀ k, k ≠ 20 → x.2 k = g0 k) ∧ fl_is E T x.1) := by
  have hn := ho.n
  have hm := ho.m
  -- the streets, one by one
  have key : ∀ k s (x : Int32 × dl_Sg), s ≤ en_m E → en_m E - s < k → ((∀ k, k ≠ 20 → x.2 k = g0 k) ∧ (∀ p, p < en_n E → ∀ q, bt (x.2 20 p) q = true ↔ cn_R E T s p q) ∧ ¬ fl_ring E T s ∧ ((x.1 = 0 ∧ ∀ s', s' < s → bt T s' = false) ∨ ∃ s0, s0 < s ∧ bt T s0 = true ∧ ∀ q, bt x.1 q = true ↔ cn_R E T s (en_a E s0) q)) → ma_wp (cl6_flawOf_b32 N k T x.1 (nI s) x.2) (fun x => (∀ k, k ≠ 20 → x.2 k = g0 k) ∧ fl_is E T x.1) := by
    refine ma_loop (fun k s (x : Int32 × dl_Sg) => cl6_flawOf_b32 N k T x.1 (nI s) x.2) _ _ (en_m E) ?_ ?_
    · rintro k x ⟨hfr, hG, hR, hL⟩
      have hC1 := ma_fr20 hC hfr
      rw [cl6_flawOf_b32, hC1.m, if_pos ((ma_le (by omega) (by omega)).mpr (by omega)), dl_bi_e (ma_endsOf hN ho hC1), ma_nme]
      have hTz : T = 0 ↔ ∀ s, s < en_m E → bt T s = false := by
        rw [ma_z]
        constructor
        · intro h s hs; exact h s (by omega)
        · intro h i hi
          rcases Nat.lt_or_ge i (en_m E) with q | q
          · exact h i q
          · exact Bool.eq_false_iff.mpr (fun z => by have := hT i z; omega)
      -- the last look
      have last : fl_one E T → ma_wp (cl6_flawOf_b127 N T (en_ends E T (en_m E)) x.2) (fun x => (∀ k, k ≠ 20 → x.2 k = g0 k) ∧ fl_is E T x.1) := by
        intro hone
        unfold cl6_flawOf_b127 cl6_flawOf_b160 cl6_flawOf_b161
        rw [hC1.taps]
        by_cases c0 : en_taps E = 0
        · rw [if_pos c0, ma_nme, if_pos rfl]
          refine ma_some ⟨hfr, Or.inr (Or.inr ⟨hR, hone, Or.inr ⟨fun hg => ?_, rfl⟩⟩)⟩
          obtain ⟨⟨p, hp⟩, _⟩ := hg
          have := (en_taps_0 ho).mp c0 p hp.1
          rw [hp.2] at this
          cases this
        · rw [if_neg c0]
          have pl : ∃ P, cl6_placesOf x.2 T (en_ends E T (en_m E)) = some P ∧ ∀ p, sp_tap E p → (bt P p = true ↔ fl_pl E T p) := by
            have htap : ∀ p, bt (en_taps E) p = true ↔ sp_tap E p := fun p => by
              rw [en_taps_b ho, Bool.and_eq_true, decide_eq_true_iff]
              exact Iff.rfl
            unfold cl6_placesOf cl6_placesOf_b22 cl6_placesOf_b23
            rw [hC1.taps]
            by_cases t0 : T = 0
            · rw [if_pos t0, dl_bi_e (ma_bitc ((en_taps_lo ho).up (by omega)))]
              have e1 : nI (fb_ct (bt (en_taps E)) 16) = (1 : Int32) ↔ fb_ct (bt (en_taps E)) 16 = 1 := by
                have := fb_ct_le (bt (en_taps E)) 16
                exact nI_eq (b := 1) (by omega) (by omega)
              by_cases c1 : fb_ct (bt (en_taps E)) 16 = 1
              · rw [if_pos (e1.mpr c1), ma_nme, if_neg (by decide)]
                refine ⟨_, rfl, fun p hp => ⟨fun _ => Or.inr ⟨t0, fun q hq => ?_⟩, fun _ => (htap p).mpr hp⟩⟩
                exact (en_onetap ho c0).mp c1 q p hq hp
              · rw [if_neg (fun q => c1 (e1.mp q)), ma_nme, if_pos rfl]
                refine ⟨_, rfl, fun p hp => ?_⟩
                rw [en_ends_b ho (Nat.le_refl _)]
                refine ⟨Or.inl, fun q => ?_⟩
                rcases q with q | ⟨_, q⟩
                · exact q
                · refine absurd ((en_onetap ho c0).mpr (fun a b ha hb => ?_)) c1
                  rw [q a ha, q b hb]
            · rw [if_neg t0, ma_nme, if_pos rfl]
              refine ⟨_, rfl, fun p hp => ?_⟩
              rw [en_ends_b ho (Nat.le_refl _)]
              exact ⟨Or.inl, fun q => q.resolve_right (fun z => t0 z.1)⟩
          obtain ⟨P, eP, hP⟩ := pl
          rw [dl_bi_e eP]
          have hg := fl_last (T := T) ho hP
          by_cases c1 : en_taps E &&& (P ^^^ (-1 : Int32)) = 0
          · rw [if_pos c1, ma_nme, if_neg (by decide)]
            exact ma_some ⟨hfr, Or.inr (Or.inr ⟨hR, hone, Or.inl ⟨hg.mpr ⟨c0, c1⟩, rfl⟩⟩)⟩
          · rw [if_neg c1, ma_nme, if_pos rfl]
            exact ma_some ⟨hfr, Or.inr (Or.inr ⟨hR, hone, Or.inr ⟨fun q => c1 (hg.mp q).2, rfl⟩⟩)⟩
      by_cases t0 : T = 0
      · rw [if_pos t0]
        refine last (fun p q hp _ => ?_)
        obtain ⟨s, h1, h2, _⟩ := hp
        rw [hTz.mp t0 s h1] at h2
        cases h2
      · rw [if_neg t0]
        rcases hL with ⟨_, h2⟩ | ⟨s0, h1, h2, h3⟩
        · exact absurd (hTz.mpr h2) t0
        · have ha0 : fl_end E T (en_m E) (en_a E s0) := ⟨s0, h1, h2, Or.inl rfl⟩
          by_cases c : x.1 = en_ends E T (en_m E)
          · rw [if_pos c]
            refine last (fun p q hp hq => ?_)
            rw [← en_ends_b ho (Nat.le_refl _), ← c, h3] at hp hq
            exact cn_t (cn_s hp) hq
          · rw [if_neg c]
            refine ma_some ⟨hfr, Or.inr (Or.inl ⟨hR, fun hone => c (ma_ext fun i => ?_), rfl⟩)⟩
            rw [h3, en_ends_b ho (Nat.le_refl _)]
            constructor
            · intro w
              rcases cn_end w with w | w
              · rw [w]; exact ha0
              · exact w
            · intro w
              exact hone _ _ ha0 w
    · rintro k s x hs ⟨hfr, hG, hR, hL⟩ ih
      have hC1 := ma_fr20 hC hfr
      have ha := ho.a hs
      have hb := ho.b hs
      rw [cl6_flawOf_b32, hC1.m, if_neg (fun q => absurd ((ma_le (by omega) (by omega)).mp q) (by omega)), dl_bi_e (ma_bitAt _ (by omega))]
      unfold cl6_flawOf_b104
      by_cases ht : bt T s = true
      · rw [if_pos ht, if_pos rfl, ma_gde (ma_in_t (by omega) (by omega)), nI_clamp (by omega), hC1.a hs, hC1.b hs, ma_gde (ma_in_t (by omega) (by omega)), nI_clamp (by omega), ma_nme, ma_gde (ma_in_t (by omega) (by omega)), ma_gde (ma_in_t (by omega) (by omega)), nI_clamp (by omega), ma_nme]
        have same : x.2 20 (en_a E s) = x.2 20 (en_b E s) ↔ cn_R E T s (en_a E s) (en_b E s) := by
          constructor
          · intro e
            rw [← hG _ ha, e, hG _ hb]
            exact cn_0
          · intro h
            refine ma_ext fun i => ?_
            rw [hG _ ha, hG _ hb]
            exact ⟨fun w => cn_t (cn_s h) w, fun w => cn_t h w⟩
        by_cases c : x.2 20 (en_a E s) = x.2 20 (en_b E s)
        · rw [if_pos c]
          exact ma_some ⟨hfr, Or.inl ⟨⟨s, hs, ht, same.mp c⟩, rfl⟩⟩
        · rw [if_neg c, ma_nme]
          obtain ⟨g1, e1, hfr1, hg1⟩ := ma_joinGroups hN ho hC1 (x.2 20 (en_a E s) ||| x.2 20 (en_b E s))
          rw [dl_bi_e e1, ma_nme, nI_1]
          have hJ : ∀ q, bt (x.2 20 (en_a E s) ||| x.2 20 (en_b E s)) q = true ↔ cn_R E T s (en_a E s) q ∨ cn_R E T s (en_b E s) q := fun q => by
            rw [b_or, Bool.or_eq_true, hG _ ha, hG _ hb]
          refine ih (x.2 20 (en_a E s) ||| x.2 20 (en_b E s), g1) ⟨fun k hk => (hfr1 k hk).trans (hfr k hk), fun p hp q => ?_, ?_, Or.inr ⟨s, Nat.lt_succ_self s, ht, fun q => ?_⟩⟩
          · show bt (g1 20 p) q = true ↔ _
            rw [hg1 p hp, cn_add ht]
            by_cases w : bt (x.2 20 (en_a E s) ||| x.2 20 (en_b E s)) p = true
            · rw [if_pos w, hJ]
              rcases (hJ p).mp w with w | w
              · constructor
                · rintro (z | z)
                  · exact Or.inl (cn_t (cn_s w) z)
                  · exact Or.inr (Or.inl ⟨cn_s w, z⟩)
                · rintro (z | ⟨_, z⟩ | ⟨_, z⟩)
                  · exact Or.inl (cn_t w z)
                  · exact Or.inr z
                  · exact Or.inl z
              · constructor
                · rintro (z | z)
                  · exact Or.inr (Or.inr ⟨cn_s w, z⟩)
                  · exact Or.inl (cn_t (cn_s w) z)
                · rintro (z | ⟨_, z⟩ | ⟨_, z⟩)
                  · exact Or.inr (cn_t w z)
                  · exact Or.inr z
                  · exact Or.inl z
            · rw [if_neg w, hG p hp]
              refine ⟨Or.inl, ?_⟩
              rintro (z | ⟨z, _⟩ | ⟨z, _⟩)
              · exact z
              · exact absurd ((hJ p).mpr (Or.inl (cn_s z))) w
              · exact absurd ((hJ p).mpr (Or.inr (cn_s z))) w
          · rintro ⟨s', h1, h2, h3⟩
            rcases Nat.lt_or_ge s' s with q | q
            · exact hR ⟨s', q, h2, h3⟩
            · have e : s' = s := by omega
              subst e
              exact c (same.mpr h3)
          · show bt (x.2 20 (en_a E s) ||| x.2 20 (en_b E s)) q = true ↔ _
            rw [hJ, cn_add ht]
            constructor
            · rintro (z | z)
              · exact Or.inl z
              · exact Or.inr (Or.inl ⟨cn_0, z⟩)
            · rintro (z | ⟨_, z⟩ | ⟨_, z⟩)
              · exact Or.inl z
              · exact Or.inr z
              · exact Or.inl z
      · rw [if_neg ht, if_neg (by decide), ma_nme, nI_1]
        have hf := Bool.eq_false_iff.mpr ht
        refine ih x ⟨hfr, fun p hp q => by rw [hG p hp, cn_no hf], ?_, ?_⟩
        · rintro ⟨s', h1, h2, h3⟩
          rcases Nat.lt_or_ge s' s with q | q
          · exact hR ⟨s', q, h2, h3⟩
          · have e : s' = s := by omega
            subst e
            exact ht h2
        · rcases hL with ⟨h1, h2⟩ | ⟨s0, h1, h2, h3⟩
          · refine Or.inl ⟨h1, fun s' hs' => ?_⟩
            rcases Nat.lt_or_ge s' s with q | q
            · exact h2 s' q
            · have e : s' = s := by omega
              subst e
              exact hf
          · exact Or.inr ⟨s0, by omega, h2, fun q => by rw [h3, cn_no hf]⟩
  -- the start
  unfold cl6_flawOf
  rw [ma_nme]
  refine ma_loop (fun k p (g : dl_Sg) => cl6_flawOf_b2 N k T (nI p) g) (fun m g => (∀ k, k ≠ 20 → g k = g0 k) ∧ ∀ p, p < m → g 20 p = (1 : Int32) <<< (nI p &&& 31)) _ (en_n E) ?_ ?_ N 0 g0 (by omega) (by omega) ⟨fun _ _ => rfl, fun p hp => absurd hp (Nat.not_lt_zero p)⟩
  · rintro k g ⟨h1, h2⟩
    rw [cl6_flawOf_b2, (ma_fr20 hC h1).n, if_pos ((ma_le (by omega) (by omega)).mpr (by omega)), ma_nme, ma_nme]
    refine key N 0 (0, g) (by omega) (by omega) ⟨h1, fun p hp q => ?_, fun ⟨s, h, _⟩ => absurd h (Nat.not_lt_zero s), Or.inl ⟨rfl, fun s hs => absurd hs (Nat.not_lt_zero s)⟩⟩
    show bt (g 20 p) q = true ↔ _
    rw [h2 p hp, ma_b1 (by omega), decide_eq_true_iff]
    exact ⟨fun e => by rw [e]; exact cn_0, fun h => cn_k0 h⟩
  · rintro k p g hp ⟨h1, h2⟩ ih
    rw [cl6_flawOf_b2, (ma_fr20 hC h1).n, if_neg (fun q => absurd ((ma_le (by omega) (by omega)).mp q) (by omega)), ma_gde (ma_in_t (by omega) (by omega)), ma_nme, ma_nme, nI_1, ma_wr _ (by omega)]
    refine ih _ ⟨fun k hk => ?_, fun x hx => ?_⟩
    · rw [show dl_s2 g 20 p ((1 : Int32) <<< (nI p &&& 31)) k = g k from if_neg hk]; exact h1 k hk
    · rw [ma_s2]
      by_cases e : x = p
      · subst e; rw [if_pos ⟨rfl, rfl⟩]
      · rw [if_neg (fun z => e z.2)]; exact h2 x (by omega)
end
