/-! The mathematics: the span, as both sides work it out -/
section
variable {E : ma_E} {N : Nat}
theorem ma_fr1819 {g g0 : dl_Sg} (hC : en_C E g0) (h : ∀ k, k ≠ 18 → k ≠ 19 → g k = g0 k) : en_C E g :=
  hC.same (fun i _ _ => by rw [h 1 (by omega) (by omega)]) (fun k h1 h2 => h k (by omega) (by omega)) (fun k h1 h2 => h k (by omega) (by omega))
/-- f p is how far p is from the nearest of S -/
def sp_T (E : ma_E) (S : Nat → Prop) (f : Nat → Nat) : Prop := ∀ p, p < en_n E → f p ≤ ds_F ∧ (∀ j, S j → f p ≤ ds_d E j p) ∧ (f p < ds_F → ∃ j, S j ∧ f p = ds_d E j p)
theorem ma_comeNearer (hN : 17 ≤ N) (ho : en_ok E) {g0 : dl_Sg} (hC : en_C E g0) {j : Nat} (hj : j < en_n E) {S : Nat → Prop} {f : Nat → Nat} (hf : ma_row E 19 f g0) (hT : sp_T E S f) : ma_wp (cl8_comeNearer N g0 (nI j)) (fun g => (∀ k, k ≠ 18 → k ≠ 19 → g k = g0 k) ∧ ∃ f', ma_row E 19 f' g ∧ sp_T E (fun z => S z ∨ z = j) f') := by
  have hn := ho.n
  have hFF : ds_F = 100000000 := rfl
  unfold cl8_comeNearer
  obtain ⟨g1, e1, hfr, hd⟩ := ma_measure hN ho hC hj
  rw [dl_bi_e e1, ma_nme]
  have hC1 := ma_fr18 hC hfr
  refine ma_loop (fun k p (g : dl_Sg) => cl8_comeNearer_b7 N k (nI p) g) (fun p g => (∀ k, k ≠ 19 → g k = g1 k) ∧ ∀ x, x < en_n E → g 19 x = nI (if x < p then (if ds_d E j x < f x then ds_d E j x else f x) else f x)) _ (en_n E) ?_ ?_ N 0 g1 (by omega) (by omega) ⟨fun _ _ => rfl, fun x hx => ?_⟩
  · rintro k g ⟨h1, h2⟩
    rw [cl8_comeNearer_b7, show g 1 10 = nI (en_n E) by rw [h1 1 (by omega)]; exact hC1.n, if_pos ((ma_le (by omega) (by omega)).mpr (by omega))]
    refine ma_some ⟨fun k q1 q2 => by rw [h1 k q2, hfr k q1], fun x => if ds_d E j x < f x then ds_d E j x else f x, fun x hx => ?_, fun x hx => ?_⟩
    · rw [h2 x hx, if_pos hx]
    · obtain ⟨t1, t2, t3⟩ := hT x hx
      have t4 := ds_le E j x
      show (if ds_d E j x < f x then ds_d E j x else f x) ≤ ds_F ∧ _
      by_cases q : ds_d E j x < f x
      · simp only [if_pos q]
        refine ⟨t4, fun i hi => ?_, fun _ => ⟨j, Or.inr rfl, rfl⟩⟩
        rcases hi with hi | hi
        · have := t2 i hi; omega
        · subst hi; exact Nat.le_refl _
      · simp only [if_neg q]
        refine ⟨t1, fun i hi => ?_, fun h => ?_⟩
        · rcases hi with hi | hi
          · exact t2 i hi
          · subst hi; omega
        · obtain ⟨i, i1, i2⟩ := t3 h
          exact ⟨i, Or.inl i1, i2⟩
  · rintro k p g hp ⟨h1, h2⟩ ih
    obtain ⟨t1, _, _⟩ := hT p hp
    have t4 := ds_le E j p
    rw [cl8_comeNearer_b7, show g 1 10 = nI (en_n E) by rw [h1 1 (by omega)]; exact hC1.n, if_neg (fun q => absurd ((ma_le (by omega) (by omega)).mp q) (by omega)), ma_gde (ma_in_t (by omega) (by omega)), ma_gde (ma_in_t (by omega) (by omega)), ma_gde (ma_in_t (by omega) (by omega)), ma_nme, ma_nme, nI_1, ma_wr _ (by omega), nI_clamp (by omega), show g 18 p = nI (ds_d E j p) by rw [h1 18 (by omega)]; exact hd p hp, h2 p hp, if_neg (Nat.lt_irrefl p)]
    refine ih _ ⟨fun k q => ?_, fun x hx => ?_⟩
    · rw [show dl_s2 g 19 p (if nI (ds_d E j p) < nI (f p) then nI (ds_d E j p) else nI (f p)) k = g k from if_neg q]; exact h1 k q
    · rw [ma_s2]
      by_cases e : x = p
      · subst e
        rw [if_pos ⟨rfl, rfl⟩, if_pos (Nat.lt_succ_self x)]
        by_cases c : ds_d E j x < f x
        · rw [if_pos ((ma_lt (by omega) (by omega)).mpr c), if_pos c]
        · rw [if_neg (fun q => c ((ma_lt (by omega) (by omega)).mp q)), if_neg c]
      · rw [if_neg (fun q => e q.2), h2 x hx]
        by_cases c : x < p
        · rw [if_pos c, if_pos (show x < p + 1 by omega)]
        · rw [if_neg c, if_neg (show ¬ x < p + 1 by omega)]
  · rw [if_neg (Nat.not_lt_zero x), hfr 19 (by omega)]
    exact hf x hx
theorem ma_nearestOf (hN : 17 ≤ N) (ho : en_ok E) {g : dl_Sg} (hC : en_C E g) {f : Nat → Nat} (hf : ma_row E 19 f g) (hF : ∀ p, p < en_n E → f p ≤ ds_F) (w : Int32) : ma_wp (cl8_nearestOf N g w) (fun r => (r = -1 ∧ ∀ p, p < en_n E → bt w p = true → ds_F ≤ f p) ∨ ∃ p, p < en_n E ∧ r = nI p ∧ bt w p = true ∧ f p < ds_F ∧ ∀ q, q < en_n E → bt w q = true → f p ≤ f q) := by
  have hn := ho.n
  have hFF : ds_F = 100000000 := rfl
  unfold cl8_nearestOf
  rw [ma_nme, ma_nme, ma_nme]
  refine ma_loop (fun k p (x : Int32 × Int32) => cl8_nearestOf_b8 N g k w x.1 x.2 (nI p)) (fun m x => (x.1 = -1 ∧ x.2 = nI ds_F ∧ ∀ p, p < m → bt w p = true → ds_F ≤ f p) ∨ ∃ p, p < en_n E ∧ x.1 = nI p ∧ x.2 = nI (f p) ∧ bt w p = true ∧ f p < ds_F ∧ ∀ q, q < m → bt w q = true → f p ≤ f q) _ (en_n E) ?_ ?_ N 0 (-1, 100000000) (by omega) (by omega) (Or.inl ⟨rfl, rfl, fun p hp => absurd hp (by omega)⟩)
  · rintro k x h
    rw [cl8_nearestOf_b8, hC.n, if_pos ((ma_le (by omega) (by omega)).mpr (by omega))]
    refine ma_some ?_
    rcases h with ⟨h1, _, h3⟩ | ⟨p, h1, h2, _, h4⟩
    · exact Or.inl ⟨h1, h3⟩
    · exact Or.inr ⟨p, h1, h2, h4⟩
  · rintro k p x hp h ih
    rw [cl8_nearestOf_b8, hC.n, if_neg (fun q => absurd ((ma_le (by omega) (by omega)).mp q) (by omega)), dl_bi_e (ma_bitAt _ (by omega))]
    have hfp := hF p hp
    by_cases hb : bt w p = true
    · rw [if_pos hb, if_pos rfl, ma_gde (ma_in_t (by omega) (by omega)), nI_clamp (by omega), hf p hp]
      unfold cl8_nearestOf_b52
      -- the sum so far
      obtain ⟨B, hB, hx2⟩ : ∃ B, B ≤ ds_F ∧ x.2 = nI B := by
        rcases h with ⟨_, h2, _⟩ | ⟨q, _, _, h2, _, h3, _⟩
        · exact ⟨ds_F, Nat.le_refl _, h2⟩
        · exact ⟨f q, by omega, h2⟩
      by_cases c : B ≤ f p
      · rw [hx2, if_pos ((ma_le (by omega) (by omega)).mpr c), ma_nme, nI_1, ← hx2]
        refine ih x ?_
        rcases h with ⟨h1, h2, h3⟩ | ⟨q, h1, h2, h3, h4, h5, h6⟩
        · refine Or.inl ⟨h1, h2, fun q hq hbq => ?_⟩
          by_cases e : q = p
          · subst e
            have : B = ds_F := (nI_eq (by omega) (by omega)).mp (hx2.symm.trans h2)
            omega
          · exact h3 q (by omega) hbq
        · refine Or.inr ⟨q, h1, h2, h3, h4, h5, fun u hu hbu => ?_⟩
          by_cases e : u = p
          · subst e
            have : B = f q := (nI_eq (by omega) (by omega)).mp (hx2.symm.trans h3)
            omega
          · exact h6 u (by omega) hbu
      · rw [hx2, if_neg (fun q => c ((ma_le (by omega) (by omega)).mp q)), ma_nme, ma_gde (ma_in_t (by omega) (by omega)), ma_nme, ma_nme, nI_1]
        refine ih (nI p, nI (f p)) (Or.inr ⟨p, hp, rfl, rfl, hb, by omega, fun u hu hbu => ?_⟩)
        by_cases e : u = p
        · subst e; exact Nat.le_refl _
        · rcases h with ⟨h1, h2, h3⟩ | ⟨q, h1, h2, h3, h4, h5, h6⟩
          · have := h3 u (by omega) hbu; omega
          · have : B = f q := (nI_eq (by omega) (by omega)).mp (hx2.symm.trans h3)
            have := h6 u (by omega) hbu
            omega
    · rw [if_neg hb, if_neg (by decide)]
      unfold cl8_nearestOf_b52
      rw [ma_nme, nI_1]
      refine ih x ?_
      rcases h with ⟨h1, h2, h3⟩ | ⟨q, h1, h2, h3, h4, h5, h6⟩
      · refine Or.inl ⟨h1, h2, fun q hq hbq => ?_⟩
        by_cases e : q = p
        · subst e; exact absurd hbq hb
        · exact h3 q (by omega) hbq
      · refine Or.inr ⟨q, h1, h2, h3, h4, h5, fun u hu hbu => ?_⟩
        by_cases e : u = p
        · subst e; exact absurd hbu hb
        · exact h6 u (by omega) hbu
/-- the class's span -/
theorem ma_cspan (hN : 17 ≤ N) (ho : en_ok E) {g0 : dl_Sg} (hC : en_C E g0) : ma_wp (cl11_span N g0) (fun x => (∀ k, k ≠ 18 → k ≠ 19 → x.2 k = g0 k) ∧ sp_ans E ds_F x.1) := by
  have hn := ho.n
  have hFF : ds_F = 100000000 := rfl
  have htap : ∀ p, sp_tap E p ↔ bt (en_taps E) p = true := fun p => by
    rw [en_taps_b ho, Bool.and_eq_true, decide_eq_true_iff]
    exact Iff.rfl
  unfold cl11_span
  refine ma_b2 (ma_mono (P := fun x => (∀ k, k ≠ 18 → k ≠ 19 → x.2 k = g0 k) ∧ sp_ans E ds_F x.1) ?_ (fun a h => ma_some h))
  unfold cl8_spanOfTaps
  rw [hC.taps]
  by_cases h0 : en_taps E = 0
  · rw [if_pos h0]
    refine ma_some ⟨fun _ _ _ => rfl, Or.inl ⟨fun p hp => ?_, rfl⟩⟩
    rw [htap, h0, b_0] at hp
    cases hp
  · rw [if_neg h0, ma_nme, show dl_fi g0 19 10 (100000000 : Int32) 1 12 = en_taps E from hC.taps]
    obtain ⟨root, r1, r2, r3, r4, _⟩ := ma_ntz ((en_taps_lo ho).up (by omega)) h0
    rw [dl_bi_e r4, ma_nme, ma_nme, ma_nme, ma_nme]
    have hroot := (htap root).mpr r2
    have hmin : ∀ p, p < root → ¬ sp_tap E p := fun p hp q => by
      rw [htap, r3 p hp] at q; cases q
    -- the loop
    have key : ∀ k r (j : Nat) (w : Int32) (sum : Nat) (g : dl_Sg) (S S' : Nat → Prop) (f : Nat → Nat), (∀ k, k ≠ 18 → k ≠ 19 → g k = g0 k) → j < en_n E → (∀ p, bt w p = true ↔ sp_tap E p ∧ ¬ S p) → sp_I E ds_F root S sum → (∀ p, S p ↔ S' p ∨ p = j) → ma_row E 19 f g → sp_T E S' f → fb_ct (bt w) 10 + r ≤ 9 → fb_ct (bt w) 10 < k → ma_wp (cl8_spanOfTaps_b52 N k (nI j) w (nI sum) (nI r) g) (fun x => (∀ k, k ≠ 18 → k ≠ 19 → x.2 k = g0 k) ∧ sp_ans E ds_F x.1) := by
      intro k
      induction k with
      | zero => intro r j w sum g S S' f _ _ _ _ _ _ _ _ h; omega
      | succ k ih =>
        intro r j w sum g S S' f hfr hj hw hI hS hf hT hr hk
        have hC1 := ma_fr1819 hC hfr
        rw [cl8_spanOfTaps_b52, if_neg (fun q => absurd ((ma_L10 (by omega)).mp q) (by omega))]
        by_cases c0 : w = 0
        · rw [if_pos c0]
          refine ma_some ⟨hfr, sp_end hI hmin (fun x hx => ?_)⟩
          refine Classical.byContradiction fun q => ?_
          have := (hw x).mpr ⟨hx, q⟩
          rw [c0, b_0] at this
          cases this
        · rw [if_neg c0]
          obtain ⟨g1, e1, hfr1, f1, hf1, hT1⟩ := ma_comeNearer hN ho hC1 hj hf hT
          have hT2 : sp_T E S f1 := by
            have : (fun z => S' z ∨ z = j) = S := funext fun z => propext (hS z).symm
            rw [this] at hT1; exact hT1
          have hfr2 : ∀ k, k ≠ 18 → k ≠ 19 → g1 k = g0 k := fun k q1 q2 => by rw [hfr1 k q1 q2, hfr k q1 q2]
          have hC2 := ma_fr1819 hC hfr2
          obtain ⟨v, ev, hv⟩ := ma_nearestOf hN ho hC2 hf1 (fun p hp => (hT2 p hp).1) w
          rw [dl_bi_e e1, dl_bi_e ev, ma_nme]
          rcases hv with ⟨v1, v2⟩ | ⟨p, p1, p2, p3, p4, p5⟩
          · rw [if_pos v1]
            obtain ⟨x, _, hx⟩ := ma_nz c0
            have hx2 := (hw x).mp hx
            refine ma_some ⟨hfr2, sp_stuck hI hmin hx2.1 hx2.2 (by decide) (fun a b ha hSa hSb => ?_)⟩
            have := v2 a ha.1 ((hw a).mpr ⟨ha, hSa⟩)
            have := (hT2 a ha.1).2.1 b hSb
            omega
          · have hp2 := (hw p).mp p3
            rw [p2, if_neg (ma_m1 (by omega)), ma_gde (ma_in_t (by omega) (by omega)), nI_clamp (by omega), hf1 p p1, nI_add, ma_nme, ma_nme, ma_nme, nI_1]
            obtain ⟨y, y1, y2⟩ := (hT2 p p1).2.2 p4
            have hI2 := sp_pick hI hp2.1 hp2.2 y1 y2.symm p4 (fun a b ha hSa hSb => by
              have q1 := p5 a ha.1 ((hw a).mpr ⟨ha, hSa⟩)
              have q2 := (hT2 a ha.1).2.1 b hSb
              omega)
            have hct : fb_ct (bt (w &&& (((1 : Int32) <<< (nI p &&& 31)) ^^^ (-1 : Int32)))) 10 < fb_ct (bt w) 10 := by
              refine ma_ct_lt (fun k _ h => ?_) ⟨p, by omega, p3, ?_⟩
              · rw [ma_out _ (by omega), Bool.and_eq_true] at h; exact h.1
              · rw [ma_out _ (by omega), decide_eq_true rfl, Bool.not_true, Bool.and_false]
            refine ih (r + 1) p _ _ g1 (fun z => S z ∨ z = p) S f1 hfr2 p1 (fun x => ?_) hI2 (fun _ => Iff.rfl) hf1 hT2 (by omega) (by omega)
            rw [ma_out _ (by omega), Bool.and_eq_true, hw, Bool.not_eq_true', decide_eq_false_iff_not]
            constructor
            · rintro ⟨⟨a1, a2⟩, a3⟩
              exact ⟨a1, fun q => q.elim a2 a3⟩
            · rintro ⟨a1, a2⟩
              exact ⟨⟨a1, fun q => a2 (Or.inl q)⟩, fun q => a2 (Or.inr q)⟩
    have hct : fb_ct (bt (en_taps E &&& (((1 : Int32) <<< (nI root &&& 31)) ^^^ (-1 : Int32)))) 10 ≤ 9 := by
      have hle := fb_ct_le (bt (en_taps E &&& (((1 : Int32) <<< (nI root &&& 31)) ^^^ (-1 : Int32)))) 10
      rcases Nat.lt_or_ge (fb_ct (bt (en_taps E &&& (((1 : Int32) <<< (nI root &&& 31)) ^^^ (-1 : Int32)))) 10) 10 with q | q
      · omega
      · exfalso
        have hrt : root < en_n E := hroot.1
        have := fb_ct_all.mp (Nat.le_antisymm hle q) root (by omega)
        rw [ma_out _ (by omega), decide_eq_true rfl, Bool.not_true, Bool.and_false] at this
        cases this
    refine key N 0 root _ 0 _ (fun z => z = root) (fun _ => False) (fun _ => ds_F) (fun k _ q => if_neg q) hroot.1 (fun p => ?_) (sp_I0 hroot) (fun p => ?_) (fun p hp => ?_) (fun p hp => ⟨Nat.le_refl _, fun _ q => absurd q id, fun q => absurd q (Nat.lt_irrefl _)⟩) (by omega) (by omega)
    · have hrt : root < en_n E := hroot.1
      rw [ma_out _ (by omega), Bool.and_eq_true, ← htap, Bool.not_eq_true', decide_eq_false_iff_not]
    · exact ⟨Or.inr, fun q => q.resolve_left id⟩
    · show dl_fill (g0 19) 10 (100000000 : Int32) p = _
      unfold dl_fill
      rw [if_pos (by omega)]
      rfl
end
