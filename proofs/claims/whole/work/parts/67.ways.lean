/-! The mathematics: how far, as both sides work it out -/
def ma_row (E : ma_E) (k : Nat) (f : Nat → Nat) (g : dl_Sg) : Prop := ∀ p, p < en_n E → g k p = nI (f p)
theorem en_q_le {E : ma_E} (ho : en_ok E) (b : Nat) {p : Nat} (hp : p < en_n E) : en_q E b p ≤ 100 := by
  have := en_pr_le ho hp
  unfold en_q
  split <;> omega
theorem ma_row.put {E : ma_E} {k : Nat} {f : Nat → Nat} {g : dl_Sg} (h : ma_row E k f g) (a v : Nat) : ma_row E k (va_up f a v) (dl_s2 g k a (nI v)) := fun p hp => by
  rw [ma_s2]
  unfold va_up
  by_cases e : p = a
  · rw [if_pos ⟨rfl, e⟩, if_pos e]
  · rw [if_neg (fun q => e q.2), if_neg e]; exact h p hp
theorem ma_row.set {E : ma_E} {k : Nat} {f : Nat → Nat} {g : dl_Sg} (h : ma_row E k f g) (a : Nat) {v : Int32} {u : Nat} (e : v = nI u) : ma_row E k (va_up f a u) (dl_s2 g k a v) := by
  subst e; exact h.put a u
/-- a relaxation -/
theorem ds_relax {E : ma_E} {b r : Nat} {f : Nat → Nat} (ho : en_ok E) (h : ds_B E b r f) {s a p : Nat} (hst : en_st E s a p) {v : Nat} (hv : v = en_c E s + en_q E b p + f p) :
    ds_B E b r (if v < f a then va_up f a v else f) ∧ (∀ x, (if v < f a then va_up f a v else f) x ≤ f x) ∧ (if v < f a then va_up f a v else f) a ≤ v ∧ (if v < f a then va_up f a v else f) p = f p := by
  have hne := en_st.ne ho hst
  by_cases q : v < f a
  · rw [if_pos q]
    have hab : a ≠ b := fun e => by subst e; rw [h.1] at q; omega
    have h1 := ds_tri hst hab
    have h2 := (h.2.1 p (en_st.r ho hst)).1
    refine ⟨h.put hab (by omega) q, fun x => ?_, ?_, ?_⟩
    · unfold va_up
      by_cases e : x = a
      · rw [if_pos e]; subst e; omega
      · rw [if_neg e]; exact Nat.le_refl _
    · unfold va_up; rw [if_pos rfl]; exact Nat.le_refl _
    · unfold va_up; rw [if_neg (Ne.symm hne)]
  · rw [if_neg q]
    exact ⟨h, fun _ => Nat.le_refl _, by omega, rfl⟩
section
variable {E : ma_E} {N : Nat}
theorem ma_sumBy {g : dl_Sg} {f : Nat → Nat} (ho : en_ok E) (hC : en_C E g) (hf : ma_row E 18 f g) {s p b : Nat} (hs : s < en_m E) (hp : p < en_n E) (hb : b < en_n E) : cl8_sumBy g (nI s) (nI p) (nI b) = some (nI (en_c E s + en_q E b p + f p)) := by
  have hn := ho.n
  have hm := ho.m
  unfold cl8_sumBy cl8_sumBy_b18 en_q
  have e : nI p = nI b ↔ p = b := nI_eq (by omega) (by omega)
  by_cases q : p = b
  · rw [if_pos (e.mpr q), if_pos q, ma_nme, ma_gde (ma_in_t (by omega) (by omega)), ma_gde (ma_in_t (by omega) (by omega)), nI_clamp (by omega), nI_clamp (by omega), hC.c hs, hf p hp]
    show some (nI _ + nI 0 + nI _) = _
    rw [nI_add, nI_add]
  · rw [if_neg (fun h => q (e.mp h)), if_neg q, ma_gde (ma_in_t (by omega) (by omega)), nI_clamp (by omega), hC.pr hp, ma_nme, ma_gde (ma_in_t (by omega) (by omega)), ma_gde (ma_in_t (by omega) (by omega)), nI_clamp (by omega), hC.c hs, hf p hp, nI_add, nI_add]
theorem ma_shorten {g : dl_Sg} {f : Nat → Nat} (ho : en_ok E) (hC : en_C E g) (hf : ma_row E 18 f g) (hF : ∀ x, x < en_n E → f x ≤ ds_F) {a s p b v : Nat} (ha : a < en_n E) (hs : s < en_m E) (hp : p < en_n E) (hb : b < en_n E) (hv : v = en_c E s + en_q E b p + f p) : cl8_shorten g (nI a) (nI s) (nI p) (nI b) = some (if v < f a then 1 else 0, if v < f a then dl_s2 g 18 a (nI v) else g) := by
  have hn := ho.n
  have h1 := ho.c2 hs
  have h2 := en_q_le ho b hp
  have h3 := hF p hp
  have h4 := hF a ha
  have h5 : ds_F = 100000000 := rfl
  unfold cl8_shorten
  rw [dl_bi_e (ma_sumBy ho hC hf hs hp hb), ← hv, ma_nme, ma_gde (ma_in_t (by omega) (by omega)), nI_clamp (by omega), hf a ha]
  by_cases h : v < f a
  · rw [if_pos ((ma_lt (by omega) (by omega)).mpr h), if_pos h, if_pos h, ma_gde (ma_in_t (by omega) (by omega)), ma_nme, ma_wr _ (by omega)]
  · rw [if_neg (fun q => h ((ma_lt (by omega) (by omega)).mp q)), if_neg h, if_neg h]
/-- the state inside a round of the class -/
def ma_Mi (E : ma_E) (b r : Nat) (g0 : dl_Sg) (s : Nat) (x : Int32 × dl_Sg) : Prop :=
  (∀ k, k ≠ 18 → x.2 k = g0 k) ∧ ∃ f, ma_row E 18 f x.2 ∧ ds_B E b r f ∧ (∀ s' a p, s' < s → en_st E s' a p → a ≠ b → ds_rk E (ds_d E b) p ≤ r → f a ≤ en_c E s' + en_q E b p + ds_d E b p) ∧ (x.1 = 0 ∨ x.1 = 1) ∧ (x.1 = 0 → ∀ s' a p, s' < s → en_st E s' a p → a ≠ b → f a ≤ en_c E s' + en_q E b p + f p)
theorem ma_fr18 {g g0 : dl_Sg} (hC : en_C E g0) (h : ∀ k, k ≠ 18 → g k = g0 k) : en_C E g :=
  hC.same (fun i _ _ => by rw [h 1 (by omega)]) (fun k h1 h2 => h k (by omega)) (fun k h1 h2 => h k (by omega))
theorem ma_meas_in (ho : en_ok E) {g0 : dl_Sg} (hC : en_C E g0) {b r : Nat} (hb : b < en_n E) (k20 : Int32 → Int32 → Int32 → dl_Sg → Option dl_Sg) (x3 : Int32) (Q : dl_Sg → Prop)
    (hk : ∀ x, ma_Mi E b r g0 (en_m E) x → ma_wp (k20 (nI b) x.1 (x3 + 1) x.2) Q) :
    ∀ k s x, s ≤ en_m E → en_m E - s < k → ma_Mi E b r g0 s x → ma_wp (cl8_measure_b35 N k20 k (nI b) x.1 x3 (nI s) x.2) Q := by
  have hn := ho.n
  have hm := ho.m
  refine ma_loop (fun k s (x : Int32 × dl_Sg) => cl8_measure_b35 N k20 k (nI b) x.1 x3 (nI s) x.2) (ma_Mi E b r g0) Q (en_m E) ?_ ?_
  · intro k x hI
    have hC1 := ma_fr18 hC hI.1
    rw [cl8_measure_b35, hC1.m, if_pos ((ma_le (by omega) (by omega)).mpr (by omega)), ma_nme]
    exact hk x hI
  · intro k s x hs hI ih
    have hC1 := ma_fr18 hC hI.1
    rw [cl8_measure_b35, hC1.m, if_neg (fun q => absurd ((ma_le (by omega) (by omega)).mp q) (by omega)), dl_bi_e (ma_isThere hC1 (by omega))]
    obtain ⟨hfr, f, hf, hB, hD, hx, hz⟩ := hI
    by_cases ht : bt (en_t E) s = true
    · rw [if_pos ht, if_neg (by decide), ma_gde (ma_in_t (by omega) (by omega)), ma_gde (ma_in_t (by omega) (by omega)), nI_clamp (by omega), hC1.a hs, hC1.b hs]
      have hA := ho.a hs
      have hBb := ho.b hs
      have st1 : en_st E s (en_a E s) (en_b E s) := ⟨hs, ht, Or.inl ⟨rfl, rfl⟩⟩
      have sh1 := ma_shorten ho hC1 hf (fun x hx => (hB.2.1 x hx).2) hA hs hBb hb (v := en_c E s + en_q E b (en_b E s) + f (en_b E s)) rfl
      rw [dl_b2_e sh1, ma_nme, ma_gde (ma_in_t (by omega) (by omega)), ma_gde (ma_in_t (by omega) (by omega))]
      have r1 := ds_relax ho hB st1 (v := en_c E s + en_q E b (en_b E s) + f (en_b E s)) rfl
      have hf1 : ma_row E 18 (if en_c E s + en_q E b (en_b E s) + f (en_b E s) < f (en_a E s) then va_up f (en_a E s) (en_c E s + en_q E b (en_b E s) + f (en_b E s)) else f) (if en_c E s + en_q E b (en_b E s) + f (en_b E s) < f (en_a E s) then dl_s2 x.2 18 (en_a E s) (nI (en_c E s + en_q E b (en_b E s) + f (en_b E s))) else x.2) := by
        split
        · exact hf.put _ _
        · exact hf
      have hfr1 : ∀ k, k ≠ 18 → (if en_c E s + en_q E b (en_b E s) + f (en_b E s) < f (en_a E s) then dl_s2 x.2 18 (en_a E s) (nI (en_c E s + en_q E b (en_b E s) + f (en_b E s))) else x.2) k = g0 k := by
        intro k hk'
        split
        · rw [show dl_s2 x.2 18 (en_a E s) (nI (en_c E s + en_q E b (en_b E s) + f (en_b E s))) k = x.2 k from if_neg hk']; exact hfr k hk'
        · exact hfr k hk'
      have hn1 : ¬ (en_c E s + en_q E b (en_b E s) + f (en_b E s) < f (en_a E s)) → (if en_c E s + en_q E b (en_b E s) + f (en_b E s) < f (en_a E s) then va_up f (en_a E s) (en_c E s + en_q E b (en_b E s) + f (en_b E s)) else f) = f := fun q => if_neg q
      revert r1 hf1 hfr1 hn1
      generalize (if en_c E s + en_q E b (en_b E s) + f (en_b E s) < f (en_a E s) then va_up f (en_a E s) (en_c E s + en_q E b (en_b E s) + f (en_b E s)) else f) = f1
      generalize (if en_c E s + en_q E b (en_b E s) + f (en_b E s) < f (en_a E s) then dl_s2 x.2 18 (en_a E s) (nI (en_c E s + en_q E b (en_b E s) + f (en_b E s))) else x.2) = g1
      intro r1 hf1 hfr1 hn1
      have hC2 := ma_fr18 hC hfr1
      obtain ⟨hB1, hle1, hv1, hp1⟩ := r1
      rw [hC2.a hs, hC2.b hs]
      have sh2 := ma_shorten ho hC2 hf1 (fun x hx => (hB1.2.1 x hx).2) hBb hs hA hb (v := en_c E s + en_q E b (en_a E s) + f1 (en_a E s)) rfl
      rw [dl_b2_e sh2, ma_nme]
      have r2 := ds_relax ho hB1 st1.sym (v := en_c E s + en_q E b (en_a E s) + f1 (en_a E s)) rfl
      have hf2 : ma_row E 18 (if en_c E s + en_q E b (en_a E s) + f1 (en_a E s) < f1 (en_b E s) then va_up f1 (en_b E s) (en_c E s + en_q E b (en_a E s) + f1 (en_a E s)) else f1) (if en_c E s + en_q E b (en_a E s) + f1 (en_a E s) < f1 (en_b E s) then dl_s2 g1 18 (en_b E s) (nI (en_c E s + en_q E b (en_a E s) + f1 (en_a E s))) else g1) := by
        split
        · exact hf1.put _ _
        · exact hf1
      have hfr2 : ∀ k, k ≠ 18 → (if en_c E s + en_q E b (en_a E s) + f1 (en_a E s) < f1 (en_b E s) then dl_s2 g1 18 (en_b E s) (nI (en_c E s + en_q E b (en_a E s) + f1 (en_a E s))) else g1) k = g0 k := by
        intro k hk'
        split
        · rw [show dl_s2 g1 18 (en_b E s) (nI (en_c E s + en_q E b (en_a E s) + f1 (en_a E s))) k = g1 k from if_neg hk']; exact hfr1 k hk'
        · exact hfr1 k hk'
      have hn2 : ¬ (en_c E s + en_q E b (en_a E s) + f1 (en_a E s) < f1 (en_b E s)) → (if en_c E s + en_q E b (en_a E s) + f1 (en_a E s) < f1 (en_b E s) then va_up f1 (en_b E s) (en_c E s + en_q E b (en_a E s) + f1 (en_a E s)) else f1) = f1 := fun q => if_neg q
      revert r2 hf2 hfr2 hn2
      generalize (if en_c E s + en_q E b (en_a E s) + f1 (en_a E s) < f1 (en_b E s) then va_up f1 (en_b E s) (en_c E s + en_q E b (en_a E s) + f1 (en_a E s)) else f1) = f2
      generalize (if en_c E s + en_q E b (en_a E s) + f1 (en_a E s) < f1 (en_b E s) then dl_s2 g1 18 (en_b E s) (nI (en_c E s + en_q E b (en_a E s) + f1 (en_a E s))) else g1) = g2
      intro r2 hf2 hfr2 hn2
      obtain ⟨hB2, hle2, hv2, hp2⟩ := r2
      -- what holds behind both
      have hD2 : ∀ s' a p, s' < s + 1 → en_st E s' a p → a ≠ b → ds_rk E (ds_d E b) p ≤ r → f2 a ≤ en_c E s' + en_q E b p + ds_d E b p := by
        intro s' a p hs' hst hab hr
        have l1 := hle1 a
        have l2 := hle2 a
        rcases Nat.lt_or_ge s' s with q | q
        · have := hD s' a p q hst hab hr; omega
        · have e : s' = s := by omega
          subst e
          rcases hst.2.2 with ⟨q1, q2⟩ | ⟨q1, q2⟩
          · rw [q1, q2] at hv1
            have := hB.2.2 p (en_st.r ho hst) hr
            omega
          · rw [q1, q2] at hv2
            have := hB1.2.2 p (en_st.r ho hst) hr
            omega
      -- the flag
      have fin : ∀ y : Int32, (y = 0 ∨ y = 1) → (y = 0 → x.1 = 0 ∧ ¬ (en_c E s + en_q E b (en_b E s) + f (en_b E s) < f (en_a E s)) ∧ ¬ (en_c E s + en_q E b (en_a E s) + f1 (en_a E s) < f1 (en_b E s))) → ma_wp (cl8_measure_b137 N k20 (cl8_measure_b35 N k20 k) (nI b) y x3 (nI s) g2) Q := by
        intro y hy hy0
        unfold cl8_measure_b137
        rw [ma_nme, nI_1]
        refine ih (y, g2) ⟨hfr2, f2, hf2, hB2, hD2, hy, fun z => ?_⟩
        obtain ⟨z1, z2, z3⟩ := hy0 z
        have e1 := hn1 z2
        have e2 := hn2 z3
        intro s' a p hs' hst hab
        rw [e2, e1]
        rw [e1] at hv2 hle2 z3
        rcases Nat.lt_or_ge s' s with q | q
        · exact hz z1 s' a p q hst hab
        · have e : s' = s := by omega
          subst e
          rcases hst.2.2 with ⟨q1, q2⟩ | ⟨q1, q2⟩
          · rw [q1, q2] at z2; omega
          · rw [q1, q2] at z3; omega
      unfold cl8_measure_b136 cl8_measure_b131 cl8_measure_b136
      rcases hx with hx | hx
      · rw [if_pos hx]
        by_cases c1 : en_c E s + en_q E b (en_b E s) + f (en_b E s) < f (en_a E s)
        · rw [if_pos c1, if_neg (by decide), ma_nme]
          exact fin 1 (Or.inr rfl) (fun q => absurd q (by decide))
        · rw [if_neg c1, if_pos rfl]
          by_cases c2 : en_c E s + en_q E b (en_a E s) + f1 (en_a E s) < f1 (en_b E s)
          · rw [if_pos c2, if_neg (by decide), ma_nme]
            exact fin 1 (Or.inr rfl) (fun q => absurd q (by decide))
          · rw [if_neg c2, if_pos rfl, ma_nme]
            exact fin 0 (Or.inl rfl) (fun _ => ⟨hx, c1, c2⟩)
      · rw [if_neg (by rw [hx]; decide), ma_nme]
        exact fin 1 (Or.inr rfl) (fun q => absurd q (by decide))
    · rw [if_neg ht, if_pos rfl]
      unfold cl8_measure_b137
      rw [ma_nme, nI_1]
      refine ih x ⟨hfr, f, hf, hB, fun s' a p hs' hst hab hr => ?_, hx, fun z s' a p hs' hst hab => ?_⟩
      · rcases Nat.lt_or_ge s' s with q | q
        · exact hD s' a p q hst hab hr
        · have e : s' = s := by omega
          subst e
          exact absurd hst.2.1 ht
      · rcases Nat.lt_or_ge s' s with q | q
        · exact hz z s' a p q hst hab
        · have e : s' = s := by omega
          subst e
          exact absurd hst.2.1 ht
/-- the class measures how far each place is -/
theorem ma_measure (hN : 17 ≤ N) (ho : en_ok E) {g0 : dl_Sg} (hC : en_C E g0) {b : Nat} (hb : b < en_n E) : ma_wp (cl8_measure N g0 (nI b)) (fun g => (∀ k, k ≠ 18 → g k = g0 k) ∧ ma_row E 18 (ds_d E b) g) := by
  have hn := ho.n
  have hm := ho.m
  have key : ∀ k r (x : Int32 × dl_Sg), r ≤ 10 → 10 - r < k → ((∀ k, k ≠ 18 → x.2 k = g0 k) ∧ ∃ f, ma_row E 18 f x.2 ∧ ds_B E b r f ∧ (x.1 = 0 ∨ x.1 = 1) ∧ (x.1 = 0 → ∀ s' a p, en_st E s' a p → a ≠ b → f a ≤ en_c E s' + en_q E b p + f p)) → ma_wp (cl8_measure_b20 N k (nI b) x.1 (nI r) x.2) (fun g => (∀ k, k ≠ 18 → g k = g0 k) ∧ ma_row E 18 (ds_d E b) g) := by
    refine ma_loop (fun k r (x : Int32 × dl_Sg) => cl8_measure_b20 N k (nI b) x.1 (nI r) x.2) _ _ 10 ?_ ?_
    · rintro k x ⟨hfr, f, hf, hB, hx, hz⟩
      rw [cl8_measure_b20, if_pos ((ma_L10 (by omega)).mpr (by omega))]
      refine ma_some ⟨hfr, fun p hp => ?_⟩
      rw [hf p hp, hB.all (by omega) hp]
    · rintro k r x hr ⟨hfr, f, hf, hB, hx, hz⟩ ih
      rw [cl8_measure_b20, if_neg (fun q => absurd ((ma_L10 (by omega)).mp q) (by omega))]
      by_cases e : x.1 = 0
      · rw [if_pos e]
        refine ma_some ⟨hfr, fun p hp => ?_⟩
        rw [hf p hp, hB.done ho (hz e) p hp]
      · rw [if_neg e, ma_nme, ma_nme]
        refine ma_meas_in (r := r) ho hC hb (cl8_measure_b20 N k) (nI r) _ ?_ N 0 (0, x.2) (by omega) (by omega) ⟨hfr, f, hf, hB, fun s' a p hs' => absurd hs' (by omega), Or.inl rfl, fun _ s' a p hs' => absurd hs' (by omega)⟩
        rintro y ⟨hfr', f', hf', hB', hD', hx', hz'⟩
        rw [nI_1]
        refine ih y ⟨hfr', f', hf', hB'.next ho (fun s a p hst hab hr => hD' s a p hst.1 hst hab hr), hx', fun z s a p hst hab => hz' z s a p hst.1 hst hab⟩
  unfold cl8_measure
  rw [ma_nme, ma_gde (ma_in_t (by omega) (by omega)), ma_nme, ma_nme, ma_nme, ma_wr _ (by omega)]
  refine key N 0 (1, dl_s2 (dl_fi g0 18 10 (100000000 : Int32)) 18 b 0) (by omega) (by omega) ⟨fun k hk => ?_, fun p => if p = b then 0 else ds_F, fun p hp => ?_, ds_B0 ho hb (if_pos rfl) (fun a _ q => if_neg q), Or.inr rfl, fun q => absurd (show (1 : Int32) = 0 from q) (by decide)⟩
  · show dl_s2 (dl_fi g0 18 10 (100000000 : Int32)) 18 b 0 k = _
    rw [show dl_s2 (dl_fi g0 18 10 (100000000 : Int32)) 18 b 0 k = dl_fi g0 18 10 (100000000 : Int32) k from if_neg hk]
    exact if_neg hk
  · show dl_s2 (dl_fi g0 18 10 (100000000 : Int32)) 18 b 0 18 p = nI (if p = b then 0 else ds_F)
    rw [ma_s2]
    by_cases e : p = b
    · rw [if_pos ⟨rfl, e⟩, if_pos e]; rfl
    · rw [if_neg (fun q => e q.2), if_neg e]
      show dl_fill (g0 18) 10 (100000000 : Int32) p = _
      unfold dl_fill
      rw [if_pos (by omega)]
      rfl
end
