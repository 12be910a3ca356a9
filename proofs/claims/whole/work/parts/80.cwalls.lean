/-! The mathematics: walls, by the class -/
/-- the class holds the state -/
def wl_C (E : ma_E) (r : Nat) (A : wl_S) (g : dl_Sg) : Prop := g 4 4 = nI (wl_K A) ∧ g 4 5 = (1 : Int32) <<< (nI r &&& 31) ∧ (∀ k, k < wl_K A → g 22 k = wl_P A k ∧ g 23 k = nI (wl_H A k)) ∧ ∀ p, p < en_n E → g 24 p = nI (wl_O A p)
def ma_fw (g g0 : dl_Sg) : Prop := (∀ k, k ≠ 4 → k ≠ 22 → k ≠ 23 → k ≠ 24 → g k = g0 k) ∧ g 4 7 = g0 4 7
section
variable {E : ma_E} {N r : Nat} {A : wl_S}
theorem ma_fw.C {g g0 : dl_Sg} (h : ma_fw g g0) (hC : en_C E g0) : en_C E g :=
  hC.same (fun i _ _ => by rw [h.1 1 (by omega) (by omega) (by omega) (by omega)]) (fun k h1 h2 => h.1 k (by omega) (by omega) (by omega) (by omega)) (fun k h1 h2 => h.1 k (by omega) (by omega) (by omega) (by omega))
theorem ma_fw.rf (g : dl_Sg) : ma_fw g g := ⟨fun _ _ _ _ _ => rfl, rfl⟩
theorem ma_fw.t {g g1 g0 : dl_Sg} (h : ma_fw g g1) (h2 : ma_fw g1 g0) : ma_fw g g0 := ⟨fun k a b c d => (h.1 k a b c d).trans (h2.1 k a b c d), h.2.trans h2.2⟩
theorem ma_fw.s (g : dl_Sg) {k : Nat} (hk : k = 22 ∨ k = 23 ∨ k = 24) (i : Nat) (v : Int32) : ma_fw (dl_s2 g k i v) g := ⟨fun k' a b c d => if_neg (by omega), by rw [ma_s2, if_neg (by omega)]⟩
theorem ma_fw.s4 (g : dl_Sg) {i : Nat} (hi : i ≠ 7) (v : Int32) : ma_fw (dl_s2 g 4 i v) g := ⟨fun k' a b c d => if_neg a, by rw [ma_s2, if_neg (by omega)]⟩
theorem ma_one_0 {x : Int32} {k : Nat} (hk : k < 32) : x &&& ((1 : Int32) <<< (nI k &&& 31)) = 0 ↔ bt x k = false := by
  rw [ma_z]
  constructor
  · intro h
    have := h k hk
    rw [b_and, ma_b1 hk, decide_eq_true rfl, Bool.and_true] at this
    exact this
  · intro h i _
    rw [b_and, ma_b1 hk]
    by_cases e : i = k
    · rw [e, h]; rfl
    · rw [decide_eq_false e, Bool.and_false]
theorem ma_cact {g : dl_Sg} (hC : en_C E g) (hA : wl_C E r A g) (hr : r < 32) (hK : wl_K A ≤ 20) {k : Nat} (hk : k < wl_K A) : cl7_isActive g (nI k) = some (if wl_act E r A k = true then 1 else 0) := by
  unfold cl7_isActive wl_act
  rw [ma_gde (ma_in_t (by omega) (by omega)), nI_clamp (by omega), (hA.2.2.1 k hk).1, ma_nme, hC.taps, hA.2.1]
  by_cases c1 : wl_P A k &&& en_taps E = 0
  · rw [if_pos c1, decide_eq_true c1]; rfl
  · rw [if_neg c1, decide_eq_false c1]
    by_cases c2 : bt (wl_P A k) r = true
    · rw [if_neg (fun q => by rw [(ma_one_0 hr).mp q] at c2; cases c2), c2]; rfl
    · have c2 := Bool.eq_false_iff.mpr c2
      rw [if_pos ((ma_one_0 hr).mpr c2), c2]; rfl
end
section
variable {E : ma_E} {N r : Nat} {A : wl_S} {g : dl_Sg}
theorem wl_I.K (h : wl_I E A) : wl_K A ≤ 2 * en_n E := by have := h.2.2.2; omega
theorem ma_csome (hN : 21 ≤ N) (ho : en_ok E) (hC : en_C E g) (hI : wl_I E A) (hA : wl_C E r A g) (hr : r < 32) : ma_wp (cl7_someActive N g) (fun x => (x = 0 ∧ ¬ wl_some E r A) ∨ (x = 1 ∧ wl_some E r A)) := by
  have hn := ho.n
  have hK := hI.K
  unfold cl7_someActive
  rw [ma_nme]
  refine ma_loop (fun k p (_ : Unit) => cl7_someActive_b2 N g k (nI p)) (fun p _ => ∀ q, q < p → ¬ wl_act E r A (wl_O A q) = true) _ (en_n E) ?_ ?_ N 0 () (by omega) (by omega) (fun q h => absurd h (Nat.not_lt_zero q))
  · rintro k _ h
    rw [cl7_someActive_b2, hC.n, if_pos ((ma_le (by omega) (by omega)).mpr (by omega))]
    exact ma_some (Or.inl ⟨rfl, fun ⟨p, hp, q⟩ => h p hp q⟩)
  · rintro k p _ hp h ih
    have hp1 := hI.2.1 p hp
    rw [cl7_someActive_b2, hC.n, if_neg (fun q => absurd ((ma_le (by omega) (by omega)).mp q) (by omega)), ma_gde (ma_in_t (by omega) (by omega)), nI_clamp (by omega), hA.2.2.2 p hp, dl_bi_e (ma_cact hC hA hr (by omega) hp1.1)]
    by_cases c : wl_act E r A (wl_O A p) = true
    · rw [if_pos c, if_neg (by decide)]
      exact ma_some (Or.inr ⟨rfl, p, hp, c⟩)
    · rw [if_neg c, if_pos rfl, ma_nme, nI_1]
      refine ih () (fun q hq => ?_)
      by_cases e : q = p
      · rw [e]; exact c
      · exact h q (by omega)
theorem ma_csides (ho : en_ok E) (hC : en_C E g) (hI : wl_I E A) (hA : wl_C E r A g) (hr : r < 32) {s : Nat} (hs : s < en_m E) : cl7_activeSidesOf g (nI s) = some (nI (wl_c E r A s)) := by
  have hn := ho.n
  have hm := ho.m
  have ha := ho.a hs
  have hb := ho.b hs
  have hK := hI.K
  have ka := (hI.2.1 _ ha).1
  have kb := (hI.2.1 _ hb).1
  unfold cl7_activeSidesOf cl7_activeSidesOf_b61
  rw [ma_gde (ma_in_t (by omega) (by omega)), nI_clamp (by omega), hC.a hs, hC.b hs, ma_gde (ma_in_t (by omega) (by omega)), nI_clamp (by omega), hA.2.2.2 _ ha, ma_nme, ma_gde (ma_in_t (by omega) (by omega)), ma_gde (ma_in_t (by omega) (by omega)), nI_clamp (by omega), hA.2.2.2 _ hb, ma_nme, dl_bi_e (ma_isThere hC (by omega))]
  have e : nI (wl_O A (en_a E s)) = nI (wl_O A (en_b E s)) ↔ wl_O A (en_a E s) = wl_O A (en_b E s) := nI_eq (by omega) (by omega)
  unfold wl_c
  by_cases c1 : bt (en_t E) s = true
  · rw [if_pos c1, if_neg (by decide)]
    by_cases c2 : wl_O A (en_a E s) = wl_O A (en_b E s)
    · rw [if_pos (e.mpr c2), if_neg (fun q => q.2 c2)]; rfl
    · rw [if_neg (fun q => c2 (e.mp q)), if_pos ⟨c1, c2⟩, dl_bi_e (ma_cact hC hA hr (by omega) ka), ma_cact hC hA hr (by omega) kb]
      cases wl_act E r A (wl_O A (en_a E s)) <;> cases wl_act E r A (wl_O A (en_b E s)) <;> rfl
  · rw [if_neg c1, if_pos rfl, if_neg (fun q => c1 q.1)]; rfl
theorem ma_ct_two {x : Int32} {a b : Nat} (ha : a < 16) (hb : b < 16) (hne : a ≠ b) {e : Int32} (he : ∀ i, bt e i = (decide (i = a) || decide (i = b))) : fb_ct (bt (x &&& e)) 16 = wl_b1 (bt x a) + wl_b1 (bt x b) := by
  have e1 : fb_ct (bt (x &&& e)) 16 = fb_ct (fun i => if i = b then bt x b else (if i = a then bt x a else false)) 16 := fb_ct_cong (fun i _ => by
    rw [b_and, he]
    by_cases c1 : i = b
    · rw [if_pos c1, c1, decide_eq_true rfl, Bool.or_true, Bool.and_true]
    · rw [if_neg c1]
      by_cases c2 : i = a
      · rw [if_pos c2, c2, decide_eq_true rfl, Bool.true_or, Bool.and_true]
      · rw [if_neg c2, decide_eq_false c1, decide_eq_false c2, Bool.or_false, Bool.and_false])
  have z : fb_ct (fun _ => false) 16 = 0 := fb_ct_zero.mpr (fun _ _ => rfl)
  have u1 := fb_ct_upd (fun _ => false) (bt x a) ha
  have u2 := fb_ct_upd (fun i => if i = a then bt x a else false) (bt x b) hb
  simp only [if_neg (Ne.symm hne)] at u2
  rw [e1]
  unfold wl_b1
  simp only [Bool.false_eq_true, if_false, Nat.add_zero] at u1 u2
  omega
theorem ma_sb (x : Int32) (a b : Nat) : (x - nI a) - nI b = x - nI (a + b) := by
  rw [← nI_add]
  grind
theorem ma_croom (hN : 21 ≤ N) (ho : en_ok E) (hC : en_C E g) (hI : wl_I E A) (hA : wl_C E r A g) {s : Nat} (hs : s < en_m E) : cl7_roomOf N g (nI s) = some (nI (1024 * en_c E s) - nI (wl_sum E A s (wl_K A))) := by
  have hn := ho.n
  have hm := ho.m
  have ha := ho.a hs
  have hb := ho.b hs
  have hK := hI.K
  unfold cl7_roomOf
  rw [ma_gde (ma_in_t (by omega) (by omega)), nI_clamp (by omega), hC.c hs, ma_nme, ma_nme, show (1024 : Int32) * nI (en_c E s) = nI (1024 * en_c E s) from pk_mul 1024 _]
  refine ma_is ?_
  refine ma_loop (fun k m (x : Int32) => cl7_roomOf_b16 N g k (nI s) x (nI m)) (fun m x => x = nI (1024 * en_c E s) - nI (wl_sum E A s m)) _ (wl_K A) ?_ ?_ N 0 _ (by omega) (by omega) ?_
  · rintro k x h
    rw [cl7_roomOf_b16, hA.1, if_pos ((ma_le (by omega) (by omega)).mpr (by omega))]
    exact ma_some h
  · rintro k m x hm2 h ih
    have hlo : ma_lo (wl_P A m &&& g 16 s) 16 := ma_lo_and ((hI.1 m hm2).1.up (by omega))
    rw [cl7_roomOf_b16, hA.1, if_neg (fun q => absurd ((ma_le (by omega) (by omega)).mp q) (by omega)), ma_gde (ma_in_t (by omega) (by omega)), ma_gde (ma_in_t (by omega) (by omega)), nI_clamp (by omega), nI_clamp (by omega), (hA.2.2.1 m hm2).1, (hA.2.2.1 m hm2).2, dl_bi_e (ma_bitc hlo), ma_ct_two (by omega) (by omega) (ho.ab hs) (hC.eb ho hs)]
    unfold cl7_roomOf_b56
    have fin : ∀ y : Int32, y = nI (1024 * en_c E s) - nI (wl_sum E A s (m + 1)) → ma_wp (cl7_roomOf_b16 N g k (nI s) y (nI (m + 1))) (fun x => x = nI (1024 * en_c E s) - nI (wl_sum E A s (wl_K A))) := fun y hy => ih y hy
    have es : wl_sum E A s (m + 1) = wl_sum E A s m + (if wl_x E A s m = true then wl_H A m else 0) := rfl
    have hx : wl_b1 (bt (wl_P A m) (en_a E s)) + wl_b1 (bt (wl_P A m) (en_b E s)) = 1 ↔ wl_x E A s m = true := by
      unfold wl_x wl_b1
      cases bt (wl_P A m) (en_a E s) <;> cases bt (wl_P A m) (en_b E s) <;> decide
    have hle : wl_b1 (bt (wl_P A m) (en_a E s)) + wl_b1 (bt (wl_P A m) (en_b E s)) ≤ 2 := by
      unfold wl_b1
      split <;> split <;> omega
    have e1 : nI (wl_b1 (bt (wl_P A m) (en_a E s)) + wl_b1 (bt (wl_P A m) (en_b E s))) = (1 : Int32) ↔ wl_b1 (bt (wl_P A m) (en_a E s)) + wl_b1 (bt (wl_P A m) (en_b E s)) = 1 := nI_eq (b := 1) (by omega) (by omega)
    by_cases c : wl_x E A s m = true
    · rw [if_pos (e1.mpr (hx.mpr c)), ma_gde (ma_in_t (by omega) (by omega)), ma_nme, ma_nme, nI_1]
      refine fin _ ?_
      rw [es, if_pos c, h, ma_sb]
    · rw [if_neg (fun q => c (hx.mp (e1.mp q))), ma_nme, nI_1]
      refine fin _ ?_
      rw [es, if_neg c, Nat.add_zero, h]
  · show _ = nI (1024 * en_c E s) - nI 0
    exact (Int32.sub_zero _).symm
/-- a part is added -/
theorem ma_addPart (hN : 21 ≤ N) (ho : en_ok E) {g0 : dl_Sg} (hC : en_C E g0) {K : Nat} (hK : K < 20) (h4 : g0 4 4 = nI K) (J : Int32) : ma_wp (cl7_addPart N g0 J) (fun g => ma_fw g g0 ∧ g 4 4 = nI (K + 1) ∧ (∀ i, i ≠ 4 → g 4 i = g0 4 i) ∧ (∀ k, g 22 k = if k = K then J else g0 22 k) ∧ (∀ k, g 23 k = if k = K then 0 else g0 23 k) ∧ ∀ p, p < en_n E → g 24 p = if bt J p = true then nI K else g0 24 p) := by
  have hn := ho.n
  unfold cl7_addPart
  rw [h4, if_pos (show nI K < (20 : Int32) from (ma_lt (b := 20) (by omega) (by omega)).mpr hK), ma_gde (ma_in_t (by omega) (by omega)), ma_nme, ma_wr _ (by omega), ma_s2r _ _ _ _ (by decide), h4, ma_gde (ma_in_t (by omega) (by omega)), ma_nme, ma_wr _ (by omega), ma_nme]
  refine ma_loop (fun k p (g : dl_Sg) => cl7_addPart_b32 N k J (nI p) g) (fun m g => ma_fw g g0 ∧ (∀ i, g 4 i = g0 4 i) ∧ (∀ k, g 22 k = if k = K then J else g0 22 k) ∧ (∀ k, g 23 k = if k = K then 0 else g0 23 k) ∧ ∀ p, p < en_n E → g 24 p = if p < m ∧ bt J p = true then nI K else g0 24 p) _ (en_n E) ?_ ?_ N 0 _ (by omega) (by omega) ⟨(ma_fw.s _ (by omega) _ _).t (ma_fw.s _ (by omega) _ _), fun i => ?_, fun k => ?_, fun k => ?_, fun p hp => ?_⟩
  · rintro k g ⟨f1, f2, f3, f4, f5⟩
    rw [cl7_addPart_b32, (f1.C hC).n, if_pos ((ma_le (by omega) (by omega)).mpr (by omega)), ma_nme, f2 4, h4, nI_1]
    refine ma_some ⟨(ma_fw.s4 _ (by decide) _).t f1, ma_s2s _ _ _ _, fun i hi => ?_, fun k => ?_, fun k => ?_, fun p hp => ?_⟩
    · rw [ma_s2n _ _ (fun q => hi q.2)]; exact f2 i
    · rw [ma_s2r _ _ _ _ (by decide)]; exact f3 k
    · rw [ma_s2r _ _ _ _ (by decide)]; exact f4 k
    · rw [ma_s2r _ _ _ _ (by decide), f5 p hp]
      by_cases q : bt J p = true
      · rw [if_pos ⟨hp, q⟩, if_pos q]
      · rw [if_neg (fun z => q z.2), if_neg q]
  · rintro k p g hp ⟨f1, f2, f3, f4, f5⟩ ih
    rw [cl7_addPart_b32, (f1.C hC).n, if_neg (fun q => absurd ((ma_le (by omega) (by omega)).mp q) (by omega)), dl_bi_e (ma_bitAt _ (by omega))]
    unfold cl7_addPart_b62
    by_cases c : bt J p = true
    · rw [if_pos c, if_pos rfl, ma_gde (ma_in_t (by omega) (by omega)), ma_nme, ma_nme, nI_1, ma_wr _ (by omega), f2 4, h4]
      refine ih _ ⟨(ma_fw.s _ (by omega) _ _).t f1, fun i => ?_, fun k => ?_, fun k => ?_, fun q hq => ?_⟩
      · rw [ma_s2r _ _ _ _ (by decide)]; exact f2 i
      · rw [ma_s2r _ _ _ _ (by decide)]; exact f3 k
      · rw [ma_s2r _ _ _ _ (by decide)]; exact f4 k
      · rw [ma_s2]
        by_cases e : q = p
        · subst e; rw [if_pos ⟨rfl, rfl⟩, if_pos ⟨Nat.lt_succ_self q, c⟩]
        · rw [if_neg (fun z => e z.2), f5 q hq]
          by_cases z : q < p ∧ bt J q = true
          · rw [if_pos z, if_pos ⟨by omega, z.2⟩]
          · rw [if_neg z, if_neg (fun w => z ⟨by have := w.1; omega, w.2⟩)]
    · rw [if_neg c, if_neg (by decide), ma_nme, nI_1]
      refine ih _ ⟨f1, f2, f3, f4, fun q hq => ?_⟩
      rw [f5 q hq]
      by_cases z : q < p ∧ bt J q = true
      · rw [if_pos z, if_pos ⟨by omega, z.2⟩]
      · rw [if_neg z, if_neg (fun w => z ⟨by have := w.1; have : q ≠ p := fun y => c (y ▸ w.2); omega, w.2⟩)]
  · rw [ma_s2r _ _ _ _ (by decide), ma_s2r _ _ _ _ (by decide)]
  · rw [ma_s2r _ _ _ _ (by decide), ma_s2]
    by_cases e : k = K
    · rw [if_pos ⟨rfl, e⟩, if_pos e]
    · rw [if_neg (fun z => e z.2), if_neg e]
  · rw [ma_s2]
    by_cases e : k = K
    · rw [if_pos ⟨rfl, e⟩, if_pos e]
    · rw [if_neg (fun z => e z.2), if_neg e, ma_s2r _ _ _ _ (by decide)]
  · rw [if_neg (fun z => absurd z.1 (Nat.not_lt_zero p)), ma_s2r _ _ _ _ (by decide), ma_s2r _ _ _ _ (by decide)]
theorem ma_startParts (hN : 21 ≤ N) (ho : en_ok E) {g0 : dl_Sg} (hC : en_C E g0) (h5 : g0 4 5 = (1 : Int32) <<< (nI r &&& 31)) : ma_wp (cl7_startParts N g0) (fun g => ma_fw g g0 ∧ wl_C E r (wl_A0 E) g) := by
  have hn := ho.n
  unfold cl7_startParts
  rw [ma_nme, ma_nme]
  refine ma_loop (fun k p (g : dl_Sg) => cl7_startParts_b7 N k (nI p) g) (fun m g => ma_fw g g0 ∧ g 4 4 = nI m ∧ g 4 5 = g0 4 5 ∧ (∀ k, k < m → g 22 k = (1 : Int32) <<< (nI k &&& 31) ∧ g 23 k = 0) ∧ ∀ p, p < m → g 24 p = nI p) _ (en_n E) ?_ ?_ N 0 _ (by omega) (by omega) ⟨ma_fw.s4 _ (by decide) _, ma_s2s _ _ _ _, ma_s2n _ _ (fun q => absurd q.2 (by decide)), fun k h => absurd h (Nat.not_lt_zero k), fun k h => absurd h (Nat.not_lt_zero k)⟩
  · rintro k g ⟨f1, f2, f3, f4, f5⟩
    rw [cl7_startParts_b7, (f1.C hC).n, if_pos ((ma_le (by omega) (by omega)).mpr (by omega))]
    exact ma_some ⟨f1, f2, f3.trans h5, f4, f5⟩
  · rintro k p g hp ⟨f1, f2, f3, f4, f5⟩ ih
    rw [cl7_startParts_b7, (f1.C hC).n, if_neg (fun q => absurd ((ma_le (by omega) (by omega)).mp q) (by omega))]
    obtain ⟨g1, e1, p1, p2, p3, p4, p5, p6⟩ := ma_addPart hN ho (f1.C hC) (K := p) (by omega) f2 ((1 : Int32) <<< (nI p &&& 31))
    rw [dl_bi_e e1, ma_nme, nI_1]
    refine ih _ ⟨p1.t f1, p2, (p3 5 (by decide)).trans f3, fun k hk => ?_, fun q hq => ?_⟩
    · rw [p4 k, p5 k]
      by_cases e : k = p
      · rw [if_pos e, if_pos e, e]; exact ⟨rfl, rfl⟩
      · rw [if_neg e, if_neg e]; exact f4 k (by omega)
    · rw [p6 q (by omega), ma_b1 (by omega)]
      by_cases e : q = p
      · rw [decide_eq_true e, if_pos rfl, e]
      · rw [decide_eq_false e, if_neg (by decide)]; exact f5 q (by omega)
/-- all active parts grow -/
theorem ma_cgrow (hN : 21 ≤ N) (ho : en_ok E) {g0 : dl_Sg} (hC : en_C E g0) (hI : wl_I E A) (hA : wl_C E r A g0) (hr : r < 32) (v : Nat) : ma_wp (cl7_growActive N g0 (nI v)) (fun g => ma_fw g g0 ∧ (∀ i, g 4 i = g0 4 i) ∧ wl_C E r (wl_grow E r A v) g) := by
  have hn := ho.n
  have hK := hI.K
  unfold cl7_growActive
  rw [ma_nme]
  refine ma_loop (fun k m (g : dl_Sg) => cl7_growActive_b2 N k (nI v) (nI m) g) (fun m g => ma_fw g g0 ∧ (∀ i, g 4 i = g0 4 i) ∧ (∀ k, k < wl_K A → g 22 k = wl_P A k) ∧ (∀ p, p < en_n E → g 24 p = nI (wl_O A p)) ∧ ∀ k, k < wl_K A → g 23 k = nI (if k < m then wl_H (wl_grow E r A v) k else wl_H A k)) _ (wl_K A) ?_ ?_ N 0 g0 (by omega) (by omega) ⟨ma_fw.rf _, fun _ => rfl, fun k hk => (hA.2.2.1 k hk).1, hA.2.2.2, fun k hk => by rw [if_neg (Nat.not_lt_zero k)]; exact (hA.2.2.1 k hk).2⟩
  · rintro k g ⟨f1, f2, f3, f4, f5⟩
    rw [cl7_growActive_b2, f2 4, hA.1, if_pos ((ma_le (by omega) (by omega)).mpr (by omega))]
    exact ma_some ⟨f1, f2, (f2 4).trans hA.1, (f2 5).trans hA.2.1, fun k hk => ⟨f3 k hk, by rw [f5 k hk, if_pos (show k < wl_K A from hk)]⟩, f4⟩
  · rintro k m g hm ⟨f1, f2, f3, f4, f5⟩ ih
    have hPm := hI.1 m hm
    obtain ⟨q0, _, q2, _, q4, _⟩ := ma_ntz (hPm.1.up (show en_n E ≤ 16 by omega)) hPm.2
    have hq0 : q0 < en_n E := hPm.1.lt q2
    have hnow : wl_O A q0 = m ↔ wl_now E A m := by
      constructor
      · intro e; exact ⟨q0, hq0, e⟩
      · rintro ⟨p, hp, e⟩
        rw [← e] at q2 ⊢
        exact hI.2.2.1 q0 p hq0 hp q2
    have hO := (hI.2.1 q0 hq0).1
    rw [cl7_growActive_b2, f2 4, hA.1, if_neg (fun q => absurd ((ma_le (by omega) (by omega)).mp q) (by omega)), ma_gde (ma_in_t (by omega) (by omega)), nI_clamp (by omega), f3 m hm, dl_bi_e q4, ma_gde (ma_in_t (by omega) (by omega)), nI_clamp (by omega), f4 q0 hq0]
    have hAg : wl_C E r ((wl_K A, wl_P A), (fun k => if k < m then wl_H (wl_grow E r A v) k else wl_H A k, wl_O A)) g := ⟨(f2 4).trans hA.1, (f2 5).trans hA.2.1, fun k hk => ⟨f3 k hk, f5 k hk⟩, f4⟩
    have hact : cl7_isActive g (nI m) = some (if wl_act E r A m = true then 1 else 0) := ma_cact (f1.C hC) hAg hr (by show wl_K A ≤ 20; omega) (by exact hm)
    -- what comes behind
    have fin : ∀ (g' : dl_Sg), ma_fw g' g0 → (∀ i, g' 4 i = g0 4 i) → (∀ k, k < wl_K A → g' 22 k = wl_P A k) → (∀ p, p < en_n E → g' 24 p = nI (wl_O A p)) → g' 23 m = nI (wl_H (wl_grow E r A v) m) → (∀ k, k ≠ m → g' 23 k = g 23 k) → ma_wp (cl7_growActive_b56 N (cl7_growActive_b2 N k) (nI v) (nI m) g') (fun g => ma_fw g g0 ∧ (∀ i, g 4 i = g0 4 i) ∧ wl_C E r (wl_grow E r A v) g) := by
      intro g' a1 a2 a3 a4 a5 a6
      unfold cl7_growActive_b56
      rw [ma_nme, nI_1]
      refine ih _ ⟨a1, a2, a3, a4, fun k hk => ?_⟩
      by_cases e : k = m
      · rw [e, a5, if_pos (Nat.lt_succ_self m)]
      · rw [a6 k e, f5 k hk]
        by_cases c : k < m
        · rw [if_pos c, if_pos (by omega)]
        · rw [if_neg c, if_neg (by omega)]
    have f5m := f5 m hm
    rw [if_neg (Nat.lt_irrefl m)] at f5m
    have eH : wl_H (wl_grow E r A v) m = if ma_dec (wl_now E A m) = true ∧ wl_act E r A m = true then wl_H A m + v else wl_H A m := rfl
    have eO : nI (wl_O A q0) = nI m ↔ wl_O A q0 = m := nI_eq (by omega) (by omega)
    unfold cl7_growActive_b33
    by_cases c1 : wl_now E A m
    · rw [if_pos (eO.mpr (hnow.mpr c1)), ma_nme, if_neg (by decide), dl_bi_e hact]
      by_cases c2 : wl_act E r A m = true
      · rw [if_pos c2, if_neg (by decide), ma_gde (ma_in_t (by omega) (by omega)), ma_gde (ma_in_t (by omega) (by omega)), ma_nme, ma_wr _ (by omega), nI_clamp (by omega), f5m, nI_add]
        refine fin _ ((ma_fw.s _ (by omega) _ _).t f1) (fun i => ?_) (fun k hk => ?_) (fun p hp => ?_) ?_ (fun k hk => ?_)
        · rw [ma_s2r _ _ _ _ (by decide)]; exact f2 i
        · rw [ma_s2r _ _ _ _ (by decide)]; exact f3 k hk
        · rw [ma_s2r _ _ _ _ (by decide)]; exact f4 p hp
        · rw [ma_s2s, eH, if_pos ⟨ma_dec_t.mpr c1, c2⟩]
        · rw [ma_s2n _ _ (fun q => hk q.2)]
      · rw [if_neg c2, if_pos rfl]
        exact fin g f1 f2 f3 f4 (by rw [f5m, eH, if_neg (fun q => c2 q.2)]) (fun _ _ => rfl)
    · rw [if_neg (fun q => c1 (hnow.mp (eO.mp q))), ma_nme, if_pos rfl]
      exact fin g f1 f2 f3 f4 (by rw [f5m, eH, if_neg (fun q => c1 (ma_dec_t.mp q.1))]) (fun _ _ => rfl)
end
