/-! The mathematics: walls, by the reference -/
def wl_M (E : ma_E) (r : Nat) (A : wl_S) (g : dl_Sg) : Prop := g 0 27 = nI (wl_K A) ∧ g 0 31 = nI r ∧ (∀ k, k < wl_K A → g 28 k = wl_P A k ∧ g 29 k = nI (wl_H A k)) ∧ ∀ p, p < en_n E → g 30 p = nI (wl_O A p)
def ma_fm (g g0 : dl_Sg) : Prop := (∀ k, k ≠ 0 → k ≠ 28 → k ≠ 29 → k ≠ 30 → g k = g0 k) ∧ ∀ i, i ≠ 27 → i ≠ 31 → g 0 i = g0 0 i
section
variable {E : ma_E} {N r : Nat} {A : wl_S} {g : dl_Sg}
theorem ma_fm.M {g g0 : dl_Sg} (h : ma_fm g g0) (hM : en_M E g0) : en_M E g :=
  hM.same (h.2 0 (by omega) (by omega)) (h.2 3 (by omega) (by omega)) (h.2 7 (by omega) (by omega)) (h.1 1 (by omega) (by omega) (by omega) (by omega)) (h.1 2 (by omega) (by omega) (by omega) (by omega)) (h.1 4 (by omega) (by omega) (by omega) (by omega)) (h.1 5 (by omega) (by omega) (by omega) (by omega)) (h.1 6 (by omega) (by omega) (by omega) (by omega))
theorem ma_fm.rf (g : dl_Sg) : ma_fm g g := ⟨fun _ _ _ _ _ => rfl, fun _ _ _ => rfl⟩
theorem ma_fm.t {g g1 g0 : dl_Sg} (h : ma_fm g g1) (h2 : ma_fm g1 g0) : ma_fm g g0 := ⟨fun k a b c d => (h.1 k a b c d).trans (h2.1 k a b c d), fun i a b => (h.2 i a b).trans (h2.2 i a b)⟩
theorem ma_fm.s (g : dl_Sg) {k : Nat} (hk : k = 28 ∨ k = 29 ∨ k = 30) (i : Nat) (v : Int32) : ma_fm (dl_s2 g k i v) g := ⟨fun k' a b c d => if_neg (by omega), fun j _ _ => by rw [ma_s2, if_neg (by omega)]⟩
theorem ma_fm.s0 (g : dl_Sg) {i : Nat} (hi : i = 27 ∨ i = 31) (v : Int32) : ma_fm (dl_s2 g 0 i v) g := ⟨fun k' a b c d => if_neg a, fun j _ _ => by rw [ma_s2, if_neg (by omega)]⟩
theorem ma_mact (hN : 21 ≤ N) (ho : en_ok E) (hM : en_M E g) (hA : wl_M E r A g) (hr : r < 32) (hK : wl_K A ≤ 20) {k : Nat} (hk : k < wl_K A) : mo_isActive N g (nI k) = some (if wl_act E r A k = true then 1 else 0) := by
  unfold mo_isActive wl_act
  rw [ma_gde (ma_in_t (by omega) (by omega)), dl_bi_e (ma_taps (by omega) ho hM), nI_clamp (by omega), (hA.2.2.1 k hk).1, ma_gde (ma_in_t (by omega) (by omega)), hA.2.1, dl_bi_e (ma_has _ hr)]
  by_cases c1 : wl_P A k &&& en_taps E = 0
  · rw [if_pos c1, decide_eq_true c1]; rfl
  · rw [if_neg c1, decide_eq_false c1]
    cases bt (wl_P A k) r <;> rfl
theorem ma_msome (hN : 21 ≤ N) (ho : en_ok E) (hM : en_M E g) (hI : wl_I E A) (hA : wl_M E r A g) (hr : r < 32) : ma_wp (mo_someActive N g) (fun x => (x = 0 ∧ ¬ wl_some E r A) ∨ (x = 1 ∧ wl_some E r A)) := by
  have hn := ho.n
  have hK := hI.K
  unfold mo_someActive
  rw [ma_nme, ma_nme]
  refine ma_loop (fun k p (x : Int32) => mo_someActive_b4 N g k x (nI p)) (fun p x => (x = 0 ∧ ∀ q, q < p → ¬ wl_act E r A (wl_O A q) = true) ∨ (x = 1 ∧ wl_some E r A)) _ (en_n E) ?_ ?_ N 0 0 (by omega) (by omega) (Or.inl ⟨rfl, fun q h => absurd h (Nat.not_lt_zero q)⟩)
  · rintro k x h
    rw [mo_someActive_b4, hM.n, if_pos ((ma_le (by omega) (by omega)).mpr (by omega))]
    rcases h with ⟨h1, h2⟩ | ⟨h1, h2⟩
    · rw [h1]
      exact ma_gd rfl (ma_some (Or.inl ⟨rfl, fun ⟨p, hp, q⟩ => h2 p hp q⟩))
    · rw [h1]
      exact ma_gd rfl (ma_some (Or.inr ⟨rfl, h2⟩))
  · rintro k p x hp h ih
    have hp1 := hI.2.1 p hp
    rw [mo_someActive_b4, hM.n, if_neg (fun q => absurd ((ma_le (by omega) (by omega)).mp q) (by omega))]
    unfold mo_someActive_b29 mo_someActive_b34
    rcases h with ⟨h1, h2⟩ | ⟨h1, h2⟩
    · rw [if_pos h1, ma_gde (ma_in_t (by omega) (by omega)), nI_clamp (by omega), hA.2.2.2 p hp, dl_bi_e (ma_mact hN ho hM hA hr (by omega) hp1.1)]
      by_cases c : wl_act E r A (wl_O A p) = true
      · rw [if_pos c, if_neg (by decide), ma_nme, ma_nme, nI_1]
        exact ih 1 (Or.inr ⟨rfl, p, hp, c⟩)
      · rw [if_neg c, if_pos rfl, ma_nme, ma_nme, nI_1]
        refine ih 0 (Or.inl ⟨rfl, fun q hq => ?_⟩)
        by_cases e : q = p
        · rw [e]; exact c
        · exact h2 q (by omega)
    · rw [if_neg (by rw [h1]; decide), ma_nme, ma_nme, nI_1]
      exact ih 1 (Or.inr ⟨rfl, h2⟩)
theorem ma_mnow (hN : 21 ≤ N) (ho : en_ok E) (hM : en_M E g) (hI : wl_I E A) (hO : ∀ p, p < en_n E → g 30 p = nI (wl_O A p)) {k : Nat} (hk : k < wl_K A) : ma_wp (mo_isNow N g (nI k)) (fun x => (x = 0 ∧ ¬ wl_now E A k) ∨ (x = 1 ∧ wl_now E A k)) := by
  have hn := ho.n
  have hK := hI.K
  unfold mo_isNow
  rw [ma_nme, ma_nme]
  refine ma_loop (fun k2 p (x : Int32) => mo_isNow_b4 N g k2 (nI k) x (nI p)) (fun p x => (x = 0 ∧ ∀ q, q < p → ¬ wl_O A q = k) ∨ (x = 1 ∧ wl_now E A k)) _ (en_n E) ?_ ?_ N 0 0 (by omega) (by omega) (Or.inl ⟨rfl, fun q h => absurd h (Nat.not_lt_zero q)⟩)
  · rintro k2 x h
    rw [mo_isNow_b4, hM.n, if_pos ((ma_le (by omega) (by omega)).mpr (by omega))]
    rcases h with ⟨h1, h2⟩ | ⟨h1, h2⟩
    · rw [h1]
      exact ma_gd rfl (ma_some (Or.inl ⟨rfl, fun ⟨p, hp, q⟩ => h2 p hp q⟩))
    · rw [h1]
      exact ma_gd rfl (ma_some (Or.inr ⟨rfl, h2⟩))
  · rintro k2 p x hp h ih
    have hp1 := hI.2.1 p hp
    rw [mo_isNow_b4, hM.n, if_neg (fun q => absurd ((ma_le (by omega) (by omega)).mp q) (by omega))]
    unfold mo_isNow_b26 mo_isNow_b31
    rcases h with ⟨h1, h2⟩ | ⟨h1, h2⟩
    · rw [if_pos h1, ma_gde (ma_in_t (by omega) (by omega)), nI_clamp (by omega), hO p hp]
      have e : nI (wl_O A p) = nI k ↔ wl_O A p = k := nI_eq (by omega) (by omega)
      by_cases c : wl_O A p = k
      · rw [if_pos (e.mpr c), ma_nme, ma_nme, nI_1]
        exact ih 1 (Or.inr ⟨rfl, p, hp, c⟩)
      · rw [if_neg (fun q => c (e.mp q)), ma_nme, ma_nme, nI_1]
        refine ih 0 (Or.inl ⟨rfl, fun q hq => ?_⟩)
        by_cases e : q = p
        · rw [e]; exact c
        · exact h2 q (by omega)
    · rw [if_neg (by rw [h1]; decide), ma_nme, ma_nme, nI_1]
      exact ih 1 (Or.inr ⟨rfl, h2⟩)
theorem ma_msides (hN : 21 ≤ N) (ho : en_ok E) (hM : en_M E g) (hI : wl_I E A) (hA : wl_M E r A g) (hr : r < 32) {s : Nat} (hs : s < en_m E) : mo_sides N g (nI s) = some (nI (wl_c E r A s)) := by
  have hn := ho.n
  have hm := ho.m
  have ha := ho.a hs
  have hb := ho.b hs
  have hK := hI.K
  have ka := (hI.2.1 _ ha).1
  have kb := (hI.2.1 _ hb).1
  unfold mo_sides mo_sides_b57 mo_sides_b40
  rw [ma_gde (ma_in_t (by omega) (by omega)), nI_clamp (by omega), hM.a hs, hM.b hs, ma_gde (ma_in_t (by omega) (by omega)), nI_clamp (by omega), hA.2.2.2 _ ha, ma_nme, ma_gde (ma_in_t (by omega) (by omega)), ma_gde (ma_in_t (by omega) (by omega)), nI_clamp (by omega), hA.2.2.2 _ hb, ma_nme, hM.t, dl_bi_e (ma_has _ (by omega))]
  have e : nI (wl_O A (en_a E s)) = nI (wl_O A (en_b E s)) ↔ wl_O A (en_a E s) = wl_O A (en_b E s) := nI_eq (by omega) (by omega)
  unfold wl_c
  by_cases c1 : bt (en_t E) s = true
  · rw [if_pos c1, if_neg (by decide)]
    by_cases c2 : wl_O A (en_a E s) = wl_O A (en_b E s)
    · rw [if_pos (e.mpr c2), if_neg (fun q => q.2 c2)]; rfl
    · rw [if_neg (fun q => c2 (e.mp q)), if_pos ⟨c1, c2⟩, dl_bi_e (ma_mact hN ho hM hA hr (by omega) ka), ma_mact hN ho hM hA hr (by omega) kb]
      cases wl_act E r A (wl_O A (en_a E s)) <;> cases wl_act E r A (wl_O A (en_b E s)) <;> rfl
  · rw [if_neg c1, if_pos rfl, if_neg (fun q => c1 q.1)]; rfl
theorem ma_mroom (hN : 21 ≤ N) (ho : en_ok E) (hM : en_M E g) (hI : wl_I E A) (hA : wl_M E r A g) {s : Nat} (hs : s < en_m E) : mo_room N g (nI s) = some (nI (1024 * en_c E s) - nI (wl_sum E A s (wl_K A))) := by
  have hn := ho.n
  have hm := ho.m
  have ha := ho.a hs
  have hb := ho.b hs
  have hK := hI.K
  unfold mo_room
  rw [ma_gde (ma_in_t (by omega) (by omega)), nI_clamp (by omega), hM.c hs, ma_nme, ma_nme, show (1024 : Int32) * nI (en_c E s) = nI (1024 * en_c E s) from pk_mul 1024 _]
  refine ma_is ?_
  refine ma_loop (fun k m (x : Int32) => mo_room_b13 N g k (nI s) x (nI m)) (fun m x => x = nI (1024 * en_c E s) - nI (wl_sum E A s m)) _ (wl_K A) ?_ ?_ N 0 _ (by omega) (by omega) ?_
  · rintro k x h
    rw [mo_room_b13, hA.1, if_pos ((ma_le (by omega) (by omega)).mpr (by omega))]
    exact ma_some h
  · rintro k m x hm2 h ih
    rw [mo_room_b13, hA.1, if_neg (fun q => absurd ((ma_le (by omega) (by omega)).mp q) (by omega)), ma_gde (ma_in_t (by omega) (by omega)), ma_gde (ma_in_t (by omega) (by omega)), nI_clamp (by omega), nI_clamp (by omega), (hA.2.2.1 m hm2).1, (hA.2.2.1 m hm2).2, hM.a hs, hM.b hs, dl_bi_e (ma_has _ (by omega)), ma_gde (ma_in_t (by omega) (by omega)), ma_gde (ma_in_t (by omega) (by omega)), dl_bi_e (ma_has _ (by omega)), ma_gde (ma_in_t (by omega) (by omega))]
    unfold mo_room_b65
    have es : wl_sum E A s (m + 1) = wl_sum E A s m + (if wl_x E A s m = true then wl_H A m else 0) := rfl
    have hx : (if bt (wl_P A m) (en_a E s) = true then (1 : Int32) else 0) = (if bt (wl_P A m) (en_b E s) = true then (1 : Int32) else 0) ↔ wl_x E A s m = false := by
      unfold wl_x
      cases bt (wl_P A m) (en_a E s) <;> cases bt (wl_P A m) (en_b E s) <;> decide
    by_cases c : wl_x E A s m = true
    · rw [if_neg (fun q => by rw [hx.mp q] at c; cases c), ma_nme, ma_nme, nI_1]
      refine ih _ ?_
      rw [es, if_pos c, h, ma_sb]
    · rw [if_pos (hx.mpr (Bool.eq_false_iff.mpr c)), ma_nme, ma_nme, nI_1]
      refine ih _ ?_
      rw [es, if_neg c, Nat.add_zero, h]
      exact Int32.sub_zero _
  · show _ = nI (1024 * en_c E s) - nI 0
    exact (Int32.sub_zero _).symm
/-- two parts are joined -/
theorem ma_mjoin (hN : 21 ≤ N) (ho : en_ok E) {g0 : dl_Sg} (hM : en_M E g0) (hI : wl_I E A) (hA : wl_M E r A g0) {s : Nat} (hs : s < en_m E) (hne : wl_O A (en_a E s) ≠ wl_O A (en_b E s)) : ma_wp (mo_joins N g0 (nI s)) (fun g => ma_fm g g0 ∧ wl_M E r (wl_join E A s) g) := by
  have hn := ho.n
  have hm := ho.m
  have ha := ho.a hs
  have hb := ho.b hs
  have hK := hI.room ho hs hne
  have ka := (hI.2.1 _ ha).1
  have kb := (hI.2.1 _ hb).1
  unfold mo_joins
  rw [ma_gde (ma_in_t (by omega) (by omega)), nI_clamp (by omega), hM.a hs, hM.b hs, ma_gde (ma_in_t (by omega) (by omega)), nI_clamp (by omega), hA.2.2.2 _ ha, ma_nme, ma_gde (ma_in_t (by omega) (by omega)), ma_gde (ma_in_t (by omega) (by omega)), nI_clamp (by omega), hA.2.2.2 _ hb, ma_nme, ma_gde (ma_in_t (by omega) (by omega)), ma_gde (ma_in_t (by omega) (by omega)), hA.1, ma_gde (ma_in_t (by omega) (by omega)), nI_clamp (by omega), nI_clamp (by omega), (hA.2.2.1 _ ka).1, (hA.2.2.1 _ kb).1, ma_nme, ma_wr _ (by omega), ma_s2r _ _ _ _ (by decide), hA.1, ma_gde (ma_in_t (by omega) (by omega)), ma_nme, ma_wr _ (by omega), ma_nme]
  refine ma_loop (fun k p (g : dl_Sg) => mo_joins_b59 N k (nI (wl_O A (en_a E s))) (nI (wl_O A (en_b E s))) (nI p) g) (fun m g => ma_fm g g0 ∧ (g 0 27 = nI (wl_K A) ∧ g 0 31 = nI r) ∧ (∀ k, g 28 k = if k = wl_K A then wl_P A (wl_O A (en_a E s)) ||| wl_P A (wl_O A (en_b E s)) else g0 28 k) ∧ (∀ k, g 29 k = if k = wl_K A then 0 else g0 29 k) ∧ ∀ p, p < en_n E → g 30 p = nI (if p < m then wl_O (wl_join E A s) p else wl_O A p)) _ (en_n E) ?_ ?_ N 0 _ (by omega) (by omega) ⟨(ma_fm.s _ (by omega) _ _).t (ma_fm.s _ (by omega) _ _), ⟨?_, ?_⟩, fun k => ?_, fun k => ?_, fun p hp => ?_⟩
  · rintro k g ⟨f1, ⟨f2, f2'⟩, f3, f4, f5⟩
    rw [mo_joins_b59, (f1.M hM).n, if_pos ((ma_le (by omega) (by omega)).mpr (by omega)), f2, nI_1, ma_nme]
    refine ma_some ⟨(ma_fm.s0 _ (by omega) _).t f1, ma_s2s _ _ _ _, ?_, fun k hk => ?_, fun p hp => ?_⟩
    · rw [ma_s2n _ _ (fun q => absurd q.2 (by decide))]; exact f2'
    · have hk : k < wl_K A + 1 := hk
      rw [ma_s2r _ _ _ _ (by decide), ma_s2r _ _ _ _ (by decide), f3, f4]
      show (if k = wl_K A then _ else _) = va_up _ _ _ k ∧ (if k = wl_K A then _ else _) = nI (va_up _ _ _ k)
      unfold va_up
      by_cases e : k = wl_K A
      · rw [if_pos e, if_pos e, if_pos e, if_pos e]; exact ⟨rfl, rfl⟩
      · rw [if_neg e, if_neg e, if_neg e, if_neg e]; exact hA.2.2.1 k (by omega)
    · rw [ma_s2r _ _ _ _ (by decide), f5 p hp, if_pos hp]
  · rintro k p g hp ⟨f1, f2, f3, f4, f5⟩ ih
    have hp1 := (hI.2.1 p hp).1
    have f5p := f5 p hp
    rw [if_neg (Nat.lt_irrefl p)] at f5p
    rw [mo_joins_b59, (f1.M hM).n, if_neg (fun q => absurd ((ma_le (by omega) (by omega)).mp q) (by omega)), ma_gde (ma_in_t (by omega) (by omega)), nI_clamp (by omega), f5p, ma_gde (ma_in_t (by omega) (by omega)), ma_gde (ma_in_t (by omega) (by omega))]
    unfold mo_joins_b96 mo_joins_b110
    have e1 : nI (wl_O A p) = nI (wl_O A (en_a E s)) ↔ wl_O A p = wl_O A (en_a E s) := nI_eq (by omega) (by omega)
    have e2 : nI (wl_O A p) = nI (wl_O A (en_b E s)) ↔ wl_O A p = wl_O A (en_b E s) := nI_eq (by omega) (by omega)
    have fin : ∀ v, v = wl_O (wl_join E A s) p → ma_wp (mo_joins_b59 N k (nI (wl_O A (en_a E s))) (nI (wl_O A (en_b E s))) (nI (p + 1)) (dl_s2 g 30 p (nI v))) (fun g => ma_fm g g0 ∧ wl_M E r (wl_join E A s) g) := by
      intro v hv
      refine ih _ ⟨(ma_fm.s _ (by omega) _ _).t f1, ⟨by rw [ma_s2r _ _ _ _ (by decide)]; exact f2.1, by rw [ma_s2r _ _ _ _ (by decide)]; exact f2.2⟩, fun k => by rw [ma_s2r _ _ _ _ (by decide)]; exact f3 k, fun k => by rw [ma_s2r _ _ _ _ (by decide)]; exact f4 k, fun q hq => ?_⟩
      rw [ma_s2]
      by_cases e : q = p
      · rw [if_pos ⟨rfl, e⟩, hv, e, if_pos (Nat.lt_succ_self p)]
      · rw [if_neg (fun z => e z.2), f5 q hq]
        by_cases c : q < p
        · rw [if_pos c, if_pos (show q < p + 1 by omega)]
        · rw [if_neg c, if_neg (show ¬ q < p + 1 by omega)]
    have eO : wl_O (wl_join E A s) p = if wl_O A p = wl_O A (en_a E s) ∨ wl_O A p = wl_O A (en_b E s) then wl_K A else wl_O A p := rfl
    rw [f2.1]
    by_cases c1 : wl_O A p = wl_O A (en_a E s)
    · rw [if_pos (e1.mpr c1), ma_gde (ma_in_t (by omega) (by omega)), ma_nme, ma_nme, nI_1, ma_wr _ (by omega)]
      exact fin _ (by rw [eO, if_pos (Or.inl c1)])
    · rw [if_neg (fun q => c1 (e1.mp q))]
      by_cases c2 : wl_O A p = wl_O A (en_b E s)
      · rw [if_pos (e2.mpr c2), ma_gde (ma_in_t (by omega) (by omega)), ma_nme, ma_nme, nI_1, ma_wr _ (by omega)]
        exact fin _ (by rw [eO, if_pos (Or.inr c2)])
      · rw [if_neg (fun q => c2 (e2.mp q)), ma_gde (ma_in_t (by omega) (by omega)), ma_nme, ma_nme, nI_1, ma_wr _ (by omega)]
        exact fin _ (by rw [eO, if_neg (fun q => q.elim c1 c2)])
  · rw [ma_s2r _ _ _ _ (by decide), ma_s2r _ _ _ _ (by decide)]; exact hA.1
  · rw [ma_s2r _ _ _ _ (by decide), ma_s2r _ _ _ _ (by decide)]; exact hA.2.1
  · rw [ma_s2r _ _ _ _ (by decide), ma_s2]
    by_cases e : k = wl_K A
    · rw [if_pos ⟨rfl, e⟩, if_pos e]
    · rw [if_neg (fun z => e z.2), if_neg e]
  · rw [ma_s2]
    by_cases e : k = wl_K A
    · rw [if_pos ⟨rfl, e⟩, if_pos e]
    · rw [if_neg (fun z => e z.2), if_neg e, ma_s2r _ _ _ _ (by decide)]
  · rw [if_neg (Nat.not_lt_zero p), ma_s2r _ _ _ _ (by decide), ma_s2r _ _ _ _ (by decide)]; exact hA.2.2.2 p hp
end
