/-! The mathematics: how far, as the reference works it out -/
section
variable {E : ma_E} {N : Nat} {g : dl_Sg}
/-- L is the least cost of a street from a to p, or FAR -/
def ds_L (E : ma_E) (m a p L : Nat) : Prop := ((L = ds_F ∧ ∀ s, s < m → ¬ en_st E s a p) ∨ ∃ s, en_st E s a p ∧ L = en_c E s) ∧ (∀ s, s < m → en_st E s a p → L ≤ en_c E s) ∧ L ≤ ds_F
theorem ma_link (hN : 17 ≤ N) (ho : en_ok E) (hM : en_M E g) {a p : Nat} (ha : a < en_n E) (hp : p < en_n E) : ma_wp (mo_link N g (nI a) (nI p)) (fun r => ∃ L, ds_L E (en_m E) a p L ∧ r = nI L) := by
  have hn := ho.n
  have hm := ho.m
  have hF : ds_F = 100000000 := rfl
  unfold mo_link
  rw [ma_nme, ma_nme]
  refine ma_loop (fun k s (x : Int32) => mo_link_b6 N g k (nI a) (nI p) x (nI s)) (fun s x => ∃ L, ds_L E s a p L ∧ x = nI L) _ (en_m E) ?_ ?_ N 0 (100000000 : Int32) (by omega) (by omega) ⟨ds_F, ⟨Or.inl ⟨rfl, fun s hs => absurd hs (by omega)⟩, fun s hs => absurd hs (by omega), Nat.le_refl _⟩, rfl⟩
  · intro k x hI
    rw [mo_link_b6, hM.m, if_pos ((ma_le (by omega) (by omega)).mpr (by omega))]
    exact ma_some hI
  · rintro k s x hs ⟨L, hL, rfl⟩ ih
    have hA := ho.a hs
    have hB := ho.b hs
    have hc := ho.c2 hs
    have hL3 := hL.2.2
    rw [mo_link_b6, hM.m, if_neg (fun q => absurd ((ma_le (by omega) (by omega)).mp q) (by omega)), hM.t, dl_bi_e (ma_has _ (by omega))]
    -- the street does not join them
    have no : (¬ en_st E s a p) → ma_wp (mo_link_b75 N g (mo_link_b6 N g k) (nI a) (nI p) (nI L) (nI s)) (fun r => ∃ L, ds_L E (en_m E) a p L ∧ r = nI L) := by
      intro q
      unfold mo_link_b75 mo_link_b76 mo_link_b104 mo_link_b105
      rw [ma_nme, if_pos rfl, ma_nme, ma_nme, nI_1]
      refine ih _ ⟨L, ⟨?_, fun s' hs' hst => ?_, hL3⟩, rfl⟩
      · rcases hL.1 with ⟨q1, q2⟩ | q1
        · refine Or.inl ⟨q1, fun s' hs' hst => ?_⟩
          by_cases e : s' = s
          · subst e; exact q hst
          · exact q2 s' (by omega) hst
        · exact Or.inr q1
      · by_cases e : s' = s
        · subst e; exact absurd hst q
        · exact hL.2.1 s' (by omega) hst
    have yes : en_st E s a p → ma_wp (mo_link_b71 N g (mo_link_b6 N g k) (nI a) (nI p) (nI L) (nI s)) (fun r => ∃ L, ds_L E (en_m E) a p L ∧ r = nI L) := by
      intro q
      unfold mo_link_b71 mo_link_b76 mo_link_b104 mo_link_b105
      rw [ma_nme, if_neg (by decide), ma_gde (ma_in_t (by omega) (by omega)), nI_clamp (by omega), hM.c hs, ma_gde (ma_in_t (by omega) (by omega))]
      by_cases c : L ≤ en_c E s
      · rw [if_pos ((ma_le (by omega) (by omega)).mpr c), ma_nme, ma_nme, nI_1]
        refine ih _ ⟨L, ⟨?_, fun s' hs' hst => ?_, hL3⟩, rfl⟩
        · rcases hL.1 with ⟨q1, q2⟩ | q1
          · omega
          · exact Or.inr q1
        · by_cases e : s' = s
          · subst e; exact c
          · exact hL.2.1 s' (by omega) hst
      · rw [if_neg (fun q => c ((ma_le (by omega) (by omega)).mp q)), ma_nme, ma_nme, nI_1]
        refine ih _ ⟨en_c E s, ⟨Or.inr ⟨s, q, rfl⟩, fun s' hs' hst => ?_, by omega⟩, rfl⟩
        by_cases e : s' = s
        · subst e; exact Nat.le_refl _
        · have := hL.2.1 s' (by omega) hst
          omega
    by_cases ht : bt (en_t E) s = true
    · rw [if_pos ht, if_neg (by decide), ma_gde (ma_in_t (by omega) (by omega)), nI_clamp (by omega), hM.a hs, hM.b hs, ma_gde (ma_in_t (by omega) (by omega))]
      have e1 : nI (en_a E s) = nI a ↔ en_a E s = a := nI_eq (by omega) (by omega)
      have e2 : nI (en_b E s) = nI p ↔ en_b E s = p := nI_eq (by omega) (by omega)
      have e3 : nI (en_a E s) = nI p ↔ en_a E s = p := nI_eq (by omega) (by omega)
      have e4 : nI (en_b E s) = nI a ↔ en_b E s = a := nI_eq (by omega) (by omega)
      have snd : ¬ (en_a E s = a ∧ en_b E s = p) → ma_wp (mo_link_b49 N g (mo_link_b6 N g k) (nI a) (nI p) (nI L) (nI s)) (fun r => ∃ L, ds_L E (en_m E) a p L ∧ r = nI L) := by
        intro q
        unfold mo_link_b49
        rw [ma_gde (ma_in_t (by omega) (by omega)), nI_clamp (by omega), hM.a hs, hM.b hs, ma_gde (ma_in_t (by omega) (by omega))]
        by_cases c3 : en_a E s = p
        · rw [if_pos (e3.mpr c3)]
          by_cases c4 : en_b E s = a
          · rw [if_pos (e4.mpr c4)]
            exact yes ⟨hs, ht, Or.inr ⟨c3, c4⟩⟩
          · rw [if_neg (fun q => c4 (e4.mp q))]
            refine no (fun h => ?_)
            rcases h.2.2 with h | h
            · exact q h
            · exact c4 h.2
        · rw [if_neg (fun q => c3 (e3.mp q))]
          refine no (fun h => ?_)
          rcases h.2.2 with h | h
          · exact q h
          · exact c3 h.1
      by_cases c1 : en_a E s = a
      · rw [if_pos (e1.mpr c1)]
        by_cases c2 : en_b E s = p
        · rw [if_pos (e2.mpr c2)]
          exact yes ⟨hs, ht, Or.inl ⟨c1, c2⟩⟩
        · rw [if_neg (fun q => c2 (e2.mp q))]
          exact snd (fun q => c2 q.2)
      · rw [if_neg (fun q => c1 (e1.mp q))]
        exact snd (fun q => c1 q.1)
    · rw [if_neg ht, if_pos rfl]
      exact no (fun h => ht h.2.1)
/-- what it costs to go from a over p -/
theorem ma_goes (hN : 17 ≤ N) (ho : en_ok E) (hM : en_M E g) {f : Nat → Nat} (hf : ma_row E 26 f g) (hF : ∀ x, x < en_n E → f x ≤ ds_F) {a p b : Nat} (ha : a < en_n E) (hp : p < en_n E) (hb : b < en_n E) : ma_wp (mo_goes N g (nI a) (nI p) (nI b)) (fun r => ∃ v, r = nI v ∧ v ≤ 200000000 ∧ (∀ s, en_st E s a p → v ≤ en_c E s + en_q E b p + f p) ∧ (v = ds_F ∨ ∃ s, en_st E s a p ∧ f p < ds_F ∧ v = en_c E s + en_q E b p + f p)) := by
  have hn := ho.n
  have hq := en_q_le ho b hp
  have hfp := hF p hp
  have hFF : ds_F = 100000000 := rfl
  have hk := ho.k hp
  have hw := ho.w hp
  unfold mo_goes
  obtain ⟨r, hr, L, hL, rfl⟩ := ma_link hN ho hM ha hp
  rw [dl_bi_e hr, ma_nme]
  have hL3 := hL.2.2
  have cF : ma_wp (mo_goes_b26 N g) (fun r => ∃ v, r = nI v ∧ v ≤ 200000000 ∧ (∀ s, en_st E s a p → ds_F ≤ en_c E s + en_q E b p + f p → v ≤ en_c E s + en_q E b p + f p) ∧ (v = ds_F ∨ ∃ s, en_st E s a p ∧ f p < ds_F ∧ v = en_c E s + en_q E b p + f p)) := ma_some ⟨ds_F, rfl, by omega, fun _ _ h => h, Or.inl rfl⟩
  have eL : nI L = (100000000 : Int32) ↔ L = ds_F := nI_eq (a := L) (b := ds_F) (by omega) (by omega)
  have ef : nI (f p) = (100000000 : Int32) ↔ f p = ds_F := nI_eq (a := f p) (b := ds_F) (by omega) (by omega)
  by_cases c1 : L = ds_F
  · rw [if_pos (eL.mpr c1)]
    refine ma_mono cF ?_
    rintro r ⟨v, e, h1, h2, h3⟩
    refine ⟨v, e, h1, fun s hst => h2 s hst ?_, h3⟩
    have := hL.2.1 s hst.1 hst
    have := ho.c2 hst.1
    omega
  · rw [if_neg (fun q => c1 (eL.mp q)), ma_gde (ma_in_t (by omega) (by omega)), nI_clamp (by omega), hf p hp]
    by_cases c2 : f p = ds_F
    · rw [if_pos (ef.mpr c2)]
      refine ma_mono cF ?_
      rintro r ⟨v, e, h1, h2, h3⟩
      exact ⟨v, e, h1, fun s hst => h2 s hst (by omega), h3⟩
    · rw [if_neg (fun q => c2 (ef.mp q))]
      obtain ⟨s0, hs0, e0⟩ : ∃ s, en_st E s a p ∧ L = en_c E s := by
        rcases hL.1 with q | q
        · exact absurd q.1 c1
        · exact q
      have fin : ma_wp (some (nI L + nI (en_q E b p) + nI (f p))) (fun r => ∃ v, r = nI v ∧ v ≤ 200000000 ∧ (∀ s, en_st E s a p → v ≤ en_c E s + en_q E b p + f p) ∧ (v = ds_F ∨ ∃ s, en_st E s a p ∧ f p < ds_F ∧ v = en_c E s + en_q E b p + f p)) := by
        rw [nI_add, nI_add]
        have hc0 := ho.c2 hs0.1
        refine ma_some ⟨_, rfl, by omega, fun s hst => ?_, Or.inr ⟨s0, hs0, by omega, by rw [e0]⟩⟩
        have := hL.2.1 s hst.1 hst
        omega
      unfold mo_goes_b57 mo_goes_b58
      rw [ma_gde (ma_in_t (by omega) (by omega)), nI_clamp (by omega), hf p hp]
      have ep : nI p = nI b ↔ p = b := nI_eq (by omega) (by omega)
      have e0 : (nI L + (0 : Int32) + nI (f p)) = nI L + nI 0 + nI (f p) := rfl
      by_cases c3 : p = b
      · rw [if_pos (ep.mpr c3), e0]
        have : en_q E b p = 0 := if_pos c3
        rw [this] at fin
        rw [this]
        exact fin
      · rw [if_neg (fun q => c3 (ep.mp q)), ma_gde (ma_in_t (by omega) (by omega)), hM.k hp]
        have e4 : nI (en_k E p) = (4 : Int32) ↔ en_k E p = 4 := nI_eq (a := en_k E p) (b := 4) (by omega) (by omega)
        have eq1 : en_q E b p = en_pr E p := if_neg c3
        by_cases c4 : en_k E p = 4
        · rw [if_pos (e4.mpr c4), ma_gde (ma_in_t (by omega) (by omega)), hM.w hp]
          have : en_q E b p = en_w E p := by rw [eq1]; exact if_pos c4
          rw [this] at fin
          rw [this]
          exact ma_gd (ma_in_t (by omega) (by omega)) fin
        · rw [if_neg (fun q => c4 (e4.mp q)), e0]
          have : en_q E b p = 0 := by rw [eq1]; exact if_neg c4
          rw [this] at fin
          rw [this]
          exact fin
/-- the state inside a round of the reference: pairs below (a, p) are through -/
def ma_Fi (E : ma_E) (b r : Nat) (g0 : dl_Sg) (X : Nat → Nat → Prop) (g : dl_Sg) : Prop :=
  (∀ k, k ≠ 26 → g k = g0 k) ∧ ∃ f, ma_row E 26 f g ∧ ds_B E b r f ∧ (∀ s a p, X a p → en_st E s a p → a ≠ b → ds_rk E (ds_d E b) p ≤ r → f a ≤ en_c E s + en_q E b p + ds_d E b p)
theorem ma_fr26 {g g0 : dl_Sg} (hM : en_M E g0) (h : ∀ k, k ≠ 26 → g k = g0 k) : en_M E g :=
  hM.same (by rw [h 0 (by omega)]) (by rw [h 0 (by omega)]) (by rw [h 0 (by omega)]) (h 1 (by omega)) (h 2 (by omega)) (h 4 (by omega)) (h 5 (by omega)) (h 6 (by omega))
theorem ma_fars_in (hN : 17 ≤ N) (ho : en_ok E) {g0 : dl_Sg} (hM : en_M E g0) {b r a : Nat} (hb : b < en_n E) (ha : a < en_n E) (k35 : Int32 → Int32 → dl_Sg → Option dl_Sg) (k45 : Int32 → Int32 → Int32 → dl_Sg → Option dl_Sg) (x2 : Int32) (Q : dl_Sg → Prop)
    (hk : ∀ g, ma_Fi E b r g0 (fun a' _ => a' < a + 1) g → ma_wp (k45 (nI b) x2 (nI (a + 1)) g) Q) :
    ∀ k p g, p ≤ en_n E → en_n E - p < k → ma_Fi E b r g0 (fun a' p' => a' < a ∨ (a' = a ∧ p' < p)) g → ma_wp (mo_fars_b56 N k35 k45 k (nI b) x2 (nI a) (nI p) g) Q := by
  have hn := ho.n
  have hFF : ds_F = 100000000 := rfl
  refine ma_loop (fun k p (g : dl_Sg) => mo_fars_b56 N k35 k45 k (nI b) x2 (nI a) (nI p) g) (fun p g => ma_Fi E b r g0 (fun a' p' => a' < a ∨ (a' = a ∧ p' < p)) g) Q (en_n E) ?_ ?_
  · rintro k g ⟨hfr, f, hf, hB, hD⟩
    have hM1 := ma_fr26 hM hfr
    rw [mo_fars_b56, hM1.n, if_pos ((ma_le (by omega) (by omega)).mpr (by omega)), ma_nme, nI_1]
    refine hk g ⟨hfr, f, hf, hB, fun s a' p' hx hst hab hr => hD s a' p' ?_ hst hab hr⟩
    have := en_st.r ho hst
    have hx : a' < a + 1 := hx
    rcases Nat.lt_or_ge a' a with q | q
    · exact Or.inl q
    · exact Or.inr ⟨by omega, this⟩
  · rintro k p g hp ⟨hfr, f, hf, hB, hD⟩ ih
    have hM1 := ma_fr26 hM hfr
    rw [mo_fars_b56, hM1.n, if_neg (fun q => absurd ((ma_le (by omega) (by omega)).mp q) (by omega))]
    have hfa := hB.2.1 a ha
    -- the end of the body: v is held against what stands there
    have fin : ∀ v, v ≤ 200000000 → (a ≠ b → ∀ s, en_st E s a p → v ≤ en_c E s + en_q E b p + f p ∨ f a ≤ en_c E s + en_q E b p + f p) → (v < f a → a ≠ b ∧ ds_d E b a ≤ v) → ma_wp (mo_fars_b89 N k35 k45 (mo_fars_b56 N k35 k45 k) (nI b) x2 (nI a) (nI p) (nI v) g) Q := by
      intro v hv h1 h2
      unfold mo_fars_b89 mo_fars_b118
      rw [ma_nme, ma_gde (ma_in_t (by omega) (by omega)), nI_clamp (by omega), hf a ha]
      by_cases c : f a ≤ v
      · rw [if_pos ((ma_le (by omega) (by omega)).mpr c), ma_gde (ma_in_t (by omega) (by omega)), ma_gde (ma_in_t (by omega) (by omega)), ma_nme, ma_nme, nI_1, ma_wr _ (by omega)]
        refine ih _ ⟨fun k hk' => ?_, f, fun x hx => ?_, hB, fun s a' p' hx hst hab hr => ?_⟩
        · rw [show dl_s2 g 26 a (nI (f a)) k = g k from if_neg hk']; exact hfr k hk'
        · rw [ma_s2]
          by_cases e : x = a
          · rw [if_pos ⟨rfl, e⟩, e]
          · rw [if_neg (fun q => e q.2)]; exact hf x hx
        · by_cases e : a' = a ∧ p' = p
          · obtain ⟨e1, e2⟩ := e
            subst e1 e2
            have := hB.2.2 p' hp hr
            rcases h1 hab s hst with q | q <;> omega
          · refine hD s a' p' ?_ hst hab hr
            rcases hx with q | q
            · exact Or.inl q
            · exact Or.inr ⟨q.1, by have := q.2; have : p' ≠ p := fun z => e ⟨q.1, z⟩; omega⟩
      · rw [if_neg (fun q => c ((ma_le (by omega) (by omega)).mp q)), ma_gde (ma_in_t (by omega) (by omega)), ma_nme, ma_nme, nI_1, ma_wr _ (by omega)]
        obtain ⟨hab0, hv2⟩ := h2 (by omega)
        refine ih _ ⟨fun k hk' => ?_, va_up f a v, hf.put a v, hB.put hab0 hv2 (by omega), fun s a' p' hx hst hab hr => ?_⟩
        · rw [show dl_s2 g 26 a (nI v) k = g k from if_neg hk']; exact hfr k hk'
        · have le : va_up f a v a' ≤ f a' := by
            unfold va_up
            split
            · rename_i e; subst e; omega
            · exact Nat.le_refl _
          by_cases e : a' = a ∧ p' = p
          · obtain ⟨e1, e2⟩ := e
            subst e1 e2
            have := hB.2.2 p' hp hr
            have e3 : va_up f a' v a' = v := if_pos rfl
            rcases h1 hab s hst with q | q <;> omega
          · have := hD s a' p' (by
              rcases hx with q | q
              · exact Or.inl q
              · exact Or.inr ⟨q.1, by have := q.2; have : p' ≠ p := fun z => e ⟨q.1, z⟩; omega⟩) hst hab hr
            omega
    have e1 : nI p = nI a ↔ p = a := nI_eq (by omega) (by omega)
    have e2 : nI a = nI b ↔ a = b := nI_eq (by omega) (by omega)
    unfold mo_fars_b76
    by_cases c1 : p = a
    · rw [if_pos (e1.mpr c1)]
      refine fin ds_F (by omega) (fun _ s hst => absurd c1.symm (en_st.ne ho hst)) (fun q => by omega)
    · rw [if_neg (fun q => c1 (e1.mp q))]
      by_cases c2 : a = b
      · rw [if_pos (e2.mpr c2)]
        refine fin ds_F (by omega) (fun q => absurd c2 q) (fun q => by omega)
      · rw [if_neg (fun q => c2 (e2.mp q))]
        obtain ⟨r0, hr0, v, rfl, hv, h1, h2⟩ := ma_goes hN ho hM1 hf (fun x hx => (hB.2.1 x hx).2) ha hp hb
        rw [dl_bi_e hr0]
        refine fin v hv (fun _ s hst => Or.inl (h1 s hst)) (fun q => ⟨c2, ?_⟩)
        rcases h2 with h2 | ⟨s, hst, _, e⟩
        · rw [h2]; exact ds_le E b a
        · have := ds_tri hst c2
          have := (hB.2.1 p hp).1
          omega
/-- the reference measures how far each place is -/
theorem ma_fars (hN : 17 ≤ N) (ho : en_ok E) {g0 : dl_Sg} (hM : en_M E g0) {b : Nat} (hb : b < en_n E) : ma_wp (mo_fars N g0 (nI b)) (fun g => (∀ k, k ≠ 26 → g k = g0 k) ∧ ma_row E 26 (ds_d E b) g) := by
  have hn := ho.n
  have hFF : ds_F = 100000000 := rfl
  have key : ∀ k r (g : dl_Sg), r ≤ en_n E → en_n E - r < k → ma_Fi E b r g0 (fun _ _ => False) g → ma_wp (mo_fars_b35 N k (nI b) (nI r) g) (fun g => (∀ k, k ≠ 26 → g k = g0 k) ∧ ma_row E 26 (ds_d E b) g) := by
    refine ma_loop (fun k r (g : dl_Sg) => mo_fars_b35 N k (nI b) (nI r) g) (fun r g => ma_Fi E b r g0 (fun _ _ => False) g) _ (en_n E) ?_ ?_
    · rintro k g ⟨hfr, f, hf, hB, _⟩
      have hM1 := ma_fr26 hM hfr
      rw [mo_fars_b35, hM1.n, if_pos ((ma_le (by omega) (by omega)).mpr (by omega))]
      refine ma_some ⟨hfr, fun p hp => ?_⟩
      rw [hf p hp, hB.all (by omega) hp]
    · rintro k r g hr ⟨hfr, f, hf, hB, _⟩ ih
      have hM1 := ma_fr26 hM hfr
      rw [mo_fars_b35, hM1.n, if_neg (fun q => absurd ((ma_le (by omega) (by omega)).mp q) (by omega)), ma_nme]
      refine ma_loop (fun k a (g : dl_Sg) => mo_fars_b45 N (mo_fars_b35 N _) k (nI b) (nI r) (nI a) g) (fun a g => ma_Fi E b r g0 (fun a' _ => a' < a) g) _ (en_n E) ?_ ?_ N 0 g (by omega) (by omega) ⟨hfr, f, hf, hB, fun s a p hx => absurd hx (by omega)⟩
      · rintro k2 g ⟨hfr, f, hf, hB, hD⟩
        have hM1 := ma_fr26 hM hfr
        rw [mo_fars_b45, hM1.n, if_pos ((ma_le (by omega) (by omega)).mpr (by omega)), ma_nme, nI_1]
        exact ih g ⟨hfr, f, hf, hB.next ho (fun s a p hst hab hr => hD s a p (en_st.l ho hst) hst hab hr), fun _ _ _ q => absurd q id⟩
      · rintro k2 a g ha ⟨hfr, f, hf, hB, hD⟩ ih2
        have hM1 := ma_fr26 hM hfr
        rw [mo_fars_b45, hM1.n, if_neg (fun q => absurd ((ma_le (by omega) (by omega)).mp q) (by omega)), ma_nme]
        refine ma_fars_in (r := r) hN ho hM hb ha _ _ (nI r) _ ih2 N 0 g (by omega) (by omega) ⟨hfr, f, hf, hB, fun s a' p' hx hst hab hr => hD s a' p' ?_ hst hab hr⟩
        rcases hx with q | q
        · exact q
        · exact absurd q.2 (by omega)
  unfold mo_fars
  rw [ma_nme]
  refine ma_loop (fun k p (g : dl_Sg) => mo_fars_b2 N k (nI b) (nI p) g) (fun p g => (∀ k, k ≠ 26 → g k = g0 k) ∧ ∀ x, x < p → g 26 x = nI (if x = b then 0 else ds_F)) _ (en_n E) ?_ ?_ N 0 g0 (by omega) (by omega) ⟨fun _ _ => rfl, fun x hx => absurd hx (by omega)⟩
  · rintro k g ⟨hfr, hr⟩
    have hM1 := ma_fr26 hM hfr
    rw [mo_fars_b2, hM1.n, if_pos ((ma_le (by omega) (by omega)).mpr (by omega)), ma_nme]
    exact key N 0 g (by omega) (by omega) ⟨hfr, fun p => if p = b then 0 else ds_F, hr, ds_B0 ho hb (if_pos rfl) (fun a _ q => if_neg q), fun _ _ _ q => absurd q id⟩
  · rintro k p g hp ⟨hfr, hr⟩ ih
    have hM1 := ma_fr26 hM hfr
    rw [mo_fars_b2, hM1.n, if_neg (fun q => absurd ((ma_le (by omega) (by omega)).mp q) (by omega))]
    have e1 : nI p = nI b ↔ p = b := nI_eq (by omega) (by omega)
    have fin : ∀ v : Int32, v = nI (if p = b then 0 else ds_F) → ma_wp (mo_fars_b26 N (mo_fars_b2 N k) (nI b) (nI p) (nI p) v g) (fun g => (∀ k, k ≠ 26 → g k = g0 k) ∧ ma_row E 26 (ds_d E b) g) := by
      intro v hv
      unfold mo_fars_b26
      rw [ma_gde (ma_in_t (by omega) (by omega)), ma_nme, ma_nme, nI_1, ma_wr _ (by omega)]
      refine ih _ ⟨fun k hk' => ?_, fun x hx => ?_⟩
      · rw [show dl_s2 g 26 p v k = g k from if_neg hk']; exact hfr k hk'
      · rw [ma_s2]
        by_cases e : x = p
        · rw [if_pos ⟨rfl, e⟩, hv, e]
        · rw [if_neg (fun q => e q.2)]; exact hr x (by omega)
    by_cases c1 : p = b
    · rw [if_pos (e1.mpr c1)]
      exact fin 0 (by rw [if_pos c1]; rfl)
    · rw [if_neg (fun q => c1 (e1.mp q))]
      exact fin _ (by rw [if_neg c1]; rfl)
end
