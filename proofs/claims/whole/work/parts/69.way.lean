/-! The mathematics: the way -/
section
variable {E : ma_E} {N : Nat}
/-- a street by which the way may go on -/
def ds_ld (E : ma_E) (b x s p : Nat) : Prop := en_st E s x p ∧ en_c E s + en_q E b p + ds_d E b p = ds_d E b x
def ds_fst (E : ma_E) (b x p : Nat) : Prop := (∃ s, ds_ld E b x s p) ∧ ∀ s q, ds_ld E b x s q → p ≤ q
def ds_wk (E : ma_E) (b a : Nat) : Nat → Nat → Prop
  | 0, x => x = a
  | i + 1, x => ∃ y, ds_wk E b a i y ∧ y ≠ b ∧ ds_fst E b y x
theorem ds_fst_one {b x p q : Nat} (h : ds_fst E b x p) (h2 : ds_fst E b x q) : p = q := by
  obtain ⟨⟨s, hs⟩, h⟩ := h
  obtain ⟨⟨s2, hs2⟩, h2⟩ := h2
  exact Nat.le_antisymm (h s2 q hs2) (h2 s p hs)
theorem ds_wk_one {b a : Nat} : ∀ {i x y : Nat}, ds_wk E b a i x → ds_wk E b a i y → x = y
  | 0, x, y, h, h2 => by
    have h : x = a := h
    have h2 : y = a := h2
    rw [h, h2]
  | i + 1, x, y, h, h2 => by
    obtain ⟨u, a1, _, a3⟩ := h
    obtain ⟨v, b1, _, b3⟩ := h2
    have := ds_wk_one a1 b1
    subst this
    exact ds_fst_one a3 b3
theorem ds_wk_no {b a i : Nat} (h : ∀ x, ¬ ds_wk E b a i x) : ∀ j, ∀ x, ¬ ds_wk E b a (i + j) x
  | 0 => h
  | j + 1 => fun x q => by
    obtain ⟨y, q1, _⟩ := q
    exact ds_wk_no h j y q1
theorem ds_wk_no2 {b a i k : Nat} (h : ∀ x, ¬ ds_wk E b a i x) (hk : i ≤ k) : ∀ x, ¬ ds_wk E b a k x := by
  have := ds_wk_no h (k - i)
  rwa [Nat.add_sub_cancel' hk] at this
theorem ds_ld_lt (ho : en_ok E) {b x s p : Nat} (h : ds_ld E b x s p) : ds_d E b p < ds_d E b x := by
  have := ho.c1 h.1.1
  have := h.2
  omega
theorem ds_wk_in (ho : en_ok E) {b a : Nat} (ha : a < en_n E) (hF : ds_d E b a < ds_F) : ∀ {i x : Nat}, ds_wk E b a i x → x < en_n E ∧ ds_d E b x < ds_F ∧ ds_rk E (ds_d E b) x + i < en_n E
  | 0, x, h => by
    have h : x = a := h
    subst h
    exact ⟨ha, hF, ds_rk_n ha⟩
  | i + 1, x, h => by
    obtain ⟨y, h1, h2, ⟨s, hs⟩, _⟩ := h
    have ih := ds_wk_in ho ha hF h1
    have hx := en_st.r ho hs.1
    have h3 := ds_ld_lt ho hs
    have h4 := ds_rk_lt (d := ds_d E b) hx h3
    exact ⟨hx, by omega, by omega⟩
theorem ds_fst_ex (ho : en_ok E) {b x : Nat} (hx : x ≠ b) (hF : ds_d E b x < ds_F) : ∃ p, p < en_n E ∧ ds_fst E b x p := by
  obtain ⟨s, p, hs, e⟩ := ds_by hx hF
  obtain ⟨q, ⟨s2, h1⟩, h2⟩ := pk_least (fun q => ∃ s, ds_ld E b x s q) ⟨p, s, hs, e.symm⟩
  refine ⟨q, en_st.r ho h1.1, ⟨s2, h1⟩, fun s' q' h' => ?_⟩
  rcases Nat.lt_or_ge q' q with w | w
  · exact absurd ⟨s', h'⟩ (h2 q' w)
  · exact w
/-- the answer of a way -/
def ds_ans (E : ma_E) (b a i : Nat) (r : Int32) : Prop := (∃ x, ds_wk E b a i x ∧ r = nI x) ∨ ((∀ x, ¬ ds_wk E b a i x) ∧ r = -1)
theorem ds_ans_one {b a i : Nat} {r q : Int32} (h : ds_ans E b a i r) (h2 : ds_ans E b a i q) : r = q := by
  rcases h with ⟨x, h, e⟩ | ⟨h, e⟩
  · rcases h2 with ⟨y, h2, e2⟩ | ⟨h2, e2⟩
    · rw [e, e2, ds_wk_one h h2]
    · exact absurd h (h2 x)
  · rcases h2 with ⟨y, h2, e2⟩ | ⟨h2, e2⟩
    · exact absurd h2 (h y)
    · rw [e, e2]
/-! the class -/
def ds_ne (E : ma_E) (b x : Nat) (m : Nat) (r : Int32) : Prop := (r = -1 ∧ ∀ s q, s < m → ¬ ds_ld E b x s q) ∨ ∃ p, r = nI p ∧ p < en_n E ∧ (∃ s, s < m ∧ ds_ld E b x s p) ∧ ∀ s q, s < m → ds_ld E b x s q → p ≤ q
theorem ma_nextOf (hN : 17 ≤ N) (ho : en_ok E) {g : dl_Sg} (hC : en_C E g) {b x : Nat} (hb : b < en_n E) (hx : x < en_n E) (hf : ma_row E 18 (ds_d E b) g) (hF : ds_d E b x < ds_F) : ma_wp (cl8_nextOf N g (nI x) (nI b)) (ds_ne E b x (en_m E)) := by
  have hn := ho.n
  have hm := ho.m
  have hFF : ds_F = 100000000 := rfl
  unfold cl8_nextOf
  rw [ma_nme, ma_nme]
  refine ma_loop (fun k s (r : Int32) => cl8_nextOf_b5 N g k (nI x) (nI b) r (nI s)) (ds_ne E b x) _ (en_m E) ?_ ?_ N 0 (-1) (by omega) (by omega) (Or.inl ⟨rfl, fun s q hs => absurd hs (by omega)⟩)
  · intro k r hI
    rw [cl8_nextOf_b5, hC.m, if_pos ((ma_le (by omega) (by omega)).mpr (by omega))]
    exact ma_some hI
  · intro k s r hs hI ih
    have hA := ho.a hs
    have hB := ho.b hs
    rw [cl8_nextOf_b5, hC.m, if_neg (fun q => absurd ((ma_le (by omega) (by omega)).mp q) (by omega)), ma_gde (ma_in_t (by omega) (by omega)), nI_clamp (by omega), dl_bi_e (ma_bitAt _ (by omega)), hC.of (by omega)]
    -- nothing by this street
    have no : (∀ q, ¬ ds_ld E b x s q) → ma_wp (cl8_nextOf_b118 N g (cl8_nextOf_b5 N g k) (nI x) (nI b) r (nI s)) (ds_ne E b x (en_m E)) := by
      intro q
      unfold cl8_nextOf_b118
      rw [ma_nme, nI_1]
      refine ih _ ?_
      rcases hI with ⟨h1, h2⟩ | ⟨p, h1, h2, ⟨s0, h3, h4⟩, h5⟩
      · refine Or.inl ⟨h1, fun s' q' hs' h' => ?_⟩
        by_cases e : s' = s
        · subst e; exact q q' h'
        · exact h2 s' q' (by omega) h'
      · refine Or.inr ⟨p, h1, h2, ⟨s0, by omega, h4⟩, fun s' q' hs' h' => ?_⟩
        by_cases e : s' = s
        · subst e; exact absurd h' (q q')
        · exact h5 s' q' (by omega) h'
    have go : ∀ o, en_st E s x o → (∀ o', en_st E s x o' → o' = o) → ma_wp (cl8_nextOf_b72 N g (cl8_nextOf_b5 N g k) (nI x) (nI b) r (nI s) (nI o)) (ds_ne E b x (en_m E)) := by
      intro o hst uniq
      have hoo := en_st.r ho hst
      have q1 := ho.c2 hs
      have q2 := en_q_le ho b hoo
      have q3 := ds_le E b o
      have q4 := ds_le E b x
      unfold cl8_nextOf_b72
      rw [ma_nme, dl_bi_e (ma_sumBy ho hC hf hs hoo hb), ma_gde (ma_in_t (by omega) (by omega)), nI_clamp (by omega), hf x hx]
      have e1 : nI (en_c E s + en_q E b o + ds_d E b o) = nI (ds_d E b x) ↔ en_c E s + en_q E b o + ds_d E b o = ds_d E b x := nI_eq (by omega) (by omega)
      unfold cl8_nextOf_b97
      by_cases c : en_c E s + en_q E b o + ds_d E b o = ds_d E b x
      · rw [if_pos (e1.mpr c), ma_nme, if_neg (by decide)]
        have put : (∀ s' q, s' < s → ds_ld E b x s' q → o ≤ q) → ma_wp (cl8_nextOf_b115 N g (cl8_nextOf_b5 N g k) (nI x) (nI b) (nI s) (nI o)) (ds_ne E b x (en_m E)) := by
          intro h
          unfold cl8_nextOf_b115 cl8_nextOf_b118
          rw [ma_nme, ma_nme, nI_1]
          refine ih _ (Or.inr ⟨o, rfl, hoo, ⟨s, by omega, hst, c⟩, fun s' q' hs' h' => ?_⟩)
          by_cases e : s' = s
          · subst e; rw [uniq q' h'.1]; exact Nat.le_refl _
          · exact h s' q' (by omega) h'
        rcases hI with ⟨h1, h2⟩ | ⟨p, h1, h2, ⟨s0, h3, h4⟩, h5⟩
        · rw [if_pos h1]
          exact put (fun s' q hs' h' => absurd h' (h2 s' q hs'))
        · rw [if_neg (by rw [h1]; exact fun q => absurd (congrArg Int32.toInt q) (by rw [nI_toInt (by omega)]; have : (-1 : Int32).toInt = -1 := rfl; omega)), h1]
          by_cases c2 : p ≤ o
          · rw [if_pos ((ma_le (by omega) (by omega)).mpr c2)]
            unfold cl8_nextOf_b118
            rw [ma_nme, nI_1]
            refine ih _ (Or.inr ⟨p, rfl, h2, ⟨s0, by omega, h4⟩, fun s' q' hs' h' => ?_⟩)
            by_cases e : s' = s
            · subst e; rw [uniq q' h'.1]; exact c2
            · exact h5 s' q' (by omega) h'
          · rw [if_neg (fun q => c2 ((ma_le (by omega) (by omega)).mp q))]
            exact put (fun s' q hs' h' => by have := h5 s' q hs' h'; omega)
      · rw [if_neg (fun q => c (e1.mp q)), ma_nme, if_pos rfl]
        exact no (fun q h => c (by rw [← uniq q h.1]; exact h.2))
    by_cases ht : bt (en_t E) s = true
    · rw [ht, Bool.true_and]
      by_cases c1 : en_a E s = x
      · rw [if_pos (by rw [decide_eq_true c1]; rfl), ma_gde (ma_in_t (by omega) (by omega)), nI_clamp (by omega), hC.a hs, if_pos (by rw [c1]), ma_gde (ma_in_t (by omega) (by omega)), hC.b hs]
        refine go (en_b E s) ⟨hs, ht, Or.inl ⟨c1, rfl⟩⟩ (fun o' h => ?_)
        rcases h.2.2 with h | h
        · exact h.2.symm
        · exact absurd (c1.trans h.2.symm) (ho.ab hs)
      · by_cases c2 : en_b E s = x
        · rw [if_pos (by rw [decide_eq_false c1, decide_eq_true c2]; rfl), ma_gde (ma_in_t (by omega) (by omega)), nI_clamp (by omega), hC.a hs, if_neg (fun q => c1 ((nI_eq (by omega) (by omega)).mp q)), ma_gde (ma_in_t (by omega) (by omega))]
          refine go (en_a E s) ⟨hs, ht, Or.inr ⟨rfl, c2⟩⟩ (fun o' h => ?_)
          rcases h.2.2 with h | h
          · exact absurd h.1 c1
          · exact h.1.symm
        · rw [if_neg (by rw [decide_eq_false c1, decide_eq_false c2]; decide)]
          refine no (fun q h => ?_)
          rcases h.1.2.2 with h | h
          · exact c1 h.1
          · exact c2 h.2
    · rw [Bool.eq_false_iff.mpr ht, Bool.false_and, if_neg (by decide)]
      exact no (fun q h => ht h.1.2.1)
theorem ma_m1 {p : Nat} (hp : p < 2 ^ 31) : ¬ nI p = -1 := fun q => absurd (congrArg Int32.toInt q) (by rw [nI_toInt hp]; have : (-1 : Int32).toInt = -1 := rfl; omega)
theorem ma_placeOn (hN : 17 ≤ N) (ho : en_ok E) {g0 : dl_Sg} (hC : en_C E g0) {a b i : Nat} (ha : a < en_n E) (hb : b < en_n E) (hi : i < 2 ^ 31) : ma_wp (cl8_placeOn N g0 (nI a) (nI b) (nI i)) (fun x => (∀ k, k ≠ 18 → x.2 k = g0 k) ∧ ((ds_d E b a < ds_F ∧ ds_ans E b a i x.1) ∨ (ds_d E b a = ds_F ∧ x.1 = -1))) := by
  have hn := ho.n
  have hFF : ds_F = 100000000 := rfl
  have hle := ds_le E b a
  unfold cl8_placeOn
  rw [if_neg (nI_pos hi), hC.n]
  by_cases c : i < en_n E
  · rw [if_pos ((ma_lt hi (by omega)).mpr c)]
    obtain ⟨g1, e1, hfr, hf⟩ := ma_measure hN ho hC hb
    have hC1 := ma_fr18 hC hfr
    rw [dl_bi_e e1, ma_gde (ma_in_t (by omega) (by omega)), nI_clamp (by omega), hf a ha]
    by_cases cF : ds_d E b a < ds_F
    · rw [if_pos (show nI (ds_d E b a) < (100000000 : Int32) from (ma_lt (b := ds_F) (by omega) (by omega)).mpr cF), ma_nme, ma_nme]
      refine ma_mono (P := fun x => x.2 = g1 ∧ ds_ans E b a i x.1) ?_ (fun x hx => ⟨by rw [hx.1]; exact hfr, Or.inl ⟨cF, hx.2⟩⟩)
      refine ma_loop (fun k j (x : Int32) => cl8_placeOn_b41 N k (nI b) (nI i) x (nI j) g1) (fun j x => ds_ans E b a j x) _ i ?_ ?_ N 0 (nI a) (by omega) (by omega) (Or.inl ⟨a, rfl, rfl⟩)
      · intro k x hI
        rw [cl8_placeOn_b41, if_pos ((ma_le (by omega) (by omega)).mpr (by omega))]
        exact ma_some ⟨rfl, hI⟩
      · intro k j x hj hI ih
        rw [cl8_placeOn_b41, if_neg (fun q => absurd ((ma_le (by omega) (by omega)).mp q) (by omega))]
        rcases hI with ⟨y, hy, rfl⟩ | ⟨hno, rfl⟩
        · obtain ⟨h1, h2, h3⟩ := ds_wk_in ho ha cF hy
          rw [if_neg (ma_m1 (by omega))]
          obtain ⟨r, hr, hne⟩ := ma_nextOf hN ho hC1 hb h1 hf h2
          rw [dl_bi_e hr, ma_nme, ma_nme, nI_1]
          refine ih _ ?_
          rcases hne with ⟨q1, q2⟩ | ⟨p, q1, q2, ⟨s, _, q3⟩, q4⟩
          · refine Or.inr ⟨fun z hz => ?_, q1⟩
            obtain ⟨y', z1, _, ⟨s, z3⟩, _⟩ := hz
            rw [ds_wk_one z1 hy] at z3
            exact q2 s z z3.1.1 z3
          · refine Or.inl ⟨p, ⟨y, hy, fun e => ?_, ⟨s, q3⟩, fun s' q h' => q4 s' q h'.1.1 h'⟩, q1⟩
            subst e
            have := ds_ld_lt ho q3
            rw [ds_0] at this
            omega
        · rw [if_pos rfl]
          exact ma_some ⟨rfl, Or.inr ⟨ds_wk_no2 hno (by omega), rfl⟩⟩
    · rw [if_neg (show ¬ nI (ds_d E b a) < (100000000 : Int32) from fun q => cF ((ma_lt (b := ds_F) (by omega) (by omega)).mp q))]
      exact ma_some ⟨hfr, Or.inr ⟨by omega, rfl⟩⟩
  · rw [if_neg (fun q => c ((ma_lt hi (by omega)).mp q))]
    refine ma_some ⟨fun _ _ => rfl, ?_⟩
    by_cases cF : ds_d E b a < ds_F
    · refine Or.inl ⟨cF, Or.inr ⟨fun x hx => ?_, rfl⟩⟩
      have := ds_wk_in ho ha cF hx
      omega
    · exact Or.inr ⟨by omega, rfl⟩
/-! the reference -/
theorem ma_way (hN : 17 ≤ N) (ho : en_ok E) {g : dl_Sg} (hM : en_M E g) {a b i : Nat} (ha : a < en_n E) (hb : b < en_n E) (hi : i < 2 ^ 31) (hf : ma_row E 26 (ds_d E b) g) (hF : ds_d E b a < ds_F) : ma_wp (mo_way_b39 N N (nI b) (nI i) (nI a) 0 g) (fun x => x.2 = g ∧ ds_ans E b a i x.1) := by
  have hn := ho.n
  have hFF : ds_F = 100000000 := rfl
  have key : ∀ k j x, ds_wk E b a j x → ds_rk E (ds_d E b) x < k → j ≤ i → ma_wp (mo_way_b39 N k (nI b) (nI i) (nI x) (nI j) g) (fun x => x.2 = g ∧ ds_ans E b a i x.1) := by
    intro k
    induction k with
    | zero => intro j x _ h; omega
    | succ k ih =>
      intro j x hx hk hj
      obtain ⟨h1, h2, h3⟩ := ds_wk_in ho ha hF hx
      rw [mo_way_b39]
      by_cases c : i ≤ j
      · have e : i = j := by omega
        subst e
        rw [if_pos ((ma_le hi (by omega)).mpr c)]
        exact ma_some ⟨rfl, Or.inl ⟨x, hx, rfl⟩⟩
      · rw [if_neg (fun q => c ((ma_le hi (by omega)).mp q))]
        by_cases c2 : x = b
        · subst c2
          rw [if_pos rfl]
          refine ma_some ⟨rfl, Or.inr ⟨ds_wk_no2 (i := j + 1) (fun z hz => ?_) (by omega), rfl⟩⟩
          obtain ⟨y, z1, z2, _⟩ := hz
          exact z2 (ds_wk_one z1 hx)
        · rw [if_neg (fun q => c2 ((nI_eq (by omega) (by omega)).mp q)), ma_nme]
          obtain ⟨p0, hp0, hfst⟩ := ds_fst_ex ho c2 h2
          obtain ⟨⟨s0, hs0⟩, hmin⟩ := hfst
          refine ma_loop (fun k2 p (_ : Unit) => mo_way_b56 N (mo_way_b39 N k) k2 (nI b) (nI i) (nI x) (nI j) (nI p) g) (fun _ _ => True) _ p0 ?_ ?_ N 0 () (by omega) (by omega) trivial
          · intro k2 _ _
            rw [mo_way_b56, if_neg (fun q => absurd ((nI_eq (by omega) (by omega)).mp q) (Ne.symm (en_st.ne ho hs0.1)))]
            obtain ⟨r, hr, v, rfl, hv, g1, g2⟩ := ma_goes hN ho hM hf (fun y _ => ds_le E b y) h1 hp0 hb
            have e : v = ds_d E b x := by
              have q1 := g1 s0 hs0.1
              rw [hs0.2] at q1
              rcases g2 with g2 | ⟨s, hst, _, e⟩
              · omega
              · have := ds_tri hst c2
                omega
            rw [dl_bi_e hr, ma_gde (ma_in_t (by omega) (by omega)), nI_clamp (by omega), hf x h1, if_pos (by rw [e]), ma_nme, ma_nme, nI_1]
            have lt := ds_rk_lt (d := ds_d E b) hp0 (ds_ld_lt ho hs0)
            exact ih (j + 1) p0 ⟨x, hx, c2, ⟨s0, hs0⟩, hmin⟩ (by omega) (by omega)
          · intro k2 p _ hp _ ih2
            have go : ma_wp (mo_way_b82 N (mo_way_b39 N k) (mo_way_b56 N (mo_way_b39 N k) k2) (nI b) (nI i) (nI x) (nI j) (nI p) g) (fun x => x.2 = g ∧ ds_ans E b a i x.1) := by
              unfold mo_way_b82
              rw [ma_nme, nI_1]
              exact ih2 () trivial
            rw [mo_way_b56]
            by_cases c3 : p = x
            · rw [if_pos (by rw [c3])]
              exact go
            · rw [if_neg (fun q => c3 ((nI_eq (by omega) (by omega)).mp q))]
              obtain ⟨r, hr, v, rfl, hv, g1, g2⟩ := ma_goes hN ho hM hf (fun y _ => ds_le E b y) h1 (show p < en_n E by omega) hb
              rw [dl_bi_e hr, ma_gde (ma_in_t (by omega) (by omega)), nI_clamp (by omega), hf x h1, if_neg]
              · exact go
              · intro q
                have e : v = ds_d E b x := (nI_eq (by omega) (by omega)).mp q
                rcases g2 with g2 | ⟨s, hst, _, e2⟩
                · omega
                · have := hmin s p ⟨hst, by omega⟩
                  omega
  exact key N 0 a rfl (by have := ds_rk_n (d := ds_d E b) ha; omega) (by omega)
end
