/-! The mathematics: all trees, by the reference -/
section
variable {E : ma_E}
theorem ac_new {l : List Int32} {X : Int32} (h : ∀ Y, Y ∈ l → tg_tag E X < tg_tag E Y) : ac_min E (l ++ [X]) (tg_tag E X) ∧ ac_B E (l ++ [X]) (tg_tag E X) = [X] := by
  refine ⟨⟨fun Y hY => ?_, X, by simp, rfl⟩, ?_⟩
  · rw [List.mem_append, List.mem_singleton] at hY
    rcases hY with hY | hY
    · have := h Y hY; omega
    · rw [hY]; exact Int.le_refl _
  · unfold ac_B
    rw [List.filter_append]
    have : l.filter (fun Y => decide (tg_tag E Y = tg_tag E X)) = [] := by
      rw [List.filter_eq_nil_iff]
      intro Y hY q
      have := h Y hY
      have := of_decide_eq_true q
      omega
    rw [this]
    simp
theorem ac_same {l : List Int32} {X : Int32} {t : Int} (h : ac_min E l t) (e : tg_tag E X = t) : ac_min E (l ++ [X]) t ∧ ac_B E (l ++ [X]) t = ac_B E l t ++ [X] := by
  refine ⟨⟨fun Y hY => ?_, X, by simp, e⟩, ?_⟩
  · rw [List.mem_append, List.mem_singleton] at hY
    rcases hY with hY | hY
    · exact h.1 Y hY
    · rw [hY, e]; exact Int.le_refl _
  · unfold ac_B
    rw [List.filter_append]
    congr 1
    simp [e]
theorem ac_more {l : List Int32} {X : Int32} {t : Int} (h : ac_min E l t) (e : t < tg_tag E X) : ac_min E (l ++ [X]) t ∧ ac_B E (l ++ [X]) t = ac_B E l t := by
  obtain ⟨Y, y1, y2⟩ := h.2
  refine ⟨⟨fun Y hY => ?_, Y, List.mem_append_left _ y1, y2⟩, ?_⟩
  · rw [List.mem_append, List.mem_singleton] at hY
    rcases hY with hY | hY
    · exact h.1 Y hY
    · rw [hY]; omega
  · unfold ac_B
    rw [List.filter_append]
    have : ¬ tg_tag E X = t := by omega
    simp [this]
end
/-- the bits from the other end -/
def tn (k : Nat) : Int32 := ma_mk (fun i => k.testBit (15 - i)) 16
theorem tn_b (k i : Nat) : bt (tn k) i = (decide (i < 16) && k.testBit (15 - i)) := ma_mk_b _ i 16 (by omega)
theorem tn_lo (k : Nat) : ma_lo (tn k) 16 := ma_mk_lo _ (by omega) (Nat.le_refl _)
theorem ma_ltb {x y i : Nat} (hx : x.testBit i = false) (hy : y.testBit i = true) (h : ∀ j, i < j → x.testBit j = y.testBit j) : x < y := by
  have q : x / 2 ^ (i + 1) = y / 2 ^ (i + 1) := Nat.eq_of_testBit_eq fun j => by
    rw [Nat.testBit_div_two_pow, Nat.testBit_div_two_pow]
    exact h _ (by omega)
  have rx : x % 2 ^ (i + 1) < 2 ^ i := Nat.lt_pow_two_of_testBit _ (fun j hj => by
    rw [Nat.testBit_mod_two_pow]
    by_cases e : j = i
    · rw [e, hx, Bool.and_false]
    · rw [decide_eq_false (by omega)]; rfl)
  have ry : y % 2 ^ (i + 1) ≥ 2 ^ i := Nat.ge_two_pow_of_testBit (by
    rw [Nat.testBit_mod_two_pow, decide_eq_true (by omega), hy]; rfl)
  have d1 := Nat.div_add_mod x (2 ^ (i + 1))
  have d2 := Nat.div_add_mod y (2 ^ (i + 1))
  rw [q] at d1
  omega
theorem tn_ah {k k' : Nat} (hk : k < 65536) (h : k' < k) : ah (tn k) (tn k') := by
  have bit16 : ∀ {x i : Nat}, x < 65536 → 16 ≤ i → x.testBit i = false := fun {x i} hx hi => Nat.testBit_lt_two_pow (Nat.lt_of_lt_of_le (show x < 2 ^ 16 by omega) (Nat.pow_le_pow_right (by decide) hi))
  have ex : ∃ i, i < 16 ∧ k.testBit i ≠ k'.testBit i := by
    refine Classical.byContradiction fun q => ?_
    have : k = k' := Nat.eq_of_testBit_eq fun i => by
      rcases Nat.lt_or_ge i 16 with w | w
      · exact Classical.byContradiction fun z => q ⟨i, w, z⟩
      · rw [bit16 hk w, bit16 (by omega) w]
    omega
  obtain ⟨i, i1, i2, i3⟩ := fb_last (p := fun i => k.testBit i ≠ k'.testBit i) ex
  have i3' : ∀ j, i < j → k.testBit j = k'.testBit j := fun j hj => by
    rcases Nat.lt_or_ge j 16 with w | w
    · exact Classical.byContradiction fun z => i3 j hj w z
    · rw [bit16 hk w, bit16 (by omega) w]
  have ek : k.testBit i = true ∧ k'.testBit i = false := by
    cases e1 : k.testBit i <;> cases e2 : k'.testBit i
    · rw [e1, e2] at i2; exact absurd rfl i2
    · have := ma_ltb e1 e2 (fun j hj => i3' j hj)
      omega
    · exact ⟨rfl, rfl⟩
    · rw [e1, e2] at i2; exact absurd rfl i2
  refine ⟨15 - i, by omega, fun j hj => ?_, ?_, ?_⟩
  · rw [tn_b, tn_b, i3' (15 - j) (by omega)]
  · rw [tn_b, decide_eq_true (by omega), show 15 - (15 - i) = i by omega, ek.1]; rfl
  · rw [tn_b, show 15 - (15 - i) = i by omega, ek.2, Bool.and_false]
theorem tn_on {X : Int32} (h : ma_lo X 16) : ∃ k, k < 65536 ∧ tn k = X := by
  obtain ⟨v, hv, e⟩ := ma_lo_nI (x := ma_mk (fun i => bt X (15 - i)) 16) (ma_mk_lo _ (by omega) (Nat.le_refl _))
  have hb : ∀ i, i < 16 → v.testBit i = bt X (15 - i) := fun i hi => by
    rw [← ma_btN (show i < 32 by omega), ← e, ma_mk_b _ i 16 (by omega), decide_eq_true hi]; rfl
  refine ⟨v, hv, b_ext fun i _ => ?_⟩
  rw [tn_b]
  rcases Nat.lt_or_ge i 16 with w | w
  · rw [decide_eq_true w, hb _ (by omega), show 15 - (15 - i) = i by omega]; rfl
  · rw [decide_eq_false (by omega), h i w]; rfl
section
variable {E : ma_E} {N : Nat}
theorem ma_turned (hN : 17 ≤ N) {k : Nat} (hk : k < 65536) : mo_turned N (nI k) = some (tn k) := by
  unfold mo_turned
  rw [ma_nme, ma_nme]
  refine ma_is ?_
  refine ma_loop (fun f p (x : Int32) => mo_turned_b4 N f (nI k) x (nI p)) (fun p x => ∀ i, bt x i = true ↔ i < 16 ∧ 15 - i < p ∧ k.testBit (15 - i) = true) _ 16 ?_ ?_ N 0 0 (by omega) (by omega) (fun i => by rw [b_0]; exact ⟨fun q => (by cases q), fun q => absurd q.2.1 (by omega)⟩)
  · intro f x h
    rw [mo_turned_b4, if_pos ((ma_L16 (by omega)).mpr (by omega))]
    refine ma_some (ma_ext fun i => ?_)
    rw [h, tn_b, Bool.and_eq_true, decide_eq_true_iff]
    exact ⟨fun q => ⟨q.1, q.2.2⟩, fun q => ⟨q.1, by omega, q.2⟩⟩
  · intro f p x hp h ih
    rw [mo_turned_b4, if_neg (fun q => absurd ((ma_L16 (by omega)).mp q) (by omega)), dl_bi_e (ma_has _ (by omega)), ma_btN (by omega)]
    unfold mo_turned_b29
    by_cases c : k.testBit p = true
    · rw [if_pos c, if_neg (by decide), ma_nme, ma_nme, nI_1, show (15 : Int32) - nI p = nI (15 - p) from pk_sub (a := 15) (by omega)]
      refine ih _ (fun i => ?_)
      rw [ma_put _ (by omega), Bool.or_eq_true, h, decide_eq_true_iff]
      constructor
      · rintro (⟨q1, q2, q3⟩ | q)
        · exact ⟨q1, by omega, q3⟩
        · subst q
          exact ⟨by omega, by omega, by rw [show 15 - (15 - p) = p by omega]; exact c⟩
      · rintro ⟨q1, q2, q3⟩
        by_cases e : i = 15 - p
        · exact Or.inr e
        · exact Or.inl ⟨q1, by omega, q3⟩
    · rw [if_neg c, if_pos rfl, ma_nme, ma_nme, nI_1]
      refine ih _ (fun i => ?_)
      rw [show x ||| 0 = x from Int32.or_zero, h]
      constructor
      · rintro ⟨q1, q2, q3⟩
        exact ⟨q1, by omega, q3⟩
      · rintro ⟨q1, q2, q3⟩
        refine ⟨q1, ?_, q3⟩
        by_cases e : 15 - i = p
        · rw [e] at q3; exact absurd q3 c
        · omega
def ma_fk (g g0 : dl_Sg) : Prop := (∀ k, k ≠ 0 → k ≠ 17 → k ≠ 21 → k ≠ 22 → k ≠ 23 → g k = g0 k) ∧ ∀ i, i ≠ 18 → i ≠ 19 → i ≠ 20 → i ≠ 24 → i ≠ 25 → g 0 i = g0 0 i
theorem ma_fk.rf (g : dl_Sg) : ma_fk g g := ⟨fun _ _ _ _ _ _ => rfl, fun _ _ _ _ _ _ => rfl⟩
theorem ma_fk.t {g g1 g0 : dl_Sg} (h : ma_fk g g1) (h2 : ma_fk g1 g0) : ma_fk g g0 := ⟨fun k a b c d e => (h.1 k a b c d e).trans (h2.1 k a b c d e), fun i a b c d e => (h.2 i a b c d e).trans (h2.2 i a b c d e)⟩
theorem ma_fk.s (g : dl_Sg) {k : Nat} (hk : k = 21 ∨ k = 22 ∨ k = 23) (i : Nat) (v : Int32) : ma_fk (dl_s2 g k i v) g := ⟨fun k' a b c d e => if_neg (by omega), fun j _ _ _ _ _ => by rw [ma_s2, if_neg (by omega)]⟩
theorem ma_fk.s0 (g : dl_Sg) {i : Nat} (hi : i = 18 ∨ i = 19 ∨ i = 20 ∨ i = 24 ∨ i = 25) (v : Int32) : ma_fk (dl_s2 g 0 i v) g := ⟨fun k' a b c d e => if_neg a, fun j _ _ _ _ _ => by rw [ma_s2, if_neg (by omega)]⟩
theorem ma_fk.f17 {g g0 : dl_Sg} (h : ma_f17 g g0) : ma_fk g g0 := ⟨fun k a b _ _ _ => h.1 k b a, fun i a _ _ _ _ => h.2 i a⟩
theorem ma_fk.M {g g0 : dl_Sg} (h : ma_fk g g0) (hM : en_M E g0) : en_M E g :=
  hM.same (h.2 0 (by omega) (by omega) (by omega) (by omega) (by omega)) (h.2 3 (by omega) (by omega) (by omega) (by omega) (by omega)) (h.2 7 (by omega) (by omega) (by omega) (by omega) (by omega)) (h.1 1 (by omega) (by omega) (by omega) (by omega) (by omega)) (h.1 2 (by omega) (by omega) (by omega) (by omega) (by omega)) (h.1 4 (by omega) (by omega) (by omega) (by omega) (by omega)) (h.1 5 (by omega) (by omega) (by omega) (by omega) (by omega)) (h.1 6 (by omega) (by omega) (by omega) (by omega) (by omega))
/-- the rows of the reference hold these trees -/
def kn_row (E : ma_E) (l : List Int32) (g : dl_Sg) : Prop := g 0 20 = nI l.length ∧ ma_rowL l (g 21) ∧ ∀ i, i < l.length → g 22 i = nI (fl_co E (g 21 i)) ∧ g 23 i = nI (fl_wo E (g 21 i))
theorem kn_row.add {l : List Int32} {g : dl_Sg} (h : kn_row E l g) {X : Int32} (hl : l.length < 65536) : kn_row E (l ++ [X]) (dl_s2 (dl_s2 (dl_s2 (dl_s2 g 21 l.length X) 22 l.length (nI (fl_co E X))) 23 l.length (nI (fl_wo E X))) 0 20 (nI (l.length + 1))) := by
  have e21 : (dl_s2 (dl_s2 (dl_s2 (dl_s2 g 21 l.length X) 22 l.length (nI (fl_co E X))) 23 l.length (nI (fl_wo E X))) 0 20 (nI (l.length + 1))) 21 = upd (g 21) l.length X := by
    rw [ma_s2r _ _ _ _ (by decide), ma_s2r _ _ _ _ (by decide), ma_s2r _ _ _ _ (by decide)]
    exact if_pos rfl
  refine ⟨?_, ?_, fun i hi => ?_⟩
  · rw [ma_s2s, List.length_append]; rfl
  · rw [e21]; exact h.2.1.add X
  · rw [List.length_append, List.length_singleton] at hi
    rw [e21, ma_s2r _ 0 _ _ (show 22 ≠ 0 by decide), ma_s2r _ 0 _ _ (show 23 ≠ 0 by decide), ma_s2r _ 23 _ _ (show 22 ≠ 23 by decide)]
    by_cases e : i = l.length
    · subst e
      rw [ma_s2s, ma_s2s, pk_us]
      exact ⟨rfl, rfl⟩
    · obtain ⟨a1, a2⟩ := h.2.2 i (by omega)
      rw [pk_un e]
      refine ⟨?_, ?_⟩
      · rw [ma_s2n _ _ (fun q => e q.2), ma_s2r _ _ _ _ (by decide)]; exact a1
      · rw [ma_s2n _ _ (fun q => e q.2), ma_s2r _ _ _ _ (by decide), ma_s2r _ _ _ _ (by decide)]; exact a2
/-- all sets are looked at -/
theorem ma_sets (hN : 65540 ≤ N) (ho : en_ok E) {g0 : dl_Sg} (hM : en_M E g0) (Q : dl_Sg → Prop)
    (hend : ∀ (l : List Int32) (g : dl_Sg), ma_fk g g0 → kn_row E l g → l.length ≤ 65536 → l.Pairwise ah → (∀ X, X ∈ l ↔ tr_set E X) → g 0 19 = g0 0 19 → ma_wp (mo_know_b115 N N 0 (dl_s2 (dl_s2 g 0 24 (-1000000)) 0 25 0)) Q) :
    ∀ j k (l : List Int32) (g : dl_Sg), j ≤ 65536 → j < k → ma_fk g g0 → kn_row E l g → l.length ≤ 65536 - j → l.Pairwise ah → (∀ X, X ∈ l ↔ tr_set E X ∧ ∃ k, j ≤ k ∧ k < 65536 ∧ tn k = X) → g 0 19 = g0 0 19 → ma_wp (mo_know_b21 N k (nI j - 1) g) Q := by
  have hm := ho.m
  have em : ∀ x : Int32, x + (-1) = x - 1 := fun x => (Int32.sub_eq_add_neg x 1).symm
  intro j
  induction j with
  | zero =>
    intro k l g _ hk hf hrow hlen hpw hmem h19
    obtain ⟨k2, rfl⟩ : ∃ k2, k = k2 + 1 := ⟨k - 1, by omega⟩
    rw [mo_know_b21, if_pos (by decide), ma_nme, ma_nme, ma_nme]
    refine hend l g hf hrow (by omega) hpw (fun X => ?_) h19
    rw [hmem]
    refine ⟨fun q => q.1, fun q => ⟨q, ?_⟩⟩
    obtain ⟨k, k1, k2⟩ := tn_on (X := X) (fun i hi => Bool.eq_false_iff.mpr (fun z => by have := ho.t (q.1 i z); omega))
    exact ⟨k, Nat.zero_le _, k1, k2⟩
  | succ j ih =>
    intro k l g hj hk hf hrow hlen hpw hmem h19
    obtain ⟨k2, rfl⟩ : ∃ k2, k = k2 + 1 := ⟨k - 1, by omega⟩
    have hMg := hf.M hM
    rw [nI_pred, mo_know_b21, if_neg (nI_pos (by omega)), dl_bi_e (ma_turned (by omega) (show j < 65536 by omega)), ma_nme, hMg.t]
    unfold mo_know_b96
    -- this set is no tree
    have no : ∀ g1 : dl_Sg, ma_fk g1 g0 → kn_row E l g1 → g1 0 19 = g0 0 19 → ¬ tr_set E (tn j) → ma_wp (mo_know_b21 N k2 (nI j - 1) g1) Q := by
      intro g1 f1 f2 f3 f4
      refine ih k2 l g1 (by omega) (by omega) f1 f2 (by omega) hpw (fun X => ?_) f3
      rw [hmem]
      constructor
      · rintro ⟨q1, k, q2, q3⟩
        exact ⟨q1, k, by omega, q3⟩
      · rintro ⟨q1, k, q2, q3, q4⟩
        refine ⟨q1, k, ?_, q3, q4⟩
        by_cases e : k = j
        · subst e; rw [q4] at f4; exact absurd q1 f4
        · omega
    have hsub : tn j &&& (en_t E ^^^ (-1 : Int32)) = 0 ↔ ma_sub (tn j) (en_t E) := by
      rw [ma_z]
      constructor
      · intro q i hi
        have hi16 := (tn_lo j).lt hi
        have := q i (by omega)
        rw [b_and, ma_bn _ (by omega), hi, Bool.true_and] at this
        cases e : bt (en_t E) i
        · rw [e] at this; cases this
        · rfl
      · intro q i hi
        rw [b_and, ma_bn _ hi]
        cases e : bt (tn j) i
        · rfl
        · rw [q i e]; rfl
    by_cases c1 : tn j &&& (en_t E ^^^ (-1 : Int32)) = 0
    · have hs := hsub.mp c1
      rw [if_pos c1]
      obtain ⟨⟨x, g7⟩, e7, f7, i7, z7⟩ := ma_treeOf (N := N) (T := tn j) (by omega) ho hMg (fun i q => ho.t (hs i q))
      have f7 : ma_f17 g7 g := f7
      have z7 : x = 0 → ∀ p, p < en_n E → en_tap E p = false → (bt (g7 0 18) p = true ↔ fl_end E (tn j) (en_m E) p) := z7
      have k7 : kn_row E l g7 := by
        refine ⟨(f7.2 20 (by decide)).trans hrow.1, ?_, fun i hi => ?_⟩
        · rw [f7.1 21 (by decide) (by decide)]; exact hrow.2.1
        · rw [f7.1 21 (by decide) (by decide), f7.1 22 (by decide) (by decide), f7.1 23 (by decide) (by decide)]; exact hrow.2.2 i hi
      have hf7 : ma_fk g7 g0 := (ma_fk.f17 f7).t hf
      have h197 : g7 0 19 = g0 0 19 := (f7.2 19 (by decide)).trans h19
      rw [dl_b2_e e7]
      by_cases c2 : x = 0
      · have htree : tr_set E (tn j) := ⟨hs, (fl_is_0 i7).mp c2⟩
        have hll : l.length < 65536 := by omega
        have hM7 := hf7.M hM
        rw [if_pos c2, k7.1, ma_gde (ma_in_t hll (by omega)), ma_nme, ma_wr _ (by omega)]
        have z8 : ∀ (g' : dl_Sg), g' 0 18 = g7 0 18 → ∀ p, p < en_n E → en_tap E p = false → (bt (g' 0 18) p = true ↔ fl_end E (tn j) (en_m E) p) := fun g' e => by rw [e]; exact z7 c2
        have f8 : ma_fk (dl_s2 g7 21 l.length (tn j)) g0 := (ma_fk.s _ (by omega) _ _).t hf7
        rw [dl_bi_e (ma_costOf (T := tn j) (by omega) ho (f8.M hM) (z8 _ (by rw [ma_s2r _ _ _ _ (by decide)]))), show dl_s2 g7 21 l.length (tn j) 0 20 = nI l.length by rw [ma_s2r _ _ _ _ (by decide)]; exact k7.1, ma_gde (ma_in_t hll (by omega)), ma_nme, ma_wr _ (by omega)]
        have f10 : ma_fk (dl_s2 (dl_s2 g7 21 l.length (tn j)) 22 l.length (nI (fl_co E (tn j)))) g0 := (ma_fk.s _ (by omega) _ _).t f8
        rw [dl_bi_e (ma_worthOf (T := tn j) (by omega) ho (f10.M hM) (z8 _ (by rw [ma_s2r _ _ _ _ (by decide), ma_s2r _ _ _ _ (by decide)]))), show dl_s2 (dl_s2 g7 21 l.length (tn j)) 22 l.length (nI (fl_co E (tn j))) 0 20 = nI l.length by rw [ma_s2r _ _ _ _ (by decide), ma_s2r _ _ _ _ (by decide)]; exact k7.1, ma_gde (ma_in_t hll (by omega)), ma_nme, ma_wr _ (by omega), show dl_s2 (dl_s2 (dl_s2 g7 21 l.length (tn j)) 22 l.length (nI (fl_co E (tn j)))) 23 l.length (nI (fl_wo E (tn j))) 0 20 = nI l.length by rw [ma_s2r _ _ _ _ (by decide), ma_s2r _ _ _ _ (by decide), ma_s2r _ _ _ _ (by decide)]; exact k7.1, nI_1, ma_nme, ma_nme, em]
        have hnot : ∀ X, X ∈ l → ah X (tn j) := fun X hX => by
          obtain ⟨_, k, q2, q3, q4⟩ := (hmem X).mp hX
          rw [← q4]
          exact tn_ah q3 (by omega)
        refine ih k2 (l ++ [tn j]) _ (by omega) (by omega) ((ma_fk.s0 _ (by omega) _).t ((ma_fk.s _ (by omega) _ _).t f10)) (k7.add hll) (by rw [List.length_append, List.length_singleton]; omega) ?_ (fun X => ?_) ?_
        · rw [List.pairwise_append]
          refine ⟨hpw, by simp, fun a ha b hb => ?_⟩
          rw [List.mem_singleton] at hb
          rw [hb]; exact hnot a ha
        · rw [List.mem_append, List.mem_singleton, hmem]
          constructor
          · rintro (⟨q1, k, q2, q3⟩ | q)
            · exact ⟨q1, k, by omega, q3⟩
            · rw [q]; exact ⟨htree, j, Nat.le_refl _, by omega, rfl⟩
          · rintro ⟨q1, k, q2, q3, q4⟩
            by_cases e : k = j
            · subst e; exact Or.inr q4.symm
            · exact Or.inl ⟨q1, k, by omega, q3, q4⟩
        · rw [ma_s2n _ _ (by omega), ma_s2r _ _ _ _ (by decide), ma_s2r _ _ _ _ (by decide), ma_s2r _ _ _ _ (by decide)]; exact h197
      · rw [if_neg c2, ma_nme, em]
        exact no g7 hf7 k7 h197 (fun q => c2 ((fl_is_0 i7).mpr q.2))
    · rw [if_neg c1, ma_nme, em]
      exact no g hf hrow h19 (fun q => c1 (hsub.mpr q.1))
end
