/-! The mathematics: sets of streets, what hangs together, rings -/
def cn_R (E : ma_E) (T : Int32) (k x y : Nat) : Prop := ∀ P : Nat → Prop, P x → (∀ s, s < k → bt T s = true → ((P (en_a E s) → P (en_b E s)) ∧ (P (en_b E s) → P (en_a E s)))) → P y
section
variable {E : ma_E} {T : Int32} {k : Nat}
theorem cn_0 {x : Nat} : cn_R E T k x x := fun _ h _ => h
theorem cn_t {x y z : Nat} (h : cn_R E T k x y) (h2 : cn_R E T k y z) : cn_R E T k x z := fun P h0 hs => h2 P (h P h0 hs) hs
theorem cn_1 {s : Nat} (hs : s < k) (ht : bt T s = true) : cn_R E T k (en_a E s) (en_b E s) := fun _ h0 h => (h s hs ht).1 h0
theorem cn_2 {s : Nat} (hs : s < k) (ht : bt T s = true) : cn_R E T k (en_b E s) (en_a E s) := fun _ h0 h => (h s hs ht).2 h0
theorem cn_s {x y : Nat} (h : cn_R E T k x y) : cn_R E T k y x :=
  h (fun z => cn_R E T k z x) cn_0 (fun _ hs ht => ⟨fun q => cn_t (cn_2 hs ht) q, fun q => cn_t (cn_1 hs ht) q⟩)
theorem cn_up {T' : Int32} {k' x y : Nat} (h : cn_R E T k x y) (hk : ∀ s, s < k → bt T s = true → s < k' ∧ bt T' s = true) : cn_R E T' k' x y :=
  fun P h0 hs => h P h0 (fun s a1 a2 => hs s (hk s a1 a2).1 (hk s a1 a2).2)
theorem cn_in (ho : en_ok E) {x y : Nat} (hk : k ≤ en_m E) (hx : x < en_n E) (h : cn_R E T k x y) : y < en_n E :=
  h (fun z => z < en_n E) hx (fun s hs _ => ⟨fun _ => ho.b (by omega), fun _ => ho.a (by omega)⟩)
theorem cn_add {x y : Nat} (ht : bt T k = true) : cn_R E T (k + 1) x y ↔ cn_R E T k x y ∨ (cn_R E T k x (en_a E k) ∧ cn_R E T k (en_b E k) y) ∨ (cn_R E T k x (en_b E k) ∧ cn_R E T k (en_a E k) y) := by
  have up : ∀ {u v}, cn_R E T k u v → cn_R E T (k + 1) u v := fun h => cn_up h (fun s a1 a2 => ⟨by omega, a2⟩)
  constructor
  · intro h
    refine h (fun z => cn_R E T k x z ∨ (cn_R E T k x (en_a E k) ∧ cn_R E T k (en_b E k) z) ∨ (cn_R E T k x (en_b E k) ∧ cn_R E T k (en_a E k) z)) (Or.inl cn_0) (fun s hs hb => ?_)
    by_cases e : s = k
    · subst e
      constructor
      · rintro (q | ⟨q, _⟩ | ⟨q, _⟩)
        · exact Or.inr (Or.inl ⟨q, cn_0⟩)
        · exact Or.inr (Or.inl ⟨q, cn_0⟩)
        · exact Or.inl q
      · rintro (q | ⟨q, _⟩ | ⟨q, _⟩)
        · exact Or.inr (Or.inr ⟨q, cn_0⟩)
        · exact Or.inl q
        · exact Or.inr (Or.inr ⟨q, cn_0⟩)
    · have hs' : s < k := by omega
      have st1 := cn_1 (E := E) hs' hb
      have st2 := cn_2 (E := E) hs' hb
      constructor
      · rintro (q | ⟨q, r⟩ | ⟨q, r⟩)
        · exact Or.inl (cn_t q st1)
        · exact Or.inr (Or.inl ⟨q, cn_t r st1⟩)
        · exact Or.inr (Or.inr ⟨q, cn_t r st1⟩)
      · rintro (q | ⟨q, r⟩ | ⟨q, r⟩)
        · exact Or.inl (cn_t q st2)
        · exact Or.inr (Or.inl ⟨q, cn_t r st2⟩)
        · exact Or.inr (Or.inr ⟨q, cn_t r st2⟩)
  · rintro (q | ⟨q, r⟩ | ⟨q, r⟩)
    · exact up q
    · exact cn_t (up q) (cn_t (cn_1 (Nat.lt_succ_self k) ht) (up r))
    · exact cn_t (up q) (cn_t (cn_2 (Nat.lt_succ_self k) ht) (up r))
theorem cn_no {x y : Nat} (ht : bt T k = false) : cn_R E T (k + 1) x y ↔ cn_R E T k x y := by
  constructor
  · intro h
    refine cn_up h (fun s a1 a2 => ⟨?_, a2⟩)
    rcases Nat.lt_or_ge s k with q | q
    · exact q
    · have e : s = k := by omega
      subst e
      rw [ht] at a2; cases a2
  · intro h
    exact cn_up h (fun s a1 a2 => ⟨by omega, a2⟩)
end
/-- the end of a street of T -/
def fl_end (E : ma_E) (T : Int32) (k p : Nat) : Prop := ∃ s, s < k ∧ bt T s = true ∧ (en_a E s = p ∨ en_b E s = p)
def fl_ring (E : ma_E) (T : Int32) (k : Nat) : Prop := ∃ s, s < k ∧ bt T s = true ∧ cn_R E T s (en_a E s) (en_b E s)
def fl_one (E : ma_E) (T : Int32) : Prop := ∀ p q, fl_end E T (en_m E) p → fl_end E T (en_m E) q → cn_R E T (en_m E) p q
def fl_pl (E : ma_E) (T : Int32) (p : Nat) : Prop := fl_end E T (en_m E) p ∨ (T = 0 ∧ ∀ q, sp_tap E q → q = p)
def fl_good (E : ma_E) (T : Int32) : Prop := (∃ p, sp_tap E p) ∧ ∀ p, sp_tap E p → fl_pl E T p
def fl_is (E : ma_E) (T : Int32) (r : Int32) : Prop := (fl_ring E T (en_m E) ∧ r = 1) ∨ (¬ fl_ring E T (en_m E) ∧ ¬ fl_one E T ∧ r = 2) ∨ (¬ fl_ring E T (en_m E) ∧ fl_one E T ∧ ((fl_good E T ∧ r = 0) ∨ (¬ fl_good E T ∧ r = 3)))
/-- a tree -/
def fl_tree (E : ma_E) (T : Int32) : Prop := ¬ fl_ring E T (en_m E) ∧ fl_one E T ∧ fl_good E T
theorem fl_is_one {E : ma_E} {T r q : Int32} (h : fl_is E T r) (h2 : fl_is E T q) : r = q := by
  rcases h with ⟨a, e⟩ | ⟨a, b, e⟩ | ⟨a, b, ⟨c, e⟩ | ⟨c, e⟩⟩ <;> rcases h2 with ⟨a', e'⟩ | ⟨a', b', e'⟩ | ⟨a', b', ⟨c', e'⟩ | ⟨c', e'⟩⟩ <;> first | (rw [e, e']; done) | (exact absurd a a') | (exact absurd a' a) | (exact absurd b b') | (exact absurd b' b) | (exact absurd c c') | (exact absurd c' c)
theorem fl_is_0 {E : ma_E} {T r : Int32} (h : fl_is E T r) : r = 0 ↔ fl_tree E T := by
  rcases h with ⟨a, e⟩ | ⟨a, b, e⟩ | ⟨a, b, ⟨c, e⟩ | ⟨c, e⟩⟩
  · exact ⟨fun q => absurd (e.symm.trans q) (by decide), fun q => absurd a q.1⟩
  · exact ⟨fun q => absurd (e.symm.trans q) (by decide), fun q => absurd q.2.1 b⟩
  · exact ⟨fun _ => ⟨a, b, c⟩, fun _ => e⟩
  · exact ⟨fun q => absurd (e.symm.trans q) (by decide), fun q => absurd q.2.2 c⟩
/-! how many groups there are -/
theorem ma_ct_one {p : Nat → Bool} {n : Nat} : fb_ct p n = 1 ↔ ∃ i, i < n ∧ p i = true ∧ ∀ j, j < n → p j = true → j = i := by
  constructor
  · intro h
    obtain ⟨i, h1, h2, h3⟩ := fb_ct_kth (p := p) (k := 0) (n := n) (by omega)
    refine ⟨i, h1, h2, fun j hj hp => ?_⟩
    refine fb_ct_kth_one hp h2 ?_
    have := fb_ct_mono p (show j + 1 ≤ n from hj)
    rw [fb_ct_succ, hp, if_pos rfl] at this
    omega
  · rintro ⟨i, h1, h2, h3⟩
    have e : fb_ct p n = fb_ct (fun k => if k = i then true else false) n := fb_ct_cong (fun k hk => by
      by_cases q : k = i
      · rw [if_pos q, q, h2]
      · rw [if_neg q]
        exact Bool.eq_false_iff.mpr (fun z => q (h3 k hk z)))
    have z : fb_ct (fun _ => false) n = 0 := fb_ct_zero.mpr (fun _ _ => rfl)
    have := fb_ct_upd (fun _ => false) true h1
    rw [z] at this
    rw [e]
    simpa using this
noncomputable def fl_c (E : ma_E) (T : Int32) (k : Nat) : Nat := fb_ct (fun z => ma_dec (∀ y, y < z → ¬ cn_R E T k y z)) (en_n E)
section
variable {E : ma_E} {T : Int32} {k : Nat}
theorem fl_rep (x : Nat) : ∃ z, cn_R E T k x z ∧ ∀ y, y < z → ¬ cn_R E T k y z := by
  obtain ⟨z, h1, h2⟩ := pk_least (fun z => cn_R E T k x z) ⟨x, cn_0⟩
  exact ⟨z, h1, fun y hy q => h2 y hy (cn_t h1 (cn_s q))⟩
theorem fl_rep_one {x y : Nat} (h : cn_R E T k x y) (hx : ∀ z, z < x → ¬ cn_R E T k z x) (hy : ∀ z, z < y → ¬ cn_R E T k z y) : x = y := by
  rcases Nat.lt_trichotomy x y with w | w | w
  · exact absurd h (hy x w)
  · exact w
  · exact absurd (cn_s h) (hx y w)
/-- a street that joins two groups: one group less -/
theorem fl_c_add (ho : en_ok E) (hk : k < en_m E) (ht : bt T k = true) (hno : ¬ cn_R E T k (en_a E k) (en_b E k)) : fl_c E T (k + 1) + 1 = fl_c E T k := by
  obtain ⟨u, u1, u2⟩ := fl_rep (E := E) (T := T) (k := k) (en_a E k)
  obtain ⟨v, v1, v2⟩ := fl_rep (E := E) (T := T) (k := k) (en_b E k)
  have hu := cn_in ho (Nat.le_of_lt hk) (ho.a hk) u1
  have hv := cn_in ho (Nat.le_of_lt hk) (ho.b hk) v1
  have huv : u ≠ v := fun e => by subst e; exact hno (cn_t u1 (cn_s v1))
  have key : ∀ M, (M = u ∧ v < u ∨ M = v ∧ u < v) → fl_c E T (k + 1) + 1 = fl_c E T k := by
    intro M hM
    have hMn : M < en_n E := by rcases hM with h | h <;> omega
    have e : fl_c E T (k + 1) = fb_ct (fun z => if z = M then false else ma_dec (∀ y, y < z → ¬ cn_R E T k y z)) (en_n E) := by
      refine fb_ct_cong (fun z _ => ?_)
      by_cases q : z = M
      · rw [if_pos q]
        subst q
        refine ma_dec_f.mpr (fun h => ?_)
        rcases hM with ⟨h1, h2⟩ | ⟨h1, h2⟩
        · subst h1
          exact h v h2 ((cn_add ht).mpr (Or.inr (Or.inr ⟨cn_s v1, u1⟩)))
        · subst h1
          exact h u h2 ((cn_add ht).mpr (Or.inr (Or.inl ⟨cn_s u1, v1⟩)))
      · rw [if_neg q]
        refine ma_dec_c ⟨fun h y hy hc => h y hy ((cn_add ht).mpr (Or.inl hc)), fun h y hy hc => ?_⟩
        rcases (cn_add ht).mp hc with c | ⟨c1, c2⟩ | ⟨c1, c2⟩
        · exact h y hy c
        · have zv : z = v := fl_rep_one (cn_t (cn_s c2) v1) h v2
          have : u ≤ y := by
            rcases Nat.lt_or_ge y u with w | w
            · exact absurd (cn_t c1 u1) (u2 y w)
            · exact w
          rcases hM with ⟨h1, h2⟩ | ⟨h1, h2⟩
          · omega
          · exact q (by omega)
        · have zu : z = u := fl_rep_one (cn_t (cn_s c2) u1) h u2
          have : v ≤ y := by
            rcases Nat.lt_or_ge y v with w | w
            · exact absurd (cn_t c1 v1) (v2 y w)
            · exact w
          rcases hM with ⟨h1, h2⟩ | ⟨h1, h2⟩
          · exact q (by omega)
          · omega
    have t : ma_dec (∀ y, y < M → ¬ cn_R E T k y M) = true := by
      rcases hM with ⟨h1, _⟩ | ⟨h1, _⟩
      · subst h1; exact ma_dec_t.mpr u2
      · subst h1; exact ma_dec_t.mpr v2
    have := fb_ct_upd (fun z => ma_dec (∀ y, y < z → ¬ cn_R E T k y z)) false hMn
    rw [← e] at this
    simp only [t] at this
    unfold fl_c at this ⊢
    simpa using this
  rcases Nat.lt_or_ge u v with w | w
  · exact key v (Or.inr ⟨rfl, w⟩)
  · exact key u (Or.inl ⟨rfl, by omega⟩)
theorem fl_c_no (ht : bt T k = false) : fl_c E T (k + 1) = fl_c E T k :=
  fb_ct_cong (fun z _ => ma_dec_c ⟨fun h y hy hc => h y hy ((cn_no ht).mpr hc), fun h y hy hc => h y hy ((cn_no ht).mp hc)⟩)
theorem cn_k0 {x y : Nat} (h : cn_R E T 0 x y) : y = x := h (fun z => z = x) rfl (fun s hs => absurd hs (Nat.not_lt_zero s))
theorem fl_c0 : fl_c E T 0 = en_n E := fb_ct_all.mpr (fun z _ => ma_dec_t.mpr (fun y hy h => by have := cn_k0 h; omega))
/-- without a ring: as many groups and streets together as places -/
theorem fl_count (ho : en_ok E) : ∀ k, k ≤ en_m E → ¬ fl_ring E T k → fl_c E T k + fb_ct (bt T) k = en_n E
  | 0, _, _ => by rw [fl_c0]; rfl
  | k + 1, hk, h => by
    have ih := fl_count ho k (by omega) (fun ⟨s, a, b⟩ => h ⟨s, by omega, b⟩)
    rw [fb_ct_succ]
    cases ht : bt T k
    · rw [fl_c_no ht, if_neg (by decide)]
      omega
    · have := fl_c_add ho (by omega) ht (fun q => h ⟨k, by omega, ht, q⟩)
      rw [if_pos rfl]
      omega
theorem cn_end {x y : Nat} (h : cn_R E T k x y) : y = x ∨ fl_end E T k y :=
  h (fun z => z = x ∨ fl_end E T k z) (Or.inl rfl) (fun s hs ht => ⟨fun _ => Or.inr ⟨s, hs, ht, Or.inr rfl⟩, fun _ => Or.inr ⟨s, hs, ht, Or.inl rfl⟩⟩)
end
noncomputable def en_ends (E : ma_E) (T : Int32) (k : Nat) : Int32 := ma_mk (fun p => ma_dec (fl_end E T k p)) (en_n E)
theorem fl_end_lt {E : ma_E} {T : Int32} {k : Nat} (ho : en_ok E) (hk : k ≤ en_m E) {p : Nat} (h : fl_end E T k p) : p < en_n E := by
  obtain ⟨s, h1, _, h2⟩ := h
  have := ho.a (s := s) (by omega)
  have := ho.b (s := s) (by omega)
  omega
theorem en_ends_b {E : ma_E} {T : Int32} {k : Nat} (ho : en_ok E) (hk : k ≤ en_m E) (p : Nat) : bt (en_ends E T k) p = true ↔ fl_end E T k p := by
  have hn := ho.n
  unfold en_ends
  rw [ma_mk_b _ p _ (by omega), Bool.and_eq_true, decide_eq_true_iff, ma_dec_t]
  exact ⟨fun h => h.2, fun h => ⟨fl_end_lt ho hk h, h⟩⟩
theorem en_ends_lo {E : ma_E} {T : Int32} {k : Nat} (ho : en_ok E) : ma_lo (en_ends E T k) (en_n E) := ma_mk_lo _ (by have := ho.n; omega) (Nat.le_refl _)
/-- without a ring: it hangs together just if its ends are one more than its streets -/
theorem fl_hangs {E : ma_E} {T : Int32} (ho : en_ok E) (h : ¬ fl_ring E T (en_m E)) (hT : ∃ s, s < en_m E ∧ bt T s = true) : fl_one E T ↔ fb_ct (bt (en_ends E T (en_m E))) 16 = fb_ct (bt T) (en_m E) + 1 := by
  have hn := ho.n
  have hc := fl_count ho (en_m E) (Nat.le_refl _) h
  have heb := fun p => en_ends_b (T := T) ho (Nat.le_refl (en_m E)) p
  -- groups among the ends, and the places that are none
  have e1 : fl_c E T (en_m E) = fb_ct (fun z => ma_dec (fl_end E T (en_m E) z ∧ ∀ y, y < z → ¬ cn_R E T (en_m E) y z)) (en_n E) + fb_ct (fun z => !bt (en_ends E T (en_m E)) z) (en_n E) := by
    rw [← fb_ct_or (fun z _ => ?_)]
    · refine fb_ct_cong (fun z _ => ?_)
      cases e : bt (en_ends E T (en_m E)) z
      · rw [Bool.not_false, Bool.or_true]
        refine ma_dec_t.mpr (fun y hy hc => ?_)
        rcases cn_end hc with q | q
        · omega
        · rw [← heb, e] at q; cases q
      · rw [Bool.not_true, Bool.or_false]
        exact ma_dec_c ⟨fun q => ⟨(heb z).mp e, q⟩, fun q => q.2⟩
    · rintro ⟨q1, q2⟩
      have := (ma_dec_t.mp q1).1
      rw [← heb] at this
      rw [this] at q2
      cases q2
  have e2 := fb_ct_not (bt (en_ends E T (en_m E))) (en_n E)
  have e3 : fb_ct (bt (en_ends E T (en_m E))) 16 = fb_ct (bt (en_ends E T (en_m E))) (en_n E) := by
    have := fb_ct_split (bt (en_ends E T (en_m E))) (en_n E) (16 - en_n E)
    rw [show en_n E + (16 - en_n E) = 16 by omega] at this
    have z : fb_ct (fun k => bt (en_ends E T (en_m E)) (en_n E + k)) (16 - en_n E) = 0 := fb_ct_zero.mpr (fun k _ => en_ends_lo ho _ (by omega))
    rw [this, z, Nat.add_zero]
  have e4 : fl_one E T ↔ fb_ct (fun z => ma_dec (fl_end E T (en_m E) z ∧ ∀ y, y < z → ¬ cn_R E T (en_m E) y z)) (en_n E) = 1 := by
    rw [ma_ct_one]
    constructor
    · intro ho1
      obtain ⟨s, hs, ht⟩ := hT
      have ha : fl_end E T (en_m E) (en_a E s) := ⟨s, hs, ht, Or.inl rfl⟩
      obtain ⟨z, z1, z2⟩ := fl_rep (E := E) (T := T) (k := en_m E) (en_a E s)
      have hz : fl_end E T (en_m E) z := by
        rcases cn_end z1 with q | q
        · rw [q]; exact ha
        · exact q
      refine ⟨z, fl_end_lt ho (Nat.le_refl _) hz, ma_dec_t.mpr ⟨hz, z2⟩, fun j _ hj => ?_⟩
      have hj := ma_dec_t.mp hj
      exact fl_rep_one (ho1 j z hj.1 hz) hj.2 z2
    · rintro ⟨i, i1, i2, i3⟩ p q hp hq
      obtain ⟨u, u1, u2⟩ := fl_rep (E := E) (T := T) (k := en_m E) p
      obtain ⟨v, v1, v2⟩ := fl_rep (E := E) (T := T) (k := en_m E) q
      have hu : fl_end E T (en_m E) u := by
        rcases cn_end u1 with w | w
        · rw [w]; exact hp
        · exact w
      have hv : fl_end E T (en_m E) v := by
        rcases cn_end v1 with w | w
        · rw [w]; exact hq
        · exact w
      have e5 := i3 u (fl_end_lt ho (Nat.le_refl _) hu) (ma_dec_t.mpr ⟨hu, u2⟩)
      have e6 := i3 v (fl_end_lt ho (Nat.le_refl _) hv) (ma_dec_t.mpr ⟨hv, v2⟩)
      rw [e5] at u1
      rw [e6] at v1
      exact cn_t u1 (cn_s v1)
  rw [e4, e3]
  have := fb_ct_le (bt (en_ends E T (en_m E))) (en_n E)
  omega
