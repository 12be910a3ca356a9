/-! The mathematics: trimming -/
/-- agreement but for some cells -/
def ma_fq (W : Nat → Nat → Prop) (g g0 : dl_Sg) : Prop := ∀ k i, ¬ W k i → g k i = g0 k i
theorem ma_fq.r (W : Nat → Nat → Prop) (g : dl_Sg) : ma_fq W g g := fun _ _ _ => rfl
theorem ma_fq.t {W : Nat → Nat → Prop} {g g1 g0 : dl_Sg} (h : ma_fq W g g1) (h2 : ma_fq W g1 g0) : ma_fq W g g0 := fun k i q => (h k i q).trans (h2 k i q)
theorem ma_fq.w {W V : Nat → Nat → Prop} {g g0 : dl_Sg} (h : ma_fq W g g0) (hw : ∀ k i, W k i → V k i) : ma_fq V g g0 := fun k i q => h k i (fun w => q (hw k i w))
theorem ma_fq.s {W : Nat → Nat → Prop} (g : dl_Sg) {a i : Nat} (v : Int32) (h : W a i) : ma_fq W (dl_s2 g a i v) g := fun k j q => by
  rw [ma_s2, if_neg (fun z => q (by rw [z.1, z.2]; exact h))]
theorem en_M.fq {E : ma_E} {W : Nat → Nat → Prop} {g g0 : dl_Sg} (hM : en_M E g0) (h : ma_fq W g g0) (h1 : ∀ i, ¬ W 1 i ∧ ¬ W 2 i ∧ ¬ W 4 i ∧ ¬ W 5 i ∧ ¬ W 6 i) (h0 : ¬ W 0 0) (h3 : ¬ W 0 3) (h7 : ¬ W 0 7) : en_M E g :=
  hM.same (h 0 0 h0) (h 0 3 h3) (h 0 7 h7) (funext fun i => h 1 i (h1 i).1) (funext fun i => h 2 i (h1 i).2.1) (funext fun i => h 4 i (h1 i).2.2.1) (funext fun i => h 5 i (h1 i).2.2.2.1) (funext fun i => h 6 i (h1 i).2.2.2.2)
def tr_on (E : ma_E) (T : Int32) (p s : Nat) : Prop := s < en_m E ∧ bt T s = true ∧ (en_a E s = p ∨ en_b E s = p)
def tr_ok (E : ma_E) (T : Int32) (p s : Nat) : Prop := p < en_n E ∧ en_tap E p = false ∧ tr_on E T p s ∧ (∀ s', tr_on E T p s' → s' = s) ∧ en_wi E p ≤ en_c E s + en_pr E p
def tr_st (E : ma_E) (T : Int32) (s : Nat) : Prop := ∃ p, tr_ok E T p s ∧ ∀ p' s', p' < p → ¬ tr_ok E T p' s'
def tr_end (E : ma_E) : Nat → Int32 → Int32 → Prop
  | 0, T, T' => T' = T ∧ ∀ p s, ¬ tr_ok E T p s
  | j + 1, T, T' => ∃ s, tr_st E T s ∧ tr_end E j (T &&& (((1 : Int32) <<< (nI s &&& 31)) ^^^ (-1 : Int32))) T'
section
variable {E : ma_E} {N : Nat} {T : Int32}
theorem tr_st_one {s s' : Nat} (h : tr_st E T s) (h2 : tr_st E T s') : s = s' := by
  obtain ⟨p, h1, h3⟩ := h
  obtain ⟨q, h4, h5⟩ := h2
  have e : p = q := by
    rcases Nat.lt_trichotomy p q with w | w | w
    · exact absurd h1 (h5 p s w)
    · exact w
    · exact absurd h4 (h3 q s' w)
  subst e
  exact h4.2.2.2.1 s h1.2.2.1
theorem tr_end_one : ∀ {j j' : Nat} {T T' T'' : Int32}, tr_end E j T T' → tr_end E j' T T'' → j = j' ∧ T' = T''
  | 0, 0, T, T', T'', h, h2 => ⟨rfl, h.1.trans h2.1.symm⟩
  | 0, j' + 1, T, T', T'', h, h2 => by
    obtain ⟨s, ⟨p, hp, _⟩, _⟩ := h2
    exact absurd hp (h.2 p s)
  | j + 1, 0, T, T', T'', h, h2 => by
    obtain ⟨s, ⟨p, hp, _⟩, _⟩ := h
    exact absurd hp (h2.2 p s)
  | j + 1, j' + 1, T, T', T'', h, h2 => by
    obtain ⟨s, h1, h3⟩ := h
    obtain ⟨s', h4, h5⟩ := h2
    have e := tr_st_one h1 h4
    subst e
    obtain ⟨a, b⟩ := tr_end_one h3 h5
    exact ⟨by omega, b⟩
theorem tr_on_b {p s : Nat} : tr_on E T p s ↔ s < en_m E ∧ (bt T s && (decide (en_a E s = p) || decide (en_b E s = p))) = true := by
  rw [Bool.and_eq_true, Bool.or_eq_true, decide_eq_true_iff, decide_eq_true_iff]
  exact Iff.rfl
/-- how many streets of a set end at a place -/
def en_deg (E : ma_E) (T : Int32) (p : Nat) : Nat := fb_ct (fun s => bt T s && (decide (en_a E s = p) || decide (en_b E s = p))) (en_m E)
theorem ma_degree (hN : 17 ≤ N) (ho : en_ok E) {g : dl_Sg} (hM : en_M E g) {p : Nat} (hp : p < en_n E) : mo_degree N g (nI p) T = some (nI (en_deg E T p)) := by
  have hn := ho.n
  have hm := ho.m
  unfold mo_degree
  rw [ma_nme, ma_nme]
  refine ma_is ?_
  refine ma_loop (fun k s (x : Int32) => mo_degree_b5 N g k (nI p) T x (nI s)) (fun s x => x = nI (fb_ct (fun s => bt T s && (decide (en_a E s = p) || decide (en_b E s = p))) s)) _ (en_m E) ?_ ?_ N 0 0 (by omega) (by omega) rfl
  · rintro k x h
    rw [mo_degree_b5, hM.m, if_pos ((ma_le (by omega) (by omega)).mpr (by omega))]
    exact ma_some h
  · rintro k s x hs h ih
    have ha := ho.a hs
    have hb := ho.b hs
    rw [mo_degree_b5, hM.m, if_neg (fun q => absurd ((ma_le (by omega) (by omega)).mp q) (by omega)), dl_bi_e (ma_has _ (by omega)), ma_gde (ma_in_t (by omega) (by omega)), nI_clamp (by omega), hM.a hs, hM.b hs, ma_gde (ma_in_t (by omega) (by omega))]
    unfold mo_degree_b50 mo_degree_b46 mo_degree_b51
    have e1 : nI (en_a E s) = nI p ↔ en_a E s = p := nI_eq (by omega) (by omega)
    have e2 : nI (en_b E s) = nI p ↔ en_b E s = p := nI_eq (by omega) (by omega)
    have fin : ∀ b : Bool, (bt T s && (decide (en_a E s = p) || decide (en_b E s = p))) = b → ma_wp (mo_degree_b5 N g k (nI p) T (x + (if b = true then 1 else 0)) (nI (s + 1))) (fun r => r = nI (en_deg E T p)) := by
      intro b hb
      refine ih _ ?_
      rw [fb_ct_succ, hb, h]
      cases b
      · rw [if_neg (by decide), if_neg (by decide)]
        exact nI_add _ 0
      · rw [if_pos rfl, if_pos rfl]
        exact nI_add _ 1
    by_cases c : bt T s = true
    · rw [if_pos c, if_neg (by decide)]
      rw [c, Bool.true_and] at fin
      by_cases c1 : en_a E s = p
      · rw [if_pos (e1.mpr c1), ma_nme, ma_nme, nI_1]
        exact fin true (by rw [decide_eq_true c1]; rfl)
      · rw [if_neg (fun q => c1 (e1.mp q))]
        by_cases c2 : en_b E s = p
        · rw [if_pos (e2.mpr c2), ma_nme, ma_nme, nI_1]
          exact fin true (by rw [decide_eq_true c2, Bool.or_true])
        · rw [if_neg (fun q => c2 (e2.mp q)), ma_nme, ma_nme, nI_1]
          exact fin false (by rw [decide_eq_false c1, decide_eq_false c2]; rfl)
    · rw [if_neg c, if_pos rfl, ma_nme, ma_nme, nI_1]
      exact fin false (by rw [Bool.eq_false_iff.mpr c]; rfl)
/-- the class's count of streets at a place -/
theorem ma_cdeg (ho : en_ok E) {g : dl_Sg} (hC : en_C E g) {p : Nat} (hp : p < en_n E) (hT : ∀ i, bt T i = true → bt (en_t E) i = true) : fb_ct (bt (g 12 p &&& T)) 16 = en_deg E T p := by
  have hn := ho.n
  have hm := ho.m
  have e := fb_ct_split (bt (g 12 p &&& T)) (en_m E) (16 - en_m E)
  rw [show en_m E + (16 - en_m E) = 16 by omega] at e
  have z : fb_ct (fun k => bt (g 12 p &&& T) (en_m E + k)) (16 - en_m E) = 0 := fb_ct_zero.mpr (fun k _ => by
    show bt (g 12 p &&& T) (en_m E + k) = false
    rw [b_and, hC.ofl ho (by omega) _ (by omega)]; rfl)
  rw [e, z, Nat.add_zero]
  refine fb_ct_cong (fun s hs => ?_)
  rw [b_and, hC.of (by omega)]
  cases e1 : bt T s
  · rw [Bool.and_false]; rfl
  · rw [hT s e1, Bool.and_true]
theorem tr_deg {p s : Nat} (h : tr_on E T p s) : en_deg E T p = 1 ↔ ∀ s', tr_on E T p s' → s' = s := by
  unfold en_deg
  rw [ma_ct_one]
  constructor
  · rintro ⟨i, i1, i2, i3⟩ s' h'
    rw [tr_on_b] at h h'
    rw [i3 s' h'.1 h'.2, i3 s h.1 h.2]
  · intro hu
    rw [tr_on_b] at h
    exact ⟨s, h.1, h.2, fun j hj hb => hu j (tr_on_b.mpr ⟨hj, hb⟩)⟩
/-- the class looks for a street that can be spared -/
theorem ma_spare (hN : 17 ≤ N) (ho : en_ok E) {g : dl_Sg} (hC : en_C E g) (hT : ∀ i, bt T i = true → bt (en_t E) i = true) : ma_wp (cl6_spareStreetOf N g T) (fun r => (r = -1 ∧ ∀ p s, ¬ tr_ok E T p s) ∨ ∃ s, r = nI s ∧ s < en_m E ∧ tr_st E T s) := by
  have hn := ho.n
  have hm := ho.m
  unfold cl6_spareStreetOf
  rw [ma_nme]
  refine ma_loop (fun k p (_ : Unit) => cl6_spareStreetOf_b2 N g k T (nI p)) (fun p _ => ∀ p' s, p' < p → ¬ tr_ok E T p' s) _ (en_n E) ?_ ?_ N 0 () (by omega) (by omega) (fun p s h => absurd h (Nat.not_lt_zero p))
  · rintro k _ h
    rw [cl6_spareStreetOf_b2, hC.n, if_pos ((ma_le (by omega) (by omega)).mpr (by omega))]
    exact ma_some (Or.inl ⟨rfl, fun p s hp => h p s hp.1 hp⟩)
  · rintro k p _ hp h ih
    rw [cl6_spareStreetOf_b2, hC.n, if_neg (fun q => absurd ((ma_le (by omega) (by omega)).mp q) (by omega)), ma_gde (ma_in_t (by omega) (by omega)), nI_clamp (by omega), ma_nme, dl_bi_e (ma_cisTap ho hC hp)]
    have hlo : ma_lo (g 12 p &&& T) 16 := ma_lo_and ((hC.ofl ho (by omega)).up hm)
    have hon : ∀ s, tr_on E T p s ↔ bt (g 12 p &&& T) s = true := fun s => by
      rw [b_and, hC.of (by omega), Bool.and_eq_true, Bool.and_eq_true, Bool.or_eq_true, decide_eq_true_iff, decide_eq_true_iff]
      exact ⟨fun q => ⟨⟨hT s q.2.1, q.2.2⟩, q.2.1⟩, fun q => ⟨ho.t q.1.1, q.2, q.1.2⟩⟩
    have no : (∀ s, ¬ tr_ok E T p s) → ma_wp (cl6_spareStreetOf_b85 N g (cl6_spareStreetOf_b2 N g k) T (nI p)) (fun r => (r = -1 ∧ ∀ p s, ¬ tr_ok E T p s) ∨ ∃ s, r = nI s ∧ s < en_m E ∧ tr_st E T s) := by
      intro q
      unfold cl6_spareStreetOf_b85
      rw [ma_nme, nI_1]
      refine ih () (fun p' s hp' => ?_)
      by_cases e : p' = p
      · subst e; exact q s
      · exact h p' s (by omega)
    by_cases ct : en_tap E p = true
    · rw [if_pos ct, if_neg (by decide)]
      exact no (fun s q => by rw [q.2.1] at ct; cases ct)
    · rw [if_neg ct, if_pos rfl, dl_bi_e (ma_bitc hlo), ma_cdeg ho hC hp hT]
      have hle : en_deg E T p ≤ en_m E := fb_ct_le _ _
      have e1 : nI (en_deg E T p) = (1 : Int32) ↔ en_deg E T p = 1 := nI_eq (b := 1) (by omega) (by omega)
      by_cases c1 : en_deg E T p = 1
      · rw [if_pos (e1.mpr c1)]
        have hnz : ¬ (g 12 p &&& T) = 0 := fun z => by
          have : en_deg E T p = 0 := by
            rw [← ma_cdeg ho hC hp hT, z]
            exact fb_ct_zero.mpr (fun k _ => b_0 k)
          omega
        obtain ⟨s, s1, s2, _, s4, _⟩ := ma_ntz hlo hnz
        have hs := (hon s).mpr s2
        have hsm := hs.1
        have hu := (tr_deg hs).mp c1
        have q1 := ho.c2 hs.1
        have q2 := en_pr_le ho hp
        have q3 := en_wi_le ho hp
        rw [dl_bi_e s4, ma_nme, ma_gde (ma_in_t (by omega) (by omega)), ma_gde (ma_in_t (by omega) (by omega)), ma_gde (ma_in_t (by omega) (by omega)), nI_clamp (by omega), hC.c hs.1, hC.pr hp, hC.wi hp, nI_add]
        by_cases c2 : en_c E s + en_pr E p < en_wi E p
        · rw [if_pos ((ma_lt (by omega) (by omega)).mpr c2)]
          refine no (fun s' q => ?_)
          have e := hu s' q.2.2.1
          subst e
          have := q.2.2.2.2
          omega
        · rw [if_neg (fun q => c2 ((ma_lt (by omega) (by omega)).mp q))]
          exact ma_some (Or.inr ⟨s, rfl, hsm, p, ⟨hp, Bool.eq_false_iff.mpr ct, hs, hu, by omega⟩, h⟩)
      · rw [if_neg (fun q => c1 (e1.mp q))]
        exact no (fun s q => c1 ((tr_deg q.2.2.1).mpr q.2.2.2.1))
theorem ma_ct_out {x : Int32} {s : Nat} (hs : s < 16) (h : bt x s = true) : fb_ct (bt (x &&& (((1 : Int32) <<< (nI s &&& 31)) ^^^ (-1 : Int32)))) 16 + 1 = fb_ct (bt x) 16 := by
  have e : fb_ct (bt (x &&& (((1 : Int32) <<< (nI s &&& 31)) ^^^ (-1 : Int32)))) 16 = fb_ct (fun k => if k = s then false else bt x k) 16 := fb_ct_cong (fun k _ => by
    rw [ma_out _ (by omega)]
    by_cases q : k = s
    · rw [if_pos q, decide_eq_true q, Bool.not_true, Bool.and_false]
    · rw [if_neg q, decide_eq_false q, Bool.not_false, Bool.and_true])
  have := fb_ct_upd (bt x) false hs
  rw [h] at this
  rw [e]
  simpa using this
theorem ma_trimmed (hN : 17 ≤ N) (ho : en_ok E) {g : dl_Sg} (hC : en_C E g) (hT : ∀ i, bt T i = true → bt (en_t E) i = true) : ma_wp (cl6_trimmed N g T) (fun r => ∃ j, tr_end E j T r ∧ fb_ct (bt r) 16 + j = fb_ct (bt T) 16 ∧ ∀ i, bt r i = true → bt T i = true) := by
  have hm := ho.m
  unfold cl6_trimmed
  rw [ma_nme, ma_nme]
  have key : ∀ k r (x : Int32), (∀ i, bt x i = true → bt (en_t E) i = true) → fb_ct (bt x) 16 + r ≤ 16 → 16 - r < k → ma_wp (cl6_trimmed_b4 N g k x (nI r)) (fun y => ∃ j, tr_end E j x y ∧ fb_ct (bt y) 16 + j = fb_ct (bt x) 16 ∧ ∀ i, bt y i = true → bt x i = true) := by
    intro k
    induction k with
    | zero => intro r x _ _ h; omega
    | succ k ih =>
      intro r x hx hr hk
      rw [cl6_trimmed_b4]
      by_cases c : 16 ≤ r
      · rw [if_pos ((ma_L16 (by omega)).mpr c)]
        have z : fb_ct (bt x) 16 = 0 := by omega
        refine ma_some ⟨0, ⟨rfl, fun p s q => ?_⟩, rfl, fun _ q => q⟩
        have h1 := q.2.2.1.1
        have := fb_ct_zero.mp z s (by omega)
        rw [q.2.2.1.2.1] at this
        cases this
      · rw [if_neg (fun q => c ((ma_L16 (by omega)).mp q))]
        obtain ⟨y, ey, hy⟩ := ma_spare hN ho hC hx
        rw [dl_bi_e ey, ma_nme]
        rcases hy with ⟨y1, y2⟩ | ⟨s, y1, y2, y3⟩
        · rw [if_pos y1]
          exact ma_some ⟨0, ⟨rfl, y2⟩, rfl, fun _ q => q⟩
        · rw [y1, if_neg (ma_m1 (by omega)), ma_nme, ma_nme, nI_1]
          obtain ⟨p, hp, _⟩ := id y3
          have hb := hp.2.2.1.2.1
          have hc := ma_ct_out (x := x) (s := s) (by omega) hb
          have hsub : ∀ i, bt (x &&& (((1 : Int32) <<< (nI s &&& 31)) ^^^ (-1 : Int32))) i = true → bt x i = true := fun i q => by
            rw [ma_out _ (by omega), Bool.and_eq_true] at q; exact q.1
          refine ma_mono (ih (r + 1) _ (fun i q => hx i (hsub i q)) (by omega) (by omega)) ?_
          rintro z ⟨j, j1, j2, j3⟩
          exact ⟨j + 1, ⟨s, y3, j1⟩, by omega, fun i q => hsub i (j3 i q)⟩
  have := fb_ct_le (bt T) 16
  exact key N 0 T hT (by omega) (by omega)
/-- the reference looks at one place -/
theorem ma_mtrimmed (hN : 17 ≤ N) (ho : en_ok E) {g : dl_Sg} (hM : en_M E g) (hT : ∀ i, bt (g 0 8) i = true → bt (en_t E) i = true) {p : Nat} (hp : p < en_n E) : ma_wp (mo_trimmed N g (nI p)) (fun r => (r = -1 ∧ ∀ s, ¬ tr_ok E (g 0 8) p s) ∨ ∃ s, r = nI s ∧ s < en_m E ∧ tr_ok E (g 0 8) p s) := by
  have hn := ho.n
  have hm := ho.m
  have hk := ho.k hp
  have hw := ho.w hp
  unfold mo_trimmed
  have hle : en_deg E (g 0 8) p ≤ en_m E := fb_ct_le _ _
  have e1 : nI (en_deg E (g 0 8) p) = (1 : Int32) ↔ en_deg E (g 0 8) p = 1 := nI_eq (b := 1) (by omega) (by omega)
  rw [dl_bi_e (ma_degree hN ho hM hp)]
  by_cases c1 : en_deg E (g 0 8) p = 1
  · rw [if_pos (e1.mpr c1), dl_bi_e (ma_misTap ho hM hp)]
    by_cases ct : en_tap E p = true
    · rw [if_pos ct, if_neg (by decide)]
      exact ma_some (Or.inl ⟨rfl, fun s q => by rw [q.2.1] at ct; cases ct⟩)
    · rw [if_neg ct, if_pos rfl, ma_nme]
      obtain ⟨s0, i1, i2, i3⟩ := ma_ct_one.mp c1
      have hs0 : tr_on E (g 0 8) p s0 := tr_on_b.mpr ⟨i1, i2⟩
      have hu := (tr_deg hs0).mp c1
      have q1 := ho.c2 i1
      have q2 := en_pr_le ho hp
      have q3 := en_wi_le ho hp
      -- the end: the street found
      have fin : ma_wp (mo_trimmed_b62 N g (nI p) (nI s0)) (fun r => (r = -1 ∧ ∀ s, ¬ tr_ok E (g 0 8) p s) ∨ ∃ s, r = nI s ∧ s < en_m E ∧ tr_ok E (g 0 8) p s) := by
        have fin2 : ∀ y : Nat, y = en_pr E p → ma_wp (mo_trimmed_b88 N g (nI p) (nI s0) (nI (en_c E s0)) (nI y)) (fun r => (r = -1 ∧ ∀ s, ¬ tr_ok E (g 0 8) p s) ∨ ∃ s, r = nI s ∧ s < en_m E ∧ tr_ok E (g 0 8) p s) := by
          intro y hy
          have fin3 : ∀ w : Nat, w = en_wi E p → ma_wp (mo_trimmed_b111 N g (nI s0) (nI (en_c E s0 + y)) (nI w)) (fun r => (r = -1 ∧ ∀ s, ¬ tr_ok E (g 0 8) p s) ∨ ∃ s, r = nI s ∧ s < en_m E ∧ tr_ok E (g 0 8) p s) := by
            intro w hw
            unfold mo_trimmed_b111
            by_cases c2 : en_c E s0 + y < w
            · rw [if_pos ((ma_lt (by omega) (by omega)).mpr c2)]
              refine ma_some (Or.inl ⟨rfl, fun s' q => ?_⟩)
              have e := hu s' q.2.2.1
              subst e
              have := q.2.2.2.2
              omega
            · rw [if_neg (fun q => c2 ((ma_lt (by omega) (by omega)).mp q))]
              exact ma_some (Or.inr ⟨s0, rfl, i1, hp, Bool.eq_false_iff.mpr ct, hs0, hu, by omega⟩)
          unfold mo_trimmed_b88
          rw [ma_nme, nI_add, ma_gde (ma_in_t (by omega) (by omega)), nI_clamp (by omega), hM.k hp, hM.w hp, ma_gde (ma_in_t (by omega) (by omega))]
          have e2 : nI (en_k E p) = (2 : Int32) ↔ en_k E p = 2 := nI_eq (b := 2) (by omega) (by omega)
          by_cases c2 : en_k E p = 2
          · rw [if_pos (e2.mpr c2)]
            exact fin3 _ (by unfold en_wi; rw [if_pos c2])
          · rw [if_neg (fun q => c2 (e2.mp q))]
            exact fin3 0 (by unfold en_wi; rw [if_neg c2])
        unfold mo_trimmed_b62
        rw [ma_gde (ma_in_t (by omega) (by omega)), ma_gde (ma_in_t (by omega) (by omega)), nI_clamp (by omega), nI_clamp (by omega), hM.k hp, hM.w hp, hM.c i1, ma_gde (ma_in_t (by omega) (by omega))]
        have e4 : nI (en_k E p) = (4 : Int32) ↔ en_k E p = 4 := nI_eq (b := 4) (by omega) (by omega)
        by_cases c4 : en_k E p = 4
        · rw [if_pos (e4.mpr c4)]
          exact fin2 _ (by unfold en_pr; rw [if_pos c4])
        · rw [if_neg (fun q => c4 (e4.mp q))]
          exact fin2 0 (by unfold en_pr; rw [if_neg c4])
      refine ma_loop (fun k s (_ : Unit) => mo_trimmed_b25 N g k (nI p) (nI s)) (fun _ _ => True) _ s0 ?_ ?_ N 0 () (by omega) (by omega) trivial
      · rintro k _ _
        have ha := ho.a i1
        have hb := ho.b i1
        rw [mo_trimmed_b25, dl_bi_e (ma_has _ (by omega)), if_pos hs0.2.1, if_neg (by decide), ma_gde (ma_in_t (by omega) (by omega)), nI_clamp (by omega), hM.a i1, hM.b i1, ma_gde (ma_in_t (by omega) (by omega))]
        rcases hs0.2.2 with q | q
        · rw [if_pos (by rw [q])]
          exact fin
        · by_cases q2 : nI (en_a E s0) = nI p
          · rw [if_pos q2]; exact fin
          · rw [if_neg q2, if_pos (by rw [q])]
            exact fin
      · rintro k s _ hs _ ih
        have hsm : s < en_m E := by omega
        have ha := ho.a hsm
        have hb := ho.b hsm
        have go : ma_wp (mo_trimmed_b56 N g (mo_trimmed_b25 N g k) (nI p) (nI s)) (fun r => (r = -1 ∧ ∀ s, ¬ tr_ok E (g 0 8) p s) ∨ ∃ s, r = nI s ∧ s < en_m E ∧ tr_ok E (g 0 8) p s) := by
          unfold mo_trimmed_b56
          rw [ma_nme, nI_1]
          exact ih () trivial
        rw [mo_trimmed_b25, dl_bi_e (ma_has _ (by omega))]
        by_cases cb : bt (g 0 8) s = true
        · rw [if_pos cb, if_neg (by decide), ma_gde (ma_in_t (by omega) (by omega)), nI_clamp (by omega), hM.a hsm, hM.b hsm, ma_gde (ma_in_t (by omega) (by omega)), if_neg (fun q => absurd (hu s ⟨hsm, cb, Or.inl ((nI_eq (by omega) (by omega)).mp q)⟩) (by omega)), if_neg (fun q => absurd (hu s ⟨hsm, cb, Or.inr ((nI_eq (by omega) (by omega)).mp q)⟩) (by omega))]
          exact go
        · rw [if_neg cb, if_pos rfl]
          exact go
  · rw [if_neg (fun q => c1 (e1.mp q))]
    exact ma_some (Or.inl ⟨rfl, fun s q => c1 ((tr_deg q.2.2.1).mpr q.2.2.2.1)⟩)
/-- the reference trims -/
theorem ma_mtrim (hN : 17 ≤ N) (ho : en_ok E) : ∀ (k c p : Nat) (g : dl_Sg), en_M E g → (∀ i, bt (g 0 8) i = true → bt (en_t E) i = true) → (∀ p' s, p' < p → ¬ tr_ok E (g 0 8) p' s) → p ≤ en_n E → fb_ct (bt (g 0 8)) 16 * 11 + (en_n E - p) < k → ma_wp (mo_trim_b21 N k (nI c) (nI p) g) (fun x => ∃ j, tr_end E j (g 0 8) (x.2 0 8) ∧ x.1 = nI (c + j) ∧ x.2 0 14 = 0 ∧ ma_fq (fun k i => k = 0 ∧ (i = 8 ∨ i = 14)) x.2 g ∧ ∀ i, bt (x.2 0 8) i = true → bt (g 0 8) i = true) := by
  have hn := ho.n
  have hm := ho.m
  intro k
  induction k with
  | zero => intro c p g _ _ _ _ h; omega
  | succ k ih =>
    intro c p g hM hT hno hp hk
    rw [mo_trim_b21, hM.n]
    by_cases c0 : en_n E ≤ p
    · rw [if_pos ((ma_le (by omega) (by omega)).mpr c0), dl_b2_e (mo_done_e _ _)]
      refine ma_some ⟨0, ⟨?_, fun p' s q => hno p' s (by have := q.1; omega) q⟩, rfl, ma_s2s g 0 14 0, ma_fq.s g 0 ⟨rfl, Or.inr rfl⟩, fun i q => ?_⟩
      · exact ma_s2n (a := 0) (i := 14) (b := 0) (j := 8) g 0 (fun q => absurd q.2 (by decide))
      · have q : bt (dl_s2 g 0 14 0 0 8) i = true := q
        rwa [ma_s2n g 0 (fun q => absurd q.2 (by decide))] at q
    · rw [if_neg (fun q => c0 ((ma_le (by omega) (by omega)).mp q))]
      obtain ⟨r, er, hr⟩ := ma_mtrimmed hN ho hM hT (show p < en_n E by omega)
      rw [dl_bi_e er, ma_nme]
      unfold mo_trim_b57 mo_trim_b69
      rcases hr with ⟨r1, r2⟩ | ⟨s, r1, r2, r3⟩
      · rw [if_pos r1, if_pos r1, ma_nme, nI_1]
        refine ih c (p + 1) g hM hT (fun p' s hp' => ?_) (by omega) (by omega)
        by_cases e : p' = p
        · subst e; exact r2 s
        · exact hno p' s (by omega)
      · rw [r1, if_neg (ma_m1 (by omega)), ma_nme, ma_nme, if_neg (ma_m1 (by omega)), ma_nme, nI_1]
        have hb := r3.2.2.1.2.1
        have hc := ma_ct_out (x := g 0 8) (s := s) (by omega) hb
        have hsub : ∀ i, bt ((g 0 8) &&& (((1 : Int32) <<< (nI s &&& 31)) ^^^ (-1 : Int32))) i = true → bt (g 0 8) i = true := fun i q => by
          rw [ma_out _ (by omega), Bool.and_eq_true] at q; exact q.1
        have e8 : (dl_s2 g 0 8 ((g 0 8) &&& (((1 : Int32) <<< (nI s &&& 31)) ^^^ (-1 : Int32)))) 0 8 = (g 0 8) &&& (((1 : Int32) <<< (nI s &&& 31)) ^^^ (-1 : Int32)) := ma_s2s _ _ _ _
        have hM2 : en_M E (dl_s2 g 0 8 ((g 0 8) &&& (((1 : Int32) <<< (nI s &&& 31)) ^^^ (-1 : Int32)))) := hM.fq (W := fun k i => k = 0 ∧ i = 8) (ma_fq.s _ _ ⟨rfl, rfl⟩) (fun i => ⟨fun q => absurd q.1 (by decide), fun q => absurd q.1 (by decide), fun q => absurd q.1 (by decide), fun q => absurd q.1 (by decide), fun q => absurd q.1 (by decide)⟩) (fun q => absurd q.2 (by decide)) (fun q => absurd q.2 (by decide)) (fun q => absurd q.2 (by decide))
        refine ma_mono (ih (c + 1) 0 _ hM2 (fun i q => hT i (hsub i (by rwa [e8] at q))) (fun p' s h => absurd h (Nat.not_lt_zero p')) (by omega) (by rw [e8]; omega)) ?_
        rintro x ⟨j, j1, j2, j3, j4, j5⟩
        rw [e8] at j1 j5
        exact ⟨j + 1, ⟨s, ⟨p, r3, hno⟩, j1⟩, by rw [j2]; congr 1; omega, j3, j4.t (ma_fq.s _ _ ⟨rfl, Or.inl rfl⟩), fun i q => hsub i (j5 i q)⟩
end
