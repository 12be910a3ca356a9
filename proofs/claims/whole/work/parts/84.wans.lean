/-! The mathematics: what is answered of the walls -/
def wl_pos (A : wl_S) (k : Nat) : Bool := decide (0 < wl_H A k)
/-- the outcome of the net's walls -/
def wa_out (E : ma_E) (o : Int32) (A : wl_S) : Prop := ((∀ p, ¬ sp_tap E p) ∧ o = -1 ∧ A = wl_A0 E) ∨ ∃ r j, wl_rt E r ∧ wl_run E r j (wl_A0 E) o A
theorem wa_out_one {E : ma_E} (ho : en_ok E) {o o' : Int32} {A B : wl_S} (h : wa_out E o A) (h2 : wa_out E o' B) : o = o' ∧ A = B := by
  rcases h with ⟨a, b, c⟩ | ⟨r, j, a, b⟩ <;> rcases h2 with ⟨a', b', c'⟩ | ⟨r', j', a', b'⟩
  · exact ⟨b.trans b'.symm, c.trans c'.symm⟩
  · exact absurd a'.1 (a r')
  · exact absurd a.1 (a' r)
  · have e := wl_rt_one ho a a'
    subst e
    exact wl_run_one b b'
theorem wa_out_I {E : ma_E} (ho : en_ok E) {o : Int32} {A : wl_S} (h : wa_out E o A) : wl_I E A ∧ ∀ k, k < wl_K A → wl_H A k ≤ 2252800 := by
  have hn := ho.n
  rcases h with ⟨a, b, c⟩ | ⟨r, j, a, b⟩
  · subst c
    exact ⟨wl_I0 ho, fun k _ => Nat.zero_le _⟩
  · obtain ⟨i1, i2, i3⟩ := wl_run_I ho (wl_I0 ho) (wl_B0 E) (wl_mu0 E r) b
    refine ⟨i1, fun k hk => Nat.le_trans (i2 k hk) ?_⟩
    have : (0 + j) * 102400 ≤ 22 * 102400 := Nat.mul_le_mul (by omega) (Nat.le_refl _)
    exact this
section
variable {E : ma_E} {N : Nat}
/-- the class: its rows hold the outcome -/
theorem ma_wc {g : dl_Sg} (h : wc_ok E g) : ∃ A, wa_out E (g 4 6) A ∧ (g 4 6 = 0 → g 4 4 = nI (wl_K A) ∧ ∀ k, k < wl_K A → g 22 k = wl_P A k ∧ g 23 k = nI (wl_H A k)) := by
  rcases h with ⟨a, b⟩ | ⟨r, j, A, o, a, b, c, d⟩
  · exact ⟨wl_A0 E, Or.inl ⟨a, b, rfl⟩, fun q => absurd (b.symm.trans q) (by decide)⟩
  · subst c
    exact ⟨A, Or.inr ⟨r, j, a, b⟩, fun _ => ⟨d.1, d.2.2.1⟩⟩
def wa_walls (E : ma_E) (r : Int32) : Prop := ∃ o A, wa_out E o A ∧ r = if o = 0 then nI (fb_ct (wl_pos A) (wl_K A)) else o
def wa_bound (E : ma_E) (r : Int32) : Prop := ∃ o A, wa_out E o A ∧ r = if o = 0 then nI (fb_sm (wl_H A) (wl_K A)) else -1000000
def wa_hit (A : wl_S) (i w : Int32) (r : Int32) : Prop := (∃ k, k < wl_K A ∧ wl_pos A k = true ∧ i = nI (fb_ct (wl_pos A) k) ∧ r = if w = 0 then wl_P A k else nI (wl_H A k)) ∨ ((∀ k, k < wl_K A → wl_pos A k = true → i ≠ nI (fb_ct (wl_pos A) k)) ∧ r = -1)
def wa_wall (E : ma_E) (i w : Int32) (r : Int32) : Prop := ∃ o A, wa_out E o A ∧ ((o = 0 ∧ (w = 0 ∨ w = 1) ∧ wa_hit A i w r) ∨ (¬ (o = 0 ∧ (w = 0 ∨ w = 1)) ∧ r = -1))
theorem wa_walls_one (ho : en_ok E) {r q : Int32} (h : wa_walls E r) (h2 : wa_walls E q) : r = q := by
  obtain ⟨o, A, a, b⟩ := h
  obtain ⟨o', A', a', b'⟩ := h2
  obtain ⟨e1, e2⟩ := wa_out_one ho a a'
  rw [b, b', e1, e2]
theorem wa_bound_one (ho : en_ok E) {r q : Int32} (h : wa_bound E r) (h2 : wa_bound E q) : r = q := by
  obtain ⟨o, A, a, b⟩ := h
  obtain ⟨o', A', a', b'⟩ := h2
  obtain ⟨e1, e2⟩ := wa_out_one ho a a'
  rw [b, b', e1, e2]
theorem wa_hit_one {A : wl_S} (hK : wl_K A ≤ 20) {i w r q : Int32} (h : wa_hit A i w r) (h2 : wa_hit A i w q) : r = q := by
  rcases h with ⟨k, a, b, c, d⟩ | ⟨a, b⟩ <;> rcases h2 with ⟨k', a', b', c', d'⟩ | ⟨a', b'⟩
  · have h1 := fb_ct_le (wl_pos A) k
    have h2 := fb_ct_le (wl_pos A) k'
    have e : k = k' := fb_ct_kth_one b b' ((nI_eq (by omega) (by omega)).mp (c.symm.trans c'))
    rw [d, d', e]
  · exact absurd c (a' k a b)
  · exact absurd c' (a k' a' b')
  · rw [b, b']
theorem wa_wall_one (ho : en_ok E) {i w r q : Int32} (h : wa_wall E i w r) (h2 : wa_wall E i w q) : r = q := by
  have hn := ho.n
  obtain ⟨o, A, a, b⟩ := h
  obtain ⟨o', A', a', b'⟩ := h2
  obtain ⟨e1, e2⟩ := wa_out_one ho a a'
  subst e1 e2
  have hK := (wa_out_I ho a).1.K
  rcases b with ⟨b1, b2, b3⟩ | ⟨b1, b2⟩ <;> rcases b' with ⟨c1, c2, c3⟩ | ⟨c1, c2⟩
  · exact wa_hit_one (by omega) b3 c3
  · exact absurd ⟨b1, b2⟩ c1
  · exact absurd ⟨c1, c2⟩ b1
  · rw [b2, c2]
theorem ma_le0 {h : Nat} (hh : h < 2 ^ 31) : nI h ≤ 0 ↔ ¬ 0 < h := by
  rw [show (0 : Int32) = nI 0 from rfl, ma_le hh (by omega)]
  omega
theorem ma_cwalls (hN : 70 ≤ N) (ho : en_ok E) {g0 : dl_Sg} (hC : en_C E g0) (hc : g0 4 7 = g0 1 17 → wc_ok E g0) : ma_wp (cl11_walls N g0) (fun x => (∀ k, k ≠ 4 → k ≠ 22 → k ≠ 23 → k ≠ 24 → x.2 k = g0 k) ∧ x.2 4 7 = g0 1 17 ∧ wc_ok E x.2 ∧ wa_walls E x.1) := by
  have hn := ho.n
  unfold cl11_walls
  refine ma_b2 (ma_mono (P := fun x => (∀ k, k ≠ 4 → k ≠ 22 → k ≠ 23 → k ≠ 24 → x.2 k = g0 k) ∧ x.2 4 7 = g0 1 17 ∧ wc_ok E x.2 ∧ wa_walls E x.1) ?_ (fun a h => ma_some h))
  unfold cl7_howMany
  obtain ⟨g1, e1, f1, f2, f3⟩ := ma_crefresh hN ho hC hc
  obtain ⟨A, a1, a2⟩ := ma_wc f3
  obtain ⟨i1, i2⟩ := wa_out_I ho a1
  have hK := i1.K
  rw [dl_bi_e e1]
  by_cases c : g1 4 6 = 0
  · obtain ⟨b1, b2⟩ := a2 c
    rw [if_pos c, ma_nme, ma_nme]
    refine ma_mono (P := fun x => x.2 = g1 ∧ x.1 = nI (fb_ct (wl_pos A) (wl_K A))) ?_ (fun x hx => ⟨by rw [hx.1]; exact f1, by rw [hx.1]; exact f2, by rw [hx.1]; exact f3, _, A, a1, by rw [if_pos c]; exact hx.2⟩)
    refine ma_loop (fun k m (x : Int32) => cl7_howMany_b20 N k x (nI m) g1) (fun m x => x = nI (fb_ct (wl_pos A) m)) _ (wl_K A) ?_ ?_ N 0 0 (by omega) (by omega) rfl
    · rintro k x h
      rw [cl7_howMany_b20, b1, if_pos ((ma_le (by omega) (by omega)).mpr (by omega))]
      exact ma_some ⟨rfl, h⟩
    · rintro k m x hm h ih
      have hH := i2 m hm
      rw [cl7_howMany_b20, b1, if_neg (fun q => absurd ((ma_le (by omega) (by omega)).mp q) (by omega)), ma_gde (ma_in_t (by omega) (by omega)), nI_clamp (by omega), (b2 m hm).2]
      unfold cl7_howMany_b40
      by_cases c1 : 0 < wl_H A m
      · rw [if_neg (fun q => (ma_le0 (by omega)).mp q c1), ma_nme, ma_nme, nI_1]
        refine ih _ ?_
        rw [fb_ct_succ, if_pos (show wl_pos A m = true from decide_eq_true c1), h, nI_1]
      · rw [if_pos ((ma_le0 (by omega)).mpr c1), ma_nme, nI_1]
        refine ih _ ?_
        rw [fb_ct_succ, if_neg (show ¬ wl_pos A m = true from fun q => c1 (of_decide_eq_true q)), h, Nat.add_zero]
  · rw [if_neg c]
    exact ma_some ⟨f1, f2, f3, _, A, a1, by rw [if_neg c]⟩
theorem ma_cbound (hN : 70 ≤ N) (ho : en_ok E) {g0 : dl_Sg} (hC : en_C E g0) (hc : g0 4 7 = g0 1 17 → wc_ok E g0) : ma_wp (cl11_bound N g0) (fun x => (∀ k, k ≠ 4 → k ≠ 22 → k ≠ 23 → k ≠ 24 → x.2 k = g0 k) ∧ x.2 4 7 = g0 1 17 ∧ wc_ok E x.2 ∧ wa_bound E x.1) := by
  have hn := ho.n
  unfold cl11_bound
  refine ma_b2 (ma_mono (P := fun x => (∀ k, k ≠ 4 → k ≠ 22 → k ≠ 23 → k ≠ 24 → x.2 k = g0 k) ∧ x.2 4 7 = g0 1 17 ∧ wc_ok E x.2 ∧ wa_bound E x.1) ?_ (fun a h => ma_some h))
  unfold cl7_sumOfShares
  obtain ⟨g1, e1, f1, f2, f3⟩ := ma_crefresh hN ho hC hc
  obtain ⟨A, a1, a2⟩ := ma_wc f3
  obtain ⟨i1, i2⟩ := wa_out_I ho a1
  have hK := i1.K
  rw [dl_bi_e e1]
  by_cases c : g1 4 6 = 0
  · obtain ⟨b1, b2⟩ := a2 c
    rw [if_pos c, ma_nme, ma_nme]
    refine ma_mono (P := fun x => x.2 = g1 ∧ x.1 = nI (fb_sm (wl_H A) (wl_K A))) ?_ (fun x hx => ⟨by rw [hx.1]; exact f1, by rw [hx.1]; exact f2, by rw [hx.1]; exact f3, _, A, a1, by rw [if_pos c]; exact hx.2⟩)
    refine ma_loop (fun k m (x : Int32) => cl7_sumOfShares_b18 N k x (nI m) g1) (fun m x => x = nI (fb_sm (wl_H A) m)) _ (wl_K A) ?_ ?_ N 0 0 (by omega) (by omega) rfl
    · rintro k x h
      rw [cl7_sumOfShares_b18, b1, if_pos ((ma_le (by omega) (by omega)).mpr (by omega))]
      exact ma_some ⟨rfl, h⟩
    · rintro k m x hm h ih
      rw [cl7_sumOfShares_b18, b1, if_neg (fun q => absurd ((ma_le (by omega) (by omega)).mp q) (by omega)), ma_gde (ma_in_t (by omega) (by omega)), nI_clamp (by omega), (b2 m hm).2, ma_nme, ma_nme, nI_1]
      refine ih _ ?_
      rw [h, nI_add, fb_sm_succ]
  · rw [if_neg c]
    exact ma_some ⟨f1, f2, f3, _, A, a1, by rw [if_neg c]⟩
theorem ma_in01 (w : Int32) : (¬ w < 0 ∧ w ≤ 1) ↔ w = 0 ∨ w = 1 := by
  constructor
  · rintro ⟨h1, h2⟩
    obtain ⟨j, j1, j2⟩ := nI_of2 (M := 1) (n := 1) rfl h1 h2
    have : j = 0 ∨ j = 1 := by omega
    rcases this with e | e
    · rw [j2, e]; exact Or.inl rfl
    · rw [j2, e]; exact Or.inr rfl
  · rintro (e | e) <;> subst e <;> decide
theorem ma_cwall (hN : 70 ≤ N) (ho : en_ok E) {g0 : dl_Sg} (hC : en_C E g0) (hc : g0 4 7 = g0 1 17 → wc_ok E g0) (i w : Int32) : ma_wp (cl11_wall N g0 i w) (fun x => (∀ k, k ≠ 4 → k ≠ 22 → k ≠ 23 → k ≠ 24 → x.2 k = g0 k) ∧ x.2 4 7 = g0 1 17 ∧ wc_ok E x.2 ∧ wa_wall E i w x.1) := by
  have hn := ho.n
  unfold cl11_wall
  refine ma_b2 (ma_mono (P := fun x => (∀ k, k ≠ 4 → k ≠ 22 → k ≠ 23 → k ≠ 24 → x.2 k = g0 k) ∧ x.2 4 7 = g0 1 17 ∧ wc_ok E x.2 ∧ wa_wall E i w x.1) ?_ (fun a h => ma_some h))
  unfold cl7_toldOf
  obtain ⟨g1, e1, f1, f2, f3⟩ := ma_crefresh hN ho hC hc
  obtain ⟨A, a1, a2⟩ := ma_wc f3
  obtain ⟨i1, i2⟩ := wa_out_I ho a1
  have hK := i1.K
  rw [dl_bi_e e1]
  by_cases c : g1 4 6 = 0
  · obtain ⟨b1, b2⟩ := a2 c
    rw [if_pos c]
    by_cases w1 : w < 0
    · rw [if_pos w1]
      exact ma_some ⟨f1, f2, f3, _, A, a1, Or.inr ⟨fun q => ((ma_in01 w).mpr q.2).1 w1, rfl⟩⟩
    · rw [if_neg w1]
      by_cases w2 : w ≤ 1
      · rw [if_pos w2, ma_nme, ma_nme]
        refine ma_mono (P := fun x => x.2 = g1 ∧ wa_hit A i w x.1) ?_ (fun x hx => ⟨by rw [hx.1]; exact f1, by rw [hx.1]; exact f2, by rw [hx.1]; exact f3, _, A, a1, Or.inl ⟨c, (ma_in01 w).mp ⟨w1, w2⟩, hx.2⟩⟩)
        refine ma_loop (fun k m (x : Int32) => cl7_toldOf_b27 N k i w x (nI m) g1) (fun m x => x = nI (fb_ct (wl_pos A) m) ∧ ∀ k, k < m → wl_pos A k = true → i ≠ nI (fb_ct (wl_pos A) k)) _ (wl_K A) ?_ ?_ N 0 0 (by omega) (by omega) ⟨rfl, fun k h => absurd h (Nat.not_lt_zero k)⟩
        · rintro k x ⟨h1, h2⟩
          rw [cl7_toldOf_b27, b1, if_pos ((ma_le (by omega) (by omega)).mpr (by omega))]
          exact ma_some ⟨rfl, Or.inr ⟨h2, rfl⟩⟩
        · rintro k m x hm ⟨h1, h2⟩ ih
          have hH := i2 m hm
          rw [cl7_toldOf_b27, b1, if_neg (fun q => absurd ((ma_le (by omega) (by omega)).mp q) (by omega)), ma_gde (ma_in_t (by omega) (by omega)), nI_clamp (by omega), (b2 m hm).2, (b2 m hm).1]
          unfold cl7_toldOf_b76
          by_cases c1 : 0 < wl_H A m
          · have hp : wl_pos A m = true := decide_eq_true c1
            rw [if_neg (fun q => (ma_le0 (by omega)).mp q c1)]
            by_cases c2 : x = i
            · rw [if_pos c2]
              have hit : wa_hit A i w (if w = 0 then wl_P A m else nI (wl_H A m)) := Or.inl ⟨m, hm, hp, c2.symm.trans h1, rfl⟩
              by_cases w0 : w = 0
              · rw [if_pos w0, ma_gde (ma_in_t (by omega) (by omega))]
                rw [if_pos w0] at hit
                exact ma_some ⟨rfl, hit⟩
              · rw [if_neg w0, ma_gde (ma_in_t (by omega) (by omega))]
                rw [if_neg w0] at hit
                exact ma_some ⟨rfl, hit⟩
            · rw [if_neg c2, ma_nme, ma_nme, nI_1]
              refine ih _ ⟨?_, fun k hk hpk => ?_⟩
              · rw [fb_ct_succ, hp, if_pos rfl, h1, nI_1]
              · by_cases e : k = m
                · rw [e, ← h1]; exact fun q => c2 q.symm
                · exact h2 k (by omega) hpk
          · have hp : wl_pos A m = false := decide_eq_false c1
            rw [if_pos ((ma_le0 (by omega)).mpr c1), ma_nme, nI_1]
            refine ih _ ⟨?_, fun k hk hpk => ?_⟩
            · rw [fb_ct_succ, hp, if_neg (by decide), h1, Nat.add_zero]
            · by_cases e : k = m
              · rw [e, hp] at hpk; cases hpk
              · exact h2 k (by omega) hpk
      · rw [if_neg w2]
        exact ma_some ⟨f1, f2, f3, _, A, a1, Or.inr ⟨fun q => w2 ((ma_in01 w).mpr q.2).2, rfl⟩⟩
  · rw [if_neg c]
    exact ma_some ⟨f1, f2, f3, _, A, a1, Or.inr ⟨fun q => c q.1, rfl⟩⟩
/-! the reference -/
theorem ma_mw (hN : 70 ≤ N) (ho : en_ok E) {g0 : dl_Sg} (hM : en_M E g0) : ma_wp (mo_raiseAll N g0) (fun x => ma_fm x.2 g0 ∧ ∃ A, wa_out E x.1 A ∧ x.2 0 27 = nI (wl_K A) ∧ (∀ k, k < wl_K A → x.2 29 k = nI (wl_H A k)) ∧ (x.1 = 0 → ∀ k, k < wl_K A → x.2 28 k = wl_P A k)) := by
  refine ma_mono (ma_raiseAll hN ho hM) ?_
  rintro x ⟨h1, ⟨a, b, c, d⟩ | ⟨r, j, A, a, b, c⟩⟩
  · exact ⟨h1, wl_A0 E, Or.inl ⟨b, a, rfl⟩, c, d, fun q => absurd (a.symm.trans q) (by decide)⟩
  · exact ⟨h1, A, Or.inr ⟨r, j, a, b⟩, c.1, fun k hk => (c.2.2.1 k hk).2, fun _ k hk => (c.2.2.1 k hk).1⟩
theorem ma_mwalls (hN : 70 ≤ N) (ho : en_ok E) {g0 : dl_Sg} (hM : en_M E g0) : ma_wp (mo_walls N g0) (fun x => ma_fm x.2 g0 ∧ wa_walls E x.1) := by
  have hn := ho.n
  unfold mo_walls
  obtain ⟨⟨o, g1⟩, e1, f1, A, a1, b1, b2, b3⟩ := ma_mw hN ho hM
  have b1 : g1 0 27 = nI (wl_K A) := b1
  have b2 : ∀ k, k < wl_K A → g1 29 k = nI (wl_H A k) := b2
  obtain ⟨i1, i2⟩ := wa_out_I ho a1
  have hK := i1.K
  rw [dl_b2_e e1, ma_nme, ma_nme, ma_nme]
  refine ma_loop (fun k m (x : Int32) => mo_walls_b9 N k o x (nI m) g1) (fun m x => x = nI (fb_ct (wl_pos A) m)) _ (wl_K A) ?_ ?_ N 0 0 (by omega) (by omega) rfl
  · rintro k x h
    rw [mo_walls_b9, b1, if_pos ((ma_le (by omega) (by omega)).mpr (by omega))]
    by_cases c : o = 0
    · rw [if_pos c]
      exact ma_some ⟨f1, o, A, a1, by rw [if_pos c]; exact h⟩
    · rw [if_neg c]
      exact ma_some ⟨f1, o, A, a1, by rw [if_neg c]⟩
  · rintro k m x hm h ih
    have hH := i2 m hm
    rw [mo_walls_b9, b1, if_neg (fun q => absurd ((ma_le (by omega) (by omega)).mp q) (by omega)), ma_gde (ma_in_t (by omega) (by omega)), nI_clamp (by omega), b2 m hm]
    unfold mo_walls_b32
    by_cases c1 : 0 < wl_H A m
    · rw [if_neg (fun q => (ma_le0 (by omega)).mp q c1), ma_nme, ma_nme, nI_1]
      refine ih _ ?_
      rw [fb_ct_succ, if_pos (show wl_pos A m = true from decide_eq_true c1), h]
      exact nI_1 _
    · rw [if_pos ((ma_le0 (by omega)).mpr c1), ma_nme, ma_nme, nI_1]
      refine ih _ ?_
      rw [fb_ct_succ, if_neg (show ¬ wl_pos A m = true from fun q => c1 (of_decide_eq_true q)), h, Nat.add_zero]
      exact Int32.add_zero _
theorem ma_mbound (hN : 70 ≤ N) (ho : en_ok E) {g0 : dl_Sg} (hM : en_M E g0) : ma_wp (mo_bound N g0) (fun x => ma_fm x.2 g0 ∧ wa_bound E x.1) := by
  have hn := ho.n
  unfold mo_bound
  obtain ⟨⟨o, g1⟩, e1, f1, A, a1, b1, b2, b3⟩ := ma_mw hN ho hM
  have b1 : g1 0 27 = nI (wl_K A) := b1
  have b2 : ∀ k, k < wl_K A → g1 29 k = nI (wl_H A k) := b2
  obtain ⟨i1, i2⟩ := wa_out_I ho a1
  have hK := i1.K
  rw [dl_b2_e e1]
  by_cases c : o = 0
  · rw [if_pos c, ma_nme, ma_nme]
    refine ma_loop (fun k m (x : Int32) => mo_bound_b14 N k x (nI m) g1) (fun m x => x = nI (fb_sm (wl_H A) m)) _ (wl_K A) ?_ ?_ N 0 0 (by omega) (by omega) rfl
    · rintro k x h
      rw [mo_bound_b14, b1, if_pos ((ma_le (by omega) (by omega)).mpr (by omega))]
      exact ma_some ⟨f1, o, A, a1, by rw [if_pos c]; exact h⟩
    · rintro k m x hm h ih
      rw [mo_bound_b14, b1, if_neg (fun q => absurd ((ma_le (by omega) (by omega)).mp q) (by omega)), ma_gde (ma_in_t (by omega) (by omega)), nI_clamp (by omega), b2 m hm, ma_nme, ma_nme, nI_1]
      refine ih _ ?_
      rw [h, nI_add, fb_sm_succ]
  · rw [if_neg c]
    exact ma_some ⟨f1, o, A, a1, by rw [if_neg c]⟩
theorem ma_mwall (hN : 70 ≤ N) (ho : en_ok E) {g0 : dl_Sg} (hM : en_M E g0) (i w : Int32) : ma_wp (mo_wall N g0 i w) (fun x => ma_fm x.2 g0 ∧ wa_wall E i w x.1) := by
  have hn := ho.n
  unfold mo_wall
  obtain ⟨⟨o, g1⟩, e1, f1, A, a1, b1, b2, b3⟩ := ma_mw hN ho hM
  have b1 : g1 0 27 = nI (wl_K A) := b1
  have b2 : ∀ k, k < wl_K A → g1 29 k = nI (wl_H A k) := b2
  have b3 : o = 0 → ∀ k, k < wl_K A → g1 28 k = wl_P A k := b3
  obtain ⟨i1, i2⟩ := wa_out_I ho a1
  have hK := i1.K
  rw [dl_b2_e e1]
  by_cases c : o = 0
  · rw [if_pos c, dl_bi_e (mo_in_e _ _ _)]
    have ew : ma_in w 0 1 = true ↔ w = 0 ∨ w = 1 := by
      rw [← ma_in01]
      unfold ma_in
      rw [Bool.and_eq_true, decide_eq_true_iff, decide_eq_true_iff]
      exact ⟨fun q => ⟨Int32.not_lt.mpr q.1, q.2⟩, fun q => ⟨Int32.not_lt.mp q.1, q.2⟩⟩
    by_cases cw : ma_in w 0 1 = true
    · rw [if_pos cw, if_neg (by decide), ma_nme, ma_nme]
      refine ma_mono (P := fun x => x.2 = g1 ∧ wa_hit A i w x.1) ?_ (fun x hx => ⟨by rw [hx.1]; exact f1, o, A, a1, Or.inl ⟨c, ew.mp cw, hx.2⟩⟩)
      by_cases ci : i < 0
      · obtain ⟨N2, rfl⟩ : ∃ N2, N = N2 + 1 := ⟨N - 1, by omega⟩
        have no : wa_hit A i w (-1) := Or.inr ⟨fun k hk _ q => by
          have := fb_ct_le (wl_pos A) k
          rw [q] at ci
          exact nI_pos (by omega) ci, rfl⟩
        rw [mo_wall_b23]
        by_cases c2 : g1 0 27 ≤ 0
        · rw [if_pos c2]; exact ma_some ⟨rfl, no⟩
        · rw [if_neg c2, if_pos ci]; exact ma_some ⟨rfl, no⟩
      · obtain ⟨i', i'1, rfl⟩ := nI_of ci
        refine ma_loop (fun k m (x : Int32) => mo_wall_b23 N k w x (nI m) g1) (fun m x => fb_ct (wl_pos A) m ≤ i' ∧ x = nI (i' - fb_ct (wl_pos A) m) ∧ ∀ k, k < m → wl_pos A k = true → nI i' ≠ nI (fb_ct (wl_pos A) k)) _ (wl_K A) ?_ ?_ N 0 (nI i') (by omega) (by omega) ⟨Nat.zero_le _, rfl, fun k h => absurd h (Nat.not_lt_zero k)⟩
        · rintro k x ⟨h0, h1, h2⟩
          rw [mo_wall_b23, b1, if_pos ((ma_le (by omega) (by omega)).mpr (by omega))]
          exact ma_some ⟨rfl, Or.inr ⟨h2, rfl⟩⟩
        · rintro k m x hm ⟨h0, h1, h2⟩ ih
          have hH := i2 m hm
          have hct := fb_ct_le (wl_pos A) m
          rw [mo_wall_b23, b1, if_neg (fun q => absurd ((ma_le (by omega) (by omega)).mp q) (by omega)), h1, if_neg (nI_pos (by omega)), ma_gde (ma_in_t (by omega) (by omega)), nI_clamp (by omega), b2 m hm, b3 c m hm]
          unfold mo_wall_b75
          by_cases c1 : 0 < wl_H A m
          · have hp : wl_pos A m = true := decide_eq_true c1
            rw [if_neg (fun q => (ma_le0 (by omega)).mp q c1)]
            have ez : nI (i' - fb_ct (wl_pos A) m) = 0 ↔ i' = fb_ct (wl_pos A) m := by
              rw [show (0 : Int32) = nI 0 from rfl, nI_eq (by omega) (by omega)]
              omega
            by_cases c2 : i' = fb_ct (wl_pos A) m
            · rw [if_pos (ez.mpr c2)]
              have hit : wa_hit A (nI i') w (if w = 0 then wl_P A m else nI (wl_H A m)) := Or.inl ⟨m, hm, hp, by rw [c2], rfl⟩
              by_cases w0 : w = 0
              · rw [if_pos w0, ma_gde (ma_in_t (by omega) (by omega))]
                rw [if_pos w0] at hit
                exact ma_some ⟨rfl, hit⟩
              · rw [if_neg w0, ma_gde (ma_in_t (by omega) (by omega))]
                rw [if_neg w0] at hit
                exact ma_some ⟨rfl, hit⟩
            · rw [if_neg (fun q => c2 (ez.mp q)), ma_nme, ma_nme, nI_1]
              have e : fb_ct (wl_pos A) (m + 1) = fb_ct (wl_pos A) m + 1 := by rw [fb_ct_succ, hp, if_pos rfl]
              refine ih _ ⟨by omega, ?_, fun k hk hpk => ?_⟩
              · rw [e, show i' - fb_ct (wl_pos A) m = (i' - (fb_ct (wl_pos A) m + 1)) + 1 by omega]
                exact pk_m1 _
              · by_cases e2 : k = m
                · rw [e2]; exact fun q => c2 ((nI_eq (by omega) (by omega)).mp q)
                · exact h2 k (by omega) hpk
          · have hp : wl_pos A m = false := decide_eq_false c1
            have e : fb_ct (wl_pos A) (m + 1) = fb_ct (wl_pos A) m := by rw [fb_ct_succ, hp, if_neg (by decide), Nat.add_zero]
            rw [if_pos ((ma_le0 (by omega)).mpr c1), ma_nme, nI_1]
            refine ih _ ⟨by omega, by rw [e], fun k hk hpk => ?_⟩
            by_cases e2 : k = m
            · rw [e2, hp] at hpk; cases hpk
            · exact h2 k (by omega) hpk
    · rw [if_neg cw, if_pos rfl]
      exact ma_some ⟨f1, o, A, a1, Or.inr ⟨fun q => cw (ew.mpr q.2), rfl⟩⟩
  · rw [if_neg c]
    exact ma_some ⟨f1, o, A, a1, Or.inr ⟨fun q => c q.1, rfl⟩⟩
end
