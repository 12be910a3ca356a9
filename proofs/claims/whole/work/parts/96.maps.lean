/-! The mathematics: the maps -/
theorem ma_L20 {p : Nat} (h : p < 2 ^ 31) : (20 : Int32) ≤ nI p ↔ 20 ≤ p := ma_le (a := 20) (by omega) h
theorem ma_U20 {p : Nat} (h : p < 2 ^ 31) : nI p ≤ (20 : Int32) ↔ p ≤ 20 := ma_le (b := 20) h (by omega)
theorem ma_U2 {p : Nat} (h : p < 2 ^ 31) : nI p ≤ (2 : Int32) ↔ p ≤ 2 := ma_le (b := 2) h (by omega)
section
variable {al : Nat} {E : ma_E} {c N : Nat} {gc gm gc' gm' : dl_Sg}
theorem iv.p (h : iv al E c gc gm) (hc : ∀ k, (k < 25 ∨ k = 27 ∨ 33 ≤ k) → gc' k = gc k) (hm : ∀ k, k ≠ 11 → k ≠ 12 → k ≠ 13 → gm' k = gm k) (hp : iv_mp gc' gm') : iv al E c gc' gm' := by
  obtain ⟨h1, h2, h3, h4, h5, h6, h7, h8, h9, h10, h11, h12, h13⟩ := h
  have z : gm' 0 = gm 0 := hm 0 (by decide) (by decide) (by decide)
  refine ⟨h1, h2.same (by rw [z]) (by rw [z]) (by rw [z]) (hm 1 (by decide) (by decide) (by decide)) (hm 2 (by decide) (by decide) (by decide)) (hm 4 (by decide) (by decide) (by decide)) (hm 5 (by decide) (by decide) (by decide)) (hm 6 (by decide) (by decide) (by decide)), h3.same (fun i _ _ => by rw [hc 1 (by omega)]) (fun k a b => hc k (by omega)) (fun k a b => hc k (by omega)), ?_, ?_, hp, ?_, ?_, ?_, ?_, ?_, ?_, ?_⟩
  · unfold iv_hd
    rw [hc 1 (by omega), z]; exact h4
  · unfold iv_lg
    rw [hc 1 (by omega), hc 17 (by omega), z, hm 10 (by decide) (by decide) (by decide)]; exact h5
  · rw [hc 0 (by omega), z]; exact h7
  · unfold iv_tr
    rw [hc 6 (by omega), hc 27 (by omega), z, hm 15 (by decide) (by decide) (by decide)]; exact h8
  · unfold iv_vr
    rw [hc 1 (by omega), hc 3 (by omega), hc 4 (by omega)]; exact h9
  · intro q
    rw [hc 1 (by omega), hc 3 (by omega)] at q
    exact (h10 q).fr (hc 3 (by omega)) (hc 9 (by omega)) (hc 21 (by omega)) (hc 33 (by omega))
  · exact h11.fr (hc 9 (by omega))
  · intro q
    rw [hc 1 (by omega), hc 4 (by omega)] at q
    exact (h12 q).fr (hc 4 (by omega)) (hc 22 (by omega)) (hc 23 (by omega)) (hc 24 (by omega))
  · intro q
    rw [z] at q
    exact (h13 q).fr (by rw [z]) (by rw [z]) (by rw [z]) (hm 21 (by decide) (by decide) (by decide)) (hm 22 (by decide) (by decide) (by decide)) (hm 23 (by decide) (by decide) (by decide))
theorem iv.mp (h : iv al E c gc gm) : iv_mp gc gm := h.2.2.2.2.2.1
theorem ma_isMap (x : Int32) : cl11_isMap x = some (if ma_dec (px 5 x) = true then 1 else 0) := by
  unfold cl11_isMap
  exact px_has (n := 5) (by omega) x
theorem ma_inMap (x : Int32) : mo_in x 0 4 = some (if ma_dec (px 5 x) = true then 1 else 0) := by
  rw [mo_in_e, ← px_in (n := 5) (by omega)]
  rfl
theorem ma_in20 (x : Int32) : mo_in x 0 20 = some (if ma_dec (px 21 x) = true then 1 else 0) := by
  rw [mo_in_e, ← px_in (n := 21) (by omega)]
  rfl
theorem ma_kinds {x : Int32} (h1 : ¬ x < -1) (h2 : x ≤ 2) : x = -1 ∨ x = 0 ∨ x = 1 ∨ x = 2 := by
  by_cases h : x < 0
  · have a := (fa_lt _ _).mp h
    have b := (not_congr (fa_lt _ _)).mp h1
    have e1 : (-1 : Int32).toInt = -1 := rfl
    have e0 : (0 : Int32).toInt = 0 := rfl
    have : x.toInt = -1 := by omega
    exact Or.inl (Int32.toInt_inj.mp this)
  · obtain ⟨j, j1, rfl⟩ := nI_of h
    have := (ma_U2 j1).mp h2
    have : j = 0 ∨ j = 1 ∨ j = 2 := by omega
    rcases this with q | q | q <;> subst q
    · exact Or.inr (Or.inl rfl)
    · exact Or.inr (Or.inr (Or.inl rfl))
    · exact Or.inr (Or.inr (Or.inr rfl))
theorem ma_20 (k i : Nat) : (20 : Int32) * nI k + nI i = nI (20 * k + i) := by
  rw [show (20 : Int32) = nI 20 from rfl, pk_mul, nI_add]
/-- the reference empties a map -/
theorem ma_mempty {k : Nat} (hk : k < 5) (g0 : dl_Sg) : ∀ f i (g : dl_Sg), i ≤ 20 → 20 - i < f → (∀ r, r ≠ 13 → g r = g0 r) → (∀ j, g 13 j = if 20 * k ≤ j ∧ j < 20 * k + i then 0 else g0 13 j) → ma_wp (mo_map_b65 N f (nI k) (nI i) g) (fun x => x.1 = 1 ∧ ∃ g', x.2 = dl_s2 g' 0 14 0 ∧ (∀ r, r ≠ 13 → g' r = g0 r) ∧ ∀ j, g' 13 j = if 20 * k ≤ j ∧ j < 20 * k + 20 then 0 else g0 13 j) := by
  refine ma_loop (fun f i (g : dl_Sg) => mo_map_b65 N f (nI k) (nI i) g) (fun i g => (∀ r, r ≠ 13 → g r = g0 r) ∧ (∀ j, g 13 j = if 20 * k ≤ j ∧ j < 20 * k + i then 0 else g0 13 j)) _ 20 ?_ ?_ |> fun q f i g a b d e => q f i g a b ⟨d, e⟩
  · intro f g h
    rw [mo_map_b65, if_pos ((ma_L20 (by omega)).mpr (by omega))]
    exact ma_some ⟨rfl, g, rfl, h⟩
  · intro f i g hi h ih
    rw [mo_map_b65, if_neg (fun q => absurd ((ma_L20 (by omega)).mp q) (by omega)), ma_20, ma_gde (ma_in_t (by omega) (by omega)), ma_wr _ (by omega), ma_nme, ma_nme, nI_1]
    refine ih _ ⟨fun r q => ?_, fun j => ?_⟩
    · rw [ma_s2r _ _ _ _ q]; exact h.1 r q
    · by_cases e : j = 20 * k + i
      · subst e
        rw [ma_s2s, if_pos (by omega)]
      · rw [ma_s2n _ _ (fun w => e w.2), h.2 j]
        by_cases w : 20 * k ≤ j ∧ j < 20 * k + i
        · rw [if_pos w, if_pos (by omega)]
        · rw [if_neg w, if_neg (by omega)]
theorem dl_fi_s (g : dl_Sg) (r n : Nat) (v : Int32) {i : Nat} (h : i < n) : dl_fi g r n v r i = v := by
  unfold dl_fi dl_fill
  rw [if_pos rfl, if_pos h]
theorem dl_fi_n (g : dl_Sg) {r : Nat} (n : Nat) (v : Int32) {k : Nat} (h : k ≠ r) : dl_fi g r n v k = g k := by
  unfold dl_fi
  rw [if_neg h]
/-- a map is made -/
theorem ma_made (hN : 131073 ≤ N) (h : iv al E c gc gm) {k z : Nat} (hk : k < 5) (hz : z ≤ 20) {K : Int32} (hK : K = -1 ∨ K = 0 ∨ K = 1 ∨ K = 2) : ma_two al E c (cl11_map_b60 (nI k) (nI k) K (nI z) gc) (mo_map_b61 N (nI k) (nI k) (nI z) (dl_wr gm 11 (nI k) K)) := by
  refine ma_two.by (P := fun x => x.1 = 1 ∧ x.2 = dl_s2 (dl_fi (dl_s2 (dl_s2 gc 25 k K) 26 k (nI z)) (28 + k) 20 0) 0 5 0) (Q := fun x => x.1 = 1 ∧ ∃ g', x.2 = dl_s2 g' 0 14 0 ∧ (∀ r, r ≠ 13 → g' r = dl_s2 (dl_s2 gm 11 k K) 12 k (nI z) r) ∧ ∀ j, g' 13 j = if 20 * k ≤ j ∧ j < 20 * k + 20 then 0 else gm 13 j) ?_ ?_ ?_
  · unfold cl11_map_b60 cl1_make
    rw [ma_gde (ma_in_t (by omega) (by omega)), ma_nme, ma_gde (ma_in_t (by omega) (by omega)), ma_nme, ma_gde (ma_in_t (by omega) (by omega)), ma_gde (ma_in_t (by omega) (by omega)), ma_nme, ma_wr _ (by omega), ma_wr _ (by omega), nI_clamp (by omega)]
    exact ma_some ⟨rfl, rfl⟩
  · unfold mo_map_b61
    rw [ma_gde (ma_in_t (by omega) (by omega)), ma_nme, ma_nme, ma_wr _ (by omega), ma_wr _ (by omega)]
    refine ma_mono (ma_mempty hk (dl_s2 (dl_s2 gm 11 k K) 12 k (nI z)) N 0 _ (by omega) (by omega) (fun r _ => rfl) (fun j => by rw [if_neg (by omega)])) fun x q => ?_
    obtain ⟨q1, g', q2, q3, q4⟩ := q
    refine ⟨q1, g', q2, q3, fun j => ?_⟩
    rw [q4 j, ma_s2r _ _ _ _ (by decide), ma_s2r _ _ _ _ (by decide)]
  · rintro a b ⟨p1, p2⟩ ⟨q1, g', q2, q3, q4⟩
    refine ⟨p1.trans q1.symm, E, kw.rf E, ?_⟩
    rw [p2, q2]
    refine iv.s ?_ 0
    refine h.p (fun r w => ?_) (fun r a1 a2 a3 => ?_) ?_
    · rw [dl_fi_n _ _ _ (by omega), ma_s2r _ _ _ _ (by omega), ma_s2r _ _ _ _ (by omega)]
    · rw [q3 r a3, ma_s2r _ _ _ _ a2, ma_s2r _ _ _ _ a1]
    · intro r hr
      obtain ⟨m1, m2, m3, m4, m5⟩ := h.mp r hr
      rw [q3 11 (by decide), q3 12 (by decide), dl_fi_n _ _ _ (show 25 ≠ 28 + k by omega), dl_fi_n _ _ _ (show 26 ≠ 28 + k by omega)]
      rw [ma_s2n (a := 26) (b := 25) _ _ (by omega), ma_s2n (a := 12) (b := 11) _ _ (by omega)]
      by_cases e : r = k
      · subst e
        rw [ma_s2s, ma_s2s, ma_s2s, ma_s2s]
        refine ⟨rfl, hK, rfl, ⟨z, hz, rfl⟩, fun i hi => ?_⟩
        rw [dl_fi_s _ _ _ _ hi, q4, if_pos (by omega)]
      · rw [ma_s2n (a := 25) (b := 25) _ _ (by omega), ma_s2n (a := 11) (b := 11) _ _ (by omega), ma_s2n (a := 26) (b := 26) _ _ (by omega), ma_s2n (a := 12) (b := 12) _ _ (by omega), ma_s2n (a := 25) (b := 26) _ _ (by omega), ma_s2n (a := 11) (b := 12) _ _ (by omega)]
        refine ⟨m1, m2, m3, m4, fun i hi => ?_⟩
        rw [dl_fi_n _ _ _ (show 28 + r ≠ 28 + k by omega), ma_s2n (b := 28 + r) _ _ (by omega), ma_s2n (b := 28 + r) _ _ (by omega), q4, if_neg (by omega)]
        exact m5 i hi
theorem do_map (hN : 131073 ≤ N) (h : iv al E c gc gm) (x y z : Int32) : ma_two al E c (cl11_map gc x y z) (mo_map N gm x y z) := by
  have no : ma_two al E c (cl11_map_b17 x gc) (mo_map_b33 N gm) := ⟨_, _, _, rfl, rfl, E, kw.rf E, h.s 1⟩
  have no2 : ma_two al E c (cl11_map_b38 x gc) (mo_map_b33 N gm) := ⟨_, _, _, rfl, rfl, E, kw.rf E, h.s 1⟩
  unfold cl11_map mo_map
  rw [dl_bi_e (ma_isMap x), dl_bi_e (ma_inMap x)]
  by_cases hx : px 5 x
  · rw [ma_dec_t.mpr hx, if_neg ma_q1, if_neg ma_q1, dl_bi_e (mo_in_e _ _ _)]
    unfold ma_in
    by_cases y1 : y < -1
    · rw [if_pos y1, decide_eq_false (Int32.not_le.mpr y1), Bool.false_and, if_pos ma_q0]
      exact no
    · rw [if_neg y1, decide_eq_true (Int32.not_lt.mp y1), Bool.true_and]
      by_cases y2 : y ≤ 2
      · rw [if_pos y2, decide_eq_true y2, if_neg ma_q1]
        have hK := ma_kinds y1 y2
        obtain ⟨k, k1, rfl⟩ := hx
        by_cases y3 : y = -1
        · rw [if_pos y3, if_pos y3]
          unfold cl11_map_b44 mo_map_b39
          rw [if_pos y3, ma_gde (ma_in_t k1 (by omega)), ma_nme, if_pos y3]
          exact ma_made (z := 0) hN h k1 (by omega) hK
        · rw [if_neg y3, if_neg y3, dl_bi_e (ma_in20 z)]
          have yes : ∀ z', z' ≤ 20 → ma_two al E c (cl11_map_b44 (nI k) y (nI z') gc) (mo_map_b39 N (nI k) y (nI z') gm) := fun z' hz => by
            unfold cl11_map_b44 mo_map_b39
            rw [if_neg y3, ma_gde (ma_in_t k1 (by omega)), ma_nme, if_neg y3]
            exact ma_made hN h k1 hz hK
          rcases pk_ix z (show 21 < 2 ^ 31 by omega) with q | q | ⟨j, j1, j2⟩
          · rw [if_pos q, ma_dec_f.mpr (fun ⟨j, j1, j2⟩ => by rw [j2] at q; exact nI_pos (by omega) q), if_pos ma_q0]
            exact no2
          · have hno : ¬ px 21 z := fun ⟨j, j1, j2⟩ => by
              rw [j2] at q
              have := (ma_le (by omega) (by omega)).mp q
              omega
            have hz0 : ¬ z < 0 := fun w => by
              have a := (fa_lt _ _).mp w
              have b := (fa_le _ _).mp q
              rw [nI_toInt (by omega)] at b
              have e0 : (0 : Int32).toInt = 0 := rfl
              omega
            have hz20 : ¬ z ≤ 20 := fun w => by
              obtain ⟨j, j1, rfl⟩ := nI_of hz0
              have := (ma_le (by omega) (by omega)).mp q
              have := (ma_U20 j1).mp w
              omega
            rw [if_neg hz0, if_neg hz20, ma_dec_f.mpr hno, if_pos ma_q0]
            exact no2
          · rw [show ma_dec (px 21 z) = true from ma_dec_t.mpr ⟨j, j1, j2⟩, if_neg ma_q1, j2, if_neg (nI_pos (by omega)), if_pos ((ma_U20 (by omega)).mpr (by omega))]
            exact yes j (by omega)
      · rw [if_neg y2, decide_eq_false y2, if_pos ma_q0]
        exact no
  · rw [ma_dec_f.mpr hx, if_pos ma_q0, if_pos ma_q0]
    exact no
/-- what the class asks before it reads a map -/
theorem ma_refusal (h : iv al E c gc gm) {k z d : Nat} (hk : k < 5) (hz : z ≤ 20) (hd : 1 ≤ d) (hd2 : d ≤ 20) (e : gc 26 k = nI z) (y x : Int32) : ∃ r, cl1_refusal gc (nI k) y x (nI d) = some r ∧ ((gc 25 k = -1 ∧ r = 10) ∨ (gc 25 k ≠ -1 ∧ gc 25 k = y ∧ ((px (z + 1 - d) x ∧ r = 0) ∨ (¬ px (z + 1 - d) x ∧ r = 12))) ∨ (gc 25 k ≠ -1 ∧ gc 25 k ≠ y ∧ r = 11)) := by
  unfold cl1_refusal
  rw [ma_gde (ma_in_t (by omega) (by omega)), nI_clamp (by omega)]
  by_cases q1 : gc 25 k = -1
  · rw [if_pos q1]
    exact ⟨_, rfl, Or.inl ⟨q1, rfl⟩⟩
  · rw [if_neg q1, ma_gde (ma_in_t (by omega) (by omega))]
    by_cases q2 : gc 25 k = y
    · rw [if_pos q2, if_neg (nI_pos (by omega)), ma_gde (ma_in_t (by omega) (by omega)), e]
      by_cases q3 : x < 0
      · rw [if_pos q3]
        exact ⟨_, rfl, Or.inr (Or.inl ⟨q1, q2, Or.inr ⟨fun ⟨j, j1, j2⟩ => by rw [j2] at q3; exact nI_pos (by omega) q3, rfl⟩⟩)⟩
      · obtain ⟨j, j1, rfl⟩ := nI_of q3
        rw [if_neg q3]
        by_cases q4 : d ≤ z
        · rw [pk_sub q4]
          by_cases q5 : j ≤ z - d
          · rw [if_pos ((ma_le j1 (by omega)).mpr q5)]
            exact ⟨_, rfl, Or.inr (Or.inl ⟨q1, q2, Or.inl ⟨⟨j, by omega, rfl⟩, rfl⟩⟩)⟩
          · rw [if_neg (fun w => q5 ((ma_le j1 (by omega)).mp w))]
            exact ⟨_, rfl, Or.inr (Or.inl ⟨q1, q2, Or.inr ⟨fun ⟨i, i1, i2⟩ => q5 (by have := (ma_eqn j1 (by omega)).mp i2; omega), rfl⟩⟩)⟩
        · have hneg := pk_sneg (a := z) (b := d) (by omega) (by omega)
          rw [if_neg (fun w => by
            have a := (fa_lt _ _).mp hneg
            have b := (fa_le _ _).mp w
            rw [nI_toInt j1] at b
            have e0 : (0 : Int32).toInt = 0 := rfl
            omega)]
          exact ⟨_, rfl, Or.inr (Or.inl ⟨q1, q2, Or.inr ⟨fun ⟨i, i1, i2⟩ => by omega, rfl⟩⟩)⟩
    · rw [if_neg q2]
      exact ⟨_, rfl, Or.inr (Or.inr ⟨q1, q2, rfl⟩)⟩
/-- a cell of a map is written -/
theorem ma_cellw (h : iv al E c gc gm) {k i : Nat} (hk : k < 5) (hi : i < 20) (v : Int32) : ma_two al E c (cl11_cell_b74 (nI k) (nI i) v gc) (mo_cell_b80 (20 * nI k + nI i) v gm) := by
  unfold cl11_cell_b74 mo_cell_b80
  rw [ma_20, ma_gde (ma_in_t (by omega) (by omega)), ma_gde (ma_in_t (by omega) (by omega)), ma_gde (ma_in_t (by omega) (by omega)), ma_nme, ma_nme, ma_wr _ (by omega), ma_wr _ (by omega), nI_clamp (by omega)]
  refine ⟨_, _, _, rfl, rfl, E, kw.rf E, iv.s (iv.p (gc' := dl_s2 gc (28 + k) i v) (gm' := dl_s2 gm 13 (20 * k + i) v) h (fun r w => ma_s2r _ _ _ _ (by omega)) (fun r _ _ w => ma_s2r _ _ _ _ w) ?_) 0⟩
  intro r hr
  obtain ⟨m1, m2, m3, m4, m5⟩ := h.mp r hr
  rw [ma_s2n (b := 25) _ _ (by omega), ma_s2n (b := 26) _ _ (by omega), ma_s2n (b := 11) _ _ (by omega), ma_s2n (b := 12) _ _ (by omega)]
  refine ⟨m1, m2, m3, m4, fun j hj => ?_⟩
  rw [ma_s2, ma_s2, m5 j hj]
  by_cases e : r = k ∧ j = i
  · rw [if_pos (by omega), if_pos (by omega)]
  · rw [if_neg (by omega), if_neg (by omega)]
theorem do_cell (h : iv al E c gc gm) (x y v : Int32) : ma_two al E c (cl11_cell gc x y v) (mo_cell gm x y v) := by
  unfold cl11_cell mo_cell
  rw [dl_bi_e (ma_isMap x), dl_bi_e (ma_inMap x)]
  by_cases hx : px 5 x
  · rw [ma_dec_t.mpr hx, if_neg ma_q1, if_neg ma_q1]
    obtain ⟨k, k1, rfl⟩ := hx
    obtain ⟨m1, m2, m3, ⟨z, z1, m4⟩, m5⟩ := h.mp k k1
    obtain ⟨r, r1, r2⟩ := ma_refusal (d := 1) h k1 z1 (by omega) (by omega) (m3.trans m4) (gc 25 k) y
    have r1 : cl1_refusal gc (nI k) (gc 25 k) y 1 = some r := r1
    rw [ma_gde (ma_in_t k1 (by omega)), nI_clamp (by omega), dl_bi_e r1, ma_nme, ma_gde (ma_in_t k1 (by omega)), m4]
    rw [m1] at r2 ⊢
    rcases r2 with ⟨q1, q2⟩ | ⟨q1, _, q2⟩ | ⟨_, q2, _⟩
    · subst q2
      rw [if_neg (by decide), if_pos q1, ma_gde (ma_in_t k1 (by omega))]
      exact ⟨_, _, _, rfl, rfl, E, kw.rf E, h.s 10⟩
    · rw [if_neg q1, ma_gde (ma_in_t k1 (by omega)), dl_bi_e (mo_in_e _ _ _), px_in (by omega)]
      rcases q2 with ⟨⟨j, j1, j2⟩, q3⟩ | ⟨q2, q3⟩
      · subst q3
        rw [if_pos rfl, show ma_dec (px z y) = true from ma_dec_t.mpr ⟨j, by omega, j2⟩, if_neg ma_q1, ma_gde (ma_in_t k1 (by omega)), ma_gde (ma_in_t k1 (by omega)), ma_gde (ma_in_t k1 (by omega)), j2]
        by_cases q4 : gm 11 k = 0
        · rw [if_pos q4, if_pos q4]
          exact ma_cellw h k1 (by omega) _
        · rw [if_neg q4, if_neg q4]
          exact ma_cellw h k1 (by omega) _
      · subst q3
        rw [if_neg (by decide), ma_dec_f.mpr (fun w => q2 (by rw [Nat.add_sub_cancel]; exact w)), if_pos ma_q0, ma_gde (ma_in_t k1 (by omega)), ma_gde (ma_in_t k1 (by omega))]
        exact ⟨_, _, _, rfl, rfl, E, kw.rf E, h.s 12⟩
    · exact absurd rfl q2
  · rw [ma_dec_f.mpr hx, if_pos ma_q0, if_pos ma_q0]
    exact ⟨_, _, _, rfl, rfl, E, kw.rf E, h.s 1⟩
end
