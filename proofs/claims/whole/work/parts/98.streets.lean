/-! The mathematics: streets made, dropped, taken back -/
def bi1 (s : Nat) : Int32 := (1 : Int32) <<< (nI s &&& 31)
/-- other streets stand -/
def en_T (E : ma_E) (t : Int32) : ma_E := (E.1, E.2.1, E.2.2.1, t)
/-- one street more -/
def en_S (E : ma_E) (A B C : Nat) : ma_E := ((en_n E, en_m E + 1), (en_k E, en_w E), (fun s => if s = en_m E then A else en_a E s, fun s => if s = en_m E then B else en_b E s, fun s => if s = en_m E then C else en_c E s), en_t E ||| bi1 (en_m E))
/-- one street less -/
def en_R (E : ma_E) : ma_E := ((en_n E, en_m E - 1), (en_k E, en_w E), (en_a E, en_b E, en_c E), en_t E &&& (bi1 (en_m E - 1) ^^^ (-1 : Int32)))
section
variable {al : Nat} {E : ma_E} {c N : Nat} {gc gm g g' : dl_Sg} {t : Int32}
theorem en_ok.T (h : en_ok E) (ht : ∀ i, bt t i = true → i < en_m E) : en_ok (en_T E t) := ⟨h.1, h.2.1, h.2.2.1, h.2.2.2.1, ht, h.2.2.2.2.2⟩
theorem en_M.T (h : en_M E g) (h0 : g' 0 0 = g 0 0) (h3 : g' 0 3 = g 0 3) (h7 : g' 0 7 = t) (hr : ∀ k, 1 ≤ k → k ≤ 6 → g' k = g k) : en_M (en_T E t) g' :=
  ⟨h0.trans h.1, h3.trans h.2.1, fun p hp => by rw [hr 1 (by omega) (by omega), hr 2 (by omega) (by omega)]; exact h.2.2.1 p hp, fun s hs => by rw [hr 4 (by omega) (by omega), hr 5 (by omega) (by omega), hr 6 (by omega) (by omega)]; exact h.2.2.2.1 s hs, h7⟩
theorem en_C.T (h : en_C E g) (r : ∀ i, 10 ≤ i → i ≤ 13 → g' 1 i = g 1 i) (h2 : ∀ k, k ≠ 1 → k ≠ 12 → g' k = g k) (h14 : g' 1 14 = t) (h12 : ∀ p, p < 10 → ∀ i, bt (g' 12 p) i = (bt t i && (decide (en_a E i = p) || decide (en_b E i = p)))) : en_C (en_T E t) g' :=
  ⟨(r 10 (by omega) (by omega)).trans h.1, (r 11 (by omega) (by omega)).trans h.2.1, fun p hp => by
    rw [h2 7 (by omega) (by omega), h2 8 (by omega) (by omega), h2 10 (by omega) (by omega), h2 11 (by omega) (by omega)]; exact h.2.2.1 p hp, fun s hs => by
    rw [h2 13 (by omega) (by omega), h2 14 (by omega) (by omega), h2 15 (by omega) (by omega), h2 16 (by omega) (by omega)]; exact h.2.2.2.1 s hs, h14, h12, (r 12 (by omega) (by omega)).trans h.2.2.2.2.2.2.1, by
    rw [r 13 (by omega) (by omega)]; exact h.2.2.2.2.2.2.2⟩
theorem ma_open0 {s A B : Nat} (hs : s < 16) (hA : A < 10) (hB : B < 10) (e13 : g 13 s = nI A) (e14 : g 14 s = nI B) : ∃ g', cl2_open g (nI s) = some g' ∧ g' 1 14 = g 1 14 ||| bi1 s ∧ (∀ p, p < 10 → ∀ i, bt (g' 12 p) i = (bt (g 12 p) i || (decide (i = s) && (decide (A = p) || decide (B = p))))) ∧ (∀ k, k ≠ 1 → k ≠ 12 → g' k = g k) ∧ ∀ i, i ≠ 14 → g' 1 i = g 1 i := by
  unfold cl2_open
  rw [nI_clamp (show s < 2 ^ 31 by omega), ma_nme, ma_gde (ma_in_t hs (by omega)), ma_s2r _ 1 14 _ (show 13 ≠ 1 by decide), e13, ma_gde (ma_in_t hA (by omega)), ma_gde (ma_in_t hA (by omega)), nI_clamp (show A < 2 ^ 31 by omega), ma_wr _ (by omega), ma_nme, ma_gde (ma_in_t hs (by omega)), ma_s2r _ 12 A _ (show 14 ≠ 12 by decide), ma_s2r _ 1 14 _ (show 14 ≠ 1 by decide), e14, ma_gde (ma_in_t hB (by omega)), ma_gde (ma_in_t hB (by omega)), nI_clamp (show B < 2 ^ 31 by omega), ma_wr _ (by omega), ma_nme]
  refine ⟨_, rfl, ?_, fun p hp i => ?_, fun k a b => ?_, fun i q => ?_⟩
  · rw [ma_s2n _ _ (by omega), ma_s2n _ _ (by omega), ma_s2s]
    rfl
  · have e : ∀ q, dl_s2 (dl_s2 g 1 14 (g 1 14 ||| ((1 : Int32) <<< (nI s &&& 31)))) 12 A (dl_s2 g 1 14 (g 1 14 ||| ((1 : Int32) <<< (nI s &&& 31))) 12 A ||| ((1 : Int32) <<< (nI s &&& 31))) 12 q = if q = A then g 12 q ||| ((1 : Int32) <<< (nI s &&& 31)) else g 12 q := fun q => by
      rw [ma_s2r _ 1 14 _ (show 12 ≠ 1 by decide), ma_s2]
      by_cases z : q = A
      · rw [if_pos ⟨rfl, z⟩, if_pos z, z]
      · rw [if_neg (fun w => z w.2), if_neg z, ma_s2r _ 1 14 _ (show 12 ≠ 1 by decide)]
    rw [ma_s2, e, e]
    by_cases z : p = B
    · rw [if_pos ⟨rfl, z⟩, ← z, decide_eq_true (show p = p from rfl), Bool.or_true, Bool.and_true, ma_put _ (by omega)]
      by_cases w : p = A
      · rw [if_pos w, ma_put _ (by omega), Bool.or_assoc, Bool.or_self]
      · rw [if_neg w]
    · rw [if_neg (fun w => z w.2), decide_eq_false (show ¬ B = p from fun w => z w.symm), Bool.or_false]
      by_cases w : p = A
      · rw [if_pos w, ma_put _ (by omega), decide_eq_true w.symm, Bool.and_true]
      · rw [if_neg w, decide_eq_false (show ¬ A = p from fun q => w q.symm), Bool.and_false, Bool.or_false]
  · rw [ma_s2r _ _ _ _ b, ma_s2r _ _ _ _ b, ma_s2r _ _ _ _ a]
  · rw [ma_s2n _ _ (by omega), ma_s2n _ _ (by omega), ma_s2n _ _ (by omega)]
theorem ma_close0 {s A B : Nat} (hs : s < 16) (hA : A < 10) (hB : B < 10) (e13 : g 13 s = nI A) (e14 : g 14 s = nI B) : ∃ g', cl2_close g (nI s) = some g' ∧ g' 1 14 = g 1 14 &&& (bi1 s ^^^ (-1 : Int32)) ∧ (∀ p, p < 10 → ∀ i, bt (g' 12 p) i = (bt (g 12 p) i && !(decide (i = s) && (decide (A = p) || decide (B = p))))) ∧ (∀ k, k ≠ 1 → k ≠ 12 → g' k = g k) ∧ ∀ i, i ≠ 14 → g' 1 i = g 1 i := by
  unfold cl2_close
  rw [nI_clamp (show s < 2 ^ 31 by omega), ma_nme, ma_gde (ma_in_t hs (by omega)), ma_s2r _ 1 14 _ (show 13 ≠ 1 by decide), e13, ma_gde (ma_in_t hA (by omega)), ma_gde (ma_in_t hA (by omega)), nI_clamp (show A < 2 ^ 31 by omega), ma_wr _ (by omega), ma_nme, ma_gde (ma_in_t hs (by omega)), ma_s2r _ 12 A _ (show 14 ≠ 12 by decide), ma_s2r _ 1 14 _ (show 14 ≠ 1 by decide), e14, ma_gde (ma_in_t hB (by omega)), ma_gde (ma_in_t hB (by omega)), nI_clamp (show B < 2 ^ 31 by omega), ma_wr _ (by omega), ma_nme]
  refine ⟨_, rfl, ?_, fun p hp i => ?_, fun k a b => ?_, fun i q => ?_⟩
  · rw [ma_s2n _ _ (by omega), ma_s2n _ _ (by omega), ma_s2s]
    rfl
  · have e : ∀ q, dl_s2 (dl_s2 g 1 14 (g 1 14 &&& (((1 : Int32) <<< (nI s &&& 31)) ^^^ (-1 : Int32)))) 12 A (dl_s2 g 1 14 (g 1 14 &&& (((1 : Int32) <<< (nI s &&& 31)) ^^^ (-1 : Int32))) 12 A &&& (((1 : Int32) <<< (nI s &&& 31)) ^^^ (-1 : Int32))) 12 q = if q = A then g 12 q &&& (((1 : Int32) <<< (nI s &&& 31)) ^^^ (-1 : Int32)) else g 12 q := fun q => by
      rw [ma_s2r _ 1 14 _ (show 12 ≠ 1 by decide), ma_s2]
      by_cases z : q = A
      · rw [if_pos ⟨rfl, z⟩, if_pos z, z]
      · rw [if_neg (fun w => z w.2), if_neg z, ma_s2r _ 1 14 _ (show 12 ≠ 1 by decide)]
    rw [ma_s2, e, e]
    by_cases z : p = B
    · rw [if_pos ⟨rfl, z⟩, ← z, decide_eq_true (show p = p from rfl), Bool.or_true, Bool.and_true, ma_out _ (by omega)]
      by_cases w : p = A
      · rw [if_pos w, ma_out _ (by omega), Bool.and_assoc, Bool.and_self]
      · rw [if_neg w]
    · rw [if_neg (fun w => z w.2), decide_eq_false (show ¬ B = p from fun w => z w.symm), Bool.or_false]
      by_cases w : p = A
      · rw [if_pos w, ma_out _ (by omega), decide_eq_true w.symm, Bool.and_true]
      · rw [if_neg w, decide_eq_false (show ¬ A = p from fun q => w q.symm), Bool.and_false, Bool.not_false, Bool.and_true]
  · rw [ma_s2r _ _ _ _ b, ma_s2r _ _ _ _ b, ma_s2r _ _ _ _ a]
  · rw [ma_s2n _ _ (by omega), ma_s2n _ _ (by omega), ma_s2n _ _ (by omega)]
/-! one street more -/
theorem ma_amount (x : Int32) : cl11_isAmount x = some (if ma_in x 1 100 = true then 1 else 0) := by
  unfold cl11_isAmount ma_in
  by_cases h1 : x < 1
  · rw [if_pos h1, decide_eq_false (Int32.not_le.mpr h1)]
    rfl
  · rw [if_neg h1, decide_eq_true (Int32.not_lt.mp h1)]
    by_cases h2 : 100 < x
    · rw [if_pos h2, decide_eq_false (Int32.not_le.mpr h2)]
      rfl
    · rw [if_neg h2, decide_eq_true (Int32.not_lt.mp h2)]
      rfl
theorem ma_am {x : Int32} (h : ma_in x 1 100 = true) : ∃ C, 1 ≤ C ∧ C ≤ 100 ∧ x = nI C := by
  unfold ma_in at h
  rw [Bool.and_eq_true, decide_eq_true_iff, decide_eq_true_iff] at h
  have a := (fa_le _ _).mp h.1
  have b := (fa_le _ _).mp h.2
  have e1 : (1 : Int32).toInt = 1 := rfl
  have e2 : (100 : Int32).toInt = 100 := rfl
  obtain ⟨j, j1, rfl⟩ := nI_of (x := x) (fun q => by
    have := (fa_lt _ _).mp q
    have e0 : (0 : Int32).toInt = 0 := rfl
    omega)
  rw [nI_toInt j1] at a b
  exact ⟨j, by omega, by omega, rfl⟩
theorem ma_good (h : iv al E c gc gm) (x y z : Int32) : ∃ r : Int32, cl2_mayJoin gc x y z = some r ∧ mo_isGood gm x y z = some r ∧ (r = 0 ∨ (r = 1 ∧ ∃ A B C, A < en_n E ∧ B < en_n E ∧ A ≠ B ∧ 1 ≤ C ∧ C ≤ 100 ∧ x = nI A ∧ y = nI B ∧ z = nI C)) := by
  have hn := h.ok.n
  unfold cl2_mayJoin mo_isGood
  rw [dl_bi_e (ma_hasPlace h.ok h.C x), dl_bi_e (ma_isPlace h.ok h.M x), dl_bi_e (ma_hasPlace h.ok h.C y), dl_bi_e (ma_isPlace h.ok h.M y), dl_bi_e (ma_amount z), dl_bi_e (mo_in_e _ _ _)]
  by_cases hx : px (en_n E) x
  · rw [ma_dec_t.mpr hx, if_neg ma_q1]
    by_cases hy : px (en_n E) y
    · rw [ma_dec_t.mpr hy, if_neg ma_q1]
      by_cases e : x = y
      · rw [if_pos e]
        exact ⟨0, rfl, rfl, Or.inl rfl⟩
      · rw [if_neg e]
        cases hz : ma_in z 1 100
        · rw [if_pos ma_q0]
          exact ⟨0, rfl, rfl, Or.inl rfl⟩
        · rw [if_neg ma_q1]
          obtain ⟨A, a1, a2⟩ := hx
          obtain ⟨B, b1, b2⟩ := hy
          obtain ⟨C, c1, c2, c3⟩ := ma_am hz
          exact ⟨1, rfl, rfl, Or.inr ⟨rfl, A, B, C, a1, b1, fun q => e (by rw [a2, b2, q]), c1, c2, a2, b2, c3⟩⟩
    · rw [ma_dec_f.mpr hy, if_pos ma_q0]
      exact ⟨0, rfl, rfl, Or.inl rfl⟩
  · rw [ma_dec_f.mpr hx, if_pos ma_q0]
    exact ⟨0, rfl, rfl, Or.inl rfl⟩
theorem en_ok.S (h : en_ok E) (hm : en_m E < 16) {A B C : Nat} (hA : A < en_n E) (hB : B < en_n E) (hAB : A ≠ B) (h1 : 1 ≤ C) (h2 : C ≤ 100) : en_ok (en_S E A B C) := by
  refine ⟨h.1, hm, h.2.2.1, fun s hs => ?_, fun i q => ?_, h.2.2.2.2.2⟩
  · show (if s = en_m E then A else en_a E s) < en_n E ∧ (if s = en_m E then B else en_b E s) < en_n E ∧ (if s = en_m E then A else en_a E s) ≠ (if s = en_m E then B else en_b E s) ∧ 1 ≤ (if s = en_m E then C else en_c E s) ∧ (if s = en_m E then C else en_c E s) ≤ 100
    have hs : s < en_m E + 1 := hs
    by_cases e : s = en_m E
    · rw [if_pos e, if_pos e, if_pos e]
      exact ⟨hA, hB, hAB, h1, h2⟩
    · rw [if_neg e, if_neg e, if_neg e]
      exact h.2.2.2.1 s (by omega)
  · show i < en_m E + 1
    have q : bt (en_t E ||| ((1 : Int32) <<< (nI (en_m E) &&& 31))) i = true := q
    rw [ma_put _ (by omega), Bool.or_eq_true, decide_eq_true_iff] at q
    rcases q with q | q
    · have := h.t q
      omega
    · omega
/-- a street is made -/
theorem ma_street (hN : 131073 ≤ N) (h : iv al E c gc gm) (hc : c < 2 ^ 30) (hm : en_m E < 16) {A B C : Nat} (hA : A < en_n E) (hB : B < en_n E) (hAB : A ≠ B) (h1 : 1 ≤ C) (h2 : C ≤ 100) : ∃ gc' gm', cl2_addStreet gc (nI A) (nI B) (nI C) = some (nI (en_m E), gc') ∧ mo_made N gm (nI A) (nI B) (nI C) = some (nI (en_m E), dl_s2 gm' 0 14 0) ∧ iv al (en_S E A B C) (c + 1) gc' gm' := by
  have hn := h.ok.n
  have ho := h.ok.S hm hA hB hAB h1 h2
  generalize hM : en_m E = M at hm
  -- the class before the note
  have c1 : ∃ gA, cl2_addStreet gc (nI A) (nI B) (nI C) = (dl_bi (cl2_note gA (-2)) fun g8 => some (nI M, g8)) ∧ gA 1 11 = nI (M + 1) ∧ gA 1 14 = gc 1 14 ||| bi1 M ∧ (∀ p, p < 10 → ∀ i, bt (gA 12 p) i = (bt (gc 12 p) i || (decide (i = M) && (decide (A = p) || decide (B = p))))) ∧ (∀ k, k ≠ 1 → k ≠ 12 → k ≠ 13 → k ≠ 14 → k ≠ 15 → k ≠ 16 → gA k = gc k) ∧ (∀ i, i ≠ 14 → i ≠ 11 → gA 1 i = gc 1 i) ∧ (∀ s, gA 13 s = if s = M then nI A else gc 13 s) ∧ (∀ s, gA 14 s = if s = M then nI B else gc 14 s) ∧ (∀ s, gA 15 s = if s = M then nI C else gc 15 s) ∧ ∀ s, gA 16 s = if s = M then ((1 : Int32) <<< (nI A &&& 31)) ||| ((1 : Int32) <<< (nI B &&& 31)) else gc 16 s := by
    unfold cl2_addStreet
    rw [h.C.m, hM, ma_nme, ma_gde (ma_in_t hm (by omega)), ma_nme, ma_gde (ma_in_t hm (by omega)), ma_nme, ma_gde (ma_in_t hm (by omega)), ma_nme, ma_gde (ma_in_t hm (by omega)), ma_nme, ma_wr _ (by omega), ma_wr _ (by omega), ma_wr _ (by omega), ma_wr _ (by omega)]
    obtain ⟨g', e1, e2, e3, e4, e5⟩ := ma_open0 (g := dl_s2 (dl_s2 (dl_s2 (dl_s2 gc 13 M (nI A)) 14 M (nI B)) 15 M (nI C)) 16 M (((1 : Int32) <<< (nI A &&& 31)) ||| ((1 : Int32) <<< (nI B &&& 31)))) (s := M) (A := A) (B := B) hm (by omega) (by omega) (by rw [ma_s2n _ _ (by omega), ma_s2n _ _ (by omega), ma_s2n _ _ (by omega), ma_s2s]) (by rw [ma_s2n _ _ (by omega), ma_s2n _ _ (by omega), ma_s2s])
    rw [dl_bi_e e1, ma_nme]
    refine ⟨_, rfl, ?_, ?_, fun p hp i => ?_, fun k a1 a2 a3 a4 a5 a6 => ?_, fun i a1 a2 => ?_, fun s => ?_, fun s => ?_, fun s => ?_, fun s => ?_⟩
    · rw [ma_s2s, e5 11 (by decide), ma_s2n _ _ (by omega), ma_s2n _ _ (by omega), ma_s2n _ _ (by omega), ma_s2n _ _ (by omega), h.C.m, hM, nI_1]
    · rw [ma_s2n _ _ (by omega), e2, ma_s2n _ _ (by omega), ma_s2n _ _ (by omega), ma_s2n _ _ (by omega), ma_s2n _ _ (by omega)]
    · rw [ma_s2n _ _ (by omega), e3 p hp i, ma_s2n _ _ (by omega), ma_s2n _ _ (by omega), ma_s2n _ _ (by omega), ma_s2n _ _ (by omega)]
    · rw [ma_s2r _ _ _ _ a1, e4 k a1 a2, ma_s2r _ _ _ _ a6, ma_s2r _ _ _ _ a5, ma_s2r _ _ _ _ a4, ma_s2r _ _ _ _ a3]
    · rw [ma_s2n _ _ (by omega), e5 i a1, ma_s2n _ _ (by omega), ma_s2n _ _ (by omega), ma_s2n _ _ (by omega), ma_s2n _ _ (by omega)]
    · rw [ma_s2n _ _ (by omega), e4 13 (by decide) (by decide), ma_s2n _ _ (by omega), ma_s2n _ _ (by omega), ma_s2n _ _ (by omega), ma_s2]
      by_cases z : s = M
      · rw [if_pos ⟨rfl, z⟩, if_pos z]
      · rw [if_neg (fun w => z w.2), if_neg z]
    · rw [ma_s2n _ _ (by omega), e4 14 (by decide) (by decide), ma_s2n _ _ (by omega), ma_s2n _ _ (by omega), ma_s2, ma_s2n (b := 14) _ _ (by omega)]
      by_cases z : s = M
      · rw [if_pos ⟨rfl, z⟩, if_pos z]
      · rw [if_neg (fun w => z w.2), if_neg z]
    · rw [ma_s2n _ _ (by omega), e4 15 (by decide) (by decide), ma_s2n _ _ (by omega), ma_s2, ma_s2n (b := 15) _ _ (by omega), ma_s2n (b := 15) _ _ (by omega)]
      by_cases z : s = M
      · rw [if_pos ⟨rfl, z⟩, if_pos z]
      · rw [if_neg (fun w => z w.2), if_neg z]
    · rw [ma_s2n _ _ (by omega), e4 16 (by decide) (by decide), ma_s2, ma_s2n (b := 16) _ _ (by omega), ma_s2n (b := 16) _ _ (by omega), ma_s2n (b := 16) _ _ (by omega)]
      by_cases z : s = M
      · rw [if_pos ⟨rfl, z⟩, if_pos z]
      · rw [if_neg (fun w => z w.2), if_neg z]
  -- the reference before the change is noted
  have m1 : ∃ gA, mo_made N gm (nI A) (nI B) (nI C) = (dl_bi (mo_changed N gA 2) fun g6 => some (g6 0 3 - 1, dl_s2 g6 0 14 0)) ∧ gA 0 3 = nI (M + 1) ∧ gA 0 7 = gm 0 7 ||| bi1 M ∧ (∀ k, k ≠ 0 → k ≠ 4 → k ≠ 5 → k ≠ 6 → gA k = gm k) ∧ (∀ i, i ≠ 3 → i ≠ 7 → gA 0 i = gm 0 i) ∧ (∀ s, gA 4 s = if s = M then nI A else gm 4 s) ∧ (∀ s, gA 5 s = if s = M then nI B else gm 5 s) ∧ (∀ s, gA 6 s = if s = M then nI C else gm 6 s) := by
    unfold mo_made
    rw [h.M.m, hM, ma_gde (ma_in_t hm (by omega)), ma_nme, ma_wr _ (by omega), ma_s2n (b := 0) (j := 3) _ _ (by omega), h.M.m, hM, ma_gde (ma_in_t hm (by omega)), ma_nme, ma_wr _ (by omega), ma_s2n (b := 0) (j := 3) _ _ (by omega), ma_s2n (b := 0) (j := 3) _ _ (by omega), h.M.m, hM, ma_gde (ma_in_t hm (by omega)), ma_nme, ma_wr _ (by omega), ma_nme, ma_nme]
    have e3 : dl_s2 (dl_s2 (dl_s2 gm 4 M (nI A)) 5 M (nI B)) 6 M (nI C) 0 3 = nI M := by
      rw [ma_s2n _ _ (by omega), ma_s2n _ _ (by omega), ma_s2n _ _ (by omega), h.M.m, hM]
    have e7 : dl_s2 (dl_s2 (dl_s2 gm 4 M (nI A)) 5 M (nI B)) 6 M (nI C) 0 7 = gm 0 7 := by
      rw [ma_s2n _ _ (by omega), ma_s2n _ _ (by omega), ma_s2n _ _ (by omega)]
    rw [e3, e7]
    refine ⟨_, rfl, ?_, ?_, fun k a1 a2 a3 a4 => ?_, fun i a1 a2 => ?_, fun s => ?_, fun s => ?_, fun s => ?_⟩
    · rw [ma_s2s, ma_s2n (j := 3) _ _ (by omega), e3, nI_1]
    · rw [ma_s2n _ _ (by omega), ma_s2s]
      rfl
    · rw [ma_s2r _ _ _ _ a1, ma_s2r _ _ _ _ a1, ma_s2r _ _ _ _ a4, ma_s2r _ _ _ _ a3, ma_s2r _ _ _ _ a2]
    · rw [ma_s2n _ _ (by omega), ma_s2n _ _ (by omega), ma_s2n _ _ (by omega), ma_s2n _ _ (by omega), ma_s2n _ _ (by omega)]
    · rw [ma_s2n _ _ (by omega), ma_s2n _ _ (by omega), ma_s2n _ _ (by omega), ma_s2n _ _ (by omega), ma_s2]
      by_cases z : s = M
      · rw [if_pos ⟨rfl, z⟩, if_pos z]
      · rw [if_neg (fun w => z w.2), if_neg z]
    · rw [ma_s2n _ _ (by omega), ma_s2n _ _ (by omega), ma_s2n _ _ (by omega), ma_s2, ma_s2n (b := 5) _ _ (by omega)]
      by_cases z : s = M
      · rw [if_pos ⟨rfl, z⟩, if_pos z]
      · rw [if_neg (fun w => z w.2), if_neg z]
    · rw [ma_s2n _ _ (by omega), ma_s2n _ _ (by omega), ma_s2, ma_s2n (b := 6) _ _ (by omega), ma_s2n (b := 6) _ _ (by omega)]
      by_cases z : s = M
      · rw [if_pos ⟨rfl, z⟩, if_pos z]
      · rw [if_neg (fun w => z w.2), if_neg z]
  obtain ⟨gA, p1, p2, p3, p4, p5, p6, p7, p8, p9, p10⟩ := c1
  obtain ⟨gB, q1, q2, q3, q4, q5, q6, q7, q8⟩ := m1
  subst hM
  have hMM : en_M (en_S E A B C) gB := by
    refine ⟨(q5 0 (by decide) (by decide)).trans h.M.1, q2, fun p hp => ?_, fun s hs => ?_, ?_⟩
    · rw [q4 1 (by decide) (by decide) (by decide) (by decide), q4 2 (by decide) (by decide) (by decide) (by decide)]
      exact h.M.2.2.1 p hp
    · have hs : s < en_m E + 1 := hs
      show gB 4 s = nI (if s = en_m E then A else en_a E s) ∧ gB 5 s = nI (if s = en_m E then B else en_b E s) ∧ gB 6 s = nI (if s = en_m E then C else en_c E s)
      rw [q6, q7, q8]
      by_cases z : s = en_m E
      · rw [if_pos z, if_pos z, if_pos z, if_pos z, if_pos z, if_pos z]
        exact ⟨rfl, rfl, rfl⟩
      · rw [if_neg z, if_neg z, if_neg z, if_neg z, if_neg z, if_neg z]
        exact h.M.2.2.2.1 s (by omega)
    · rw [q3, h.M.t]
      rfl
  have hCC : en_C (en_S E A B C) gA := by
    refine ⟨(p6 10 (by decide) (by decide)).trans h.C.1, p2, fun p hp => ?_, fun s hs => ?_, ?_, fun p hp i => ?_, ?_, ?_⟩
    · rw [p5 7 (by decide) (by decide) (by decide) (by decide) (by decide) (by decide), p5 8 (by decide) (by decide) (by decide) (by decide) (by decide) (by decide), p5 10 (by decide) (by decide) (by decide) (by decide) (by decide) (by decide), p5 11 (by decide) (by decide) (by decide) (by decide) (by decide) (by decide)]
      exact h.C.2.2.1 p hp
    · have hs : s < en_m E + 1 := hs
      show gA 13 s = nI (if s = en_m E then A else en_a E s) ∧ gA 14 s = nI (if s = en_m E then B else en_b E s) ∧ gA 15 s = nI (if s = en_m E then C else en_c E s) ∧ gA 16 s = ((1 : Int32) <<< (nI (if s = en_m E then A else en_a E s) &&& 31)) ||| ((1 : Int32) <<< (nI (if s = en_m E then B else en_b E s) &&& 31))
      rw [p7, p8, p9, p10]
      by_cases z : s = en_m E
      · rw [if_pos z, if_pos z, if_pos z, if_pos z, if_pos z, if_pos z, if_pos z]
        exact ⟨rfl, rfl, rfl, rfl⟩
      · rw [if_neg z, if_neg z, if_neg z, if_neg z, if_neg z, if_neg z, if_neg z]
        exact h.C.2.2.2.1 s (by omega)
    · rw [p3, h.C.t]
      rfl
    · show bt (gA 12 p) i = (bt (en_t E ||| ((1 : Int32) <<< (nI (en_m E) &&& 31))) i && (decide ((if i = en_m E then A else en_a E i) = p) || decide ((if i = en_m E then B else en_b E i) = p)))
      rw [p4 p hp i, h.C.of hp, ma_put _ (by omega)]
      by_cases z : i = en_m E
      · rw [if_pos z, if_pos z, decide_eq_true z, h.ok.tl i (by omega)]
        simp
      · rw [if_neg z, if_neg z, decide_eq_false z]
        simp
    · rw [p6 12 (by decide) (by decide)]
      exact h.C.taps
    · rw [p6 13 (by decide) (by decide)]
      exact h.C.well
  have hd : iv_hd (en_S E A B C) gA gB := by
    refine ⟨?_, fun i q => ?_⟩
    · rw [p6 15 (by decide) (by decide), q5 8 (by decide) (by decide)]
      exact h.hd.1
    · rw [q5 8 (by decide) (by decide)] at q
      show bt (en_t E ||| ((1 : Int32) <<< (nI (en_m E) &&& 31))) i = true
      rw [ma_put _ (by omega), h.hd.2 i q]
      rfl
  obtain ⟨gc', gm', e1, e2, e3⟩ := iv.note (N := N) (by omega) h hc ho hMM hCC hd (fun k a b d e => p5 k a (by omega) (by omega) (by omega) (by omega) (by omega)) (p6 16 (by decide) (by decide)) (p6 17 (by decide) (by decide)) (fun k a b d e f i => q4 k a e f i) (q5 9 (by decide) (by decide)) (q5 14 (by decide) (by decide)) (q5 16 (by decide) (by decide)) (x := -2) (y := 2) (Or.inr (Or.inl ⟨rfl, rfl⟩)) (fun ch L hl hL => Or.inr (Or.inl ⟨hL, Nat.succ_le_succ (Nat.zero_le _), lg_cong (fun _ _ => rfl) (fun s hs => ⟨if_neg (show s ≠ en_m E from Nat.ne_of_lt hs), if_neg (show s ≠ en_m E from Nat.ne_of_lt hs)⟩) hl⟩))
  refine ⟨gc', gm', ?_, ?_, e3⟩
  · rw [p1, dl_bi_e e1]
  · rw [q1, dl_bi_e e2, e3.M.m]
    show some (nI (en_m E + 1) - 1, dl_s2 gm' 0 14 0) = _
    rw [nI_pred]
theorem ma_two.up {x y : Option (Int32 × dl_Sg)} (h : ma_two al E c x y) : ma_two al E (c + 1) x y := by
  obtain ⟨r, g1, g2, e1, e2, F, e0, e3⟩ := h
  exact ⟨r, g1, g2, e1, e2, F, e0, e3.up (by omega)⟩
theorem do_street (hN : 131073 ≤ N) (h : iv al E c gc gm) (hc : c < 2 ^ 30) (x y z : Int32) : ma_two al E (c + 1) (cl11_street gc x y z) (mo_street N gm x y z) := by
  have hm := h.ok.m
  obtain ⟨r, r1, r2, r3⟩ := ma_good h x y z
  unfold cl11_street mo_street
  rw [dl_bi_e r1, dl_bi_e r2]
  rcases r3 with r3 | ⟨r3, A, B, C, a1, a2, a3, a4, a5, a6, a7, a8⟩
  · subst r3
    rw [if_pos rfl, if_pos rfl]
    exact ma_two.up ⟨_, _, _, rfl, rfl, E, kw.rf E, h.s 1⟩
  · subst r3
    rw [if_neg (show ¬ (1 : Int32) = 0 by decide), if_neg (show ¬ (1 : Int32) = 0 by decide), h.C.m, h.M.m]
    by_cases e : en_m E < 16
    · have e16 : ¬ nI (en_m E) = (16 : Int32) := fun q => by
        have := (ma_eqn (b := 16) (by omega) (by omega)).mp q
        omega
      have l16 : nI (en_m E) < (16 : Int32) := (ma_lt (b := 16) (by omega) (by omega)).mpr e
      rw [if_pos l16, if_neg e16, a6, a7, a8]
      obtain ⟨gc', gm', e1, e2, e3⟩ := ma_street hN h hc e a1 a2 a3 a4 a5
      rw [dl_b2_e e1, dl_b2_e e2]
      exact ⟨_, _, _, rfl, rfl, en_S E A B C, ⟨Nat.le_refl _, rfl, rfl⟩, e3.s 0⟩
    · have e16 : en_m E = 16 := by omega
      rw [e16, if_neg (by decide), if_pos (by rfl)]
      exact ma_two.up ⟨_, _, _, rfl, rfl, E, kw.rf E, h.s 2⟩
end
