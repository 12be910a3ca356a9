/-! The mathematics: the net of places and streets, as both sides hold it -/
abbrev ma_E : Type := (Nat × Nat) × ((Nat → Nat) × (Nat → Nat)) × ((Nat → Nat) × (Nat → Nat) × (Nat → Nat)) × Int32
def en_n (E : ma_E) : Nat := E.1.1
def en_m (E : ma_E) : Nat := E.1.2
def en_k (E : ma_E) : Nat → Nat := E.2.1.1
def en_w (E : ma_E) : Nat → Nat := E.2.1.2
def en_a (E : ma_E) : Nat → Nat := E.2.2.1.1
def en_b (E : ma_E) : Nat → Nat := E.2.2.1.2.1
def en_c (E : ma_E) : Nat → Nat := E.2.2.1.2.2
def en_t (E : ma_E) : Int32 := E.2.2.2
def en_tap (E : ma_E) (p : Nat) : Bool := decide (en_k E p = 1 ∨ en_k E p = 3)
def en_pr (E : ma_E) (p : Nat) : Nat := if en_k E p = 4 then en_w E p else 0
def en_wi (E : ma_E) (p : Nat) : Nat := if en_k E p = 2 then en_w E p else 0
def en_taps (E : ma_E) : Int32 := ma_mk (en_tap E) (en_n E)
def en_ok (E : ma_E) : Prop := en_n E ≤ 10 ∧ en_m E ≤ 16 ∧ (∀ p, p < en_n E → en_k E p ≤ 4 ∧ en_w E p ≤ 100) ∧ (∀ s, s < en_m E → en_a E s < en_n E ∧ en_b E s < en_n E ∧ en_a E s ≠ en_b E s ∧ 1 ≤ en_c E s ∧ en_c E s ≤ 100) ∧ (∀ i, bt (en_t E) i = true → i < en_m E) ∧ (∀ p q, p < en_n E → q < en_n E → en_k E p = 3 → en_k E q = 3 → p = q)
/-- the reference holds the net -/
def en_M (E : ma_E) (g : dl_Sg) : Prop := g 0 0 = nI (en_n E) ∧ g 0 3 = nI (en_m E) ∧ (∀ p, p < en_n E → g 1 p = nI (en_k E p) ∧ g 2 p = nI (en_w E p)) ∧ (∀ s, s < en_m E → g 4 s = nI (en_a E s) ∧ g 5 s = nI (en_b E s) ∧ g 6 s = nI (en_c E s)) ∧ g 0 7 = en_t E
/-- the class holds the net -/
def en_C (E : ma_E) (g : dl_Sg) : Prop := g 1 10 = nI (en_n E) ∧ g 1 11 = nI (en_m E) ∧ (∀ p, p < en_n E → g 7 p = nI (en_k E p) ∧ g 8 p = nI (en_w E p) ∧ g 10 p = nI (en_pr E p) ∧ g 11 p = nI (en_wi E p)) ∧ (∀ s, s < en_m E → g 13 s = nI (en_a E s) ∧ g 14 s = nI (en_b E s) ∧ g 15 s = nI (en_c E s) ∧ g 16 s = ((1 : Int32) <<< (nI (en_a E s) &&& 31)) ||| ((1 : Int32) <<< (nI (en_b E s) &&& 31))) ∧ g 1 14 = en_t E ∧ (∀ p, p < 10 → ∀ i, bt (g 12 p) i = (bt (en_t E) i && (decide (en_a E i = p) || decide (en_b E i = p)))) ∧ g 1 12 = en_taps E ∧ ((g 1 13 = -1 ∧ ∀ p, p < en_n E → en_k E p ≠ 3) ∨ ∃ p, p < en_n E ∧ en_k E p = 3 ∧ g 1 13 = nI p)
section
variable {E : ma_E}
theorem en_ok.n (h : en_ok E) : en_n E ≤ 10 := h.1
theorem en_ok.m (h : en_ok E) : en_m E ≤ 16 := h.2.1
theorem en_ok.k (h : en_ok E) {p : Nat} (hp : p < en_n E) : en_k E p ≤ 4 := (h.2.2.1 p hp).1
theorem en_ok.w (h : en_ok E) {p : Nat} (hp : p < en_n E) : en_w E p ≤ 100 := (h.2.2.1 p hp).2
theorem en_ok.a (h : en_ok E) {s : Nat} (hs : s < en_m E) : en_a E s < en_n E := (h.2.2.2.1 s hs).1
theorem en_ok.b (h : en_ok E) {s : Nat} (hs : s < en_m E) : en_b E s < en_n E := (h.2.2.2.1 s hs).2.1
theorem en_ok.ab (h : en_ok E) {s : Nat} (hs : s < en_m E) : en_a E s ≠ en_b E s := (h.2.2.2.1 s hs).2.2.1
theorem en_ok.c1 (h : en_ok E) {s : Nat} (hs : s < en_m E) : 1 ≤ en_c E s := (h.2.2.2.1 s hs).2.2.2.1
theorem en_ok.c2 (h : en_ok E) {s : Nat} (hs : s < en_m E) : en_c E s ≤ 100 := (h.2.2.2.1 s hs).2.2.2.2
theorem en_ok.t (h : en_ok E) {i : Nat} (hi : bt (en_t E) i = true) : i < en_m E := h.2.2.2.2.1 i hi
theorem en_ok.tl (h : en_ok E) : ma_lo (en_t E) (en_m E) := fun i hi => by
  cases e : bt (en_t E) i
  · rfl
  · have := h.t e; omega
theorem en_ok.well (h : en_ok E) {p q : Nat} (hp : p < en_n E) (hq : q < en_n E) (kp : en_k E p = 3) (kq : en_k E q = 3) : p = q := h.2.2.2.2.2 p q hp hq kp kq
theorem en_pr_le (h : en_ok E) {p : Nat} (hp : p < en_n E) : en_pr E p ≤ 100 := by
  unfold en_pr
  have := h.w hp
  split <;> omega
theorem en_wi_le (h : en_ok E) {p : Nat} (hp : p < en_n E) : en_wi E p ≤ 100 := by
  unfold en_wi
  have := h.w hp
  split <;> omega
theorem en_taps_b (h : en_ok E) (i : Nat) : bt (en_taps E) i = (decide (i < en_n E) && en_tap E i) := ma_mk_b _ i _ (by have := h.n; omega)
theorem en_taps_lo (h : en_ok E) : ma_lo (en_taps E) (en_n E) := ma_mk_lo _ (by have := h.n; omega) (Nat.le_refl _)
theorem en_taps_0 (h : en_ok E) : en_taps E = 0 ↔ ∀ p, p < en_n E → en_tap E p = false := by
  have hn := h.n
  rw [ma_z]
  constructor
  · intro q p hp
    have := q p (by omega)
    rw [en_taps_b h, decide_eq_true hp] at this
    exact this
  · intro q i _
    rw [en_taps_b h]
    by_cases e : i < en_n E
    · rw [q i e, Bool.and_false]
    · rw [decide_eq_false e]; rfl
end
section
variable {E : ma_E} {g : dl_Sg}
theorem en_M.n (h : en_M E g) : g 0 0 = nI (en_n E) := h.1
theorem en_M.m (h : en_M E g) : g 0 3 = nI (en_m E) := h.2.1
theorem en_M.k (h : en_M E g) {p : Nat} (hp : p < en_n E) : g 1 p = nI (en_k E p) := (h.2.2.1 p hp).1
theorem en_M.w (h : en_M E g) {p : Nat} (hp : p < en_n E) : g 2 p = nI (en_w E p) := (h.2.2.1 p hp).2
theorem en_M.a (h : en_M E g) {s : Nat} (hs : s < en_m E) : g 4 s = nI (en_a E s) := (h.2.2.2.1 s hs).1
theorem en_M.b (h : en_M E g) {s : Nat} (hs : s < en_m E) : g 5 s = nI (en_b E s) := (h.2.2.2.1 s hs).2.1
theorem en_M.c (h : en_M E g) {s : Nat} (hs : s < en_m E) : g 6 s = nI (en_c E s) := (h.2.2.2.1 s hs).2.2
theorem en_M.t (h : en_M E g) : g 0 7 = en_t E := h.2.2.2.2
theorem en_C.n (h : en_C E g) : g 1 10 = nI (en_n E) := h.1
theorem en_C.m (h : en_C E g) : g 1 11 = nI (en_m E) := h.2.1
theorem en_C.k (h : en_C E g) {p : Nat} (hp : p < en_n E) : g 7 p = nI (en_k E p) := (h.2.2.1 p hp).1
theorem en_C.w (h : en_C E g) {p : Nat} (hp : p < en_n E) : g 8 p = nI (en_w E p) := (h.2.2.1 p hp).2.1
theorem en_C.pr (h : en_C E g) {p : Nat} (hp : p < en_n E) : g 10 p = nI (en_pr E p) := (h.2.2.1 p hp).2.2.1
theorem en_C.wi (h : en_C E g) {p : Nat} (hp : p < en_n E) : g 11 p = nI (en_wi E p) := (h.2.2.1 p hp).2.2.2
theorem en_C.a (h : en_C E g) {s : Nat} (hs : s < en_m E) : g 13 s = nI (en_a E s) := (h.2.2.2.1 s hs).1
theorem en_C.b (h : en_C E g) {s : Nat} (hs : s < en_m E) : g 14 s = nI (en_b E s) := (h.2.2.2.1 s hs).2.1
theorem en_C.c (h : en_C E g) {s : Nat} (hs : s < en_m E) : g 15 s = nI (en_c E s) := (h.2.2.2.1 s hs).2.2.1
theorem en_C.e (h : en_C E g) {s : Nat} (hs : s < en_m E) : g 16 s = ((1 : Int32) <<< (nI (en_a E s) &&& 31)) ||| ((1 : Int32) <<< (nI (en_b E s) &&& 31)) := (h.2.2.2.1 s hs).2.2.2
theorem en_C.t (h : en_C E g) : g 1 14 = en_t E := h.2.2.2.2.1
theorem en_C.of (h : en_C E g) {p : Nat} (hp : p < 10) (i : Nat) : bt (g 12 p) i = (bt (en_t E) i && (decide (en_a E i = p) || decide (en_b E i = p))) := h.2.2.2.2.2.1 p hp i
theorem en_C.taps (h : en_C E g) : g 1 12 = en_taps E := h.2.2.2.2.2.2.1
theorem en_C.well (h : en_C E g) : (g 1 13 = -1 ∧ ∀ p, p < en_n E → en_k E p ≠ 3) ∨ ∃ p, p < en_n E ∧ en_k E p = 3 ∧ g 1 13 = nI p := h.2.2.2.2.2.2.2
theorem en_C.eb (h : en_C E g) (ho : en_ok E) {s : Nat} (hs : s < en_m E) (i : Nat) : bt (g 16 s) i = (decide (i = en_a E s) || decide (i = en_b E s)) := by
  have h1 := ho.a hs
  have h2 := ho.b hs
  have h3 := ho.n
  rw [h.e hs, b_or, ma_b1 (by omega), ma_b1 (by omega)]
theorem en_C.ofl (h : en_C E g) (ho : en_ok E) {p : Nat} (hp : p < 10) : ma_lo (g 12 p) (en_m E) := fun i hi => by
  rw [h.of hp, ho.tl i hi]; rfl
/-- cells of the net unchanged -/
theorem en_M.same {g' : dl_Sg} (h : en_M E g) (h0 : g' 0 0 = g 0 0) (h3 : g' 0 3 = g 0 3) (h7 : g' 0 7 = g 0 7) (h1 : g' 1 = g 1) (h2 : g' 2 = g 2) (h4 : g' 4 = g 4) (h5 : g' 5 = g 5) (h6 : g' 6 = g 6) : en_M E g' := by
  unfold en_M
  rw [h0, h3, h7, h1, h2, h4, h5, h6]
  exact h
theorem en_C.same {g' : dl_Sg} (h : en_C E g) (hr : ∀ i, 10 ≤ i → i ≤ 14 → g' 1 i = g 1 i) (h1 : ∀ k, 7 ≤ k → k ≤ 8 → g' k = g k) (h2 : ∀ k, 10 ≤ k → k ≤ 16 → g' k = g k) : en_C E g' := by
  unfold en_C
  rw [hr 10 (by omega) (by omega), hr 11 (by omega) (by omega), hr 12 (by omega) (by omega), hr 13 (by omega) (by omega), hr 14 (by omega) (by omega), h1 7 (by omega) (by omega), h1 8 (by omega) (by omega), h2 10 (by omega) (by omega), h2 11 (by omega) (by omega), h2 12 (by omega) (by omega), h2 13 (by omega) (by omega), h2 14 (by omega) (by omega), h2 15 (by omega) (by omega), h2 16 (by omega) (by omega)]
  exact h
end
theorem ma_L10 {p : Nat} (h : p < 2 ^ 31) : (10 : Int32) ≤ nI p ↔ 10 ≤ p := ma_le (a := 10) (by omega) h
theorem ma_L16 {p : Nat} (h : p < 2 ^ 31) : (16 : Int32) ≤ nI p ↔ 16 ≤ p := ma_le (a := 16) (by omega) h
theorem ma_L40 {p : Nat} (h : p < 2 ^ 31) : (40 : Int32) ≤ nI p ↔ 40 ≤ p := ma_le (a := 40) (by omega) h
/-! what the small functions answer, over a net -/
section
variable {E : ma_E} {g : dl_Sg} {N : Nat}
theorem ma_has (x : Int32) {k : Nat} (hk : k < 32) : mo_has x (nI k) = some (if bt x k = true then 1 else 0) := by
  unfold mo_has
  rw [ma_bA x hk]
  cases bt x k <;> rfl
theorem ma_bitAt (x : Int32) {k : Nat} (hk : k < 32) : cl11_bitAt x (nI k) = some (if bt x k = true then 1 else 0) := by
  unfold cl11_bitAt
  rw [ma_bA x hk]
theorem ma_isThere (hC : en_C E g) {s : Nat} (hs : s < 32) : cl2_isThere g (nI s) = some (if bt (en_t E) s = true then 1 else 0) := by
  unfold cl2_isThere
  rw [hC.t, dl_bi_e (ma_bitAt _ hs)]
  cases bt (en_t E) s <;> rfl
theorem ma_cisTap (ho : en_ok E) (hC : en_C E g) {p : Nat} (hp : p < en_n E) : cl2_isTap g (nI p) = some (if en_tap E p = true then 1 else 0) := by
  have hn := ho.n
  unfold cl2_isTap
  rw [hC.taps, dl_bi_e (ma_bitAt _ (by omega)), en_taps_b ho, decide_eq_true hp, Bool.true_and]
  cases en_tap E p <;> rfl
theorem ma_misTap (ho : en_ok E) (hM : en_M E g) {p : Nat} (hp : p < en_n E) : mo_isTap g (nI p) = some (if en_tap E p = true then 1 else 0) := by
  have hn := ho.n
  have hk := ho.k hp
  unfold mo_isTap mo_isTap_b20
  rw [ma_gde (ma_in_t (by omega) (by omega)), nI_clamp (by omega), hM.k hp, ma_gde (ma_in_t (by omega) (by omega))]
  have e1 : nI (en_k E p) = (1 : Int32) ↔ en_k E p = 1 := nI_eq (a := en_k E p) (b := 1) (by omega) (by omega)
  have e3 : nI (en_k E p) = (3 : Int32) ↔ en_k E p = 3 := nI_eq (a := en_k E p) (b := 3) (by omega) (by omega)
  unfold en_tap
  by_cases h1 : en_k E p = 1
  · rw [if_pos (e1.mpr h1), if_pos (decide_eq_true (Or.inl h1))]
  · rw [if_neg (fun q => h1 (e1.mp q))]
    by_cases h3 : en_k E p = 3
    · rw [if_pos (e3.mpr h3), if_pos (decide_eq_true (Or.inr h3))]
    · rw [if_neg (fun q => h3 (e3.mp q)), if_neg (fun q => by rcases of_decide_eq_true q with q | q <;> contradiction)]
theorem ma_taps (hN : 17 ≤ N) (ho : en_ok E) (hM : en_M E g) : mo_taps N g = some (en_taps E) := by
  have hn := ho.n
  refine ma_is ?_
  refine ma_loop (fun k p (s : Int32) => mo_taps_b4 N g k s (nI p)) (fun p s => s = ma_mk (en_tap E) p) _ (en_n E) ?_ ?_ N 0 0 (by omega) (by omega) rfl
  · intro k s h
    rw [mo_taps_b4, hM.n, if_pos ((ma_le (by omega) (by omega)).mpr (by omega))]
    exact ma_some h
  · intro k p s hp h ih
    rw [mo_taps_b4, hM.n, if_neg (fun q => absurd ((ma_le (by omega) (by omega)).mp q) (by omega)), dl_bi_e (ma_misTap ho hM hp)]
    unfold mo_taps_b28
    cases e : en_tap E p
    · rw [if_neg (show ¬ (false = true) by decide), if_pos rfl, ma_nme, ma_nme, nI_1]
      refine ih _ ?_
      rw [ma_mk, if_neg (by rw [e]; decide), h]
      exact Int32.or_zero
    · rw [if_pos rfl, if_neg (by decide), ma_nme, ma_nme, nI_1]
      refine ih _ ?_
      rw [ma_mk, if_pos e, h]
end
