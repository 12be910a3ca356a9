/-! The mathematics: what holds between the class and the reference -/
def iv_hd (E : ma_E) (gc gm : dl_Sg) : Prop := gc 1 15 = gm 0 8 ∧ ma_sub (gm 0 8) (en_t E)
def lg_e (x y : Int32) : Prop := (x = -1 ∧ y = 1) ∨ (x = -2 ∧ y = 2) ∨ ∃ s, s < 16 ∧ x = nI s ∧ y = nI (3 + s)
def lg_ok (A B : Nat → Nat) (ch : Nat → Int32) : Nat → Nat → Nat → Prop
  | 0, _, _ => True
  | L + 1, n, m => (ch L = 1 ∧ 1 ≤ n ∧ (∀ s, s < m → A s < n - 1 ∧ B s < n - 1) ∧ lg_ok A B ch L (n - 1) m) ∨ (ch L = 2 ∧ 1 ≤ m ∧ lg_ok A B ch L n (m - 1)) ∨ ∃ s, s < m ∧ s < 16 ∧ ch L = nI (3 + s) ∧ lg_ok A B ch L n m
def iv_lg (E : ma_E) (gc gm : dl_Sg) : Prop := ∃ L, L ≤ 10 ∧ gc 1 16 = nI L ∧ gm 0 9 = nI L ∧ (∀ k, k < L → lg_e (gc 17 k) (gm 10 k)) ∧ lg_ok (en_a E) (en_b E) (gm 10) L (en_n E) (en_m E)
def iv_mp (gc gm : dl_Sg) : Prop := ∀ k, k < 5 → gc 25 k = gm 11 k ∧ (gm 11 k = -1 ∨ gm 11 k = 0 ∨ gm 11 k = 1 ∨ gm 11 k = 2) ∧ gc 26 k = gm 12 k ∧ (∃ z, z ≤ 20 ∧ gm 12 k = nI z) ∧ ∀ i, i < 20 → gc (28 + k) i = gm 13 (20 * k + i)
def iv_tr (gc gm : dl_Sg) : Prop := ∃ t, t ≤ 50 ∧ gc 6 1 = nI t ∧ gm 0 16 = nI t ∧ ∀ i, i < t → gc 27 i = gm 15 i
def iv_vr (c : Nat) (gc : dl_Sg) : Prop := ∃ v, v ≤ c ∧ gc 1 17 = nI v ∧ (gc 3 8 = -1 ∨ ∃ w, w ≤ v ∧ gc 3 8 = nI w) ∧ (gc 4 7 = -1 ∨ ∃ w, w ≤ v ∧ gc 4 7 = nI w)
/-- the row of the best trees is at least so long -/
def ac_ax (al : Nat) (g : dl_Sg) : Prop := ac_al g ∧ al ≤ dl_al g
def iv_ca (al : Nat) (E : ma_E) (gc gm : dl_Sg) : Prop := (gc 3 8 = gc 1 17 → tc_ok E gc) ∧ ac_ax al gc ∧ (gc 4 7 = gc 1 17 → wc_ok E gc) ∧ (¬ gm 0 19 = 0 → kn_ok E gm)
def iv (al : Nat) (E : ma_E) (c : Nat) (gc gm : dl_Sg) : Prop := en_ok E ∧ en_M E gm ∧ en_C E gc ∧ iv_hd E gc gm ∧ iv_lg E gc gm ∧ iv_mp gc gm ∧ gc 0 5 = gm 0 14 ∧ iv_tr gc gm ∧ iv_vr c gc ∧ iv_ca al E gc gm
def IV (al : Nat) (c : Nat) (gc gm : dl_Sg) : Prop := ∃ E, iv al E c gc gm
section
variable {al : Nat} {E : ma_E} {c : Nat} {gc gm gc' gm' : dl_Sg}
theorem tc_ok.fr {g g' : dl_Sg} (h : tc_ok E g) (h3 : g' 3 = g 3) (h9 : g' 9 = g 9) (h21 : g' 21 = g 21) (h33 : g' 33 = g 33) : tc_ok E g' := by
  unfold tc_ok dl_al
  rw [h3, h9, h21, h33]
  exact h
theorem ac_al.fr {g g' : dl_Sg} (h : ac_al g) (h9 : g' 9 = g 9) : ac_al g' := by
  unfold ac_al dl_al
  rw [h9]
  exact h
theorem ac_ax.fr {g g' : dl_Sg} (h : ac_ax al g) (h9 : g' 9 = g 9) : ac_ax al g' := by
  refine ⟨h.1.fr h9, ?_⟩
  unfold dl_al
  rw [h9]
  exact h.2
theorem wc_ok.fr {g g' : dl_Sg} (h : wc_ok E g) (h4 : g' 4 = g 4) (h22 : g' 22 = g 22) (h23 : g' 23 = g 23) (h24 : g' 24 = g 24) : wc_ok E g' := by
  unfold wc_ok wl_C
  rw [h4, h22, h23, h24]
  exact h
theorem kn_ok.fr {g g' : dl_Sg} (h : kn_ok E g) (h20 : g' 0 20 = g 0 20) (h24 : g' 0 24 = g 0 24) (h25 : g' 0 25 = g 0 25) (h21 : g' 21 = g 21) (h22 : g' 22 = g 22) (h23 : g' 23 = g 23) : kn_ok E g' := by
  unfold kn_ok kn_row
  rw [h20, h24, h25, h21, h22, h23]
  exact h
theorem iv_vr.up {d : Nat} (h : iv_vr c gc) (hd : c ≤ d) : iv_vr d gc := by
  obtain ⟨v, h1, h2⟩ := h
  exact ⟨v, by omega, h2⟩
theorem iv.up {d : Nat} (h : iv al E c gc gm) (hd : c ≤ d) : iv al E d gc gm := by
  obtain ⟨h1, h2, h3, h4, h5, h6, h7, h8, h9, h10⟩ := h
  exact ⟨h1, h2, h3, h4, h5, h6, h7, h8, h9.up hd, h10⟩
/-- the class's cells that matter are the same -/
def same_c (gc' gc : dl_Sg) : Prop := ∀ k, k ≠ 18 → k ≠ 19 → k ≠ 20 → gc' k = gc k
/-- the reference's cells that matter are the same -/
def same_m (gm' gm : dl_Sg) : Prop := (∀ k, k ≠ 0 → k ≠ 17 → k ≠ 26 → k ≠ 28 → k ≠ 29 → k ≠ 30 → gm' k = gm k) ∧ ∀ i, i ≠ 18 → i ≠ 27 → i ≠ 31 → gm' 0 i = gm 0 i
theorem same_c.rf (g : dl_Sg) : same_c g g := fun _ _ _ _ => rfl
theorem same_m.rf (g : dl_Sg) : same_m g g := ⟨fun _ _ _ _ _ _ _ => rfl, fun _ _ _ _ => rfl⟩
theorem same_m.t {g g1 g0 : dl_Sg} (h : same_m g g1) (h2 : same_m g1 g0) : same_m g g0 := ⟨fun k a b c d e f => (h.1 k a b c d e f).trans (h2.1 k a b c d e f), fun i a b c => (h.2 i a b c).trans (h2.2 i a b c)⟩
theorem iv.m (h : iv al E c gc gm) (hm : same_m gm' gm) : iv al E c gc gm' := by
  obtain ⟨h1, h2, h3, h4, h5, h6, h7, h8, h9, h10, h11, h12, h13⟩ := h
  have r : ∀ k, k ≠ 0 → k ≠ 17 → k ≠ 26 → k ≠ 28 → k ≠ 29 → k ≠ 30 → gm' k = gm k := hm.1
  have z : ∀ i, i ≠ 18 → i ≠ 27 → i ≠ 31 → gm' 0 i = gm 0 i := hm.2
  refine ⟨h1, h2.same (z 0 (by decide) (by decide) (by decide)) (z 3 (by decide) (by decide) (by decide)) (z 7 (by decide) (by decide) (by decide)) (r 1 (by decide) (by decide) (by decide) (by decide) (by decide) (by decide)) (r 2 (by decide) (by decide) (by decide) (by decide) (by decide) (by decide)) (r 4 (by decide) (by decide) (by decide) (by decide) (by decide) (by decide)) (r 5 (by decide) (by decide) (by decide) (by decide) (by decide) (by decide)) (r 6 (by decide) (by decide) (by decide) (by decide) (by decide) (by decide)), h3, ?_, ?_, ?_, ?_, ?_, h9, h10, h11, h12, fun q => ?_⟩
  · unfold iv_hd
    rw [z 8 (by decide) (by decide) (by decide)]; exact h4
  · unfold iv_lg
    rw [z 9 (by decide) (by decide) (by decide), r 10 (by decide) (by decide) (by decide) (by decide) (by decide) (by decide)]; exact h5
  · unfold iv_mp
    rw [r 11 (by decide) (by decide) (by decide) (by decide) (by decide) (by decide), r 12 (by decide) (by decide) (by decide) (by decide) (by decide) (by decide), r 13 (by decide) (by decide) (by decide) (by decide) (by decide) (by decide)]; exact h6
  · rw [z 14 (by decide) (by decide) (by decide)]; exact h7
  · unfold iv_tr
    rw [z 16 (by decide) (by decide) (by decide), r 15 (by decide) (by decide) (by decide) (by decide) (by decide) (by decide)]; exact h8
  · rw [z 19 (by decide) (by decide) (by decide)] at q
    exact (h13 q).fr (z 20 (by decide) (by decide) (by decide)) (z 24 (by decide) (by decide) (by decide)) (z 25 (by decide) (by decide) (by decide)) (r 21 (by decide) (by decide) (by decide) (by decide) (by decide) (by decide)) (r 22 (by decide) (by decide) (by decide) (by decide) (by decide) (by decide)) (r 23 (by decide) (by decide) (by decide) (by decide) (by decide) (by decide))
theorem iv.cl (h : iv al E c gc gm) (hc : same_c gc' gc) : iv al E c gc' gm := by
  obtain ⟨h1, h2, h3, h4, h5, h6, h7, h8, h9, h10, h11, h12, h13⟩ := h
  refine ⟨h1, h2, h3.same (fun i _ _ => by rw [hc 1 (by decide) (by decide) (by decide)]) (fun k a b => hc k (by omega) (by omega) (by omega)) (fun k a b => hc k (by omega) (by omega) (by omega)), ?_, ?_, ?_, ?_, ?_, ?_, ?_, ?_, ?_, h13⟩
  · unfold iv_hd
    rw [hc 1 (by decide) (by decide) (by decide)]; exact h4
  · unfold iv_lg
    rw [hc 1 (by decide) (by decide) (by decide), hc 17 (by decide) (by decide) (by decide)]; exact h5
  · intro k hk
    rw [hc 25 (by decide) (by decide) (by decide), hc 26 (by decide) (by decide) (by decide), hc (28 + k) (by omega) (by omega) (by omega)]; exact h6 k hk
  · rw [hc 0 (by decide) (by decide) (by decide)]; exact h7
  · unfold iv_tr
    rw [hc 6 (by decide) (by decide) (by decide), hc 27 (by decide) (by decide) (by decide)]; exact h8
  · unfold iv_vr
    rw [hc 1 (by decide) (by decide) (by decide), hc 3 (by decide) (by decide) (by decide), hc 4 (by decide) (by decide) (by decide)]; exact h9
  · intro q
    rw [hc 1 (by decide) (by decide) (by decide), hc 3 (by decide) (by decide) (by decide)] at q
    exact (h10 q).fr (hc 3 (by decide) (by decide) (by decide)) (hc 9 (by decide) (by decide) (by decide)) (hc 21 (by decide) (by decide) (by decide)) (hc 33 (by decide) (by decide) (by decide))
  · exact h11.fr (hc 9 (by decide) (by decide) (by decide))
  · intro q
    rw [hc 1 (by decide) (by decide) (by decide), hc 4 (by decide) (by decide) (by decide)] at q
    exact (h12 q).fr (hc 4 (by decide) (by decide) (by decide)) (hc 22 (by decide) (by decide) (by decide)) (hc 23 (by decide) (by decide) (by decide)) (hc 24 (by decide) (by decide) (by decide))
/-- the class's walls, asked for -/
theorem iv.w (h : iv al E c gc gm) (hf : ∀ k, k ≠ 4 → k ≠ 22 → k ≠ 23 → k ≠ 24 → gc' k = gc k) (h7 : gc' 4 7 = gc 1 17) (hw : wc_ok E gc') : iv al E c gc' gm := by
  obtain ⟨h1, h2, h3, h4, h5, h6, h8, h9, h10, h11, h12, h13, h14⟩ := h
  refine ⟨h1, h2, h3.same (fun i _ _ => by rw [hf 1 (by decide) (by decide) (by decide) (by decide)]) (fun k a b => hf k (by omega) (by omega) (by omega) (by omega)) (fun k a b => hf k (by omega) (by omega) (by omega) (by omega)), ?_, ?_, ?_, ?_, ?_, ?_, ?_, ?_, fun _ => hw, h14⟩
  · unfold iv_hd
    rw [hf 1 (by decide) (by decide) (by decide) (by decide)]; exact h4
  · unfold iv_lg
    rw [hf 1 (by decide) (by decide) (by decide) (by decide), hf 17 (by decide) (by decide) (by decide) (by decide)]; exact h5
  · intro k hk
    rw [hf 25 (by decide) (by decide) (by decide) (by decide), hf 26 (by decide) (by decide) (by decide) (by decide), hf (28 + k) (by omega) (by omega) (by omega) (by omega)]; exact h6 k hk
  · rw [hf 0 (by decide) (by decide) (by decide) (by decide)]; exact h8
  · unfold iv_tr
    rw [hf 6 (by decide) (by decide) (by decide) (by decide), hf 27 (by decide) (by decide) (by decide) (by decide)]; exact h9
  · obtain ⟨v, v1, v2, v3, _⟩ := h10
    refine ⟨v, v1, ?_, ?_, Or.inr ⟨v, Nat.le_refl _, h7.trans v2⟩⟩
    · rw [hf 1 (by decide) (by decide) (by decide) (by decide)]; exact v2
    · rw [hf 3 (by decide) (by decide) (by decide) (by decide)]; exact v3
  · intro q
    rw [hf 1 (by decide) (by decide) (by decide) (by decide), hf 3 (by decide) (by decide) (by decide) (by decide)] at q
    exact (h11 q).fr (hf 3 (by decide) (by decide) (by decide) (by decide)) (hf 9 (by decide) (by decide) (by decide) (by decide)) (hf 21 (by decide) (by decide) (by decide) (by decide)) (hf 33 (by decide) (by decide) (by decide) (by decide))
  · exact h12.fr (hf 9 (by decide) (by decide) (by decide) (by decide))
/-- the class's trees, asked for -/
theorem iv.t (h : iv al E c gc gm) (q : tq E gc gc') : iv 64 E c gc' gm := by
  obtain ⟨h1, h2, h3, h4, h5, h6, h8, h9, h10, h11, h12, h13, h14⟩ := h
  obtain ⟨hf, q1, q2, q3⟩ := q
  refine ⟨h1, h2, h3.same (fun i _ _ => by rw [hf 1 (by decide) (by decide) (by decide) (by decide)]) (fun k a b => hf k (by omega) (by omega) (by omega) (by omega)) (fun k a b => hf k (by omega) (by omega) (by omega) (by omega)), ?_, ?_, ?_, ?_, ?_, ?_, fun _ => q2, ⟨q3, q3.2.1⟩, ?_, h14⟩
  · unfold iv_hd
    rw [hf 1 (by decide) (by decide) (by decide) (by decide)]; exact h4
  · unfold iv_lg
    rw [hf 1 (by decide) (by decide) (by decide) (by decide), hf 17 (by decide) (by decide) (by decide) (by decide)]; exact h5
  · intro k hk
    rw [hf 25 (by decide) (by decide) (by decide) (by decide), hf 26 (by decide) (by decide) (by decide) (by decide), hf (28 + k) (by omega) (by omega) (by omega) (by omega)]; exact h6 k hk
  · rw [hf 0 (by decide) (by decide) (by decide) (by decide)]; exact h8
  · unfold iv_tr
    rw [hf 6 (by decide) (by decide) (by decide) (by decide), hf 27 (by decide) (by decide) (by decide) (by decide)]; exact h9
  · obtain ⟨v, v1, v2, _, v4⟩ := h10
    refine ⟨v, v1, ?_, Or.inr ⟨v, Nat.le_refl _, q1.trans v2⟩, ?_⟩
    · rw [hf 1 (by decide) (by decide) (by decide) (by decide)]; exact v2
    · rw [hf 4 (by decide) (by decide) (by decide) (by decide)]; exact v4
  · intro z
    rw [hf 1 (by decide) (by decide) (by decide) (by decide), hf 4 (by decide) (by decide) (by decide) (by decide)] at z
    exact (h13 z).fr (hf 4 (by decide) (by decide) (by decide) (by decide)) (hf 22 (by decide) (by decide) (by decide) (by decide)) (hf 23 (by decide) (by decide) (by decide) (by decide)) (hf 24 (by decide) (by decide) (by decide) (by decide))
/-- the reference's trees, asked for -/
theorem iv.k (h : iv al E c gc gm) (q : kq E gm gm') : iv al E c gc gm' := by
  obtain ⟨h1, h2, h3, h4, h5, h6, h7, h8, h9, h10, h11, h12, h13⟩ := h
  obtain ⟨hf, q1, q2⟩ := q
  have r : ∀ k, k ≠ 0 → k ≠ 17 → k ≠ 21 → k ≠ 22 → k ≠ 23 → gm' k = gm k := hf.1
  have z : ∀ i, i ≠ 18 → i ≠ 19 → i ≠ 20 → i ≠ 24 → i ≠ 25 → gm' 0 i = gm 0 i := hf.2
  refine ⟨h1, hf.M h2, h3, ?_, ?_, ?_, ?_, ?_, h9, h10, h11, h12, fun _ => q2⟩
  · unfold iv_hd
    rw [z 8 (by decide) (by decide) (by decide) (by decide) (by decide)]; exact h4
  · unfold iv_lg
    rw [z 9 (by decide) (by decide) (by decide) (by decide) (by decide), r 10 (by decide) (by decide) (by decide) (by decide) (by decide)]; exact h5
  · unfold iv_mp
    rw [r 11 (by decide) (by decide) (by decide) (by decide) (by decide), r 12 (by decide) (by decide) (by decide) (by decide) (by decide), r 13 (by decide) (by decide) (by decide) (by decide) (by decide)]; exact h6
  · rw [z 14 (by decide) (by decide) (by decide) (by decide) (by decide)]; exact h7
  · unfold iv_tr
    rw [z 16 (by decide) (by decide) (by decide) (by decide) (by decide), r 15 (by decide) (by decide) (by decide) (by decide) (by decide)]; exact h8
theorem iv.re {al' : Nat} (h : iv al E c gc gm) (ha : al' ≤ dl_al gc) : iv al' E c gc gm := by
  obtain ⟨h1, h2, h3, h4, h5, h6, h7, h8, h9, h10, h11, h12⟩ := h
  exact ⟨h1, h2, h3, h4, h5, h6, h7, h8, h9, h10, ⟨h11.1, ha⟩, h12⟩
/-- the status -/
theorem iv.s (h : iv al E c gc gm) (x : Int32) : iv al E c (dl_s2 gc 0 5 x) (dl_s2 gm 0 14 x) := by
  obtain ⟨h1, h2, h3, h4, h5, h6, h7, h8, h9, h10, h11, h12, h13⟩ := h
  have r : ∀ k, k ≠ 0 → dl_s2 gc 0 5 x k = gc k := fun k q => ma_s2r _ _ _ _ q
  have rm : ∀ k, k ≠ 0 → dl_s2 gm 0 14 x k = gm k := fun k q => ma_s2r _ _ _ _ q
  have z : ∀ i, i ≠ 14 → dl_s2 gm 0 14 x 0 i = gm 0 i := fun i q => ma_s2n _ _ (fun w => q w.2)
  refine ⟨h1, h2.same (z 0 (by decide)) (z 3 (by decide)) (z 7 (by decide)) (rm 1 (by decide)) (rm 2 (by decide)) (rm 4 (by decide)) (rm 5 (by decide)) (rm 6 (by decide)), h3.same (fun i _ _ => by rw [r 1 (by decide)]) (fun k a b => r k (by omega)) (fun k a b => r k (by omega)), ?_, ?_, ?_, ?_, ?_, ?_, ?_, ?_, ?_, ?_⟩
  · unfold iv_hd
    rw [r 1 (by decide), z 8 (by decide)]; exact h4
  · unfold iv_lg
    rw [r 1 (by decide), r 17 (by decide), z 9 (by decide), rm 10 (by decide)]; exact h5
  · intro k hk
    rw [r 25 (by decide), r 26 (by decide), r (28 + k) (by omega), rm 11 (by decide), rm 12 (by decide), rm 13 (by decide)]; exact h6 k hk
  · rw [ma_s2s, ma_s2s]
  · unfold iv_tr
    rw [r 6 (by decide), r 27 (by decide), z 16 (by decide), rm 15 (by decide)]; exact h8
  · unfold iv_vr
    rw [r 1 (by decide), r 3 (by decide), r 4 (by decide)]; exact h9
  · intro q
    rw [r 1 (by decide), r 3 (by decide)] at q
    exact (h10 q).fr (r 3 (by decide)) (r 9 (by decide)) (r 21 (by decide)) (r 33 (by decide))
  · exact h11.fr (r 9 (by decide))
  · intro q
    rw [r 1 (by decide), r 4 (by decide)] at q
    exact (h12 q).fr (r 4 (by decide)) (r 22 (by decide)) (r 23 (by decide)) (r 24 (by decide))
  · intro q
    rw [z 19 (by decide)] at q
    exact (h13 q).fr (z 20 (by decide)) (z 24 (by decide)) (z 25 (by decide)) (rm 21 (by decide)) (rm 22 (by decide)) (rm 23 (by decide))
/-- hand's tree -/
theorem iv.h (h : iv al E c gc gm) {T : Int32} (hT : ma_sub T (en_t E)) : iv al E c (dl_s2 gc 1 15 T) (dl_s2 gm 0 8 T) := by
  obtain ⟨h1, h2, h3, h4, h5, h6, h7, h8, h9, h10, h11, h12, h13⟩ := h
  have r : ∀ k, k ≠ 1 → dl_s2 gc 1 15 T k = gc k := fun k q => ma_s2r _ _ _ _ q
  have zc : ∀ i, i ≠ 15 → dl_s2 gc 1 15 T 1 i = gc 1 i := fun i q => ma_s2n _ _ (fun w => q w.2)
  have rm : ∀ k, k ≠ 0 → dl_s2 gm 0 8 T k = gm k := fun k q => ma_s2r _ _ _ _ q
  have z : ∀ i, i ≠ 8 → dl_s2 gm 0 8 T 0 i = gm 0 i := fun i q => ma_s2n _ _ (fun w => q w.2)
  refine ⟨h1, h2.same (z 0 (by decide)) (z 3 (by decide)) (z 7 (by decide)) (rm 1 (by decide)) (rm 2 (by decide)) (rm 4 (by decide)) (rm 5 (by decide)) (rm 6 (by decide)), h3.same (fun i a b => zc i (by omega)) (fun k a b => r k (by omega)) (fun k a b => r k (by omega)), ⟨by rw [ma_s2s, ma_s2s], by rw [ma_s2s]; exact hT⟩, ?_, ?_, ?_, ?_, ?_, ?_, ?_, ?_, ?_⟩
  · unfold iv_lg
    rw [zc 16 (by decide), r 17 (by decide), z 9 (by decide), rm 10 (by decide)]; exact h5
  · intro k hk
    rw [r 25 (by decide), r 26 (by decide), r (28 + k) (by omega), rm 11 (by decide), rm 12 (by decide), rm 13 (by decide)]; exact h6 k hk
  · rw [r 0 (by decide), z 14 (by decide)]; exact h7
  · unfold iv_tr
    rw [r 6 (by decide), r 27 (by decide), z 16 (by decide), rm 15 (by decide)]; exact h8
  · unfold iv_vr
    rw [zc 17 (by decide), r 3 (by decide), r 4 (by decide)]; exact h9
  · intro q
    rw [zc 17 (by decide), r 3 (by decide)] at q
    exact (h10 q).fr (r 3 (by decide)) (r 9 (by decide)) (r 21 (by decide)) (r 33 (by decide))
  · exact h11.fr (r 9 (by decide))
  · intro q
    rw [zc 17 (by decide), r 4 (by decide)] at q
    exact (h12 q).fr (r 4 (by decide)) (r 22 (by decide)) (r 23 (by decide)) (r 24 (by decide))
  · intro q
    rw [z 19 (by decide)] at q
    exact (h13 q).fr (z 20 (by decide)) (z 24 (by decide)) (z 25 (by decide)) (rm 21 (by decide)) (rm 22 (by decide)) (rm 23 (by decide))
end
/-- one of the first n numbers -/
def px (n : Nat) (x : Int32) : Prop := ∃ j, j < n ∧ x = nI j
theorem px_in {n : Nat} (hn : n < 2 ^ 31) (x : Int32) : ma_in x 0 (nI n - 1) = ma_dec (px n x) := by
  unfold ma_in
  rcases pk_ix x hn with h | h | ⟨j, j1, j2⟩
  · rw [decide_eq_false (show ¬ (0 : Int32) ≤ x from Int32.not_le.mpr h), Bool.false_and]
    exact (ma_dec_f.mpr (fun ⟨j, j1, j2⟩ => by rw [j2] at h; exact nI_pos (by omega) h)).symm
  · have hno : ¬ px n x := fun ⟨j, j1, j2⟩ => by
      rw [j2] at h
      have := (ma_le hn (by omega)).mp h
      omega
    rw [ma_dec_f.mpr hno]
    cases e : decide ((0 : Int32) ≤ x)
    · rfl
    · rw [Bool.true_and]
      refine decide_eq_false (fun q => ?_)
      have e0 := of_decide_eq_true e
      obtain ⟨j, j1, j2⟩ := nI_of (Int32.not_lt.mpr e0)
      rw [j2] at h q
      have h1 := (ma_le hn j1).mp h
      rcases Nat.eq_zero_or_pos n with z | z
      · subst z
        have : nI 0 - 1 = -1 := by decide
        rw [this, fa_le, nI_toInt j1] at q
        have : (-1 : Int32).toInt = -1 := rfl
        omega
      · obtain ⟨n', rfl⟩ : ∃ n', n = n' + 1 := ⟨n - 1, by omega⟩
        rw [nI_pred] at q
        have := (ma_le j1 (by omega)).mp q
        omega
  · obtain ⟨n', rfl⟩ : ∃ n', n = n' + 1 := ⟨n - 1, by omega⟩
    rw [show ma_dec (px (n' + 1) x) = true from ma_dec_t.mpr ⟨j, j1, j2⟩, j2, nI_pred, decide_eq_true (nI_pos' (by omega)), decide_eq_true ((ma_le (by omega) (by omega)).mpr (by omega))]
    rfl
section
variable {E : ma_E} {g : dl_Sg}
theorem ma_isPlace (ho : en_ok E) (hM : en_M E g) (x : Int32) : mo_isPlace g x = some (if ma_dec (px (en_n E) x) = true then 1 else 0) := by
  have hn := ho.n
  rw [mo_isPlace_e, hM.n, px_in (by omega)]
theorem ma_isStreet (ho : en_ok E) (hM : en_M E g) (x : Int32) : mo_isStreet g x = some (if ma_dec (px (en_m E) x) = true then 1 else 0) := by
  have hm := ho.m
  rw [mo_isStreet_e, hM.m, px_in (by omega)]
theorem px_has {n : Nat} (hn : n < 2 ^ 31) (x : Int32) : (if x < 0 then (some (0 : Int32)) else (if nI n ≤ x then (some (0 : Int32)) else (some (1 : Int32)))) = some (if ma_dec (px n x) = true then 1 else 0) := by
  rcases pk_ix x hn with h | h | ⟨j, j1, j2⟩
  · rw [if_pos h, ma_dec_f.mpr (fun ⟨j, j1, j2⟩ => by rw [j2] at h; exact nI_pos (by omega) h)]
    rfl
  · have hno : ¬ px n x := fun ⟨j, j1, j2⟩ => by
      rw [j2] at h
      have := (ma_le hn (by omega)).mp h
      omega
    rw [ma_dec_f.mpr hno, if_pos h, ite_self]
    rfl
  · rw [show ma_dec (px n x) = true from ma_dec_t.mpr ⟨j, j1, j2⟩, j2, if_neg (nI_pos (by omega)), if_neg (fun q => absurd ((ma_le hn (by omega)).mp q) (by omega))]
    rfl
theorem ma_hasPlace (ho : en_ok E) (hC : en_C E g) (x : Int32) : cl2_hasPlace g x = some (if ma_dec (px (en_n E) x) = true then 1 else 0) := by
  have hn := ho.n
  unfold cl2_hasPlace
  rw [hC.n]
  exact px_has (by omega) x
theorem ma_hasStreet (ho : en_ok E) (hC : en_C E g) (x : Int32) : cl2_hasStreet g x = some (if ma_dec (px (en_m E) x) = true then 1 else 0) := by
  have hm := ho.m
  unfold cl2_hasStreet
  rw [hC.m]
  exact px_has (by omega) x
end
