/-! The mathematics: the best trees, by the class -/
def tr_set (E : ma_E) (X : Int32) : Prop := ma_sub X (en_t E) ∧ fl_tree E X
/-- the best trees in their order, and their price tag -/
def tb (E : ma_E) (t : Int) (b : List Int32) : Prop := (∀ X, tr_set E X → t ≤ tg_tag E X) ∧ (∃ X, tr_set E X ∧ tg_tag E X = t) ∧ (∀ X, X ∈ b ↔ tr_set E X ∧ tg_tag E X = t) ∧ b.Pairwise ah
theorem tb_one {E : ma_E} {t t' : Int} {b b' : List Int32} (h : tb E t b) (h2 : tb E t' b') : t = t' ∧ b = b' := by
  obtain ⟨a1, ⟨X, a2, a3⟩, a4, a5⟩ := h
  obtain ⟨b1, ⟨Y, b2, b3⟩, b4, b5⟩ := h2
  have e : t = t' := by
    have := a1 Y b2
    have := b1 X a2
    omega
  subst e
  exact ⟨rfl, ah_eq a5 b5 (fun X => (a4 X).trans (b4 X).symm)⟩
theorem tb_ne {E : ma_E} {t : Int} {b : List Int32} (h : tb E t b) : 0 < b.length := by
  obtain ⟨_, ⟨X, a2, a3⟩, a4, _⟩ := h
  exact List.length_pos_of_mem ((a4 X).mpr ⟨a2, a3⟩)
def tr_no (E : ma_E) : Prop := ∀ X, ¬ tr_set E X
/-- the class's trees are those of the net -/
def tc_ok (E : ma_E) (g : dl_Sg) : Prop := (∃ l, (∀ X, X ∈ l ↔ tr_set E X) ∧ ac_ch E l (g 21)) ∧ ((tr_no E ∧ g 3 4 = 0) ∨ ∃ t b, tb E t b ∧ (g 3 5).toInt = t ∧ g 3 4 = nI b.length ∧ b.length ≤ dl_al g ∧ b.length ≤ 65536 ∧ ma_rowL b (g 33) ∧ (∀ s, bt (g 3 6) s = true ↔ s < 32 ∧ ∀ X, X ∈ b → bt X s = true) ∧ (∀ s, bt (g 3 7) s = true ↔ ∃ X, X ∈ b ∧ bt X s = true))
section
variable {E : ma_E} {N : Nat}
theorem tr_set_T (ho : en_ok E) {r : Nat} (hr : sp_tap E r) (X : Int32) : tr_set E X ↔ tg_T E r X := by
  constructor
  · rintro ⟨h1, h2⟩
    exact (tg_tree ho hr h1).mp h2
  · intro h
    obtain ⟨P, h1, _⟩ := id h
    exact ⟨h1.1, (tg_tree ho hr h1.1).mpr h⟩
theorem ma_range {f : Nat → Int32} {n : Nat} : ma_rowL ((List.range n).map f) f := fun i hi => by
  rw [List.length_map, List.length_range] at hi
  rw [List.getElem?_map, List.getElem?_range hi]
  rfl
theorem ma_rowL_mem {l : List Int32} {f : Nat → Int32} (h : ma_rowL l f) (X : Int32) : X ∈ l ↔ ∃ i, i < l.length ∧ f i = X := by
  rw [List.mem_iff_getElem?]
  constructor
  · rintro ⟨i, hi⟩
    have hlt : i < l.length := by
      rw [List.getElem?_eq_some_iff] at hi
      exact hi.1
    rw [h i hlt] at hi
    exact ⟨i, hlt, Option.some.inj hi⟩
  · rintro ⟨i, h1, h2⟩
    exact ⟨i, by rw [h i h1, h2]⟩
theorem ma_ctrees (hN : 131073 ≤ N) (ho : en_ok E) {g0 : dl_Sg} (hC : en_C E g0) (hal : ac_al g0) (hc : g0 3 8 = g0 1 17 → tc_ok E g0) : ma_wp (cl6_refresh N g0) (fun g => (∀ k, k ≠ 3 → k ≠ 9 → k ≠ 21 → k ≠ 33 → g k = g0 k) ∧ g 3 8 = g0 1 17 ∧ tc_ok E g ∧ ac_al g) := by
  have hn := ho.n
  have hm := ho.m
  have htap : ∀ p, bt (en_taps E) p = true ↔ sp_tap E p := fun p => by
    rw [en_taps_b ho, Bool.and_eq_true, decide_eq_true_iff]
    exact Iff.rfl
  unfold cl6_refresh
  by_cases c0 : g0 3 8 = g0 1 17
  · rw [if_pos c0]
    exact ma_some ⟨fun _ _ _ _ _ => rfl, c0, hc c0, hal⟩
  · rw [if_neg c0, ma_nme, ma_nme, ma_nme]
    have hf : ∀ k, k ≠ 3 → k ≠ 9 → k ≠ 21 → k ≠ 33 → (dl_fi (dl_s2 (dl_s2 g0 3 8 (g0 1 17)) 3 4 0) 21 1001 (-1)) k = g0 k := fun k a _ c _ => by
      unfold dl_fi
      rw [if_neg c, ma_s2r _ _ _ _ a, ma_s2r _ _ _ _ a]
    have h8 : (dl_fi (dl_s2 (dl_s2 g0 3 8 (g0 1 17)) 3 4 0) 21 1001 (-1)) 3 8 = g0 1 17 := by
      unfold dl_fi
      rw [if_neg (by decide), ma_s2n _ _ (by omega), ma_s2s]
    have h4 : (dl_fi (dl_s2 (dl_s2 g0 3 8 (g0 1 17)) 3 4 0) 21 1001 (-1)) 3 4 = 0 := by
      unfold dl_fi
      rw [if_neg (by decide), ma_s2s]
    have h21 : ∀ w, w ≤ 1000 → (dl_fi (dl_s2 (dl_s2 g0 3 8 (g0 1 17)) 3 4 0) 21 1001 (-1)) 21 w = -1 := fun w hw => by
      unfold dl_fi
      rw [if_pos rfl]
      unfold dl_fill
      rw [if_pos (by omega)]
    have h9 : (dl_fi (dl_s2 (dl_s2 g0 3 8 (g0 1 17)) 3 4 0) 21 1001 (-1)) 9 = g0 9 := by
      unfold dl_fi
      rw [if_neg (by decide), ma_s2r _ _ _ _ (by decide), ma_s2r _ _ _ _ (by decide)]
    generalize dl_fi (dl_s2 (dl_s2 g0 3 8 (g0 1 17)) 3 4 0) 21 1001 (-1) = g3 at hf h8 h4 h21 h9
    have hal3 : ac_al g3 := by
      unfold ac_al dl_al
      rw [h9]; exact hal
    have hC3 : en_C E g3 := hC.same (fun i _ _ => by rw [hf 1 (by omega) (by omega) (by omega) (by omega)]) (fun k h1 h2 => hf k (by omega) (by omega) (by omega) (by omega)) (fun k h1 h2 => hf k (by omega) (by omega) (by omega) (by omega))
    rw [hC3.taps]
    by_cases c1 : en_taps E = 0
    · rw [if_pos c1]
      have hno : tr_no E := fun X h => by
        obtain ⟨⟨p, hp⟩, _⟩ := h.2.2.2
        have := (htap p).mpr hp
        rw [c1, b_0] at this
        cases this
      exact ma_some ⟨hf, h8, ⟨⟨[], fun X => ⟨fun q => (by cases q), fun q => absurd q (hno X)⟩, fun w hw => Or.inl ⟨h21 w hw, fun X hX => (by cases hX)⟩⟩, Or.inl ⟨hno, h4⟩⟩, hal3⟩
    · rw [if_neg c1]
      obtain ⟨r, r1, r2, _, r4, _⟩ := ma_ntz ((en_taps_lo ho).up (by omega)) c1
      have hr := (htap r).mp r2
      have hrn : r < en_n E := hr.1
      rw [dl_bi_e r4, ma_nme, ma_gde (ma_in_t (by omega) (by omega)), nI_clamp (by omega)]
      have hI0 : tg_I E r 0 ((1 : Int32) <<< (nI r &&& 31)) := tg_I0 (by omega)
      have hO : ∀ i, bt (g3 12 r) i = true ↔ bt (en_t E) i = true ∧ (en_a E i = r ∨ en_b E i = r) := fun i => by
        rw [hC3.of (by omega), Bool.and_eq_true, Bool.or_eq_true, decide_eq_true_iff, decide_eq_true_iff]
      have hPr : ∀ x, bt ((1 : Int32) <<< (nI r &&& 31)) x = true ↔ x = r := fun x => by rw [ma_b1 (by omega), decide_eq_true_iff]
      have z1 : fl_co E 0 = 0 := by
        unfold fl_co fl_cs fl_ps
        rw [fb_sm_cong (g := fun _ => 0) (fun k _ => by rw [b_0, if_neg (by decide)]), fb_sm_cong (g := fun _ => 0) (n := en_n E) (fun k _ => by
          rw [if_neg]
          rw [en_ends_b ho (Nat.le_refl _)]
          rintro ⟨s, _, q, _⟩
          rw [b_0] at q; cases q), fb_sm_const, fb_sm_const]
        omega
      have z2 : fl_wo E 0 = 0 := by
        unfold fl_wo fl_ws
        rw [fb_sm_cong (g := fun _ => 0) (n := en_n E) (fun k _ => by
          rw [if_neg]
          rw [en_ends_b ho (Nat.le_refl _)]
          rintro ⟨s, _, q, _⟩
          rw [b_0] at q; cases q), fb_sm_const]
        omega
      have hct : fb_ct (bt ((1 : Int32) <<< (nI r &&& 31))) 10 = 0 + 1 := ma_ct_one.mpr ⟨r, by omega, (hPr r).mpr rfl, fun j _ q => (hPr j).mp q⟩
      obtain ⟨g6, e6, f6, l, a1, a2, a3⟩ := ma_grow (N := N) (by omega) ho hr hC3 11 0 (by omega) (by omega) 0 ((1 : Int32) <<< (nI r &&& 31)) (g3 12 r) [] g3 (ma_ft.rf _) hI0 (fun s q => by
        obtain ⟨q1, q2⟩ := (hO s).mp q
        exact ⟨q1, q2.imp (fun z => (hPr _).mpr z) (fun z => (hPr _).mpr z)⟩) hct ⟨hal3, fun w hw => Or.inl ⟨h21 w hw, fun X hX => (by cases hX)⟩, Or.inl ⟨rfl, h4⟩⟩ List.nodup_nil (fun X hX => (by cases hX))
      rw [z1, z2] at e6
      rw [List.nil_append] at a1 a2
      have hl : ∀ X, X ∈ l ↔ tr_set E X := fun X => by
        rw [a3, tr_set_T ho hr]
        refine ⟨fun q => q.1, fun q => ⟨q, fun i w => (by rw [b_0] at w; cases w), fun s w z => ?_⟩⟩
        obtain ⟨P, q1, _⟩ := q
        exact Or.inr ((hO s).mpr ⟨q1.1 s w, z.imp (fun y => (hPr _).mp y) (fun y => (hPr _).mp y)⟩)
      have e6 : cl6_grow N 12 g3 (0 : Int32) ((1 : Int32) <<< (nI r &&& 31)) (g3 12 r) (0 : Int32) (0 : Int32) (0 : Int32) = some g6 := e6
      rw [dl_bi_e e6]
      obtain ⟨al6, ch6, be6⟩ := a1
      have hfr : ∀ k, k ≠ 3 → k ≠ 9 → k ≠ 21 → k ≠ 33 → g6 k = g0 k := fun k a b c d => (f6.1 k a b c d).trans (hf k a b c d)
      -- the order
      have fin : ∀ (b : List Int32), g6 3 4 = nI b.length → b.length ≤ dl_al g6 → b.Nodup → (∀ X, X ∈ b → ma_lo X 16) → ma_rowL b (g6 33) → ma_wp (dl_bi (cl6_putInOrder N 20 g6 (0 : Int32) (g6 3 4) (0 : Int32)) fun g7 => some g7) (fun g => (∀ k, k ≠ 33 → g k = g6 k) ∧ ∃ b', b'.length = b.length ∧ (∀ X, X ∈ b' ↔ X ∈ b) ∧ b'.Pairwise ah ∧ ma_rowL b' (g 33)) := by
        intro b b1 b2 b3 b4 b5
        rw [b1]
        have inj : ∀ i j, sg_in 0 b.length i → sg_in 0 b.length j → g6 33 i = g6 33 j → i = j := fun i j hi hj e => by
          have e2 : b[i]? = b[j]? := by rw [b5 i hi.2, b5 j hj.2, e]
          rw [List.getElem?_eq_getElem hi.2, List.getElem?_eq_getElem hj.2] at e2
          have e3 := Option.some.inj e2
          have hp := List.pairwise_iff_getElem.mp b3
          rcases Nat.lt_trichotomy i j with w | w | w
          · exact absurd e3 (hp i j hi.2 hj.2 w)
          · exact w
          · exact absurd e3.symm (hp j i hj.2 hi.2 w)
        obtain ⟨g7, e7, q1, q2, q3⟩ := ma_order (N := N) al6.2.2 hN 19 0 (by omega) (by omega) 0 b.length g6 (Nat.zero_le _) b2 rfl ⟨fun i hi => b4 _ ((ma_rowL_mem b5 _).mpr ⟨i, hi.2, rfl⟩), fun i j _ _ t ht => absurd ht (Nat.not_lt_zero t), inj⟩
        have e7 : cl6_putInOrder N 20 g6 (0 : Int32) (nI b.length) (0 : Int32) = some g7 := e7
        rw [dl_bi_e e7]
        have el : ((List.range b.length).map (g7 33)).length = b.length := by rw [List.length_map, List.length_range]
        refine ma_some ⟨q1, (List.range b.length).map (g7 33), el, fun X => ?_, ?_, ma_range⟩
        · rw [ma_rowL_mem ma_range, ma_rowL_mem b5, el]
          constructor
          · rintro ⟨i, i1, i2⟩
            obtain ⟨j, j1, j2⟩ := q2.2.1 i ⟨Nat.zero_le _, i1⟩
            exact ⟨j, j1.2, j2.symm.trans i2⟩
          · rintro ⟨i, i1, i2⟩
            obtain ⟨j, j1, j2⟩ := q2.2.2.1 i ⟨Nat.zero_le _, i1⟩
            exact ⟨j, j1.2, j2.symm.trans i2⟩
        · rw [List.pairwise_iff_getElem]
          intro i j hi hj hij
          rw [List.getElem_map, List.getElem_map, List.getElem_range, List.getElem_range]
          rw [el] at hi hj
          exact q3 i j ⟨Nat.zero_le _, hi⟩ ⟨Nat.zero_le _, hj⟩ hij
      rcases be6 with ⟨e0, e4⟩ | ⟨t, m1, m2, m3, m4, m5, m6, m7⟩
      · refine ma_mono (fin [] (by rw [e4]; rfl) (Nat.zero_le _) List.nodup_nil (fun X hX => (by cases hX)) (fun i hi => absurd hi (by simp))) ?_
        rintro g ⟨q1, _⟩
        refine ⟨fun k a b c d => (q1 k d).trans (hfr k a b c d), ?_, ⟨⟨l, hl, by rw [q1 21 (by decide)]; exact ch6⟩, Or.inl ⟨fun X h => ?_, by rw [q1 3 (by decide)]; exact e4⟩⟩, ?_⟩
        · rw [q1 3 (by decide)]; exact f6.2.trans h8
        · rw [← hl, e0] at h; cases h
        · unfold ac_al dl_al
          rw [q1 9 (by decide)]; exact al6
      · have hbl := List.length_filter_le (fun X => decide (tg_tag E X = t)) l
        have hlen := ma_len a2 (fun X hX => tg_lo ho ((tr_set_T ho hr X).mp ((hl X).mp hX)))
        have hmem : ∀ X, X ∈ ac_B E l t ↔ tr_set E X ∧ tg_tag E X = t := fun X => by
          unfold ac_B
          rw [List.mem_filter, hl, decide_eq_true_iff]
        refine ma_mono (fin (ac_B E l t) m3 m4 (List.Nodup.sublist List.filter_sublist a2) (fun X hX => tg_lo ho ((tr_set_T ho hr X).mp ((hmem X).mp hX).1)) m5) ?_
        rintro g ⟨q1, b', q2, q3, q4, q5⟩
        obtain ⟨n1, X0, n2, n3⟩ := m1
        refine ⟨fun k a b c d => (q1 k d).trans (hfr k a b c d), ?_, ⟨⟨l, hl, by rw [q1 21 (by decide)]; exact ch6⟩, Or.inr ⟨t, b', ⟨fun X hX => n1 X ((hl X).mpr hX), ⟨X0, (hl X0).mp n2, n3⟩, fun X => (q3 X).trans (hmem X), q4⟩, ?_, ?_, ?_, ?_, q5, fun s => ?_, fun s => ?_⟩⟩, ?_⟩
        · rw [q1 3 (by decide)]; exact f6.2.trans h8
        · rw [q1 3 (by decide)]; exact m2
        · rw [q1 3 (by decide), q2]; exact m3
        · rw [q2]; unfold dl_al; rw [q1 9 (by decide)]; exact m4
        · rw [q2]; exact Nat.le_trans hbl hlen
        · rw [q1 3 (by decide), m6]
          exact ⟨fun z => ⟨z.1, fun X hX => z.2 X ((q3 X).mp hX)⟩, fun z => ⟨z.1, fun X hX => z.2 X ((q3 X).mpr hX)⟩⟩
        · rw [q1 3 (by decide), m7]
          exact ⟨fun ⟨X, z1, z2⟩ => ⟨X, (q3 X).mpr z1, z2⟩, fun ⟨X, z1, z2⟩ => ⟨X, (q3 X).mp z1, z2⟩⟩
        · unfold ac_al dl_al
          rw [q1 9 (by decide)]; exact al6
end
