/-! The mathematics: the trees weighed, one behind the other -/
noncomputable def tg_tag (E : ma_E) (X : Int32) : Int := (fl_co E X : Int) - fl_wo E X
def ac_min (E : ma_E) (l : List Int32) (t : Int) : Prop := (∀ X, X ∈ l → t ≤ tg_tag E X) ∧ ∃ X, X ∈ l ∧ tg_tag E X = t
noncomputable def ac_B (E : ma_E) (l : List Int32) (t : Int) : List Int32 := l.filter (fun X => decide (tg_tag E X = t))
def ma_rowL (l : List Int32) (f : Nat → Int32) : Prop := ∀ i, i < l.length → l[i]? = some (f i)
def ac_ch (E : ma_E) (l : List Int32) (f : Nat → Int32) : Prop := ∀ w, w ≤ 1000 → (f w = -1 ∧ ∀ X, X ∈ l → fl_wo E X ≠ w) ∨ ∃ c, f w = nI c ∧ (∃ X, X ∈ l ∧ fl_wo E X = w ∧ fl_co E X = c) ∧ ∀ X, X ∈ l → fl_wo E X = w → c ≤ fl_co E X
def ac_be (E : ma_E) (l : List Int32) (g : dl_Sg) : Prop := (l = [] ∧ g 3 4 = 0) ∨ ∃ t, ac_min E l t ∧ (g 3 5).toInt = t ∧ g 3 4 = nI (ac_B E l t).length ∧ (ac_B E l t).length ≤ dl_al g ∧ ma_rowL (ac_B E l t) (g 33) ∧ (∀ s, bt (g 3 6) s = true ↔ s < 32 ∧ ∀ X, X ∈ ac_B E l t → bt X s = true) ∧ (∀ s, bt (g 3 7) s = true ↔ ∃ X, X ∈ ac_B E l t ∧ bt X s = true)
def ac_al (g : dl_Sg) : Prop := g 9 0 = nI (dl_al g) ∧ 64 ≤ dl_al g ∧ dl_al g ≤ 131072
/-- the class's rows hold the trees weighed so far -/
def ac_ok (E : ma_E) (l : List Int32) (g : dl_Sg) : Prop := ac_al g ∧ ac_ch E l (g 21) ∧ ac_be E l g
def ma_ft (g g0 : dl_Sg) : Prop := (∀ k, k ≠ 3 → k ≠ 9 → k ≠ 21 → k ≠ 33 → g k = g0 k) ∧ g 3 8 = g0 3 8
section
variable {E : ma_E}
theorem ma_ft.rf (g : dl_Sg) : ma_ft g g := ⟨fun _ _ _ _ _ => rfl, rfl⟩
theorem ma_ft.t {g g1 g0 : dl_Sg} (h : ma_ft g g1) (h2 : ma_ft g1 g0) : ma_ft g g0 := ⟨fun k a b c d => (h.1 k a b c d).trans (h2.1 k a b c d), h.2.trans h2.2⟩
theorem ma_ft.s (g : dl_Sg) {k : Nat} (hk : k = 21 ∨ k = 33) (i : Nat) (v : Int32) : ma_ft (dl_s2 g k i v) g := ⟨fun k' a b c d => if_neg (by omega), by rw [ma_s2, if_neg (by omega)]⟩
theorem ma_ft.s3 (g : dl_Sg) {i : Nat} (hi : i ≠ 8) (v : Int32) : ma_ft (dl_s2 g 3 i v) g := ⟨fun k' a b c d => if_neg a, by rw [ma_s2, if_neg (by omega)]⟩
theorem ma_ft.C {g g0 : dl_Sg} (h : ma_ft g g0) (hC : en_C E g0) : en_C E g :=
  hC.same (fun i _ _ => by rw [h.1 1 (by omega) (by omega) (by omega) (by omega)]) (fun k h1 h2 => h.1 k (by omega) (by omega) (by omega) (by omega)) (fun k h1 h2 => h.1 k (by omega) (by omega) (by omega) (by omega))
theorem ma_rowL.add {l : List Int32} {f : Nat → Int32} (h : ma_rowL l f) (X : Int32) : ma_rowL (l ++ [X]) (upd f l.length X) := fun i hi => by
  rw [List.length_append, List.length_singleton] at hi
  by_cases e : i = l.length
  · subst e
    rw [pk_us]
    simp
  · rw [pk_un e, List.getElem?_append_left (by omega)]
    exact h i (by omega)
theorem dl_al_s2 (g : dl_Sg) {k : Nat} (hk : k ≠ 9) (i : Nat) (v : Int32) : dl_al (dl_s2 g k i v) = dl_al g := by
  unfold dl_al
  rw [ma_s2r _ _ _ _ (Ne.symm hk)]
/-- one is kept: its rows -/
theorem ma_keep {g0 : dl_Sg} {b : List Int32} {X : Int32} (ha : ac_al g0) (h4 : g0 3 4 = nI b.length) (hb : b.length ≤ dl_al g0) (hl : b.length < 65536) (hr : ma_rowL b (g0 33)) : ma_wp (cl6_keep g0 X) (fun g => ma_ft g g0 ∧ ac_al g ∧ b.length + 1 ≤ dl_al g ∧ g 3 4 = nI (b.length + 1) ∧ g 3 5 = g0 3 5 ∧ g 3 6 = (g0 3 6) &&& X ∧ g 3 7 = (g0 3 7) ||| X ∧ g 21 = g0 21 ∧ ma_rowL (b ++ [X]) (g 33)) := by
  obtain ⟨a1, a2, a3⟩ := ha
  have key : ∀ g1 : dl_Sg, ma_ft g1 g0 → ac_al g1 → b.length < dl_al g1 → (∀ i, g1 3 i = g0 3 i) → g1 21 = g0 21 → ma_rowL b (g1 33) → ma_wp (cl6_keep_b30 X g1) (fun g => ma_ft g g0 ∧ ac_al g ∧ b.length + 1 ≤ dl_al g ∧ g 3 4 = nI (b.length + 1) ∧ g 3 5 = g0 3 5 ∧ g 3 6 = (g0 3 6) &&& X ∧ g 3 7 = (g0 3 7) ||| X ∧ g 21 = g0 21 ∧ ma_rowL (b ++ [X]) (g 33)) := by
    intro g1 f1 b1 b2 b3 b4 b5
    have b13 := b1.2.2
    unfold cl6_keep_b30
    rw [b3 4, h4, show (g1 9 0).toNatClampNeg = dl_al g1 from rfl, ma_gde (ma_in_t b2 (by omega)), ma_nme, ma_wr _ (by omega), ma_nme, ma_nme, ma_nme]
    have z : ∀ i, dl_s2 g1 33 b.length X 3 i = g0 3 i := fun i => by rw [ma_s2r _ _ _ _ (by decide)]; exact b3 i
    refine ma_some ⟨(ma_ft.s3 _ (by decide) _).t ((ma_ft.s3 _ (by decide) _).t ((ma_ft.s3 _ (by decide) _).t ((ma_ft.s _ (by omega) _ _).t f1))), ⟨?_, ?_, ?_⟩, ?_, ?_, ?_, ?_, ?_, ?_, ?_⟩
    · rw [dl_al_s2 _ (by decide), dl_al_s2 _ (by decide), dl_al_s2 _ (by decide), dl_al_s2 _ (by decide), ma_s2r _ _ _ _ (by decide), ma_s2r _ _ _ _ (by decide), ma_s2r _ _ _ _ (by decide), ma_s2r _ _ _ _ (by decide)]; exact b1.1
    · rw [dl_al_s2 _ (by decide), dl_al_s2 _ (by decide), dl_al_s2 _ (by decide), dl_al_s2 _ (by decide)]; exact b1.2.1
    · rw [dl_al_s2 _ (by decide), dl_al_s2 _ (by decide), dl_al_s2 _ (by decide), dl_al_s2 _ (by decide)]; exact b1.2.2
    · rw [dl_al_s2 _ (by decide), dl_al_s2 _ (by decide), dl_al_s2 _ (by decide), dl_al_s2 _ (by decide)]; exact b2
    · rw [ma_s2n _ _ (by omega), ma_s2n _ _ (by omega), ma_s2s, z, h4, nI_1]
    · rw [ma_s2n _ _ (by omega), ma_s2n _ _ (by omega), ma_s2n _ _ (by omega), z]
    · rw [ma_s2n _ _ (by omega), ma_s2s, ma_s2n _ _ (by omega), z]
    · rw [ma_s2s, ma_s2n _ _ (by omega), ma_s2n _ _ (by omega), z]
    · rw [ma_s2r _ _ _ _ (by decide), ma_s2r _ _ _ _ (by decide), ma_s2r _ _ _ _ (by decide), ma_s2r _ _ _ _ (by decide)]; exact b4
    · rw [ma_s2r _ _ _ _ (by decide), ma_s2r _ _ _ _ (by decide), ma_s2r _ _ _ _ (by decide)]
      rw [show dl_s2 g1 33 b.length X 33 = upd (g1 33) b.length X from if_pos rfl]
      exact b5.add X
  unfold cl6_keep
  rw [h4, show Int32.ofNat (dl_al g0) = nI (dl_al g0) from rfl]
  by_cases c : b.length < dl_al g0
  · rw [if_pos ((ma_lt (by omega) (by omega)).mpr c)]
    exact key g0 (ma_ft.rf _) ⟨a1, a2, a3⟩ c (fun _ => rfl) rfl hr
  · rw [if_neg (fun q => c ((ma_lt (by omega) (by omega)).mp q)), ma_gde (show dl_kok g0 = true from decide_eq_true (show 0 < dl_al g0 ∧ 2 * dl_al g0 ≤ 67108864 by omega)), ma_nme]
    have e9 : dl_g33 g0 9 0 = nI (2 * dl_al g0) := by
      unfold dl_g33
      rw [if_neg (by decide), if_pos rfl, pk_us]
    have eal : dl_al (dl_g33 g0) = 2 * dl_al g0 := by
      show (dl_g33 g0 9 0).toNatClampNeg = _
      rw [e9, nI_clamp (by omega)]
    have eo : ∀ k, k ≠ 33 → k ≠ 9 → dl_g33 g0 k = g0 k := fun k p q => by
      unfold dl_g33
      rw [if_neg p, if_neg q]
    refine key (dl_g33 g0) ⟨fun k p q _ s => eo k s q, by rw [eo 3 (by decide) (by decide)]⟩ ⟨by rw [e9, eal], by omega, by omega⟩ (by omega) (fun i => by rw [eo 3 (by decide) (by decide)]) (eo 21 (by decide) (by decide)) (fun i hi => ?_)
    rw [hr i hi]
    congr 1
    unfold dl_g33
    rw [if_pos rfl]
    unfold dl_cof
    rw [pk_cpy_in (by omega) (by omega)]
    congr 1
    omega
theorem tg_tag_I (ho : en_ok E) (X : Int32) : (fl_tg E X).toInt = tg_tag E X := fl_tg_I ho
/-- a tree is weighed -/
theorem ma_weigh (ho : en_ok E) {g0 : dl_Sg} {l : List Int32} {X : Int32} (h : ac_ok E l g0) (hl : l.length < 65536) (hX : ma_lo X 32) : ma_wp (cl6_weigh g0 X (nI (fl_co E X)) (nI (fl_wo E X))) (fun g => ma_ft g g0 ∧ ac_ok E (l ++ [X]) g) := by
  have hw := fl_wo_le (T := X) ho
  have hc := fl_co_le (T := X) ho
  obtain ⟨ha, hch, hbe⟩ := h
  -- the second half
  have half : ∀ g1 : dl_Sg, ma_ft g1 g0 → ac_al g1 → ac_ch E (l ++ [X]) (g1 21) → (∀ i, g1 3 i = g0 3 i) → g1 33 = g0 33 → dl_al g1 = dl_al g0 → ma_wp (cl6_weigh_b39 X (nI (fl_co E X)) (nI (fl_wo E X)) g1) (fun g => ma_ft g g0 ∧ ac_ok E (l ++ [X]) g) := by
    intro g1 f1 f2 f3 f4 f5 f6
    unfold cl6_weigh_b39
    rw [ma_nme, show nI (fl_co E X) - nI (fl_wo E X) = fl_tg E X from rfl, f4 4, f4 5]
    -- a new least one
    have new : (∀ Y, Y ∈ l → tg_tag E X < tg_tag E Y) → ma_wp (cl6_weigh_b60 X (fl_tg E X) g1) (fun g => ma_ft g g0 ∧ ac_ok E (l ++ [X]) g) := by
      intro hlt
      unfold cl6_weigh_b60 cl6_weigh_b81
      rw [ma_nme, ma_nme, ma_nme, ma_nme]
      have hf : ma_ft (dl_s2 (dl_s2 (dl_s2 (dl_s2 g1 3 5 (fl_tg E X)) 3 4 0) 3 6 X) 3 7 X) g0 := (ma_ft.s3 _ (by decide) _).t ((ma_ft.s3 _ (by decide) _).t ((ma_ft.s3 _ (by decide) _).t ((ma_ft.s3 _ (by decide) _).t f1)))
      have e5 : (dl_s2 (dl_s2 (dl_s2 (dl_s2 g1 3 5 (fl_tg E X)) 3 4 0) 3 6 X) 3 7 X) 3 5 = fl_tg E X := by
        rw [ma_s2n _ _ (by omega), ma_s2n _ _ (by omega), ma_s2n _ _ (by omega), ma_s2s]
      have e4 : (dl_s2 (dl_s2 (dl_s2 (dl_s2 g1 3 5 (fl_tg E X)) 3 4 0) 3 6 X) 3 7 X) 3 4 = nI ([] : List Int32).length := by
        rw [ma_s2n _ _ (by omega), ma_s2n _ _ (by omega), ma_s2s]; rfl
      have e6 : (dl_s2 (dl_s2 (dl_s2 (dl_s2 g1 3 5 (fl_tg E X)) 3 4 0) 3 6 X) 3 7 X) 3 6 = X := by
        rw [ma_s2n _ _ (by omega), ma_s2s]
      have e7 : (dl_s2 (dl_s2 (dl_s2 (dl_s2 g1 3 5 (fl_tg E X)) 3 4 0) 3 6 X) 3 7 X) 3 7 = X := ma_s2s _ _ _ _
      have e21 : (dl_s2 (dl_s2 (dl_s2 (dl_s2 g1 3 5 (fl_tg E X)) 3 4 0) 3 6 X) 3 7 X) 21 = g1 21 := by
        rw [ma_s2r _ _ _ _ (by decide), ma_s2r _ _ _ _ (by decide), ma_s2r _ _ _ _ (by decide), ma_s2r _ _ _ _ (by decide)]
      have eal : ac_al (dl_s2 (dl_s2 (dl_s2 (dl_s2 g1 3 5 (fl_tg E X)) 3 4 0) 3 6 X) 3 7 X) := by
        unfold ac_al
        rw [dl_al_s2 _ (by decide), dl_al_s2 _ (by decide), dl_al_s2 _ (by decide), dl_al_s2 _ (by decide), ma_s2r _ _ _ _ (by decide), ma_s2r _ _ _ _ (by decide), ma_s2r _ _ _ _ (by decide), ma_s2r _ _ _ _ (by decide)]
        exact f2
      generalize dl_s2 (dl_s2 (dl_s2 (dl_s2 g1 3 5 (fl_tg E X)) 3 4 0) 3 6 X) 3 7 X = g2 at hf e5 e4 e6 e7 e21 eal
      rw [e5, if_pos rfl]
      obtain ⟨g3, e3, k1, k2, k3, k4, k5, k6, k7, k8, k9⟩ := ma_keep (X := X) (b := []) eal e4 (Nat.zero_le _) (by simp) (fun i hi => absurd hi (by simp))
      rw [dl_bi_e e3]
      have eB : ac_B E (l ++ [X]) (tg_tag E X) = [X] := by
        unfold ac_B
        rw [List.filter_append]
        have : l.filter (fun Y => decide (tg_tag E Y = tg_tag E X)) = [] := by
          rw [List.filter_eq_nil_iff]
          intro Y hY q
          have := hlt Y hY
          have := of_decide_eq_true q
          omega
        rw [this]
        simp
      refine ma_some ⟨k1.t hf, k2, by rw [k8, e21]; exact f3, Or.inr ⟨tg_tag E X, ⟨fun Y hY => ?_, X, by simp, rfl⟩, ?_, ?_, ?_, ?_, fun s => ?_, fun s => ?_⟩⟩
      · rw [List.mem_append, List.mem_singleton] at hY
        rcases hY with hY | hY
        · have := hlt Y hY; omega
        · rw [hY]; exact Int.le_refl _
      · rw [k5, e5]; exact tg_tag_I ho X
      · rw [eB, k4]; rfl
      · rw [eB]; exact k3
      · rw [eB]; exact k9
      · rw [eB, k6, e6, b_and, Bool.and_self]
        exact ⟨fun q => ⟨hX.lt q, fun Y hY => by rw [List.mem_singleton] at hY; rw [hY]; exact q⟩, fun q => q.2 X (by simp)⟩
      · rw [eB, k7, e7, b_or, Bool.or_self]
        exact ⟨fun q => ⟨X, by simp, q⟩, fun ⟨Y, hY, q⟩ => by rw [List.mem_singleton] at hY; rw [← hY]; exact q⟩
    rcases hbe with ⟨b1, b2⟩ | ⟨t, b1, b2, b3, b4, b5, b6, b7⟩
    · rw [if_pos b2]
      exact new (fun Y hY => by rw [b1] at hY; cases hY)
    · obtain ⟨m1, Y0, m2, m3⟩ := b1
      have hBl : (ac_B E l t).length ≤ l.length := List.length_filter_le _ _
      have hpos : 0 < (ac_B E l t).length := List.length_pos_of_mem (show Y0 ∈ ac_B E l t from List.mem_filter.mpr ⟨m2, decide_eq_true m3⟩)
      rw [b3, if_neg (nI_ne0 hpos (by omega))]
      have ecmp : g0 3 5 ≤ fl_tg E X ↔ t ≤ tg_tag E X := by rw [fa_le, b2, tg_tag_I ho]
      by_cases c1 : t ≤ tg_tag E X
      · rw [if_pos (ecmp.mpr c1)]
        unfold cl6_weigh_b81
        rw [f4 5]
        have eeq : fl_tg E X = g0 3 5 ↔ tg_tag E X = t := by rw [fa_eq, b2, tg_tag_I ho]
        by_cases c2 : tg_tag E X = t
        · rw [if_pos (eeq.mpr c2)]
          obtain ⟨g3, e3, k1, k2, k3, k4, k5, k6, k7, k8, k9⟩ := ma_keep (g0 := g1) (X := X) (b := ac_B E l t) f2 (by rw [f4 4]; exact b3) (by rw [f6]; exact b4) (by omega) (by rw [f5]; exact b5)
          rw [dl_bi_e e3]
          have eB : ac_B E (l ++ [X]) t = ac_B E l t ++ [X] := by
            unfold ac_B
            rw [List.filter_append]
            congr 1
            simp [c2]
          refine ma_some ⟨k1.t f1, k2, by rw [k8]; exact f3, Or.inr ⟨t, ⟨fun Y hY => ?_, X, by simp, c2⟩, ?_, ?_, ?_, ?_, fun s => ?_, fun s => ?_⟩⟩
          · rw [List.mem_append, List.mem_singleton] at hY
            rcases hY with hY | hY
            · exact m1 Y hY
            · rw [hY]; exact c1
          · rw [k5, f4 5]; exact b2
          · rw [eB, k4, List.length_append]; rfl
          · rw [eB, List.length_append]; exact k3
          · rw [eB]; exact k9
          · rw [eB, k6, b_and, Bool.and_eq_true, f4 6, b6]
            constructor
            · rintro ⟨⟨q1, q2⟩, q3⟩
              refine ⟨q1, fun Y hY => ?_⟩
              rw [List.mem_append, List.mem_singleton] at hY
              rcases hY with hY | hY
              · exact q2 Y hY
              · rw [hY]; exact q3
            · rintro ⟨q1, q2⟩
              exact ⟨⟨q1, fun Y hY => q2 Y (List.mem_append_left _ hY)⟩, q2 X (by simp)⟩
          · rw [eB, k7, b_or, Bool.or_eq_true, f4 7, b7]
            constructor
            · rintro (⟨Y, q1, q2⟩ | q)
              · exact ⟨Y, List.mem_append_left _ q1, q2⟩
              · exact ⟨X, by simp, q⟩
            · rintro ⟨Y, q1, q2⟩
              rw [List.mem_append, List.mem_singleton] at q1
              rcases q1 with q1 | q1
              · exact Or.inl ⟨Y, q1, q2⟩
              · rw [q1] at q2; exact Or.inr q2
        · rw [if_neg (fun q => c2 (eeq.mp q))]
          have eB : ac_B E (l ++ [X]) t = ac_B E l t := by
            unfold ac_B
            rw [List.filter_append]
            simp [c2]
          refine ma_some ⟨f1, f2, f3, Or.inr ⟨t, ⟨fun Y hY => ?_, Y0, List.mem_append_left _ m2, m3⟩, ?_, ?_, ?_, ?_, ?_, ?_⟩⟩
          · rw [List.mem_append, List.mem_singleton] at hY
            rcases hY with hY | hY
            · exact m1 Y hY
            · rw [hY]; exact c1
          · rw [f4 5]; exact b2
          · rw [eB, f4 4]; exact b3
          · rw [eB, f6]; exact b4
          · rw [eB, f5]; exact b5
          · rw [eB, f4 6]; exact b6
          · rw [eB, f4 7]; exact b7
      · rw [if_neg (fun q => c1 (ecmp.mp q))]
        refine new (fun Y hY => ?_)
        have := m1 Y hY
        omega
  unfold cl6_weigh
  rw [if_neg (nI_pos (by omega)), if_pos (show nI (fl_wo E X) ≤ (1000 : Int32) from (ma_le (b := 1000) (by omega) (by omega)).mpr hw), ma_gde (ma_in_t (by omega) (by omega)), nI_clamp (by omega), ma_gde (ma_in_t (by omega) (by omega))]
  -- a new cheapest one
  have put : (∀ Y, Y ∈ l → fl_wo E Y = fl_wo E X → fl_co E X ≤ fl_co E Y) → ma_wp (cl6_weigh_b32 X (nI (fl_co E X)) (nI (fl_wo E X)) g0) (fun g => ma_ft g g0 ∧ ac_ok E (l ++ [X]) g) := by
    intro hle
    unfold cl6_weigh_b32
    rw [ma_gde (ma_in_t (by omega) (by omega)), ma_nme, ma_wr _ (by omega)]
    refine half _ (ma_ft.s _ (by omega) _ _) ⟨by rw [dl_al_s2 _ (by decide), ma_s2r _ _ _ _ (by decide)]; exact ha.1, by rw [dl_al_s2 _ (by decide)]; exact ha.2.1, by rw [dl_al_s2 _ (by decide)]; exact ha.2.2⟩ (fun w hw1 => ?_) (fun i => by rw [ma_s2r _ _ _ _ (by decide)]) (ma_s2r _ _ _ _ (by decide)) (dl_al_s2 _ (by decide) _ _)
    rw [ma_s2]
    by_cases e : w = fl_wo E X
    · rw [if_pos ⟨rfl, e⟩]
      refine Or.inr ⟨_, rfl, ⟨X, by simp, e.symm, rfl⟩, fun Y hY q => ?_⟩
      rw [List.mem_append, List.mem_singleton] at hY
      rcases hY with hY | hY
      · exact hle Y hY (q.trans e)
      · rw [hY]; exact Nat.le_refl _
    · rw [if_neg (fun q => e q.2)]
      rcases hch w hw1 with ⟨q1, q2⟩ | ⟨c, q1, ⟨Y, q2, q3⟩, q4⟩
      · refine Or.inl ⟨q1, fun Y hY => ?_⟩
        rw [List.mem_append, List.mem_singleton] at hY
        rcases hY with hY | hY
        · exact q2 Y hY
        · rw [hY]; exact fun z => e z.symm
      · refine Or.inr ⟨c, q1, ⟨Y, List.mem_append_left _ q2, q3⟩, fun Z hZ z => ?_⟩
        rw [List.mem_append, List.mem_singleton] at hZ
        rcases hZ with hZ | hZ
        · exact q4 Z hZ z
        · rw [hZ] at z; exact absurd z.symm e
  rcases hch _ hw with ⟨q1, q2⟩ | ⟨c, q1, ⟨Y, q2, q3, q3'⟩, q4⟩
  · rw [if_pos q1]
    exact put (fun Y hY z => absurd z (q2 Y hY))
  · have hcY := fl_co_le (T := Y) ho
    rw [q1, if_neg (ma_m1 (by omega))]
    by_cases c1 : c ≤ fl_co E X
    · rw [if_pos ((ma_le (by omega) (by omega)).mpr c1)]
      refine half g0 (ma_ft.rf _) ha (fun w hw1 => ?_) (fun _ => rfl) rfl rfl
      by_cases e : w = fl_wo E X
      · refine Or.inr ⟨c, by rw [e]; exact q1, ⟨Y, List.mem_append_left _ q2, by rw [e]; exact q3, q3'⟩, fun Z hZ z => ?_⟩
        rw [List.mem_append, List.mem_singleton] at hZ
        rcases hZ with hZ | hZ
        · exact q4 Z hZ (z.trans e)
        · rw [hZ]; exact c1
      · rcases hch w hw1 with ⟨p1, p2⟩ | ⟨c', p1, ⟨Z, p2, p3⟩, p4⟩
        · refine Or.inl ⟨p1, fun Z hZ => ?_⟩
          rw [List.mem_append, List.mem_singleton] at hZ
          rcases hZ with hZ | hZ
          · exact p2 Z hZ
          · rw [hZ]; exact fun z => e z.symm
        · refine Or.inr ⟨c', p1, ⟨Z, List.mem_append_left _ p2, p3⟩, fun W hW z => ?_⟩
          rw [List.mem_append, List.mem_singleton] at hW
          rcases hW with hW | hW
          · exact p4 W hW z
          · rw [hW] at z; exact absurd z.symm e
    · rw [if_neg (fun q => c1 ((ma_le (by omega) (by omega)).mp q))]
      refine put (fun Z hZ z => ?_)
      have := q4 Z hZ z
      omega
end
