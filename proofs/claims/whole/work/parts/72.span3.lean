/-! The mathematics: the span, as the reference works it out -/
section
variable {E : ma_E} {N : Nat}
/-- the best pair among those seen -/
def sp_P (E : ma_E) (S : Nat → Prop) (X : Nat → Nat → Prop) (x : Int32 × Int32) : Prop := (x.1 = nI ds_F ∧ x.2 = -1 ∧ ∀ b a, X b a → S b → sp_tap E a → ¬ S a → ds_F ≤ ds_d E b a) ∨ ∃ b0 a0, S b0 ∧ sp_tap E a0 ∧ ¬ S a0 ∧ x.2 = nI a0 ∧ x.1 = nI (ds_d E b0 a0) ∧ ds_d E b0 a0 < ds_F ∧ ∀ b a, X b a → S b → sp_tap E a → ¬ S a → ds_d E b0 a0 ≤ ds_d E b a
theorem sp_P.cong {S : Nat → Prop} {X Y : Nat → Nat → Prop} {x : Int32 × Int32} (h : sp_P E S X x) (e : ∀ b a, Y b a → S b → sp_tap E a → ¬ S a → X b a) : sp_P E S Y x := by
  rcases h with ⟨h1, h2, h3⟩ | ⟨b0, a0, h1, h2, h3, h4, h5, h6, h7⟩
  · exact Or.inl ⟨h1, h2, fun b a hy hb ha hS => h3 b a (e b a hy hb ha hS) hb ha hS⟩
  · exact Or.inr ⟨b0, a0, h1, h2, h3, h4, h5, h6, fun b a hy hb ha hS => h7 b a (e b a hy hb ha hS) hb ha hS⟩
theorem ma_span_in (hN : 17 ≤ N) (ho : en_ok E) {g : dl_Sg} (hM : en_M E g) {al inn : Int32} {S : Nat → Prop} (hal : ∀ p, bt al p = true ↔ sp_tap E p) (hin : ∀ p, bt inn p = true ↔ S p) {b : Nat} (hb : b < en_n E) (hf : ma_row E 26 (ds_d E b) g) (x3 : Int32) (k19 : Int32 → Int32 → Int32 → dl_Sg → Option (Int32 × dl_Sg)) (k34 : Int32 → Int32 → Int32 → Int32 → Int32 → Int32 → dl_Sg → Option (Int32 × dl_Sg)) (Q : Int32 × dl_Sg → Prop)
    (hk : ∀ x : Int32 × Int32, sp_P E S (fun b' _ => b' < b + 1) x → ma_wp (k34 al inn x3 x.1 x.2 (nI (b + 1)) g) Q) :
    ∀ k a (x : Int32 × Int32), a ≤ en_n E → en_n E - a < k → sp_P E S (fun b' a' => b' < b ∨ (b' = b ∧ a' < a)) x → ma_wp (mo_span_b52 N k19 k34 k al inn x3 x.1 x.2 (nI b) (nI a) g) Q := by
  have hn := ho.n
  have hFF : ds_F = 100000000 := rfl
  refine ma_loop (fun k a (x : Int32 × Int32) => mo_span_b52 N k19 k34 k al inn x3 x.1 x.2 (nI b) (nI a) g) (fun a x => sp_P E S (fun b' a' => b' < b ∨ (b' = b ∧ a' < a)) x) Q (en_n E) ?_ ?_
  · intro k x h
    rw [mo_span_b52, hM.n, if_pos ((ma_le (by omega) (by omega)).mpr (by omega)), ma_nme, nI_1]
    refine hk x (h.cong (fun b' a' hy _ ha _ => ?_))
    have hy : b' < b + 1 := hy
    rcases Nat.lt_or_ge b' b with q | q
    · exact Or.inl q
    · exact Or.inr ⟨by omega, ha.1⟩
  · intro k a x ha h ih
    rw [mo_span_b52, hM.n, if_neg (fun q => absurd ((ma_le (by omega) (by omega)).mp q) (by omega))]
    have hfa := ds_le E b a
    -- this pair gives nothing
    have no : (S b → sp_tap E a → ¬ S a → ∃ v : Nat, x.1 = nI v ∧ v ≤ ds_F ∧ v ≤ ds_d E b a) → ma_wp (mo_span_b99 N k19 k34 (mo_span_b52 N k19 k34 k) al inn x3 x.1 x.2 (nI b) (nI a) g) Q := by
      intro q
      unfold mo_span_b99 mo_span_b100 mo_span_b119 mo_span_b133
      rw [ma_nme, if_pos rfl, ma_nme, if_pos rfl, ma_nme, ma_nme, nI_1]
      refine ih x ?_
      rcases h with ⟨h1, h2, h3⟩ | ⟨b0, a0, h1, h2, h3, h4, h5, h6, h7⟩
      · refine Or.inl ⟨h1, h2, fun b' a' hy hb' ha' hS' => ?_⟩
        by_cases e : b' = b ∧ a' = a
        · obtain ⟨e1, e2⟩ := e
          subst e1 e2
          obtain ⟨v, v1, v2, v3⟩ := q hb' ha' hS'
          have : v = ds_F := (nI_eq (by omega) (by omega)).mp (v1.symm.trans h1)
          omega
        · refine h3 b' a' ?_ hb' ha' hS'
          rcases hy with w | w
          · exact Or.inl w
          · exact Or.inr ⟨w.1, by have := w.2; have : a' ≠ a := fun z => e ⟨w.1, z⟩; omega⟩
      · refine Or.inr ⟨b0, a0, h1, h2, h3, h4, h5, h6, fun b' a' hy hb' ha' hS' => ?_⟩
        by_cases e : b' = b ∧ a' = a
        · obtain ⟨e1, e2⟩ := e
          subst e1 e2
          obtain ⟨v, v1, v2, v3⟩ := q hb' ha' hS'
          have : v = ds_d E b0 a0 := (nI_eq (by omega) (by omega)).mp (v1.symm.trans h5)
          omega
        · refine h7 b' a' ?_ hb' ha' hS'
          rcases hy with w | w
          · exact Or.inl w
          · exact Or.inr ⟨w.1, by have := w.2; have : a' ≠ a := fun z => e ⟨w.1, z⟩; omega⟩
    have hmask : bt (al &&& (inn ^^^ (-1 : Int32))) a = true ↔ sp_tap E a ∧ ¬ S a := by
      rw [b_and, ma_bn _ (by omega), Bool.and_eq_true, hal, Bool.not_eq_true', ← hin]
      constructor
      · rintro ⟨q1, q2⟩; exact ⟨q1, by rw [q2]; decide⟩
      · rintro ⟨q1, q2⟩; exact ⟨q1, Bool.eq_false_iff.mpr q2⟩
    rw [dl_bi_e (ma_has _ (by omega))]
    by_cases c1 : bt (al &&& (inn ^^^ (-1 : Int32))) a = true
    · have c1' := hmask.mp c1
      rw [if_pos c1, if_neg (by decide), dl_bi_e (ma_has _ (by omega))]
      by_cases c2 : bt inn b = true
      · have c2' := (hin b).mp c2
        rw [if_pos c2, if_neg (by decide), ma_gde (ma_in_t (by omega) (by omega)), nI_clamp (by omega), hf a ha]
        obtain ⟨B, hB, hx⟩ : ∃ B, B ≤ ds_F ∧ x.1 = nI B := by
          rcases h with ⟨h1, _⟩ | ⟨b0, a0, _, _, _, _, h5, h6, _⟩
          · exact ⟨ds_F, Nat.le_refl _, h1⟩
          · exact ⟨_, by omega, h5⟩
        by_cases c3 : B ≤ ds_d E b a
        · rw [if_pos (by rw [hx]; exact (ma_le (by omega) (by omega)).mpr c3)]
          exact no (fun _ _ _ => ⟨B, hx, hB, c3⟩)
        · rw [if_neg (by rw [hx]; exact fun q => c3 ((ma_le (by omega) (by omega)).mp q))]
          unfold mo_span_b100 mo_span_b119 mo_span_b133
          rw [ma_nme, if_neg (by decide), ma_gde (ma_in_t (by omega) (by omega)), ma_nme, if_neg (by decide), ma_nme, ma_nme, nI_1, nI_clamp (by omega), hf a ha]
          refine ih (nI (ds_d E b a), nI a) (Or.inr ⟨b, a, c2', c1'.1, c1'.2, rfl, rfl, by omega, fun b' a' hy hb' ha' hS' => ?_⟩)
          by_cases e : b' = b ∧ a' = a
          · obtain ⟨e1, e2⟩ := e
            subst e1 e2
            exact Nat.le_refl _
          · have hy' : b' < b ∨ (b' = b ∧ a' < a) := by
              rcases hy with w | w
              · exact Or.inl w
              · exact Or.inr ⟨w.1, by have := w.2; have : a' ≠ a := fun z => e ⟨w.1, z⟩; omega⟩
            rcases h with ⟨h1, h2, h3⟩ | ⟨b0, a0, h1, h2, h3, h4, h5, h6, h7⟩
            · have := h3 b' a' hy' hb' ha' hS'
              omega
            · have := h7 b' a' hy' hb' ha' hS'
              have : B = ds_d E b0 a0 := (nI_eq (by omega) (by omega)).mp (hx.symm.trans h5)
              omega
      · rw [if_neg c2, if_pos rfl]
        exact no (fun q => absurd ((hin b).mpr q) c2)
    · rw [if_neg c1, if_pos rfl]
      exact no (fun _ q1 q2 => absurd (hmask.mpr ⟨q1, q2⟩) c1)
theorem ma_mspan (hN : 17 ≤ N) (ho : en_ok E) {g0 : dl_Sg} (hM : en_M E g0) : ma_wp (mo_span N g0) (fun x => (∀ k, k ≠ 26 → x.2 k = g0 k) ∧ sp_ans E ds_F x.1) := by
  have hn := ho.n
  have hFF : ds_F = 100000000 := rfl
  have htap : ∀ p, bt (en_taps E) p = true ↔ sp_tap E p := fun p => by
    rw [en_taps_b ho, Bool.and_eq_true, decide_eq_true_iff]
    exact Iff.rfl
  unfold mo_span
  rw [dl_bi_e (ma_taps hN ho hM), ma_nme]
  by_cases h0 : en_taps E = 0
  · rw [if_pos h0]
    refine ma_some ⟨fun _ _ => rfl, Or.inl ⟨fun p hp => ?_, rfl⟩⟩
    rw [← htap, h0, b_0] at hp
    cases hp
  · obtain ⟨root, r1, r2, r3, _, r5⟩ := ma_ntz ((en_taps_lo ho).up (by omega)) h0
    have e5 : en_taps E &&& (-en_taps E) = (1 : Int32) <<< (nI root &&& 31) := Option.some.inj r5
    rw [if_neg h0, e5, ma_nme, ma_nme]
    have hroot := (htap root).mp r2
    have hmin : ∀ p, p < root → ¬ sp_tap E p := fun p hp q => by
      rw [← htap, r3 p hp] at q; cases q
    have key : ∀ k (inn : Int32) (sum : Nat) (g : dl_Sg) (S : Nat → Prop), (∀ k, k ≠ 26 → g k = g0 k) → (∀ p, bt inn p = true ↔ S p) → sp_I E ds_F root S sum → fb_ct (fun p => bt (en_taps E) p && !bt inn p) 10 < k → ma_wp (mo_span_b19 N k (en_taps E) inn (nI sum) g) (fun x => (∀ k, k ≠ 26 → x.2 k = g0 k) ∧ sp_ans E ds_F x.1) := by
      intro k
      induction k with
      | zero => intro inn sum g S _ _ _ h; omega
      | succ k ih =>
        intro inn sum g S hfr hin hI hk
        rw [mo_span_b19]
        by_cases c0 : inn = en_taps E
        · rw [if_pos c0]
          refine ma_some ⟨hfr, sp_end hI hmin (fun x hx => ?_)⟩
          rw [← hin, c0, htap]
          exact hx
        · rw [if_neg c0, ma_nme, ma_nme, ma_nme]
          refine ma_loop (fun k2 b (y : (Int32 × Int32) × dl_Sg) => mo_span_b34 N (mo_span_b19 N k) k2 (en_taps E) inn (nI sum) y.1.1 y.1.2 (nI b) y.2) (fun b y => (∀ k, k ≠ 26 → y.2 k = g0 k) ∧ sp_P E S (fun b' _ => b' < b) y.1) _ (en_n E) ?_ ?_ N 0 ((100000000, -1), g) (by omega) (by omega) ⟨hfr, Or.inl ⟨rfl, rfl, fun b a hb => absurd hb (by omega)⟩⟩
          · rintro k2 ⟨y, g1⟩ ⟨hfr1, hP⟩
            have hfr1 : ∀ k, k ≠ 26 → g1 k = g0 k := hfr1
            have hP : sp_P E S (fun b' _ => b' < en_n E) y := hP
            have hM1 := ma_fr26 hM hfr1
            show ma_wp (mo_span_b34 N (mo_span_b19 N k) (k2 + 1) (en_taps E) inn (nI sum) y.1 y.2 (nI (en_n E)) g1) _
            rw [mo_span_b34, hM1.n, if_pos ((ma_le (by omega) (by omega)).mpr (by omega))]
            rcases hP with ⟨h1, h2, h3⟩ | ⟨b0, a0, h1, h2, h3, h4, h5, h6, h7⟩
            · rw [if_pos h2]
              -- somebody is not in
              obtain ⟨x, hx1, hx2⟩ : ∃ x, sp_tap E x ∧ ¬ S x := by
                refine Classical.byContradiction fun q => c0 (b_ext fun i hi => ?_)
                cases e : bt inn i
                · cases e2 : bt (en_taps E) i
                  · rfl
                  · exact absurd ⟨i, (htap i).mp e2, fun z => by rw [← hin, e] at z; cases z⟩ q
                · exact ((htap i).mpr (hI.2.1 i ((hin i).mp e))).symm
              exact ma_some ⟨hfr1, sp_stuck hI hmin hx1 hx2 (by decide) (fun a b ha hSa hSb => h3 b a (hI.2.1 b hSb).1 hSb ha hSa)⟩
            · have ha0 : a0 < en_n E := h2.1
              rw [h4, h5, if_neg (ma_m1 (by omega)), ma_nme, nI_add, ma_nme]
              have hI2 := sp_pick hI h2 h3 h1 rfl h6 (fun a b ha hSa hSb => h7 b a (hI.2.1 b hSb).1 hSb ha hSa)
              have hct : fb_ct (fun p => bt (en_taps E) p && !bt (inn ||| ((1 : Int32) <<< (nI a0 &&& 31))) p) 10 < fb_ct (fun p => bt (en_taps E) p && !bt inn p) 10 := by
                refine ma_ct_lt (fun k _ h => ?_) ⟨a0, by omega, ?_, ?_⟩
                · rw [ma_put _ (by omega), Bool.not_or, Bool.and_eq_true, Bool.and_eq_true] at h
                  rw [Bool.and_eq_true]; exact ⟨h.1, h.2.1⟩
                · rw [(htap a0).mpr h2, Bool.true_and, Bool.eq_false_iff.mpr (fun z => h3 ((hin a0).mp z))]; rfl
                · rw [ma_put _ (by omega), decide_eq_true rfl, Bool.or_true, Bool.not_true, Bool.and_false]
              refine ih _ _ g1 (fun z => S z ∨ z = a0) hfr1 (fun p => ?_) hI2 (by omega)
              rw [ma_put _ (by omega), Bool.or_eq_true, hin, decide_eq_true_iff]
          · rintro k2 b ⟨y, g1⟩ hb ⟨hfr1, hP⟩ ih2
            have hfr1 : ∀ k, k ≠ 26 → g1 k = g0 k := hfr1
            have hP : sp_P E S (fun b' _ => b' < b) y := hP
            have hM1 := ma_fr26 hM hfr1
            show ma_wp (mo_span_b34 N (mo_span_b19 N k) (k2 + 1) (en_taps E) inn (nI sum) y.1 y.2 (nI b) g1) _
            rw [mo_span_b34, hM1.n, if_neg (fun q => absurd ((ma_le (by omega) (by omega)).mp q) (by omega))]
            obtain ⟨g2, e2, hfr2, hf2⟩ := ma_fars hN ho hM1 hb
            have hfr3 : ∀ k, k ≠ 26 → g2 k = g0 k := fun k q => by rw [hfr2 k q, hfr1 k q]
            rw [dl_bi_e e2, ma_nme]
            refine ma_span_in hN ho (ma_fr26 hM hfr3) htap hin hb hf2 (nI sum) _ _ _ (fun x hx => ih2 (x, g2) ⟨hfr3, hx⟩) N 0 y (by omega) (by omega) (hP.cong (fun b' a' hy _ _ _ => ?_))
            rcases hy with q | q
            · exact q
            · exact absurd q.2 (by omega)
    refine key N _ 0 g0 (fun z => z = root) (fun _ _ => rfl) (fun p => ?_) (sp_I0 hroot) ?_
    · have hrt : root < en_n E := hroot.1
      rw [ma_b1 (by omega), decide_eq_true_iff]
    · have := fb_ct_le (fun p => bt (en_taps E) p && !bt ((1 : Int32) <<< (nI root &&& 31)) p) 10
      omega
end
