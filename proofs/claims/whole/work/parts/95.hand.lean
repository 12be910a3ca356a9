/-! The mathematics: hand's own tree -/
section
variable {al : Nat} {E : ma_E} {c N : Nat} {gc gm : dl_Sg}
theorem ma_iff0 (b : Bool) : ((if b = true then (1 : Int32) else 0) = 0) ↔ b = false := by cases b <;> decide
theorem same_m.fq {g g0 : dl_Sg} {T : Int32} (h : ma_fq (fun k i => k = 17 ∨ (k = 0 ∧ (i = 18 ∨ i = 8 ∨ i = 14))) g g0) (h8 : g 0 8 = T) (h14 : g 0 14 = 0) : same_m g (dl_s2 (dl_s2 g0 0 8 T) 0 14 0) := by
  refine ⟨fun k a b _ _ _ _ => ?_, fun i a _ _ => ?_⟩
  · rw [ma_s2r _ _ _ _ a, ma_s2r _ _ _ _ a]
    exact funext fun i => h k i (fun q => by rcases q with q | q <;> omega)
  · by_cases e : i = 14
    · subst e
      rw [ma_s2s, h14]
    · rw [ma_s2n _ _ (fun w => e w.2)]
      by_cases e2 : i = 8
      · subst e2
        rw [ma_s2s, h8]
      · rw [ma_s2n _ _ (fun w => e2 w.2)]
        exact h 0 i (fun q => by omega)
theorem iv.c20 (h : iv al E c gc gm) {g : dl_Sg} (q : ∀ k, k ≠ 20 → g k = gc k) : iv al E c g gm := h.cl (fun k _ _ b => q k b)
theorem do_lay (h : iv al E c gc gm) (x : Int32) : ma_two al E c (cl11_lay gc x) (mo_lay gm x) := by
  have hm := h.ok.m
  have no : ma_two al E c (cl11_lay_b22 gc) (mo_lay_b19 gm) := ⟨_, _, _, rfl, rfl, E, kw.rf E, h.s 1⟩
  unfold cl11_lay mo_lay
  rw [dl_bi_e (ma_hasStreet h.ok h.C x), dl_bi_e (ma_isStreet h.ok h.M x)]
  by_cases hx : px (en_m E) x
  · rw [ma_dec_t.mpr hx, if_neg ma_q1, if_neg ma_q1]
    obtain ⟨s, s1, rfl⟩ := hx
    rw [dl_bi_e (ma_isThere h.C (by omega)), h.M.t, dl_bi_e (ma_has _ (by omega))]
    cases e : bt (en_t E) s
    · rw [if_pos ma_q0, if_pos ma_q0]
      exact no
    · rw [if_neg ma_q1, if_neg ma_q1, ma_nme, ma_nme, ma_s2s, ma_s2s, h.hd.1]
      have hT : ma_sub (gm 0 8 ^^^ ((1 : Int32) <<< (nI s &&& 31))) (en_t E) := fun i q => by
        rw [b_xor, ma_b1 (by omega)] at q
        by_cases w : i = s
        · rw [w]; exact e
        · rw [decide_eq_false w, Bool.xor_false] at q
          exact h.hd.2 i q
      exact ⟨_, _, _, rfl, rfl, E, kw.rf E, (h.h hT).s 0⟩
  · rw [ma_dec_f.mpr hx, if_pos ma_q0, if_pos ma_q0]
    exact no
theorem iv.h16 (h : iv al E c gc gm) : ma_lo (gm 0 8) 16 := fun i q => by
  cases e : bt (gm 0 8) i
  · rfl
  · have := h.hl i e
    have := h.ok.m
    omega
theorem bt_0 (i : Nat) : bt 0 i = false := by
  rcases Nat.lt_or_ge i 32 with w | w
  · exact (by decide : ∀ i, i < 32 → bt 0 i = false) i w
  · exact b_big w
theorem do_clear (hN : 131073 ≤ N) (h : iv al E c gc gm) : ma_two al E c (cl11_clear gc) (mo_clear N gm) := by
  have hT : ma_sub 0 (en_t E) := fun i q => by rw [bt_0] at q; exact absurd q (by decide)
  unfold cl11_clear mo_clear
  rw [h.hd.1, dl_bi_e (ma_bits (by omega) _), dl_bi_e (ma_bitc h.h16), ma_nme, ma_nme, ma_nme, ma_nme]
  exact ⟨_, _, _, rfl, rfl, E, kw.rf E, (h.h hT).s 0⟩
theorem do_trim (hN : 131073 ≤ N) (h : iv al E c gc gm) : ma_two al E c (cl11_trim N gc) (mo_trim N gm) := by
  have hm := h.ok.m
  have hn := h.ok.n
  have hct := fb_ct_le (bt (gm 0 8)) 16
  refine ma_two.by (P := fun x => ∃ g2, (∀ k, k ≠ 20 → g2 k = gc k) ∧ ((fl_tree E (gm 0 8) ∧ ∃ j T, tr_end E j (gm 0 8) T ∧ x.1 = nI j ∧ x.2 = dl_s2 (dl_s2 g2 1 15 T) 0 5 0 ∧ ma_sub T (en_t E)) ∨ (¬ fl_tree E (gm 0 8) ∧ x.1 = -1 ∧ x.2 = dl_s2 g2 0 5 3)))
    (Q := fun x => ∃ g2, ma_f17 g2 gm ∧ ((fl_tree E (gm 0 8) ∧ ∃ j T, tr_end E j (gm 0 8) T ∧ x.1 = nI j ∧ same_m x.2 (dl_s2 (dl_s2 g2 0 8 T) 0 14 0)) ∨ (¬ fl_tree E (gm 0 8) ∧ x.1 = -1 ∧ x.2 = dl_s2 g2 0 14 3))) ?_ ?_ ?_
  · unfold cl11_trim
    rw [h.hd.1]
    refine ma_b2 (ma_mono (ma_flawOf (by omega) h.ok h.C h.hl) fun x q => ?_)
    have h2 := h.c20 q.1
    refine ma_if (fun z => ?_) (fun z => ?_)
    · rw [h2.hd.1]
      refine ma_bie (ma_bitc h2.h16) (ma_nm (ma_bi (ma_mono (ma_trimmed (by omega) h.ok h2.C h.hd.2) fun T w => ?_)))
      obtain ⟨j, w1, w2, w3⟩ := w
      have hl : ma_lo T 16 := fun i r => by
        cases e : bt T i
        · rfl
        · have := w3 i e
          rw [h2.h16 i r] at this
          exact absurd this (by decide)
      refine ma_nm ?_
      rw [ma_s2s]
      refine ma_bie (ma_bitc hl) (ma_some ⟨x.2, q.1, Or.inl ⟨(fl_is_0 q.2).mp z, j, T, w1, ?_, rfl, fun i r => h.hd.2 i (w3 i r)⟩⟩)
      show nI (fb_ct (bt (gm 0 8)) 16) - nI (fb_ct (bt T) 16) = nI j
      rw [← w2, Nat.add_comm, ← nI_add, Int32.add_sub_cancel]
    · exact ma_some ⟨x.2, q.1, Or.inr ⟨fun w => z ((fl_is_0 q.2).mpr w), rfl, rfl⟩⟩
  · unfold mo_trim
    refine ma_b2 (ma_mono (ma_treeOf (by omega) h.ok h.M h.hl) fun x q => ?_)
    have h2 := h.m (same_m.f17 q.1)
    have e8 : x.2 0 8 = gm 0 8 := q.1.2 8 (by decide)
    refine ma_if (fun z => ?_) (fun z => ?_)
    · refine ma_nm (ma_nm (ma_mono (ma_mtrim (by omega) h.ok N 0 0 x.2 h2.M h2.hd.2 (fun p' s w => absurd w (by omega)) (by omega) (by rw [e8]; omega)) fun y w => ?_))
      obtain ⟨j, w1, w2, w3, w4, w5⟩ := w
      rw [e8] at w1
      refine ⟨x.2, q.1, Or.inl ⟨(fl_is_0 q.2.1).mp z, j, y.2 0 8, w1, ?_, same_m.fq (fun k i r => w4 k i (fun t => r (Or.inr ⟨t.1, Or.inr t.2⟩))) rfl w3⟩⟩
      rw [w2, Nat.zero_add]
    · exact ma_some ⟨x.2, q.1, Or.inr ⟨fun w => z ((fl_is_0 q.2.1).mpr w), rfl, rfl⟩⟩
  · rintro a b ⟨g2, p1, p2⟩ ⟨g3, q1, q2⟩
    have h2 := (h.c20 p1).m (same_m.f17 q1)
    rcases p2 with ⟨p2, j, T, p3, p4, p5, p6⟩ | ⟨p2, p3, p4⟩
    · rcases q2 with ⟨q2, j', T', q3, q4, q5⟩ | ⟨q2, q3, q4⟩
      · obtain ⟨e1, e2⟩ := tr_end_one p3 q3
        subst e1 e2
        refine ⟨p4.trans q4.symm, E, kw.rf E, ?_⟩
        rw [p5]
        exact ((h2.h p6).s 0).m q5
      · exact absurd p2 q2
    · rcases q2 with ⟨q2, j', T', q3, q4, q5⟩ | ⟨q2, q3, q4⟩
      · exact absurd q2 p2
      · refine ⟨p3.trans q3.symm, E, kw.rf E, ?_⟩
        rw [p4, q4]
        exact h2.s 3
theorem be_ans_sub (ho : en_ok E) {T T' : Int32} (hT : ∀ i, bt T i = true → bt (en_t E) i = true) (h : be_ans E T T') : ma_sub T' (en_t E) := by
  have hm := ho.m
  rcases h with ⟨a, b, h, e⟩ | ⟨_, e⟩
  · rw [e]
    have h1 := h.1.1
    have h2 := h.1.2.1
    exact be_sub hT (by omega) (by omega) h.1.2.2.1
  · rw [e]; exact hT
theorem do_better (hN : 131073 ≤ N) (h : iv al E c gc gm) : ma_two al E c (cl11_better N gc) (mo_better N gm) := by
  have hm := h.ok.m
  refine ma_two.by (P := fun x => ∃ g2, (∀ k, k ≠ 20 → g2 k = gc k) ∧ ((fl_tree E (gm 0 8) ∧ ∃ T, be_ans E (gm 0 8) T ∧ x.1 = fl_tg E (gm 0 8) - fl_tg E T ∧ x.2 = dl_s2 (dl_s2 g2 1 15 T) 0 5 0) ∨ (¬ fl_tree E (gm 0 8) ∧ x.1 = -1 ∧ x.2 = dl_s2 g2 0 5 3)))
    (Q := fun x => ∃ g2, ma_f17 g2 gm ∧ ((fl_tree E (gm 0 8) ∧ ∃ T, be_ans E (gm 0 8) T ∧ x.1 = fl_tg E (gm 0 8) - fl_tg E T ∧ same_m x.2 (dl_s2 (dl_s2 g2 0 8 T) 0 14 0)) ∨ (¬ fl_tree E (gm 0 8) ∧ x.1 = -1 ∧ x.2 = dl_s2 g2 0 14 3))) ?_ ?_ ?_
  · unfold cl11_better
    rw [h.hd.1]
    refine ma_b2 (ma_mono (ma_flawOf (by omega) h.ok h.C h.hl) fun x q => ?_)
    have h2 := h.c20 q.1
    refine ma_if (fun z => ?_) (fun z => ?_)
    · rw [h2.hd.1]
      refine ma_bie (ma_ctag (by omega) h.ok h2.C) (ma_nm (ma_b2 (ma_mono (ma_swapped (by omega) h.ok h2.C h.hd.2) fun y w => ma_nm ?_)))
      have q2 : ∀ k, k ≠ 20 → y.2 k = gc k := fun k r => (w.1 k r).trans (q.1 k r)
      have h3 := (h.c20 q2).h (be_ans_sub h.ok h.hd.2 w.2)
      rw [ma_s2s]
      exact ma_bie (ma_ctag (by omega) h.ok h3.C) (ma_some ⟨y.2, q2, Or.inl ⟨(fl_is_0 q.2).mp z, y.1, w.2, rfl, rfl⟩⟩)
    · exact ma_some ⟨x.2, q.1, Or.inr ⟨fun w => z ((fl_is_0 q.2).mpr w), rfl, rfl⟩⟩
  · unfold mo_better
    refine ma_b2 (ma_mono (ma_mtagOf (by omega) h.ok h.M h.hl) fun x q => ma_nm ?_)
    have h2 := h.m (same_m.f17 q.1)
    have e8 : x.2 0 8 = gm 0 8 := q.1.2 8 (by decide)
    rcases q.2 with ⟨t, e⟩ | ⟨t, e⟩
    · rw [e, if_neg (fl_tg_no h.ok), ma_nme]
      refine ma_mono (ma_mbetter (by omega) h.ok h2.M e8 h.hd.2) fun y w => ?_
      exact ⟨x.2, q.1, Or.inl ⟨t, y.2 0 8, w.2.2.1, w.2.2.2, same_m.fq w.1 rfl w.2.1⟩⟩
    · rw [e, if_pos rfl]
      exact ma_some ⟨x.2, q.1, Or.inr ⟨t, rfl, rfl⟩⟩
  · rintro a b ⟨g2, p1, p2⟩ ⟨g3, q1, q2⟩
    have h2 := (h.c20 p1).m (same_m.f17 q1)
    rcases p2 with ⟨p2, T, p3, p4, p5⟩ | ⟨p2, p3, p4⟩
    · rcases q2 with ⟨q2, T', q3, q4, q5⟩ | ⟨q2, q3, q4⟩
      · have e2 := be_ans_one p3 q3
        subst e2
        refine ⟨p4.trans q4.symm, E, kw.rf E, ?_⟩
        rw [p5]
        exact ((h2.h (be_ans_sub h.ok h.hd.2 p3)).s 0).m q5
      · exact absurd p2 q2
    · rcases q2 with ⟨q2, T', q3, q4, q5⟩ | ⟨q2, q3, q4⟩
      · exact absurd q2 p2
      · refine ⟨p3.trans q3.symm, E, kw.rf E, ?_⟩
        rw [p4, q4]
        exact h2.s 3
end
