/-! The mathematics: a better tree by one street put in, one taken out -/
/-- one put in, the other taken out -/
def be_ot (T : Int32) (a b : Nat) : Int32 := (T &&& (((1 : Int32) <<< (nI b &&& 31)) ^^^ (-1 : Int32))) ||| ((1 : Int32) <<< (nI a &&& 31))
def be_ok (E : ma_E) (T : Int32) (a b : Nat) : Prop := a < en_m E ∧ b < en_m E ∧ bt (en_t E) a = true ∧ bt T a = false ∧ bt T b = true ∧ fl_tg E (be_ot T a b) < fl_tg E T ∧ fl_tree E (be_ot T a b)
def be_fst (E : ma_E) (T : Int32) (a b : Nat) : Prop := be_ok E T a b ∧ ∀ a' b', (a' < a ∨ (a' = a ∧ b' < b)) → ¬ be_ok E T a' b'
section
variable {E : ma_E} {N : Nat} {T : Int32}
theorem be_one {a b a' b' : Nat} (h : be_fst E T a b) (h2 : be_fst E T a' b') : a = a' ∧ b = b' := by
  rcases Nat.lt_trichotomy a a' with w | w | w
  · exact absurd h.1 (h2.2 a b (Or.inl w))
  · subst w
    rcases Nat.lt_trichotomy b b' with w | w | w
    · exact absurd h.1 (h2.2 a b (Or.inr ⟨rfl, w⟩))
    · exact ⟨rfl, w⟩
    · exact absurd h2.1 (h.2 a b' (Or.inr ⟨rfl, w⟩))
  · exact absurd h2.1 (h.2 a' b' (Or.inl w))
theorem be_sub (hT : ∀ i, bt T i = true → bt (en_t E) i = true) {a b : Nat} (ha : a < 32) (hb : b < 32) (hta : bt (en_t E) a = true) : ∀ i, bt (be_ot T a b) i = true → bt (en_t E) i = true := fun i q => by
  unfold be_ot at q
  rw [ma_put _ ha, Bool.or_eq_true, ma_out _ hb, Bool.and_eq_true, decide_eq_true_iff] at q
  rcases q with q | q
  · exact hT i q.1
  · rw [q]; exact hta
/-- the answer of the class: the new tree -/
def be_ans (E : ma_E) (T T' : Int32) : Prop := (∃ a b, be_fst E T a b ∧ T' = be_ot T a b) ∨ ((∀ a b, ¬ be_ok E T a b) ∧ T' = T)
theorem be_ans_one {T' T'' : Int32} (h : be_ans E T T') (h2 : be_ans E T T'') : T' = T'' := by
  rcases h with ⟨a, b, h, e⟩ | ⟨h, e⟩ <;> rcases h2 with ⟨a', b', h2, e2⟩ | ⟨h2, e2⟩
  · obtain ⟨q1, q2⟩ := be_one h h2
    rw [e, e2, q1, q2]
  · exact absurd h.1 (h2 a b)
  · exact absurd h2.1 (h a' b')
  · rw [e, e2]
theorem ma_swapped (hN : 17 ≤ N) (ho : en_ok E) {g0 : dl_Sg} (hC : en_C E g0) (hT : ∀ i, bt T i = true → bt (en_t E) i = true) : ma_wp (cl6_swapped N g0 T) (fun x => (∀ k, k ≠ 20 → x.2 k = g0 k) ∧ be_ans E T x.1) := by
  have hm := ho.m
  unfold cl6_swapped
  rw [dl_bi_e (ma_ctag hN ho hC), ma_nme, ma_nme]
  refine ma_loop (fun k a (g : dl_Sg) => cl6_swapped_b8 N k T (fl_tg E T) (nI a) g) (fun a g => (∀ k, k ≠ 20 → g k = g0 k) ∧ ∀ a' b', a' < a → ¬ be_ok E T a' b') _ (en_m E) ?_ ?_ N 0 g0 (by omega) (by omega) ⟨fun _ _ => rfl, fun a b h => absurd h (Nat.not_lt_zero a)⟩
  · rintro k g ⟨hfr, h⟩
    rw [cl6_swapped_b8, (ma_fr20 hC hfr).m, if_pos ((ma_le (by omega) (by omega)).mpr (by omega))]
    exact ma_some ⟨hfr, Or.inr ⟨fun a b q => h a b q.1 q, rfl⟩⟩
  · rintro k a g ha ⟨hfr, h⟩ ih
    have hC1 := ma_fr20 hC hfr
    rw [cl6_swapped_b8, hC1.m, if_neg (fun q => absurd ((ma_le (by omega) (by omega)).mp q) (by omega)), dl_bi_e (ma_isThere hC1 (by omega))]
    have next : ∀ g1 : dl_Sg, (∀ k, k ≠ 20 → g1 k = g0 k) → (∀ b, ¬ be_ok E T a b) → ma_wp (cl6_swapped_b105 N (cl6_swapped_b8 N k) T (fl_tg E T) (nI a) g1) (fun x => (∀ k, k ≠ 20 → x.2 k = g0 k) ∧ be_ans E T x.1) := by
      intro g1 hf1 q
      unfold cl6_swapped_b105
      rw [ma_nme, nI_1]
      refine ih g1 ⟨hf1, fun a' b' ha' => ?_⟩
      by_cases e : a' = a
      · subst e; exact q b'
      · exact h a' b' (by omega)
    by_cases ct : bt (en_t E) a = true
    · rw [if_pos ct, if_neg (by decide), dl_bi_e (ma_bitAt _ (by omega))]
      by_cases cT : bt T a = true
      · rw [if_pos cT, if_neg (by decide)]
        exact next g hfr (fun b q => by rw [q.2.2.2.1] at cT; cases cT)
      · rw [if_neg cT, if_pos rfl, ma_nme]
        refine ma_loop (fun k2 b (g : dl_Sg) => cl6_swapped_b41 N (cl6_swapped_b8 N k) k2 T (fl_tg E T) (nI a) (nI b) g) (fun b g => (∀ k, k ≠ 20 → g k = g0 k) ∧ ∀ b', b' < b → ¬ be_ok E T a b') _ (en_m E) ?_ ?_ N 0 g (by omega) (by omega) ⟨hfr, fun b h => absurd h (Nat.not_lt_zero b)⟩
        · rintro k2 g1 ⟨hf1, h1⟩
          rw [cl6_swapped_b41, (ma_fr20 hC hf1).m, if_pos ((ma_le (by omega) (by omega)).mpr (by omega))]
          exact next g1 hf1 (fun b q => h1 b q.2.1 q)
        · rintro k2 b g1 hb ⟨hf1, h1⟩ ih2
          have hC2 := ma_fr20 hC hf1
          rw [cl6_swapped_b41, hC2.m, if_neg (fun q => absurd ((ma_le (by omega) (by omega)).mp q) (by omega)), ma_nme, show ((T &&& (((1 : Int32) <<< (nI b &&& 31)) ^^^ (-1 : Int32))) ||| ((1 : Int32) <<< (nI a &&& 31))) = be_ot T a b from rfl, dl_bi_e (ma_bitAt _ (by omega))]
          have go : ∀ g2 : dl_Sg, (∀ k, k ≠ 20 → g2 k = g0 k) → ¬ be_ok E T a b → ma_wp (cl6_swapped_b99 N (cl6_swapped_b8 N k) (cl6_swapped_b41 N (cl6_swapped_b8 N k) k2) T (fl_tg E T) (nI a) (nI b) g2) (fun x => (∀ k, k ≠ 20 → x.2 k = g0 k) ∧ be_ans E T x.1) := by
            intro g2 hf2 q
            unfold cl6_swapped_b99
            rw [ma_nme, nI_1]
            refine ih2 g2 ⟨hf2, fun b' hb' => ?_⟩
            by_cases e : b' = b
            · subst e; exact q
            · exact h1 b' (by omega)
          by_cases cb : bt T b = true
          · rw [if_pos cb, if_pos rfl, dl_bi_e (ma_ctag (T := be_ot T a b) hN ho hC2)]
            by_cases c3 : fl_tg E T ≤ fl_tg E (be_ot T a b)
            · rw [if_pos c3]
              exact go g1 hf1 (fun q => absurd q.2.2.2.2.2.1 (Int32.not_lt.mpr c3))
            · rw [if_neg c3]
              obtain ⟨⟨r, g2⟩, e2, hf2, hi⟩ := ma_flawOf (T := be_ot T a b) hN ho hC2 (fun i q => ho.t (be_sub hT (by omega) (by omega) ct i q))
              have hf3 : ∀ k, k ≠ 20 → g2 k = g0 k := fun k q => (hf2 k q).trans (hf1 k q)
              rw [dl_b2_e e2]
              by_cases c4 : r = 0
              · rw [if_pos c4]
                refine ma_some ⟨hf3, Or.inl ⟨a, b, ⟨⟨ha, hb, ct, Bool.eq_false_iff.mpr cT, cb, Int32.not_le.mp c3, (fl_is_0 hi).mp c4⟩, ?_⟩, rfl⟩⟩
                rintro a' b' (q | ⟨q, q2⟩)
                · exact h a' b' q
                · subst q; exact h1 b' q2
              · rw [if_neg c4]
                exact go g2 hf3 (fun q => c4 ((fl_is_0 hi).mpr q.2.2.2.2.2.2))
          · rw [if_neg cb, if_neg (by decide)]
            exact go g1 hf1 (fun q => cb q.2.2.2.2.1)
    · rw [if_neg ct, if_pos rfl]
      exact next g hfr (fun b q => ct q.2.2.1)
/-- the reference -/
theorem ma_mbetter (hN : 17 ≤ N) (ho : en_ok E) {g0 : dl_Sg} (hM : en_M E g0) (h8 : g0 0 8 = T) (hT : ∀ i, bt T i = true → bt (en_t E) i = true) : ma_wp (mo_better_b23 N N (fl_tg E T) 0 g0) (fun x => ma_fq (fun k i => k = 17 ∨ (k = 0 ∧ (i = 18 ∨ i = 8 ∨ i = 14))) x.2 g0 ∧ x.2 0 14 = 0 ∧ be_ans E T (x.2 0 8) ∧ x.1 = fl_tg E T - fl_tg E (x.2 0 8)) := by
  have hm := ho.m
  have f17 : ∀ {g : dl_Sg}, ma_f17 g g0 → ma_fq (fun k i => k = 17 ∨ (k = 0 ∧ (i = 18 ∨ i = 8 ∨ i = 14))) g g0 := fun {g} h k i q => by
    by_cases e0 : k = 0
    · subst e0
      exact h.2 i (fun z => q (Or.inr ⟨rfl, Or.inl z⟩))
    · rw [h.1 k (fun z => q (Or.inl z)) e0]
  have q8 : ∀ {g : dl_Sg}, ma_f17 g g0 → g 0 8 = T := fun {g} h => (h.2 8 (by decide)).trans h8
  refine ma_loop (fun k a (g : dl_Sg) => mo_better_b23 N k (fl_tg E T) (nI a) g) (fun a g => ma_f17 g g0 ∧ ∀ a' b', a' < a → ¬ be_ok E T a' b') _ (en_m E) ?_ ?_ N 0 g0 (by omega) (by omega) ⟨ma_f17.r _, fun a b h => absurd h (Nat.not_lt_zero a)⟩
  · rintro k g ⟨hf, h⟩
    have hM1 := hf.M hM
    rw [mo_better_b23, hM1.m, if_pos ((ma_le (by omega) (by omega)).mpr (by omega)), dl_b2_e (mo_done_e _ _)]
    have e8 : dl_s2 g 0 14 0 0 8 = T := (ma_s2n (a := 0) (i := 14) (b := 0) (j := 8) g 0 (fun q => absurd q.2 (by decide))).trans (q8 hf)
    refine ma_some ⟨(ma_fq.s g 0 (Or.inr ⟨rfl, Or.inr (Or.inr rfl)⟩)).t (f17 hf), ma_s2s g 0 14 0, Or.inr ⟨fun a b q => h a b q.1 q, e8⟩, ?_⟩
    show (0 : Int32) = fl_tg E T - fl_tg E (dl_s2 g 0 14 0 0 8)
    rw [e8]
    exact (Int32.sub_self _).symm
  · rintro k a g ha ⟨hf, h⟩ ih
    have hM1 := hf.M hM
    rw [mo_better_b23, hM1.m, if_neg (fun q => absurd ((ma_le (by omega) (by omega)).mp q) (by omega)), ma_nme]
    refine ma_loop (fun k2 b (g : dl_Sg) => mo_better_b33 N (mo_better_b23 N k) k2 (fl_tg E T) (nI a) (nI b) g) (fun b g => ma_f17 g g0 ∧ ∀ b', b' < b → ¬ be_ok E T a b') _ (en_m E) ?_ ?_ N 0 g (by omega) (by omega) ⟨hf, fun b h => absurd h (Nat.not_lt_zero b)⟩
    · rintro k2 g1 ⟨hf1, h1⟩
      rw [mo_better_b33, (hf1.M hM).m, if_pos ((ma_le (by omega) (by omega)).mpr (by omega)), ma_nme, nI_1]
      refine ih g1 ⟨hf1, fun a' b' ha' => ?_⟩
      by_cases e : a' = a
      · subst e; exact fun q => h1 b' q.2.1 q
      · exact h a' b' (by omega)
    · rintro k2 b g1 hb ⟨hf1, h1⟩ ih2
      have hM2 := hf1.M hM
      rw [mo_better_b33, hM2.m, if_neg (fun q => absurd ((ma_le (by omega) (by omega)).mp q) (by omega)), hM2.t, q8 hf1, dl_bi_e (ma_has _ (by omega))]
      have go : ∀ g2 : dl_Sg, ma_f17 g2 g0 → ¬ be_ok E T a b → ma_wp (mo_better_b122 N (mo_better_b23 N k) (mo_better_b33 N (mo_better_b23 N k) k2) (fl_tg E T) (nI a) (nI b) g2) (fun x => ma_fq (fun k i => k = 17 ∨ (k = 0 ∧ (i = 18 ∨ i = 8 ∨ i = 14))) x.2 g0 ∧ x.2 0 14 = 0 ∧ be_ans E T (x.2 0 8) ∧ x.1 = fl_tg E T - fl_tg E (x.2 0 8)) := by
        intro g2 hf2 q
        unfold mo_better_b122
        rw [ma_nme, nI_1]
        refine ih2 g2 ⟨hf2, fun b' hb' => ?_⟩
        by_cases e : b' = b
        · subst e; exact q
        · exact h1 b' (by omega)
      have hmask : bt (en_t E &&& (T ^^^ (-1 : Int32))) a = true ↔ bt (en_t E) a = true ∧ bt T a = false := by
        rw [b_and, ma_bn _ (by omega), Bool.and_eq_true, Bool.not_eq_true']
      by_cases c1 : bt (en_t E &&& (T ^^^ (-1 : Int32))) a = true
      · have c1' := hmask.mp c1
        rw [if_pos c1, if_neg (by decide), dl_bi_e (ma_has _ (by omega))]
        by_cases cb : bt T b = true
        · rw [if_pos cb, if_neg (by decide), ma_nme]
          obtain ⟨⟨r, g2⟩, e2, hf2, hr⟩ := ma_mtagOf (T := be_ot T a b) hN ho hM2 (fun i q => ho.t (be_sub hT (by omega) (by omega) c1'.1 i q))
          have hf3 : ma_f17 g2 g0 := hf2.t hf1
          show ma_wp (dl_b2 (mo_tagOf N g1 (be_ot T a b)) _) _
          rw [dl_b2_e e2, ma_nme]
          rcases hr with ⟨t1, t2⟩ | ⟨t1, t2⟩
          · have t2 : r = fl_tg E (be_ot T a b) := t2
            rw [t2, if_neg (fl_tg_no ho)]
            by_cases c3 : fl_tg E T ≤ fl_tg E (be_ot T a b)
            · rw [if_pos c3]
              exact go g2 hf3 (fun q => absurd q.2.2.2.2.2.1 (Int32.not_lt.mpr c3))
            · rw [if_neg c3, ma_nme, dl_b2_e (mo_done_e _ _)]
              have e8 : dl_s2 (dl_s2 g2 0 8 (be_ot T a b)) 0 14 0 0 8 = be_ot T a b := (ma_s2n (a := 0) (i := 14) (b := 0) (j := 8) _ 0 (fun q => absurd q.2 (by decide))).trans (ma_s2s _ _ _ _)
              refine ma_some ⟨(ma_fq.s (dl_s2 g2 0 8 (be_ot T a b)) 0 (Or.inr ⟨rfl, Or.inr (Or.inr rfl)⟩)).t ((ma_fq.s g2 (be_ot T a b) (Or.inr ⟨rfl, Or.inr (Or.inl rfl)⟩)).t (f17 hf3)), ma_s2s (dl_s2 g2 0 8 (be_ot T a b)) 0 14 0, ?_, ?_⟩
              · show be_ans E T (dl_s2 (dl_s2 g2 0 8 (be_ot T a b)) 0 14 0 0 8)
                rw [e8]
                refine Or.inl ⟨a, b, ⟨⟨ha, hb, c1'.1, c1'.2, cb, Int32.not_le.mp c3, t1⟩, ?_⟩, rfl⟩
                rintro a' b' (q | ⟨q, q2⟩)
                · exact h a' b' q
                · subst q; exact h1 b' q2
              · show fl_tg E T - fl_tg E (be_ot T a b) = fl_tg E T - fl_tg E (dl_s2 (dl_s2 g2 0 8 (be_ot T a b)) 0 14 0 0 8)
                rw [e8]
          · have t2 : r = -1000000 := t2
            rw [t2, if_pos rfl]
            exact go g2 hf3 (fun q => t1 q.2.2.2.2.2.2)
        · rw [if_neg cb, if_pos rfl]
          exact go g1 hf1 (fun q => cb q.2.2.2.2.1)
      · rw [if_neg c1, if_pos rfl]
        exact go g1 hf1 (fun q => c1 (hmask.mpr ⟨q.2.2.1, q.2.2.2.1⟩))
end
