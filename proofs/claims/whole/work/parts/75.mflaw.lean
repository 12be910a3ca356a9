/-! The mathematics: what is wrong with a set of streets, by the reference; costs and worths -/
section
variable {E : ma_E} {N : Nat} {T : Int32}
def ma_f17 (g g0 : dl_Sg) : Prop := (∀ k, k ≠ 17 → k ≠ 0 → g k = g0 k) ∧ ∀ i, i ≠ 18 → g 0 i = g0 0 i
theorem ma_f17.M {g g0 : dl_Sg} (h : ma_f17 g g0) (hM : en_M E g0) : en_M E g :=
  hM.same (h.2 0 (by omega)) (h.2 3 (by omega)) (h.2 7 (by omega)) (h.1 1 (by omega) (by omega)) (h.1 2 (by omega) (by omega)) (h.1 4 (by omega) (by omega)) (h.1 5 (by omega) (by omega)) (h.1 6 (by omega) (by omega))
theorem ma_f17.t {g g1 g0 : dl_Sg} (h : ma_f17 g g1) (h2 : ma_f17 g1 g0) : ma_f17 g g0 := ⟨fun k a b => by rw [h.1 k a b, h2.1 k a b], fun i a => by rw [h.2 i a, h2.2 i a]⟩
theorem ma_f17.r (g : dl_Sg) : ma_f17 g g := ⟨fun _ _ _ => rfl, fun _ _ => rfl⟩
theorem ma_f17.e (g : dl_Sg) (v : Int32) : ma_f17 (dl_s2 g 0 18 v) g := ⟨fun k _ q => if_neg q, fun i q => by rw [ma_s2, if_neg (fun z => q z.2)]⟩
theorem ma_f17.p (g : dl_Sg) (p : Nat) (v : Int32) : ma_f17 (dl_s2 g 17 p v) g := ⟨fun k q _ => if_neg q, fun i _ => by rw [ma_s2, if_neg (fun z => absurd z.1 (by decide))]⟩
theorem ma_s2r (g : dl_Sg) (a i : Nat) (v : Int32) {k : Nat} (h : k ≠ a) : dl_s2 g a i v k = g k := if_neg h
/-- the reference's look at a set of streets -/
theorem ma_treeOf (hN : 17 ≤ N) (ho : en_ok E) {g0 : dl_Sg} (hM : en_M E g0) (hT : ∀ i, bt T i = true → i < en_m E) : ma_wp (mo_treeOf N g0 T) (fun x => ma_f17 x.2 g0 ∧ fl_is E T x.1 ∧ (x.1 = 0 → ∀ p, p < en_n E → en_tap E p = false → (bt (x.2 0 18) p = true ↔ fl_end E T (en_m E) p))) := by
  have hn := ho.n
  have hm := ho.m
  have htap : ∀ p, bt (en_taps E) p = true ↔ sp_tap E p := fun p => by
    rw [en_taps_b ho, Bool.and_eq_true, decide_eq_true_iff]
    exact Iff.rfl
  have hTz : T = 0 ↔ ∀ s, s < en_m E → bt T s = false := by
    rw [ma_z]
    constructor
    · intro h s hs; exact h s (by omega)
    · intro h i hi
      rcases Nat.lt_or_ge i (en_m E) with q | q
      · exact h i q
      · exact Bool.eq_false_iff.mpr (fun z => by have := hT i z; omega)
  have key : ∀ k s (x : Int32 × dl_Sg), s ≤ en_m E → en_m E - s < k → (ma_f17 x.2 g0 ∧ (∃ G : Nat → Nat, (∀ p, p < en_n E → G p < en_n E ∧ x.2 17 p = nI (G p)) ∧ ∀ p q, p < en_n E → q < en_n E → (G p = G q ↔ cn_R E T s p q)) ∧ ¬ fl_ring E T s ∧ x.1 = nI (fb_ct (bt T) s) ∧ x.2 0 18 = en_ends E T s) → ma_wp (mo_treeOf_b32 N k T x.1 (nI s) x.2) (fun x => ma_f17 x.2 g0 ∧ fl_is E T x.1 ∧ (x.1 = 0 → ∀ p, p < en_n E → en_tap E p = false → (bt (x.2 0 18) p = true ↔ fl_end E T (en_m E) p))) := by
    refine ma_loop (fun k s (x : Int32 × dl_Sg) => mo_treeOf_b32 N k T x.1 (nI s) x.2) _ _ (en_m E) ?_ ?_
    · rintro k x ⟨hfr, hG, hR, hc, he⟩
      have hM1 := hfr.M hM
      rw [mo_treeOf_b32, hM1.m, if_pos ((ma_le (by omega) (by omega)).mpr (by omega)), dl_bi_e (ma_taps hN ho hM1), ma_nme, hc]
      have hcle := fb_ct_le (bt T) (en_m E)
      have ez : nI (fb_ct (bt T) (en_m E)) = 0 ↔ fb_ct (bt T) (en_m E) = 0 := nI_eq (b := 0) (by omega) (by omega)
      -- the last look
      have last : ∀ g1 : dl_Sg, ma_f17 g1 g0 → fl_one E T → (∀ p, sp_tap E p → (bt (g1 0 18) p = true ↔ fl_pl E T p)) → (∀ p, p < en_n E → en_tap E p = false → (bt (g1 0 18) p = true ↔ fl_end E T (en_m E) p)) → ma_wp (mo_treeOf_b211 N (en_taps E) g1) (fun x => ma_f17 x.2 g0 ∧ fl_is E T x.1 ∧ (x.1 = 0 → ∀ p, p < en_n E → en_tap E p = false → (bt (x.2 0 18) p = true ↔ fl_end E T (en_m E) p))) := by
        intro g1 hf1 hone hP hE
        unfold mo_treeOf_b211 mo_treeOf_b226
        have hg := fl_last (T := T) ho hP
        by_cases c0 : en_taps E = 0
        · rw [if_pos c0]
          exact ma_some ⟨hf1, Or.inr (Or.inr ⟨hR, hone, Or.inr ⟨fun q => (hg.mp q).1 c0, rfl⟩⟩), fun q => absurd q (show ¬ (3 : Int32) = 0 by decide)⟩
        · rw [if_neg c0]
          by_cases c1 : en_taps E &&& ((g1 0 18) ^^^ (-1 : Int32)) = 0
          · rw [if_pos c1]
            exact ma_some ⟨hf1, Or.inr (Or.inr ⟨hR, hone, Or.inl ⟨hg.mpr ⟨c0, c1⟩, rfl⟩⟩), fun _ => hE⟩
          · rw [if_neg c1]
            exact ma_some ⟨hf1, Or.inr (Or.inr ⟨hR, hone, Or.inr ⟨fun q => c1 (hg.mp q).2, rfl⟩⟩), fun q => absurd q (show ¬ (3 : Int32) = 0 by decide)⟩
      by_cases c : fb_ct (bt T) (en_m E) = 0
      · have t0 := hTz.mpr (fb_ct_zero.mp c)
        have hnoend : ∀ p, ¬ fl_end E T (en_m E) p := fun p ⟨s, h1, h2, _⟩ => by
          rw [hTz.mp t0 s h1] at h2; cases h2
        rw [if_pos (ez.mpr c), dl_bi_e (ma_bits hN _)]
        have hle := fb_ct_le (bt (en_taps E)) 16
        have e1 : nI (fb_ct (bt (en_taps E)) 16) = (1 : Int32) ↔ fb_ct (bt (en_taps E)) 16 = 1 := nI_eq (b := 1) (by omega) (by omega)
        have hone : fl_one E T := fun p q hp _ => absurd hp (hnoend p)
        unfold mo_treeOf_b190
        by_cases c1 : fb_ct (bt (en_taps E)) 16 = 1
        · rw [if_pos (e1.mpr c1), ma_nme]
          have c0 : ¬ en_taps E = 0 := fun e => by
            rw [e, fb_ct_zero.mpr (fun k _ => b_0 k)] at c1; omega
          refine last _ ((ma_f17.e _ _).t hfr) hone (fun p hp => ?_) (fun p hp hq => ?_)
          · rw [ma_s2s]
            exact ⟨fun _ => Or.inr ⟨t0, fun q hq => (en_onetap ho c0).mp c1 q p hq hp⟩, fun _ => (htap p).mpr hp⟩
          · rw [ma_s2s, htap]
            exact ⟨fun z => absurd z.2 (by rw [hq]; decide), fun z => absurd z (hnoend p)⟩
        · rw [if_neg (fun q => c1 (e1.mp q)), ma_nme]
          refine last _ ((ma_f17.e _ _).t hfr) hone (fun p hp => ?_) (fun p hp hq => ?_)
          · rw [ma_s2s, b_0]
            refine ⟨fun z => absurd z (by decide), fun z => ?_⟩
            rcases z with z | ⟨_, z⟩
            · exact absurd z (hnoend p)
            · exfalso
              have c0 : ¬ en_taps E = 0 := fun e => by
                have := (htap p).mpr hp
                rw [e, b_0] at this; cases this
              exact c1 ((en_onetap ho c0).mpr (fun a b ha hb => by rw [z a ha, z b hb]))
          · rw [ma_s2s, b_0]
            exact ⟨fun z => absurd z (by decide), fun z => absurd z (hnoend p)⟩
      · rw [if_neg (fun q => c (ez.mp q)), he, dl_bi_e (ma_bits hN _)]
        have hle := fb_ct_le (bt (en_ends E T (en_m E))) 16
        rw [nI_1]
        have e1 : nI (fb_ct (bt (en_ends E T (en_m E))) 16) = nI (fb_ct (bt T) (en_m E) + 1) ↔ fb_ct (bt (en_ends E T (en_m E))) 16 = fb_ct (bt T) (en_m E) + 1 := nI_eq (by omega) (by omega)
        obtain ⟨s, s1, s2⟩ := fb_ct_pos.mp (Nat.pos_of_ne_zero c)
        have hh := fl_hangs ho hR ⟨s, s1, s2⟩
        by_cases c1 : fb_ct (bt (en_ends E T (en_m E))) 16 = fb_ct (bt T) (en_m E) + 1
        · rw [if_pos (e1.mpr c1)]
          refine last _ hfr (hh.mpr c1) (fun p hp => ?_) (fun p hp hq => ?_)
          · rw [he, en_ends_b ho (Nat.le_refl _)]
            exact ⟨Or.inl, fun z => z.resolve_right (fun w => by rw [hTz.mp w.1 s s1] at s2; cases s2)⟩
          · rw [he, en_ends_b ho (Nat.le_refl _)]
        · rw [if_neg (fun q => c1 (e1.mp q))]
          exact ma_some ⟨hfr, Or.inr (Or.inl ⟨hR, fun q => c1 (hh.mp q), rfl⟩), fun q => absurd q (show ¬ (2 : Int32) = 0 by decide)⟩
    · rintro k s x hs ⟨hfr, ⟨G, hG, hGc⟩, hR, hc, he⟩ ih
      have hM1 := hfr.M hM
      have ha := ho.a hs
      have hb := ho.b hs
      rw [mo_treeOf_b32, hM1.m, if_neg (fun q => absurd ((ma_le (by omega) (by omega)).mp q) (by omega)), dl_bi_e (ma_has _ (by omega))]
      by_cases ht : bt T s = true
      · obtain ⟨ga1, ga2⟩ := hG _ ha
        obtain ⟨gb1, gb2⟩ := hG _ hb
        rw [if_pos ht, if_neg (by decide), ma_gde (ma_in_t (by omega) (by omega)), nI_clamp (by omega), hM1.a hs, hM1.b hs, ma_gde (ma_in_t (by omega) (by omega)), nI_clamp (by omega), ga2, ma_nme, ma_gde (ma_in_t (by omega) (by omega)), ma_gde (ma_in_t (by omega) (by omega)), nI_clamp (by omega), gb2, ma_nme]
        have eab : nI (G (en_a E s)) = nI (G (en_b E s)) ↔ cn_R E T s (en_a E s) (en_b E s) := (nI_eq (by omega) (by omega)).trans (hGc _ _ ha hb)
        by_cases c : cn_R E T s (en_a E s) (en_b E s)
        · rw [if_pos (eab.mpr c)]
          exact ma_some ⟨hfr, Or.inl ⟨⟨s, hs, ht, c⟩, rfl⟩, fun q => absurd q (show ¬ (1 : Int32) = 0 by decide)⟩
        · rw [if_neg (fun q => c (eab.mp q)), ma_nme]
          refine ma_loop (fun k2 p (g : dl_Sg) => mo_treeOf_b86 N (mo_treeOf_b32 N k) k2 T x.1 (nI s) (nI (G (en_a E s))) (nI (G (en_b E s))) (nI p) g) (fun m g => ma_f17 g g0 ∧ g 0 18 = en_ends E T s ∧ ∀ p, p < en_n E → g 17 p = nI (if p < m ∧ G p = G (en_a E s) then G (en_b E s) else G p)) _ (en_n E) ?_ ?_ N 0 x.2 (by omega) (by omega) ⟨hfr, he, fun p hp => by rw [if_neg (fun q => absurd q.1 (Nat.not_lt_zero p))]; exact (hG p hp).2⟩
          · rintro k2 g ⟨f1, f2, f3⟩
            have hM2 := f1.M hM
            rw [mo_treeOf_b86, hM2.n, if_pos ((ma_le (by omega) (by omega)).mpr (by omega)), ma_gde (ma_in_t (by omega) (by omega)), ma_gde (ma_in_t (by omega) (by omega)), nI_clamp (by omega), hM2.a hs, hM2.b hs, f2, ma_nme, ma_nme]
            unfold mo_treeOf_b161
            rw [ma_nme, nI_1]
            refine ih (x.1 + 1, dl_s2 g 0 18 (en_ends E T s ||| (((1 : Int32) <<< (nI (en_a E s) &&& 31)) ||| ((1 : Int32) <<< (nI (en_b E s) &&& 31))))) ⟨(ma_f17.e _ _).t f1, ⟨fun p => if G p = G (en_a E s) then G (en_b E s) else G p, fun p hp => ⟨?_, ?_⟩, fun p q hp hq => ?_⟩, ?_, ?_, ?_⟩
            · show (if G p = G (en_a E s) then G (en_b E s) else G p) < en_n E
              split
              · exact gb1
              · exact (hG p hp).1
            · show dl_s2 g 0 18 (en_ends E T s ||| (((1 : Int32) <<< (nI (en_a E s) &&& 31)) ||| ((1 : Int32) <<< (nI (en_b E s) &&& 31)))) 17 p = nI (if G p = G (en_a E s) then G (en_b E s) else G p)
              rw [ma_s2r _ _ _ _ (by decide), f3 p hp]
              by_cases z : G p = G (en_a E s)
              · rw [if_pos ⟨hp, z⟩, if_pos z]
              · rw [if_neg (fun w => z w.2), if_neg z]
            · show (if G p = G (en_a E s) then G (en_b E s) else G p) = (if G q = G (en_a E s) then G (en_b E s) else G q) ↔ _
              rw [cn_add ht]
              have cp : G p = G (en_a E s) ↔ cn_R E T s p (en_a E s) := hGc _ _ hp ha
              have cq : G q = G (en_a E s) ↔ cn_R E T s q (en_a E s) := hGc _ _ hq ha
              have dp : G p = G (en_b E s) ↔ cn_R E T s p (en_b E s) := hGc _ _ hp hb
              have dq : G q = G (en_b E s) ↔ cn_R E T s q (en_b E s) := hGc _ _ hq hb
              have pq : G p = G q ↔ cn_R E T s p q := hGc _ _ hp hq
              by_cases z1 : G p = G (en_a E s)
              · rw [if_pos z1]
                by_cases z2 : G q = G (en_a E s)
                · rw [if_pos z2]
                  exact ⟨fun _ => Or.inl (pq.mp (z1.trans z2.symm)), fun _ => rfl⟩
                · rw [if_neg z2]
                  constructor
                  · intro w
                    exact Or.inr (Or.inl ⟨cp.mp z1, cn_s (dq.mp w.symm)⟩)
                  · rintro (w | ⟨_, w⟩ | ⟨w, _⟩)
                    · exact absurd ((pq.mpr w).symm.trans z1) z2
                    · exact (dq.mpr (cn_s w)).symm
                    · exact absurd (cn_t (cn_s (cp.mp z1)) w) c
              · rw [if_neg z1]
                by_cases z2 : G q = G (en_a E s)
                · rw [if_pos z2]
                  constructor
                  · intro w
                    exact Or.inr (Or.inr ⟨dp.mp w, cn_s (cq.mp z2)⟩)
                  · rintro (w | ⟨w, _⟩ | ⟨w, _⟩)
                    · exact absurd ((pq.mpr w).trans z2) z1
                    · exact absurd (cp.mpr w) z1
                    · exact dp.mpr w
                · rw [if_neg z2, pq]
                  refine ⟨Or.inl, ?_⟩
                  rintro (w | ⟨w, _⟩ | ⟨_, w⟩)
                  · exact w
                  · exact absurd (cp.mpr w) z1
                  · exact absurd (cq.mpr (cn_s w)) z2
            · rintro ⟨s', h1, h2, h3⟩
              rcases Nat.lt_or_ge s' s with q | q
              · exact hR ⟨s', q, h2, h3⟩
              · have e : s' = s := by omega
                subst e
                exact c h3
            · show x.1 + 1 = _
              rw [hc, nI_1, fb_ct_succ, if_pos ht]
            · show dl_s2 g 0 18 (en_ends E T s ||| (((1 : Int32) <<< (nI (en_a E s) &&& 31)) ||| ((1 : Int32) <<< (nI (en_b E s) &&& 31)))) 0 18 = _
              rw [ma_s2s]
              refine ma_ext fun i => ?_
              rw [b_or, b_or, ma_b1 (by omega), ma_b1 (by omega), Bool.or_eq_true, Bool.or_eq_true, decide_eq_true_iff, decide_eq_true_iff, en_ends_b ho (by omega), en_ends_b ho (by omega), fl_end_s]
              constructor
              · rintro (w | w | w)
                · exact Or.inl w
                · exact Or.inr ⟨ht, Or.inl w.symm⟩
                · exact Or.inr ⟨ht, Or.inr w.symm⟩
              · rintro (w | ⟨_, w | w⟩)
                · exact Or.inl w
                · exact Or.inr (Or.inl w.symm)
                · exact Or.inr (Or.inr w.symm)
          · rintro k2 p g hp ⟨f1, f2, f3⟩ ih2
            have hM2 := f1.M hM
            have hgp := (hG p hp).1
            have e3 := f3 p hp
            rw [if_neg (fun q => absurd q.1 (Nat.lt_irrefl p))] at e3
            rw [mo_treeOf_b86, hM2.n, if_neg (fun q => absurd ((ma_le (by omega) (by omega)).mp q) (by omega)), ma_gde (ma_in_t (by omega) (by omega)), nI_clamp (by omega), e3, ma_gde (ma_in_t (by omega) (by omega))]
            unfold mo_treeOf_b125
            have e4 : nI (G p) = nI (G (en_a E s)) ↔ G p = G (en_a E s) := nI_eq (by omega) (by omega)
            have fin : ∀ v, v = (if G p = G (en_a E s) then G (en_b E s) else G p) → ma_f17 (dl_s2 g 17 p (nI v)) g0 ∧ (dl_s2 g 17 p (nI v)) 0 18 = en_ends E T s ∧ ∀ q, q < en_n E → (dl_s2 g 17 p (nI v)) 17 q = nI (if q < p + 1 ∧ G q = G (en_a E s) then G (en_b E s) else G q) := by
              intro v hv
              refine ⟨(ma_f17.p _ _ _).t f1, by rw [ma_s2r _ _ _ _ (by decide)]; exact f2, fun q hq => ?_⟩
              rw [ma_s2]
              by_cases e : q = p
              · subst e
                rw [if_pos ⟨rfl, rfl⟩, hv]
                by_cases z : G q = G (en_a E s)
                · rw [if_pos z, if_pos ⟨Nat.lt_succ_self q, z⟩]
                · rw [if_neg z, if_neg (fun w => z w.2)]
              · rw [if_neg (fun z => e z.2), f3 q hq]
                by_cases z : q < p ∧ G q = G (en_a E s)
                · rw [if_pos z, if_pos ⟨by omega, z.2⟩]
                · rw [if_neg z, if_neg (fun w => z ⟨by have := w.1; omega, w.2⟩)]
            by_cases z : G p = G (en_a E s)
            · rw [if_pos (e4.mpr z), ma_gde (ma_in_t (by omega) (by omega)), ma_nme, ma_nme, nI_1, ma_wr _ (by omega)]
              exact ih2 _ (fin _ (by rw [if_pos z]))
            · rw [if_neg (fun w => z (e4.mp w)), ma_gde (ma_in_t (by omega) (by omega)), ma_nme, ma_nme, nI_1, ma_wr _ (by omega)]
              exact ih2 _ (fin _ (by rw [if_neg z]))
      · have hf := Bool.eq_false_iff.mpr ht
        rw [if_neg ht, if_pos rfl]
        unfold mo_treeOf_b161
        rw [ma_nme, nI_1]
        refine ih x ⟨hfr, ⟨G, hG, fun p q hp hq => by rw [cn_no hf]; exact hGc p q hp hq⟩, ?_, ?_, ?_⟩
        · rintro ⟨s', h1, h2, h3⟩
          rcases Nat.lt_or_ge s' s with q | q
          · exact hR ⟨s', q, h2, h3⟩
          · have e : s' = s := by omega
            subst e
            exact ht h2
        · rw [hc, fb_ct_succ, if_neg ht, Nat.add_zero]
        · rw [he]
          refine ma_ext fun i => ?_
          rw [en_ends_b ho (by omega), en_ends_b ho (by omega), fl_end_s]
          exact ⟨Or.inl, fun w => w.resolve_right (fun z => ht z.1)⟩
  unfold mo_treeOf
  rw [ma_nme]
  refine ma_loop (fun k p (g : dl_Sg) => mo_treeOf_b2 N k T (nI p) g) (fun m g => ma_f17 g g0 ∧ ∀ p, p < m → g 17 p = nI p) _ (en_n E) ?_ ?_ N 0 g0 (by omega) (by omega) ⟨ma_f17.r _, fun p hp => absurd hp (Nat.not_lt_zero p)⟩
  · rintro k g ⟨h1, h2⟩
    rw [mo_treeOf_b2, (h1.M hM).n, if_pos ((ma_le (by omega) (by omega)).mpr (by omega)), ma_nme, ma_nme, ma_nme]
    refine key N 0 (0, dl_s2 g 0 18 0) (by omega) (by omega) ⟨(ma_f17.e _ _).t h1, ⟨fun p => p, fun p hp => ⟨hp, ?_⟩, fun p q hp hq => ⟨fun e => by have e : p = q := e; rw [e]; exact cn_0, fun h => (cn_k0 h).symm⟩⟩, fun ⟨s, h, _⟩ => absurd h (Nat.not_lt_zero s), rfl, ?_⟩
    · show dl_s2 g 0 18 0 17 p = _
      rw [ma_s2r _ _ _ _ (by decide)]
      exact h2 p hp
    · show dl_s2 g 0 18 0 0 18 = _
      rw [ma_s2s]
      refine ma_ext fun i => ?_
      rw [b_0, en_ends_b ho (by omega)]
      exact ⟨fun w => absurd w (by decide), fun ⟨s, h, _⟩ => absurd h (Nat.not_lt_zero s)⟩
  · rintro k p g hp ⟨h1, h2⟩ ih
    rw [mo_treeOf_b2, (h1.M hM).n, if_neg (fun q => absurd ((ma_le (by omega) (by omega)).mp q) (by omega)), ma_gde (ma_in_t (by omega) (by omega)), ma_nme, ma_nme, nI_1, ma_wr _ (by omega)]
    refine ih _ ⟨(ma_f17.p _ _ _).t h1, fun x hx => ?_⟩
    rw [ma_s2]
    by_cases e : x = p
    · subst e; rw [if_pos ⟨rfl, rfl⟩]
    · rw [if_neg (fun z => e z.2)]; exact h2 x (by omega)
end
