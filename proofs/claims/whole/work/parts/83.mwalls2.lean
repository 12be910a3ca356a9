/-! The mathematics: walls, by the reference: steps, all of it -/
section
variable {E : ma_E} {N r : Nat} {A : wl_S}
theorem ma_Lf {v : Nat} (h : v < 2 ^ 31) : (100000000 : Int32) ≤ nI v ↔ 100000000 ≤ v := ma_le (a := 100000000) (by omega) h
/-- all active parts grow -/
theorem ma_mgrow (hN : 21 ≤ N) (ho : en_ok E) {g0 : dl_Sg} (hM : en_M E g0) (hI : wl_I E A) (hA : wl_M E r A g0) (hr : r < 32) {v : Nat} (hv : v ≤ 102400) : ma_wp (mo_raise_b68 N N (nI v) 0 g0) (fun x => ma_fm x.2 g0 ∧ x.1 = 1 ∧ wl_M E r (wl_grow E r A v) x.2) := by
  have hn := ho.n
  have hK := hI.K
  refine ma_loop (fun k m (g : dl_Sg) => mo_raise_b68 N k (nI v) (nI m) g) (fun m g => ma_fm g g0 ∧ (g 0 27 = nI (wl_K A) ∧ g 0 31 = nI r) ∧ (∀ k, k < wl_K A → g 28 k = wl_P A k) ∧ (∀ p, p < en_n E → g 30 p = nI (wl_O A p)) ∧ ∀ k, k < wl_K A → g 29 k = nI (if k < m then wl_H (wl_grow E r A v) k else wl_H A k)) _ (wl_K A) ?_ ?_ N 0 g0 (by omega) (by omega) ⟨ma_fm.rf _, ⟨hA.1, hA.2.1⟩, fun k hk => (hA.2.2.1 k hk).1, hA.2.2.2, fun k hk => by rw [if_neg (Nat.not_lt_zero k)]; exact (hA.2.2.1 k hk).2⟩
  · rintro k g ⟨f1, ⟨f2, f2'⟩, f3, f4, f5⟩
    rw [mo_raise_b68, f2, if_pos ((ma_le (by omega) (by omega)).mpr (by omega))]
    unfold mo_raise_b118
    rw [if_neg (fun q => absurd ((ma_Lf (by omega)).mp q) (by omega))]
    exact ma_some ⟨f1, rfl, f2, f2', fun k hk => ⟨f3 k hk, (f5 k hk).trans (by rw [if_pos (show k < wl_K A from hk)])⟩, f4⟩
  · rintro k m g hm ⟨f1, ⟨f2, f2'⟩, f3, f4, f5⟩ ih
    have hM1 := f1.M hM
    have hAg : wl_M E r ((wl_K A, wl_P A), (fun k => if k < m then wl_H (wl_grow E r A v) k else wl_H A k, wl_O A)) g := ⟨f2, f2', fun k hk => ⟨f3 k hk, f5 k hk⟩, f4⟩
    have hact : mo_isActive N g (nI m) = some (if wl_act E r A m = true then 1 else 0) := ma_mact hN ho hM1 hAg hr (by show wl_K A ≤ 20; omega) (by exact hm)
    have f5m := f5 m hm
    rw [if_neg (Nat.lt_irrefl m)] at f5m
    have eH : wl_H (wl_grow E r A v) m = if ma_dec (wl_now E A m) = true ∧ wl_act E r A m = true then wl_H A m + v else wl_H A m := rfl
    obtain ⟨x, ex, hx⟩ := ma_mnow hN ho hM1 hI f4 hm
    rw [mo_raise_b68, f2, if_neg (fun q => absurd ((ma_le (by omega) (by omega)).mp q) (by omega)), if_neg (fun q => absurd ((ma_Lf (by omega)).mp q) (by omega)), ma_gde (ma_in_t (by omega) (by omega)), dl_bi_e ex, nI_clamp (by omega), f5m]
    unfold mo_raise_b109 mo_raise_b110
    have fin : ∀ w : Int32, w = nI (wl_H (wl_grow E r A v) m) → ma_wp (mo_raise_b68 N k (nI v) (nI (m + 1)) (dl_s2 g 29 m w)) (fun x => ma_fm x.2 g0 ∧ x.1 = 1 ∧ wl_M E r (wl_grow E r A v) x.2) := by
      intro w hw
      refine ih _ ⟨(ma_fm.s _ (by omega) _ _).t f1, ⟨by rw [ma_s2r _ _ _ _ (by decide)]; exact f2, by rw [ma_s2r _ _ _ _ (by decide)]; exact f2'⟩, fun k hk => by rw [ma_s2r _ _ _ _ (by decide)]; exact f3 k hk, fun p hp => by rw [ma_s2r _ _ _ _ (by decide)]; exact f4 p hp, fun k hk => ?_⟩
      rw [ma_s2]
      by_cases e : k = m
      · rw [if_pos ⟨rfl, e⟩, hw, e, if_pos (Nat.lt_succ_self m)]
      · rw [if_neg (fun z => e z.2), f5 k hk]
        by_cases c : k < m
        · rw [if_pos c, if_pos (show k < m + 1 by omega)]
        · rw [if_neg c, if_neg (show ¬ k < m + 1 by omega)]
    rcases hx with ⟨x1, x2⟩ | ⟨x1, x2⟩
    · rw [if_pos x1, ma_gde (ma_in_t (by omega) (by omega)), ma_nme, ma_nme, nI_1, ma_wr _ (by omega)]
      refine fin _ ?_
      rw [eH, if_neg (fun q => x2 (ma_dec_t.mp q.1))]
      exact Int32.add_zero _
    · rw [if_neg (by rw [x1]; decide), dl_bi_e hact]
      by_cases c2 : wl_act E r A m = true
      · rw [if_pos c2, if_neg (by decide), ma_gde (ma_in_t (by omega) (by omega)), ma_nme, ma_nme, nI_1, ma_wr _ (by omega)]
        refine fin _ ?_
        rw [eH, if_pos ⟨ma_dec_t.mpr x2, c2⟩, nI_add]
      · rw [if_neg c2, if_pos rfl, ma_gde (ma_in_t (by omega) (by omega)), ma_nme, ma_nme, nI_1, ma_wr _ (by omega)]
        refine fin _ ?_
        rw [eH, if_neg (fun q => c2 q.2)]
        exact Int32.add_zero _
theorem ma_raise (hN : 21 ≤ N) (ho : en_ok E) {g0 : dl_Sg} (hM : en_M E g0) (hI : wl_I E A) (hA : wl_M E r A g0) (hr : r < 32) {t : Nat} (hB : wl_B A t) (ht : t ≤ 22) : ma_wp (mo_raise N g0) (fun x => ma_fm x.2 g0 ∧ ((x.1 = 1 ∧ ∃ A1, wl_step E r A A1 ∧ wl_M E r A1 x.2) ∨ (x.1 = 0 ∧ wl_none E r A ∧ wl_M E r A x.2))) := by
  have hn := ho.n
  have hm := ho.m
  have hK := hI.K
  have hFF : ds_F = 100000000 := rfl
  unfold mo_raise
  rw [ma_nme, ma_nme]
  refine ma_loop (fun k s (x : Int32) => mo_raise_b5 N k x (nI s) g0) (fun m x => (∀ s, s < m → ¬ wl_ok E r A s) ∧ ((x = nI ds_F ∧ ∀ s, s < m → wl_c E r A s = 0) ∨ ∃ v, x = nI v ∧ v ≤ 102400 ∧ (∃ s, s < m ∧ 0 < wl_c E r A s ∧ v = wl_q E r A s) ∧ ∀ s, s < m → 0 < wl_c E r A s → v ≤ wl_q E r A s)) _ (en_m E) ?_ ?_ N 0 (100000000 : Int32) (by omega) (by omega) ⟨fun s h => absurd h (Nat.not_lt_zero s), Or.inl ⟨rfl, fun s h => absurd h (Nat.not_lt_zero s)⟩⟩
  · rintro k x ⟨h1, h2⟩
    rw [mo_raise_b5, hM.m, if_pos ((ma_le (by omega) (by omega)).mpr (by omega)), ma_nme]
    rcases h2 with ⟨x1, x2⟩ | ⟨v, x1, x2, ⟨s, s1, s2, s3⟩, x4⟩
    · rw [x1]
      obtain ⟨N2, rfl⟩ : ∃ N2, N = N2 + 1 := ⟨N - 1, by omega⟩
      rw [mo_raise_b68, hA.1]
      unfold mo_raise_b118
      have fin : ma_wp (if (100000000 : Int32) ≤ nI ds_F then (some ((0 : Int32), g0)) else (some ((1 : Int32), g0))) (fun x => ma_fm x.2 g0 ∧ ((x.1 = 1 ∧ ∃ A1, wl_step E r A A1 ∧ wl_M E r A1 x.2) ∨ (x.1 = 0 ∧ wl_none E r A ∧ wl_M E r A x.2))) := by
        rw [if_pos ((ma_Lf (by omega)).mpr (by omega))]
        exact ma_some ⟨ma_fm.rf _, Or.inr ⟨rfl, x2, hA⟩⟩
      by_cases c : nI (wl_K A) ≤ (0 : Int32)
      · rw [if_pos c]; exact fin
      · rw [if_neg c]
        rw [if_pos ((ma_Lf (v := ds_F) (by omega)).mpr (by omega)), if_pos ((ma_Lf (v := ds_F) (by omega)).mpr (by omega))]
        exact ma_some ⟨ma_fm.rf _, Or.inr ⟨rfl, x2, hA⟩⟩
    · rw [x1]
      refine ma_mono (ma_mgrow hN ho hM hI hA hr x2) ?_
      rintro y ⟨y1, y2, y3⟩
      exact ⟨y1, Or.inl ⟨y2, _, Or.inr ⟨v, ⟨fun s q => h1 s q.1 q, ⟨s, s1, s2, s3⟩, x4⟩, rfl⟩, y3⟩⟩
  · rintro k s x hs ⟨h1, h2⟩ ih
    have ha := ho.a hs
    have hb := ho.b hs
    have hc2 : wl_c E r A s ≤ 2 := wl_c_le
    have hcc := ho.c2 hs
    have hsum := wl_big ho hI hB ht s (wl_K A) (Nat.le_refl _)
    rw [mo_raise_b5, hM.m, if_neg (fun q => absurd ((ma_le (by omega) (by omega)).mp q) (by omega)), dl_bi_e (ma_msides hN ho hM hI hA hr hs), ma_nme]
    unfold mo_raise_b59 mo_raise_b60
    have e0 : nI (wl_c E r A s) ≤ 0 ↔ wl_c E r A s = 0 := by
      have := ma_le (a := wl_c E r A s) (b := 0) (by omega) (by omega)
      rw [show (0 : Int32) = nI 0 from rfl, this]
      omega
    by_cases c0 : wl_c E r A s = 0
    · rw [if_pos (e0.mpr c0), ma_nme, nI_1]
      refine ih x ⟨fun s' hs' => ?_, ?_⟩
      · by_cases e : s' = s
        · rw [e]; exact fun q => by have := q.2.1; omega
        · exact h1 s' (by omega)
      · rcases h2 with ⟨x1, x2⟩ | ⟨v, x1, x2, ⟨s0, s1, s2, s3⟩, x4⟩
        · refine Or.inl ⟨x1, fun s' hs' => ?_⟩
          by_cases e : s' = s
          · rw [e]; exact c0
          · exact x2 s' (by omega)
        · refine Or.inr ⟨v, x1, x2, ⟨s0, by omega, s2, s3⟩, fun s' hs' hc' => ?_⟩
          by_cases e : s' = s
          · rw [e] at hc'; omega
          · exact x4 s' (by omega) hc'
    · rw [if_neg (fun q => c0 (e0.mp q)), dl_bi_e (ma_mroom hN ho hM hI hA hs), ma_nme]
      by_cases c1 : wl_sum E A s (wl_K A) + wl_c E r A s ≤ 1024 * en_c E s
      · have hd : dl_ne0 (nI (wl_c E r A s)) = true := decide_eq_true (nI_ne0 (by omega) (by omega))
        rw [if_pos ((wl_cmp ho hI hB ht hs).mpr c1), ma_gde hd, pk_sub (by omega), pk_div (by omega) (by omega) (by omega), ma_gde hd]
        have hq : wl_q E r A s ≤ 102400 := by
          have : wl_q E r A s ≤ 1024 * en_c E s - wl_sum E A s (wl_K A) := Nat.div_le_self _ _
          omega
        show ma_wp (if x ≤ nI (wl_q E r A s) then dl_nm x fun v1 => dl_nm (nI s + 1) fun v1_1 => mo_raise_b5 N k v1 v1_1 g0 else dl_nm (nI (wl_q E r A s)) fun v1 => dl_nm (nI s + 1) fun v1_1 => mo_raise_b5 N k v1 v1_1 g0) _
        have hno : ∀ s', s' < s + 1 → ¬ wl_ok E r A s' := fun s' hs' => by
          by_cases e : s' = s
          · rw [e]; exact fun q => by have := q.2.2; omega
          · exact h1 s' (by omega)
        rcases h2 with ⟨x1, x2⟩ | ⟨v, x1, x2, ⟨s0, s1, s2, s3⟩, x4⟩
        · rw [x1, if_neg (fun q => absurd ((ma_le (by omega) (by omega)).mp q) (by omega)), ma_nme, ma_nme, nI_1]
          refine ih _ ⟨hno, Or.inr ⟨_, rfl, hq, ⟨s, by omega, by omega, rfl⟩, fun s' hs' hc' => ?_⟩⟩
          by_cases e : s' = s
          · rw [e]; exact Nat.le_refl _
          · have := x2 s' (by omega); omega
        · rw [x1]
          by_cases c2 : wl_q E r A s < v
          · rw [if_neg (fun q => absurd ((ma_le (by omega) (by omega)).mp q) (by omega)), ma_nme, ma_nme, nI_1]
            refine ih _ ⟨hno, Or.inr ⟨_, rfl, hq, ⟨s, by omega, by omega, rfl⟩, fun s' hs' hc' => ?_⟩⟩
            by_cases e : s' = s
            · rw [e]; exact Nat.le_refl _
            · have := x4 s' (by omega) hc'; omega
          · rw [if_pos ((ma_le (by omega) (by omega)).mpr (by omega)), ma_nme, ma_nme, nI_1]
            refine ih _ ⟨hno, Or.inr ⟨v, rfl, x2, ⟨s0, by omega, s2, s3⟩, fun s' hs' hc' => ?_⟩⟩
            by_cases e : s' = s
            · rw [e]; omega
            · exact x4 s' (by omega) hc'
      · obtain ⟨_, hne⟩ := wl_c_pos (E := E) (r := r) (A := A) (s := s) (by omega)
        rw [if_neg (fun q => c1 ((wl_cmp ho hI hB ht hs).mp q))]
        obtain ⟨g1, e1, p1, p2⟩ := ma_mjoin hN ho hM hI hA hs hne
        rw [dl_bi_e e1]
        exact ma_some ⟨p1, Or.inl ⟨rfl, _, Or.inl ⟨s, ⟨⟨hs, by omega, by omega⟩, h1⟩, rfl⟩, p2⟩⟩
/-- the start -/
theorem ma_begin (hN : 21 ≤ N) (ho : en_ok E) {g0 : dl_Sg} (hM : en_M E g0) : ma_wp (mo_begin N g0) (fun g => ma_fm g g0 ∧ ((g 0 31 = -1 ∧ (∀ p, ¬ sp_tap E p) ∧ g 0 27 = nI (en_n E) ∧ ∀ k, k < en_n E → g 29 k = 0) ∨ ∃ r, wl_rt E r ∧ wl_M E r (wl_A0 E) g)) := by
  have hn := ho.n
  unfold mo_begin
  rw [ma_nme, ma_nme]
  have f0 : ma_fm (dl_s2 (dl_s2 g0 0 27 (g0 0 0)) 0 31 (-1)) g0 := (ma_fm.s0 _ (by omega) _).t (ma_fm.s0 _ (by omega) _)
  have r0 : (dl_s2 (dl_s2 g0 0 27 (g0 0 0)) 0 31 (-1)) 0 31 = -1 := ma_s2s _ _ _ _
  have k0 : (dl_s2 (dl_s2 g0 0 27 (g0 0 0)) 0 31 (-1)) 0 27 = nI (en_n E) := (ma_s2n _ _ (fun q => absurd q.2 (by decide))).trans ((ma_s2s _ _ _ _).trans hM.n)
  generalize dl_s2 (dl_s2 g0 0 27 (g0 0 0)) 0 31 (-1) = g1 at f0 r0 k0
  rw [(f0.M hM).n, ma_nme]
  have key : ∀ j k (g : dl_Sg), j ≤ en_n E → j < k → ma_fm g g0 → g 0 27 = nI (en_n E) → (∀ p, j ≤ p → p < en_n E → g 28 p = (1 : Int32) <<< (nI p &&& 31) ∧ g 29 p = 0 ∧ g 30 p = nI p) → ((g 0 31 = -1 ∧ ∀ p, j ≤ p → ¬ sp_tap E p) ∨ ∃ q, j ≤ q ∧ g 0 31 = nI q ∧ sp_tap E q ∧ (en_k E q = 3 ∨ ((∀ p, j ≤ p → p < en_n E → en_k E p ≠ 3) ∧ ∀ p, j ≤ p → p < q → ¬ sp_tap E p))) → ma_wp (mo_begin_b20 N k (nI j - 1) g) (fun g => ma_fm g g0 ∧ ((g 0 31 = -1 ∧ (∀ p, ¬ sp_tap E p) ∧ g 0 27 = nI (en_n E) ∧ ∀ k, k < en_n E → g 29 k = 0) ∨ ∃ r, wl_rt E r ∧ wl_M E r (wl_A0 E) g)) := by
    intro j
    induction j with
    | zero =>
      intro k g _ hk hf h27 hc hr
      obtain ⟨k2, rfl⟩ : ∃ k2, k = k2 + 1 := ⟨k - 1, by omega⟩
      rw [mo_begin_b20, if_pos (by decide)]
      refine ma_some ⟨hf, ?_⟩
      rcases hr with ⟨a, b⟩ | ⟨q, a, b, c, d⟩
      · exact Or.inl ⟨a, fun p => b p (Nat.zero_le p), h27, fun p hp => (hc p (Nat.zero_le p) hp).2.1⟩
      · refine Or.inr ⟨q, ⟨c, ?_⟩, h27, b, fun p hp => ⟨(hc p (Nat.zero_le p) hp).1, (hc p (Nat.zero_le p) hp).2.1⟩, fun p hp => (hc p (Nat.zero_le p) hp).2.2⟩
        rcases d with d | ⟨d1, d2⟩
        · exact Or.inl d
        · exact Or.inr ⟨fun p hp => d1 p (Nat.zero_le p) hp, fun p hp => d2 p (Nat.zero_le p) hp⟩
    | succ j ih =>
      intro k g hj hk hf h27 hc hr
      obtain ⟨k2, rfl⟩ : ∃ k2, k = k2 + 1 := ⟨k - 1, by omega⟩
      rw [nI_pred, mo_begin_b20, if_neg (nI_pos (by omega)), ma_gde (ma_in_t (by omega) (by omega)), ma_nme, ma_wr _ (by omega), ma_gde (ma_in_t (by omega) (by omega)), ma_nme, ma_wr _ (by omega), ma_gde (ma_in_t (by omega) (by omega)), ma_nme, ma_wr _ (by omega)]
      have f3 : ma_fm (dl_s2 (dl_s2 (dl_s2 g 28 j ((1 : Int32) <<< (nI j &&& 31))) 29 j 0) 30 j (nI j)) g0 := (ma_fm.s _ (by omega) _ _).t ((ma_fm.s _ (by omega) _ _).t ((ma_fm.s _ (by omega) _ _).t hf))
      have z3 : ∀ i, (dl_s2 (dl_s2 (dl_s2 g 28 j ((1 : Int32) <<< (nI j &&& 31))) 29 j 0) 30 j (nI j)) 0 i = g 0 i := fun i => by
        rw [ma_s2r _ _ _ _ (by decide), ma_s2r _ _ _ _ (by decide), ma_s2r _ _ _ _ (by decide)]
      have c3 : ∀ p, j ≤ p → p < en_n E → (dl_s2 (dl_s2 (dl_s2 g 28 j ((1 : Int32) <<< (nI j &&& 31))) 29 j 0) 30 j (nI j)) 28 p = (1 : Int32) <<< (nI p &&& 31) ∧ (dl_s2 (dl_s2 (dl_s2 g 28 j ((1 : Int32) <<< (nI j &&& 31))) 29 j 0) 30 j (nI j)) 29 p = 0 ∧ (dl_s2 (dl_s2 (dl_s2 g 28 j ((1 : Int32) <<< (nI j &&& 31))) 29 j 0) 30 j (nI j)) 30 p = nI p := fun p h1 h2 => by
        rw [ma_s2r _ 30 _ _ (show 28 ≠ 30 by decide), ma_s2r _ 29 _ _ (show 28 ≠ 29 by decide), ma_s2r _ 30 _ _ (show 29 ≠ 30 by decide)]
        by_cases e : p = j
        · subst e
          rw [ma_s2s, ma_s2s, ma_s2s]
          exact ⟨rfl, rfl, rfl⟩
        · obtain ⟨a1, a2, a3⟩ := hc p (by omega) h2
          refine ⟨?_, ?_, ?_⟩
          · rw [ma_s2n _ _ (fun q => e q.2)]; exact a1
          · rw [ma_s2n _ _ (fun q => e q.2), ma_s2r _ _ _ _ (by decide)]; exact a2
          · rw [ma_s2n _ _ (fun q => e q.2), ma_s2r _ _ _ _ (by decide), ma_s2r _ _ _ _ (by decide)]; exact a3
      generalize (dl_s2 (dl_s2 (dl_s2 g 28 j ((1 : Int32) <<< (nI j &&& 31))) 29 j 0) 30 j (nI j)) = g3 at f3 z3 c3
      rw [dl_bi_e (ma_misTap ho (f3.M hM) (show j < en_n E by omega))]
      unfold mo_begin_b81 mo_begin_b77 mo_begin_b85
      have em : ∀ x : Int32, x + (-1) = x - 1 := fun x => (Int32.sub_eq_add_neg x 1).symm
      -- the root that stays, the root that comes
      have fin : ∀ v : Int32, ((v = -1 ∧ ∀ p, j ≤ p → ¬ sp_tap E p) ∨ ∃ q, j ≤ q ∧ v = nI q ∧ sp_tap E q ∧ (en_k E q = 3 ∨ ((∀ p, j ≤ p → p < en_n E → en_k E p ≠ 3) ∧ ∀ p, j ≤ p → p < q → ¬ sp_tap E p))) → ma_wp (mo_begin_b20 N k2 (nI j - 1) (dl_s2 g3 0 31 v)) (fun g => ma_fm g g0 ∧ ((g 0 31 = -1 ∧ (∀ p, ¬ sp_tap E p) ∧ g 0 27 = nI (en_n E) ∧ ∀ k, k < en_n E → g 29 k = 0) ∨ ∃ r, wl_rt E r ∧ wl_M E r (wl_A0 E) g)) := by
        intro v hv
        refine ih k2 _ (by omega) (by omega) ((ma_fm.s0 _ (by omega) _).t f3) ?_ (fun p h1 h2 => ?_) ?_
        · rw [ma_s2n _ _ (fun q => absurd q.2 (by decide)), z3]; exact h27
        · rw [ma_s2r _ _ _ _ (by decide), ma_s2r _ _ _ _ (by decide), ma_s2r _ _ _ _ (by decide)]; exact c3 p h1 h2
        · rw [ma_s2s]; exact hv
      have htj : en_tap E j = true ↔ sp_tap E j := ⟨fun q => ⟨by omega, q⟩, fun q => q.2⟩
      have k3tap : en_k E j = 3 → en_tap E j = true := fun q => decide_eq_true (Or.inr q)
      have come : (∀ q, j + 1 ≤ q → q < en_n E → en_k E q ≠ 3) → sp_tap E j → ma_wp (mo_begin_b20 N k2 (nI j - 1) (dl_s2 g3 0 31 (nI j))) (fun g => ma_fm g g0 ∧ ((g 0 31 = -1 ∧ (∀ p, ¬ sp_tap E p) ∧ g 0 27 = nI (en_n E) ∧ ∀ k, k < en_n E → g 29 k = 0) ∨ ∃ r, wl_rt E r ∧ wl_M E r (wl_A0 E) g)) := by
        intro hw ht
        refine fin _ (Or.inr ⟨j, Nat.le_refl _, rfl, ht, ?_⟩)
        by_cases c : en_k E j = 3
        · exact Or.inl c
        · refine Or.inr ⟨fun p h1 h2 => ?_, fun p h1 h2 => by omega⟩
          by_cases e : p = j
          · rw [e]; exact c
          · exact hw p (by omega) h2
      by_cases ct : en_tap E j = true
      · rw [if_pos ct, if_neg (by decide), z3 31]
        rcases hr with ⟨a, b⟩ | ⟨q, a, b, c, d⟩
        · rw [if_pos a, ma_nme, ma_nme, em]
          refine come (fun q h1 h2 h3 => b q h1 ⟨h2, decide_eq_true (Or.inr h3)⟩) (htj.mp ct)
        · have hq : q < en_n E := c.1
          have hkq := ho.k hq
          have hk1 : g3 1 q = nI (en_k E q) := (f3.M hM).k hq
          rw [b, if_neg (ma_m1 (by omega)), ma_gde (ma_in_t (by omega) (by omega)), nI_clamp (by omega), hk1]
          have e3 : nI (en_k E q) = (3 : Int32) ↔ en_k E q = 3 := nI_eq (b := 3) (by omega) (by omega)
          by_cases c3' : en_k E q = 3
          · rw [if_pos (e3.mpr c3'), ma_nme, ma_nme, em]
            exact fin _ (Or.inr ⟨q, by omega, rfl, c, Or.inl c3'⟩)
          · rw [if_neg (fun z => c3' (e3.mp z)), ma_nme, ma_nme, em]
            rcases d with d | ⟨d1, _⟩
            · exact absurd d c3'
            · exact come d1 (htj.mp ct)
      · rw [if_neg ct, if_pos rfl, ma_nme, ma_nme, em, z3 31]
        refine fin _ ?_
        rcases hr with ⟨a, b⟩ | ⟨q, a, b, c, d⟩
        · refine Or.inl ⟨a, fun p hp => ?_⟩
          by_cases e : p = j
          · rw [e]; exact fun z => ct z.2
          · exact b p (by omega)
        · refine Or.inr ⟨q, by omega, b, c, ?_⟩
          rcases d with d | ⟨d1, d2⟩
          · exact Or.inl d
          · refine Or.inr ⟨fun p h1 h2 => ?_, fun p h1 h2 => ?_⟩
            · by_cases e : p = j
              · rw [e]; exact fun z => ct (k3tap z)
              · exact d1 p (by omega) h2
            · by_cases e : p = j
              · rw [e]; exact fun z => ct z.2
              · exact d2 p (by omega) h2
  exact key (en_n E) N g1 (Nat.le_refl _) (by omega) f0 k0 (fun p h1 h2 => by omega) (Or.inl ⟨r0, fun p hp q => by have := q.1; omega⟩)
/-- the reference's walls -/
theorem ma_raiseAll (hN : 70 ≤ N) (ho : en_ok E) {g0 : dl_Sg} (hM : en_M E g0) : ma_wp (mo_raiseAll N g0) (fun x => ma_fm x.2 g0 ∧ ((x.1 = -1 ∧ (∀ p, ¬ sp_tap E p) ∧ x.2 0 27 = nI (en_n E) ∧ ∀ k, k < en_n E → x.2 29 k = 0) ∨ ∃ r j A, wl_rt E r ∧ wl_run E r j (wl_A0 E) x.1 A ∧ wl_M E r A x.2)) := by
  have hn := ho.n
  unfold mo_raiseAll
  obtain ⟨g1, e1, f1, h1⟩ := ma_begin (N := N) (by omega) ho hM
  rw [dl_bi_e e1]
  rcases h1 with ⟨a, b, c, d⟩ | ⟨r, a, b⟩
  · rw [if_pos a]
    exact ma_some ⟨f1, Or.inl ⟨rfl, b, c, d⟩⟩
  · have hr : r < en_n E := a.1.1
    rw [b.2.1, if_neg (ma_m1 (by omega))]
    have key : ∀ k t (A : wl_S) (g : dl_Sg), ma_fm g g0 → wl_I E A → wl_M E r A g → wl_B A t → wl_mu E r A t → 40 - t < k → ma_wp (mo_raiseAll_b14 N k g) (fun x => ma_fm x.2 g0 ∧ ∃ j A', wl_run E r j A x.1 A' ∧ wl_M E r A' x.2) := by
      intro k
      induction k with
      | zero => intro t A g _ _ _ _ _ h; omega
      | succ k ih =>
        intro t A g hf hI hA hB hm hk
        have hm1 := hm.1
        have hMg := hf.M hM
        rw [mo_raiseAll_b14]
        obtain ⟨x, ex, hx⟩ := ma_msome (N := N) (by omega) ho hMg hI hA (show r < 32 by omega)
        rw [dl_bi_e ex]
        rcases hx with ⟨x1, x2⟩ | ⟨x1, x2⟩
        · rw [if_pos x1]
          exact ma_some ⟨hf, 0, A, ⟨rfl, Or.inl ⟨x2, rfl⟩⟩, hA⟩
        · rw [if_neg (by rw [x1]; decide)]
          obtain ⟨⟨y, g2⟩, e2, f2, h2⟩ := ma_raise (N := N) (by omega) ho hMg hI hA (show r < 32 by omega) hB (by omega)
          rw [dl_b2_e e2]
          rcases h2 with ⟨y1, A1, s1, s2⟩ | ⟨y1, s1, s2⟩
          · have y1 : y = 1 := y1
            obtain ⟨i1, i2, i3⟩ := wl_step_I ho hI hB hm s1
            rw [if_neg (by rw [y1]; decide)]
            refine ma_mono (ih (t + 1) A1 g2 (f2.t hf) i1 s2 i2 i3 (by omega)) ?_
            rintro z ⟨q1, j, A', q2, q3⟩
            exact ⟨q1, j + 1, A', ⟨x2, A1, s1, q2⟩, q3⟩
          · have y1 : y = 0 := y1
            rw [if_pos y1]
            exact ma_some ⟨f2.t hf, 0, A, ⟨rfl, Or.inr ⟨x2, s1, rfl⟩⟩, s2⟩
    refine ma_mono (key N 0 (wl_A0 E) g1 f1 (wl_I0 ho) b (wl_B0 E) (wl_mu0 E r) (by omega)) ?_
    rintro x ⟨q1, j, A, q2, q3⟩
    exact ⟨q1, Or.inr ⟨r, j, A, a, q2, q3⟩⟩
end
