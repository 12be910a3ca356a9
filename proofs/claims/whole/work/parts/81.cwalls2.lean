/-! The mathematics: walls, by the class: steps, refresh, answers -/
section
variable {E : ma_E} {N r : Nat} {A : wl_S}
theorem wl_big (ho : en_ok E) (hI : wl_I E A) {t : Nat} (hB : wl_B A t) (ht : t ≤ 22) (s m : Nat) (hm : m ≤ wl_K A) : wl_sum E A s m ≤ 45056000 := by
  have hn := ho.n
  have hK := hI.K
  have h1 := wl_sum_le (E := E) (s := s) hB hm
  have h2 : m * (t * 102400) ≤ 20 * (22 * 102400) := Nat.mul_le_mul (by omega) (Nat.mul_le_mul ht (Nat.le_refl _))
  exact Nat.le_trans h1 (Nat.le_trans h2 (by decide))
/-- the compare of a room with the count of sides -/
theorem wl_cmp (ho : en_ok E) (hI : wl_I E A) {t : Nat} (hB : wl_B A t) (ht : t ≤ 22) {s : Nat} (hs : s < en_m E) : (nI (wl_c E r A s) ≤ nI (1024 * en_c E s) - nI (wl_sum E A s (wl_K A))) ↔ wl_sum E A s (wl_K A) + wl_c E r A s ≤ 1024 * en_c E s := by
  have h1 := wl_big ho hI hB ht s (wl_K A) (Nat.le_refl _)
  have h2 := ho.c2 hs
  have h3 : wl_c E r A s ≤ 2 := wl_c_le
  rw [fa_le, nI_toInt (by omega), pk_sub_toInt (by omega) (by omega)]
  omega
theorem ma_goOn (hN : 21 ≤ N) (ho : en_ok E) {g0 : dl_Sg} (hC : en_C E g0) (hI : wl_I E A) (hA : wl_C E r A g0) (hr : r < 32) {t : Nat} (hB : wl_B A t) (ht : t ≤ 22) : ma_wp (cl7_goOn N g0) (fun g => ma_fw g g0 ∧ ((∃ A1, wl_step E r A A1 ∧ wl_C E r A1 g ∧ g 4 6 = g0 4 6) ∨ (wl_none E r A ∧ wl_C E r A g ∧ g 4 6 = -2))) := by
  have hn := ho.n
  have hm := ho.m
  have hK := hI.K
  have hFF : ds_F = 100000000 := rfl
  unfold cl7_goOn
  rw [ma_nme, ma_nme]
  refine ma_loop (fun k s (x : Int32) => cl7_goOn_b5 N k x (nI s) g0) (fun m x => (∀ s, s < m → ¬ wl_ok E r A s) ∧ ((x = nI ds_F ∧ ∀ s, s < m → wl_c E r A s = 0) ∨ ∃ v, x = nI v ∧ v ≤ 102400 ∧ (∃ s, s < m ∧ 0 < wl_c E r A s ∧ v = wl_q E r A s) ∧ ∀ s, s < m → 0 < wl_c E r A s → v ≤ wl_q E r A s)) _ (en_m E) ?_ ?_ N 0 (100000000 : Int32) (by omega) (by omega) ⟨fun s h => absurd h (Nat.not_lt_zero s), Or.inl ⟨rfl, fun s h => absurd h (Nat.not_lt_zero s)⟩⟩
  · rintro k x ⟨h1, h2⟩
    rw [cl7_goOn_b5, hC.m, if_pos ((ma_le (by omega) (by omega)).mpr (by omega))]
    rcases h2 with ⟨x1, x2⟩ | ⟨v, x1, x2, ⟨s, s1, s2, s3⟩, x4⟩
    · rw [x1, if_pos (show nI ds_F = (100000000 : Int32) from rfl), ma_nme]
      refine ma_some ⟨ma_fw.s4 _ (by decide) _, Or.inr ⟨x2, ⟨?_, ?_, fun k hk => ?_, fun p hp => ?_⟩, ma_s2s _ _ _ _⟩⟩
      · rw [ma_s2n _ _ (fun q => absurd q.2 (by decide))]; exact hA.1
      · rw [ma_s2n _ _ (fun q => absurd q.2 (by decide))]; exact hA.2.1
      · rw [ma_s2r _ _ _ _ (by decide), ma_s2r _ _ _ _ (by decide)]; exact hA.2.2.1 k hk
      · rw [ma_s2r _ _ _ _ (by decide)]; exact hA.2.2.2 p hp
    · rw [x1, if_neg (show ¬ nI v = (100000000 : Int32) from fun q => absurd ((nI_eq (b := 100000000) (by omega) (by omega)).mp q) (by omega))]
      obtain ⟨g1, e1, f1, f2, f3⟩ := ma_cgrow hN ho hC hI hA hr v
      rw [dl_bi_e e1]
      exact ma_some ⟨f1, Or.inl ⟨_, Or.inr ⟨v, ⟨fun s q => h1 s q.1 q, ⟨s, s1, s2, s3⟩, x4⟩, rfl⟩, f3, f2 6⟩⟩
  · rintro k s x hs ⟨h1, h2⟩ ih
    have ha := ho.a hs
    have hb := ho.b hs
    have ka := (hI.2.1 _ ha).1
    have kb := (hI.2.1 _ hb).1
    have hc2 : wl_c E r A s ≤ 2 := wl_c_le
    have hcc := ho.c2 hs
    have hsum := wl_big ho hI hB ht s (wl_K A) (Nat.le_refl _)
    rw [cl7_goOn_b5, hC.m, if_neg (fun q => absurd ((ma_le (by omega) (by omega)).mp q) (by omega)), dl_bi_e (ma_csides ho hC hI hA hr hs), ma_nme]
    unfold cl7_goOn_b92
    have e0 : nI (wl_c E r A s) ≤ 0 ↔ wl_c E r A s = 0 := by
      have := ma_le (a := wl_c E r A s) (b := 0) (by omega) (by omega)
      rw [show (0 : Int32) = nI 0 from rfl, this]
      omega
    by_cases c0 : wl_c E r A s = 0
    · rw [if_pos (e0.mpr c0), ma_nme, nI_1]
      refine ih x ⟨fun s' hs' => ?_, ?_⟩
      · by_cases e : s' = s
        · rw [e]; exact fun q => by have := q.2.1; omega
        · exact h1 s' (by omega)
      · rcases h2 with ⟨x1, x2⟩ | ⟨v, x1, x2, ⟨s0, s1, s2, s3⟩, x4⟩
        · refine Or.inl ⟨x1, fun s' hs' => ?_⟩
          by_cases e : s' = s
          · rw [e]; exact c0
          · exact x2 s' (by omega)
        · refine Or.inr ⟨v, x1, x2, ⟨s0, by omega, s2, s3⟩, fun s' hs' hc' => ?_⟩
          by_cases e : s' = s
          · rw [e] at hc'; omega
          · exact x4 s' (by omega) hc'
    · rw [if_neg (fun q => c0 (e0.mp q)), dl_bi_e (ma_croom hN ho hC hI hA hs), ma_nme]
      by_cases c1 : wl_sum E A s (wl_K A) + wl_c E r A s ≤ 1024 * en_c E s
      · have hd : dl_ne0 (nI (wl_c E r A s)) = true := decide_eq_true (nI_ne0 (by omega) (by omega))
        rw [if_pos ((wl_cmp ho hI hB ht hs).mpr c1), ma_gde hd, pk_sub (by omega), pk_div (by omega) (by omega) (by omega), ma_nme, ma_nme, nI_1]
        have hq : wl_q E r A s ≤ 102400 := by
          have : wl_q E r A s ≤ 1024 * en_c E s - wl_sum E A s (wl_K A) := Nat.div_le_self _ _
          omega
        show ma_wp (cl7_goOn_b5 N k (if nI (wl_q E r A s) < x then nI (wl_q E r A s) else x) (nI (s + 1)) g0) _
        have hno : ∀ s', s' < s + 1 → ¬ wl_ok E r A s' := fun s' hs' => by
          by_cases e : s' = s
          · rw [e]; exact fun q => by have := q.2.2; omega
          · exact h1 s' (by omega)
        rcases h2 with ⟨x1, x2⟩ | ⟨v, x1, x2, ⟨s0, s1, s2, s3⟩, x4⟩
        · rw [x1, if_pos ((ma_lt (by omega) (by omega)).mpr (by omega))]
          refine ih _ ⟨hno, Or.inr ⟨_, rfl, hq, ⟨s, by omega, by omega, rfl⟩, fun s' hs' hc' => ?_⟩⟩
          by_cases e : s' = s
          · rw [e]; exact Nat.le_refl _
          · have := x2 s' (by omega); omega
        · rw [x1]
          by_cases c2 : wl_q E r A s < v
          · rw [if_pos ((ma_lt (by omega) (by omega)).mpr c2)]
            refine ih _ ⟨hno, Or.inr ⟨_, rfl, hq, ⟨s, by omega, by omega, rfl⟩, fun s' hs' hc' => ?_⟩⟩
            by_cases e : s' = s
            · rw [e]; exact Nat.le_refl _
            · have := x4 s' (by omega) hc'; omega
          · rw [if_neg (fun q => c2 ((ma_lt (by omega) (by omega)).mp q))]
            refine ih _ ⟨hno, Or.inr ⟨v, rfl, x2, ⟨s0, by omega, s2, s3⟩, fun s' hs' hc' => ?_⟩⟩
            by_cases e : s' = s
            · rw [e]; omega
            · exact x4 s' (by omega) hc'
      · obtain ⟨_, hne⟩ := wl_c_pos (E := E) (r := r) (A := A) (s := s) (by omega)
        have hroom := hI.room ho hs hne
        rw [if_neg (fun q => c1 ((wl_cmp ho hI hB ht hs).mp q)), ma_gde (ma_in_t (by omega) (by omega)), nI_clamp (by omega), hC.a hs, hC.b hs, ma_gde (ma_in_t (by omega) (by omega)), nI_clamp (by omega), hA.2.2.2 _ ha, ma_gde (ma_in_t (by omega) (by omega)), ma_gde (ma_in_t (by omega) (by omega)), ma_gde (ma_in_t (by omega) (by omega)), nI_clamp (by omega), nI_clamp (by omega), hA.2.2.2 _ hb, ma_gde (ma_in_t (by omega) (by omega)), nI_clamp (by omega), (hA.2.2.1 _ ka).1, (hA.2.2.1 _ kb).1]
        obtain ⟨g1, e1, p1, p2, p3, p4, p5, p6⟩ := ma_addPart hN ho hC (K := wl_K A) (by omega) hA.1 (wl_P A (wl_O A (en_a E s)) ||| wl_P A (wl_O A (en_b E s)))
        rw [dl_bi_e e1]
        refine ma_some ⟨p1, Or.inl ⟨_, Or.inl ⟨s, ⟨⟨hs, by omega, by omega⟩, h1⟩, rfl⟩, ⟨p2, (p3 5 (by decide)).trans hA.2.1, fun k hk => ?_, fun p hp => ?_⟩, p3 6 (by decide)⟩⟩
        · have hk : k < wl_K A + 1 := hk
          rw [p4, p5]
          show (if k = wl_K A then _ else _) = va_up _ _ _ k ∧ (if k = wl_K A then _ else _) = nI (va_up _ _ _ k)
          unfold va_up
          by_cases e : k = wl_K A
          · rw [if_pos e, if_pos e, if_pos e, if_pos e]; exact ⟨rfl, rfl⟩
          · rw [if_neg e, if_neg e, if_neg e, if_neg e]; exact hA.2.2.1 k (by omega)
        · rw [p6 p hp]
          have hJ : bt (wl_P A (wl_O A (en_a E s)) ||| wl_P A (wl_O A (en_b E s))) p = true ↔ wl_O A p = wl_O A (en_a E s) ∨ wl_O A p = wl_O A (en_b E s) := by
            rw [b_or, Bool.or_eq_true, hI.iff hp ha, hI.iff hp hb]
          show _ = nI (if wl_O A p = wl_O A (en_a E s) ∨ wl_O A p = wl_O A (en_b E s) then wl_K A else wl_O A p)
          by_cases c : wl_O A p = wl_O A (en_a E s) ∨ wl_O A p = wl_O A (en_b E s)
          · rw [if_pos (hJ.mpr c), if_pos c]
          · rw [if_neg (fun q => c (hJ.mp q)), if_neg c]; exact hA.2.2.2 p hp
theorem wl_step_I (ho : en_ok E) {B : wl_S} {t : Nat} (hI : wl_I E A) (hB : wl_B A t) (hm : wl_mu E r A t) (h : wl_step E r A B) : wl_I E B ∧ wl_B B (t + 1) ∧ wl_mu E r B (t + 1) := by
  rcases h with ⟨s, h, e⟩ | ⟨v, h, e⟩
  · subst e
    obtain ⟨_, hne⟩ := wl_c_pos h.1.2.1
    exact ⟨hI.join ho h.1.1 hne, hB.join, hm.join ho hI h.1.1 hne⟩
  · subst e
    exact ⟨hI.grow v, hB.grow ho h, hm.grow ho hI h⟩
theorem wl_run_I (ho : en_ok E) : ∀ {j t : Nat} {A B : wl_S} {o : Int32}, wl_I E A → wl_B A t → wl_mu E r A t → wl_run E r j A o B → wl_I E B ∧ wl_B B (t + j) ∧ t + j ≤ 2 * en_n E + 1
  | 0, t, A, B, o, hI, hB, hm, h => by
    rw [h.1]
    exact ⟨hI, hB, by have := hm.1; omega⟩
  | j + 1, t, A, B, o, hI, hB, hm, h => by
    obtain ⟨_, A1, h1, h2⟩ := h
    obtain ⟨a, b, c⟩ := wl_step_I ho hI hB hm h1
    obtain ⟨d, e, f⟩ := wl_run_I ho a b c h2
    rw [show t + (j + 1) = t + 1 + j by omega]
    exact ⟨d, e, f⟩
theorem wl_mu0 (E : ma_E) (r : Nat) : wl_mu E r (wl_A0 E) 0 := by
  unfold wl_mu
  show 0 + 2 * (2 * en_n E - en_n E) ≤ 2 * en_n E + 1 ∧ (_ → 0 + 2 * (2 * en_n E - en_n E) + 1 ≤ 2 * en_n E + 1)
  omega
theorem wl_B0 (E : ma_E) : wl_B (wl_A0 E) 0 := fun k _ => Nat.le_of_eq (by show 0 = 0 * 102400; omega)
theorem ma_cloop (hN : 70 ≤ N) (ho : en_ok E) (hr : r < 32) {g0 : dl_Sg} (hC : en_C E g0) : ∀ k t (A : wl_S) (g : dl_Sg), ma_fw g g0 → wl_I E A → wl_C E r A g → wl_B A t → wl_mu E r A t → g 4 6 = 0 → 40 - t < k → ma_wp (cl7_refresh_b90 N k (nI t) g) (fun g' => ma_fw g' g0 ∧ ∃ j A' o, wl_run E r j A o A' ∧ g' 4 6 = o ∧ wl_C E r A' g') := by
  have hn := ho.n
  intro k
  induction k with
  | zero => intro t A g _ _ _ _ _ _ h; omega
  | succ k ih =>
    intro t A g hf hI hA hB hm h6 hk
    have hm1 := hm.1
    have hCg := hf.C hC
    rw [cl7_refresh_b90, if_neg (fun q => absurd ((ma_L40 (by omega)).mp q) (by omega)), if_pos h6]
    obtain ⟨x, ex, hx⟩ := ma_csome (by omega) ho hCg hI hA hr (N := N)
    rw [dl_bi_e ex]
    rcases hx with ⟨x1, x2⟩ | ⟨x1, x2⟩
    · rw [if_pos x1]
      exact ma_some ⟨hf, 0, A, 0, ⟨rfl, Or.inl ⟨x2, rfl⟩⟩, h6, hA⟩
    · rw [if_neg (by rw [x1]; decide)]
      obtain ⟨g1, e1, f1, f2⟩ := ma_goOn (N := N) (by omega) ho hCg hI hA hr hB (by omega)
      rw [dl_bi_e e1, ma_nme, nI_1]
      rcases f2 with ⟨A1, s1, s2, s3⟩ | ⟨s1, s2, s3⟩
      · obtain ⟨a, b, c⟩ := wl_step_I ho hI hB hm s1
        refine ma_mono (ih (t + 1) A1 g1 (f1.t hf) a s2 b c (s3.trans h6) (by omega)) ?_
        rintro g' ⟨q1, j, A', o, q2, q3, q4⟩
        exact ⟨q1, j + 1, A', o, ⟨x2, A1, s1, q2⟩, q3, q4⟩
      · have : 0 < k := by omega
        obtain ⟨k2, rfl⟩ : ∃ k2, k = k2 + 1 := ⟨k - 1, by omega⟩
        rw [cl7_refresh_b90, if_neg (fun q => absurd ((ma_L40 (by omega)).mp q) (by omega)), if_neg (by rw [s3]; decide)]
        exact ma_some ⟨f1.t hf, 0, A, -2, ⟨rfl, Or.inr ⟨x2, s1, rfl⟩⟩, s3, s2⟩
end
/-- the class's walls are those of the net -/
def wc_ok (E : ma_E) (g : dl_Sg) : Prop := ((∀ p, ¬ sp_tap E p) ∧ g 4 6 = -1) ∨ ∃ r j A o, wl_rt E r ∧ wl_run E r j (wl_A0 E) o A ∧ g 4 6 = o ∧ wl_C E r A g
section
variable {E : ma_E} {N : Nat}
theorem ma_crefresh (hN : 70 ≤ N) (ho : en_ok E) {g0 : dl_Sg} (hC : en_C E g0) (hc : g0 4 7 = g0 1 17 → wc_ok E g0) : ma_wp (cl7_refresh N g0) (fun g => (∀ k, k ≠ 4 → k ≠ 22 → k ≠ 23 → k ≠ 24 → g k = g0 k) ∧ g 4 7 = g0 1 17 ∧ wc_ok E g) := by
  have hn := ho.n
  have htap : ∀ p, bt (en_taps E) p = true ↔ sp_tap E p := fun p => by
    rw [en_taps_b ho, Bool.and_eq_true, decide_eq_true_iff]
    exact Iff.rfl
  unfold cl7_refresh
  by_cases c0 : g0 4 7 = g0 1 17
  · rw [if_pos c0]
    exact ma_some ⟨fun _ _ _ _ _ => rfl, c0, hc c0⟩
  · rw [if_neg c0, ma_nme]
    have hf1 : ∀ k, k ≠ 4 → k ≠ 22 → k ≠ 23 → k ≠ 24 → (dl_s2 g0 4 7 (g0 1 17)) k = g0 k := fun k a _ _ _ => if_neg a
    have h7 : (dl_s2 g0 4 7 (g0 1 17)) 4 7 = g0 1 17 := ma_s2s _ _ _ _
    generalize dl_s2 g0 4 7 (g0 1 17) = g1 at hf1 h7
    have hC1 : en_C E g1 := hC.same (fun i _ _ => by rw [hf1 1 (by omega) (by omega) (by omega) (by omega)]) (fun k h1 h2 => hf1 k (by omega) (by omega) (by omega) (by omega)) (fun k h1 h2 => hf1 k (by omega) (by omega) (by omega) (by omega))
    rw [hC1.taps]
    by_cases c1 : en_taps E = 0
    · rw [if_pos c1, ma_nme]
      refine ma_some ⟨fun k a b c d => (if_neg a).trans (hf1 k a b c d), (ma_s2n _ _ (fun q => absurd q.2 (by decide))).trans h7, Or.inl ⟨fun p hp => ?_, ma_s2s _ _ _ _⟩⟩
      have := (htap p).mpr hp
      rw [c1, b_0] at this
      cases this
    · rw [if_neg c1]
      -- from the root on
      have go : ∀ r, wl_rt E r → ma_wp (cl7_refresh_b76 N ((1 : Int32) <<< (nI r &&& 31)) g1) (fun g => (∀ k, k ≠ 4 → k ≠ 22 → k ≠ 23 → k ≠ 24 → g k = g0 k) ∧ g 4 7 = g0 1 17 ∧ wc_ok E g) := by
        intro r hr
        have hr1 : r < en_n E := hr.1.1
        unfold cl7_refresh_b76
        rw [ma_nme]
        have f1 : ma_fw (dl_s2 g1 4 5 ((1 : Int32) <<< (nI r &&& 31))) g1 := ma_fw.s4 _ (by decide) _
        have h5 : (dl_s2 g1 4 5 ((1 : Int32) <<< (nI r &&& 31))) 4 5 = (1 : Int32) <<< (nI r &&& 31) := ma_s2s _ _ _ _
        generalize dl_s2 g1 4 5 ((1 : Int32) <<< (nI r &&& 31)) = g2 at f1 h5
        obtain ⟨g3, e3, f3, a3⟩ := ma_startParts (r := r) (N := N) (by omega) ho (f1.C hC1) h5
        rw [dl_bi_e e3, ma_nme, ma_nme]
        have f4 : ma_fw (dl_s2 g3 4 6 0) g1 := (ma_fw.s4 _ (by decide) _).t (f3.t f1)
        have a4 : wl_C E r (wl_A0 E) (dl_s2 g3 4 6 0) := ⟨by rw [ma_s2n _ _ (fun q => absurd q.2 (by decide))]; exact a3.1, by rw [ma_s2n _ _ (fun q => absurd q.2 (by decide))]; exact a3.2.1, fun k hk => by rw [ma_s2r _ _ _ _ (by decide), ma_s2r _ _ _ _ (by decide)]; exact a3.2.2.1 k hk, fun p hp => by rw [ma_s2r _ _ _ _ (by decide)]; exact a3.2.2.2 p hp⟩
        refine ma_mono (ma_cloop hN ho (by omega) hC1 N 0 (wl_A0 E) _ f4 (wl_I0 ho) a4 (wl_B0 E) (wl_mu0 E r) (ma_s2s _ _ _ _) (by omega)) ?_
        rintro g ⟨q1, j, A, o, q2, q3, q4⟩
        exact ⟨fun k a b c d => (q1.1 k a b c d).trans (hf1 k a b c d), q1.2.trans h7, Or.inr ⟨r, j, A, o, hr, q2, q3, q4⟩⟩
      rcases hC1.well with ⟨w1, w2⟩ | ⟨p, w1, w2, w3⟩
      · rw [if_pos w1]
        obtain ⟨k, k1, k2, k3, _, k5⟩ := ma_ntz ((en_taps_lo ho).up (by omega)) c1
        rw [dl_bi_e k5]
        refine go k ⟨(htap k).mp k2, Or.inr ⟨w2, fun p hp q => ?_⟩⟩
        rw [← htap, k3 p hp] at q
        cases q
      · rw [w3, if_neg (ma_m1 (by omega))]
        exact go p ⟨⟨w1, decide_eq_true (Or.inr w2)⟩, Or.inl w2⟩
end
