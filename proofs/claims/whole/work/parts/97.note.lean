/-! The mathematics: a change of the net is noted -/
def nt_S (L : Nat) : Nat := if L < 10 then 0 else 1
/-- the last changes, one more of them -/
def nt_ok (L : Nat) (r r' : Nat → Int32) (x : Int32) : Prop := (∀ k, k < L - nt_S L → r' k = r (k + nt_S L)) ∧ r' (L - nt_S L) = x
section
variable {A B A' B' : Nat → Nat} {ch ch' : Nat → Int32}
theorem lg_shift : ∀ {L n m : Nat}, lg_ok A B ch (L + 1) n m → lg_ok A B (fun k => ch (k + 1)) L n m
  | 0, _, _, _ => trivial
  | L + 1, n, m, h => by
    rcases h with ⟨h1, h2, h3, h4⟩ | ⟨h1, h2, h3⟩ | ⟨s, h1, h2, h3, h4⟩
    · exact Or.inl ⟨h1, h2, h3, lg_shift h4⟩
    · exact Or.inr (Or.inl ⟨h1, h2, lg_shift h3⟩)
    · exact Or.inr (Or.inr ⟨s, h1, h2, h3, lg_shift h4⟩)
theorem lg_cong : ∀ {L n m : Nat}, (∀ k, k < L → ch' k = ch k) → (∀ s, s < m → A' s = A s ∧ B' s = B s) → lg_ok A B ch L n m → lg_ok A' B' ch' L n m
  | 0, _, _, _, _, _ => trivial
  | L + 1, n, m, hk, hs, h => by
    have e := hk L (Nat.lt_succ_self L)
    rcases h with ⟨h1, h2, h3, h4⟩ | ⟨h1, h2, h3⟩ | ⟨s, h1, h2, h3, h4⟩
    · exact Or.inl ⟨e.trans h1, h2, fun s q => by rw [(hs s q).1, (hs s q).2]; exact h3 s q, lg_cong (fun k q => hk k (by omega)) hs h4⟩
    · exact Or.inr (Or.inl ⟨e.trans h1, h2, lg_cong (fun k q => hk k (by omega)) (fun s q => hs s (by omega)) h3⟩)
    · exact Or.inr (Or.inr ⟨s, h1, h2, e.trans h3, lg_cong (fun k q => hk k (by omega)) hs h4⟩)
theorem lg_old {L n m : Nat} (hL : L ≤ 10) {y : Int32} (h : lg_ok A B ch L n m) (q : nt_ok L ch ch' y) : lg_ok A B ch' (L - nt_S L) n m := by
  unfold nt_ok nt_S at q
  unfold nt_S
  by_cases e : L < 10
  · rw [if_pos e] at q ⊢
    exact lg_cong (fun k w => q.1 k w) (fun s _ => ⟨rfl, rfl⟩) h
  · rw [if_neg e] at q ⊢
    have : L = 10 := by omega
    subst this
    exact lg_cong (fun k w => q.1 k w) (fun s _ => ⟨rfl, rfl⟩) (lg_shift h)
end
section
variable {al : Nat} {E E' : ma_E} {c N : Nat} {gc gm gc' gm' : dl_Sg}
theorem ma_L10lt {p : Nat} (h : p < 2 ^ 31) : nI p < (10 : Int32) ↔ p < 10 := ma_lt (b := 10) h (by omega)
theorem ma_e10 {p : Nat} (h : p < 2 ^ 31) : nI p = (10 : Int32) ↔ p = 10 := ma_eqn (b := 10) h (by omega)
/-- what a note changes in the class -/
def nt_c (L : Nat) (x : Int32) (g' g : dl_Sg) : Prop := nt_ok L (g 17) (g' 17) x ∧ g' 1 16 = nI (L - nt_S L + 1) ∧ g' 1 17 = g 1 17 + 1 ∧ (∀ k, k ≠ 1 → k ≠ 17 → g' k = g k) ∧ ∀ i, i ≠ 16 → i ≠ 17 → g' 1 i = g 1 i
theorem ma_note_b {g : dl_Sg} {L : Nat} (hL : L < 10) (e : g 1 16 = nI L) (x : Int32) : cl2_note_b30 x g = some (dl_s2 (dl_s2 (dl_s2 g 17 L x) 1 16 (nI (L + 1))) 1 17 (g 1 17 + 1)) := by
  unfold cl2_note_b30
  rw [e, ma_gde (ma_in_t hL (by omega)), ma_wr _ (by omega), ma_nme, ma_nme, ma_nme, ma_s2n (b := 1) _ _ (by omega), e, nI_1, ma_s2n (b := 1) (j := 17) _ _ (by omega), ma_s2n (b := 1) (j := 17) _ _ (by omega)]
theorem ma_note {g : dl_Sg} {L : Nat} (hL : L ≤ 10) (e : g 1 16 = nI L) (x : Int32) : ma_wp (cl2_note g x) (fun g' => nt_c L x g' g) := by
  unfold cl2_note
  rw [e]
  by_cases q : L < 10
  · rw [if_pos ((ma_L10lt (by omega)).mpr q), ma_note_b q e]
    refine ma_some ⟨⟨fun k w => ?_, ?_⟩, ?_, ?_, fun k a b => ?_, fun i a b => ?_⟩
    · unfold nt_S at w ⊢
      rw [if_pos q] at w ⊢
      rw [ma_s2n (b := 17) _ _ (by omega), ma_s2n (b := 17) _ _ (by omega), ma_s2n (b := 17) _ _ (by omega)]
      rfl
    · unfold nt_S
      rw [if_pos q, ma_s2n (b := 17) _ _ (by omega), ma_s2n (b := 17) _ _ (by omega)]
      exact ma_s2s _ _ _ _
    · unfold nt_S
      rw [if_pos q, ma_s2n (b := 1) _ _ (by omega), ma_s2s]
      rfl
    · rw [ma_s2s]
    · rw [ma_s2r _ _ _ _ a, ma_s2r _ _ _ _ a, ma_s2r _ _ _ _ b]
    · rw [ma_s2n _ _ (by omega), ma_s2n _ _ (by omega), ma_s2n _ _ (by omega)]
  · have hL : L = 10 := by omega
    subst hL
    rw [if_neg (by decide), ma_gde (by decide), ma_nme, ma_nme, ma_note_b (L := 9) (by omega) (by rw [ma_s2s]; rfl)]
    refine ma_some ⟨⟨fun k w => ?_, ?_⟩, ?_, ?_, fun k a b => ?_, fun i a b => ?_⟩
    · have w : k < 9 := w
      rw [ma_s2n (b := 17) _ _ (by omega), ma_s2n (b := 17) _ _ (by omega), ma_s2n (b := 17) _ _ (by omega), ma_s2n (b := 17) _ _ (by omega)]
      show va_cpy (g 17) (g 17) 1 0 9 k = g 17 (k + 1)
      rw [pk_cpy_in (by omega) (by omega)]
      exact congrArg (g 17) (by omega)
    · show dl_s2 _ _ _ _ 17 9 = x
      rw [ma_s2n (b := 17) _ _ (by omega), ma_s2n (b := 17) _ _ (by omega), ma_s2s]
    · rw [ma_s2n (b := 1) _ _ (by omega), ma_s2s]
      rfl
    · rw [ma_s2s, ma_s2n (b := 1) _ _ (by omega)]
      rfl
    · rw [ma_s2r _ _ _ _ a, ma_s2r _ _ _ _ a, ma_s2r _ _ _ _ b, ma_s2r _ _ _ _ a]
      exact if_neg b
    · rw [ma_s2n _ _ (by omega), ma_s2n _ _ (by omega), ma_s2n _ _ (by omega), ma_s2n _ _ (by omega)]
      rfl
/-- what a change notes in the reference -/
def nt_m (L : Nat) (x : Int32) (g' g : dl_Sg) : Prop := nt_ok L (g 10) (g' 10) x ∧ g' 0 9 = nI (L - nt_S L + 1) ∧ g' 0 19 = 0 ∧ (∀ k, k ≠ 0 → k ≠ 10 → g' k = g k) ∧ ∀ i, i ≠ 9 → i ≠ 19 → g' 0 i = g 0 i
theorem ma_chg_b {g : dl_Sg} {L : Nat} (hL : L < 10) (e : g 0 9 = nI L) (x : Int32) : mo_changed_b49 N x g = some (dl_s2 (dl_s2 (dl_s2 g 10 L x) 0 9 (nI (L + 1))) 0 19 0) := by
  unfold mo_changed_b49
  rw [e, ma_gde (ma_in_t hL (by omega)), ma_wr _ (by omega), ma_nme, ma_nme, ma_nme, ma_s2n (b := 0) _ _ (by omega), e, nI_1]
theorem ma_chg_l {g0 : dl_Sg} (e : g0 0 9 = nI 9) (x : Int32) : ∀ f k (g : dl_Sg), k ≤ 9 → 9 - k < f → ((∀ r, r ≠ 10 → g r = g0 r) ∧ ∀ j, g 10 j = if j < k then g0 10 (j + 1) else g0 10 j) → ma_wp (mo_changed_b21 N f x (nI k) g) (fun g' => ∃ g1, g' = dl_s2 (dl_s2 (dl_s2 g1 10 9 x) 0 9 (nI 10)) 0 19 0 ∧ (∀ r, r ≠ 10 → g1 r = g0 r) ∧ ∀ j, g1 10 j = if j < 9 then g0 10 (j + 1) else g0 10 j) := by
  refine ma_loop (fun f k (g : dl_Sg) => mo_changed_b21 N f x (nI k) g) (fun k g => (∀ r, r ≠ 10 → g r = g0 r) ∧ ∀ j, g 10 j = if j < k then g0 10 (j + 1) else g0 10 j) _ 9 ?_ ?_
  · intro f g h
    have e2 : g 0 9 = nI 9 := by rw [h.1 0 (by decide)]; exact e
    rw [mo_changed_b21, e2, if_pos ((ma_le (by omega) (by omega)).mpr (by omega)), ma_chg_b (by omega) e2]
    exact ma_some ⟨g, rfl, h⟩
  · intro f k g hk h ih
    have e2 : g 0 9 = nI 9 := by rw [h.1 0 (by decide)]; exact e
    rw [mo_changed_b21, e2, if_neg (fun q => absurd ((ma_le (by omega) (by omega)).mp q) (by omega)), nI_1, ma_gde (ma_in_t (by omega) (by omega)), ma_gde (ma_in_t (by omega) (by omega)), ma_wr _ (by omega), ma_nme, ma_nme, nI_clamp (by omega)]
    refine ih _ ⟨fun r q => ?_, fun j => ?_⟩
    · rw [ma_s2r _ _ _ _ q]; exact h.1 r q
    · by_cases w : j = k
      · subst w
        rw [ma_s2s, h.2, if_neg (by omega), if_pos (by omega)]
      · rw [ma_s2n _ _ (fun z => w z.2), h.2]
        by_cases w2 : j < k
        · rw [if_pos w2, if_pos (by omega)]
        · rw [if_neg w2, if_neg (by omega)]
theorem ma_changed (hN : 17 ≤ N) {g : dl_Sg} {L : Nat} (hL : L ≤ 10) (e : g 0 9 = nI L) (x : Int32) : ma_wp (mo_changed N g x) (fun g' => nt_m L x g' g) := by
  unfold mo_changed
  rw [e]
  by_cases q : L < 10
  · rw [if_neg (fun w => absurd ((ma_e10 (by omega)).mp w) (by omega)), ma_chg_b q e]
    refine ma_some ⟨⟨fun k w => ?_, ?_⟩, ?_, ?_, fun k a b => ?_, fun i a b => ?_⟩
    · unfold nt_S at w ⊢
      rw [if_pos q] at w ⊢
      rw [ma_s2n (b := 10) _ _ (by omega), ma_s2n (b := 10) _ _ (by omega), ma_s2n (b := 10) _ _ (by omega)]
      rfl
    · unfold nt_S
      rw [if_pos q, ma_s2n (b := 10) _ _ (by omega), ma_s2n (b := 10) _ _ (by omega)]
      exact ma_s2s _ _ _ _
    · unfold nt_S
      rw [if_pos q, ma_s2n (b := 0) _ _ (by omega), ma_s2s]
      rfl
    · rw [ma_s2s]
    · rw [ma_s2r _ _ _ _ a, ma_s2r _ _ _ _ a, ma_s2r _ _ _ _ b]
    · rw [ma_s2n _ _ (by omega), ma_s2n _ _ (by omega), ma_s2n _ _ (by omega)]
  · have hL : L = 10 := by omega
    subst hL
    rw [if_pos (by rfl), ma_nme, ma_nme]
    have e9 : nI 10 - 1 = nI 9 := nI_pred 9
    rw [e9]
    refine ma_mono (ma_chg_l (g0 := dl_s2 g 0 9 (nI 9)) (ma_s2s _ _ _ _) x N 0 _ (by omega) (by omega) ⟨fun r _ => rfl, fun j => by rw [if_neg (by omega)]⟩) fun g' h => ?_
    obtain ⟨g1, rfl, h1, h2⟩ := h
    have h3 : ∀ j, g1 10 j = if j < 9 then g 10 (j + 1) else g 10 j := fun j => by
      rw [h2 j, ma_s2r _ _ _ _ (by decide)]
    refine ⟨⟨fun k w => ?_, ?_⟩, ?_, ?_, fun k a b => ?_, fun i a b => ?_⟩
    · have w : k < 9 := w
      rw [ma_s2n (b := 10) _ _ (by omega), ma_s2n (b := 10) _ _ (by omega), ma_s2n (b := 10) _ _ (by omega), h3, if_pos w]
      rfl
    · show dl_s2 _ _ _ _ 10 9 = x
      rw [ma_s2n (b := 10) _ _ (by omega), ma_s2n (b := 10) _ _ (by omega), ma_s2s]
    · rw [ma_s2n (b := 0) _ _ (by omega), ma_s2s]
      rfl
    · rw [ma_s2s]
    · rw [ma_s2r _ _ _ _ a, ma_s2r _ _ _ _ a, ma_s2r _ _ _ _ b, h1 k b, ma_s2r _ _ _ _ a]
    · rw [ma_s2n _ _ (by omega), ma_s2n _ _ (by omega), ma_s2n _ _ (by omega), h1 0 (by decide), ma_s2n _ _ (by omega)]
/-- another net: the caches are out of date -/
theorem iv.ch (h : iv al E c gc gm) (hc : c < 2 ^ 30) (ho : en_ok E') (hM : en_M E' gm') (hC : en_C E' gc') (hd : iv_hd E' gc' gm') (hl : iv_lg E' gc' gm')
    (fc : ∀ k, k ≠ 1 → k ≠ 7 → k ≠ 8 → (k < 10 ∨ 17 < k) → gc' k = gc k) (fv : gc' 1 17 = gc 1 17 + 1)
    (fm : ∀ k, k ≠ 0 → k ≠ 1 → k ≠ 2 → k ≠ 4 → k ≠ 5 → k ≠ 6 → k ≠ 10 → gm' k = gm k) (f14 : gm' 0 14 = gm 0 14) (f16 : gm' 0 16 = gm 0 16) (f19 : gm' 0 19 = 0) : iv al E' (c + 1) gc' gm' := by
  obtain ⟨h1, h2, h3, h4, h5, h6, h7, h8, ⟨v, v1, v2, v3, v4⟩, h10, h11, h12, h13⟩ := h
  have e : gc' 1 17 = nI (v + 1) := by rw [fv, v2, nI_1]
  have old : ∀ y, (y = -1 ∨ ∃ w, w ≤ v ∧ y = nI w) → ¬ y = nI (v + 1) := by
    rintro y (q | ⟨w, w1, w2⟩) z
    · rw [q] at z
      exact ma_m1 (show v + 1 < 2 ^ 31 by omega) z.symm
    · rw [w2] at z
      have := (ma_eqn (by omega) (by omega)).mp z
      omega
  have up : ∀ y, (y = -1 ∨ ∃ w, w ≤ v ∧ y = nI w) → (y = -1 ∨ ∃ w, w ≤ v + 1 ∧ y = nI w) := by
    rintro y (q | ⟨w, w1, w2⟩)
    · exact Or.inl q
    · exact Or.inr ⟨w, by omega, w2⟩
  have r3 : gc' 3 = gc 3 := fc 3 (by decide) (by decide) (by decide) (by omega)
  have r4 : gc' 4 = gc 4 := fc 4 (by decide) (by decide) (by decide) (by omega)
  refine ⟨ho, hM, hC, hd, hl, ?_, ?_, ?_, ⟨v + 1, by omega, e, ?_, ?_⟩, ?_, ?_, ?_, ?_⟩
  · intro k hk
    rw [fc 25 (by decide) (by decide) (by decide) (by omega), fc 26 (by decide) (by decide) (by decide) (by omega), fc (28 + k) (by omega) (by omega) (by omega) (by omega), fm 11 (by decide) (by decide) (by decide) (by decide) (by decide) (by decide) (by decide), fm 12 (by decide) (by decide) (by decide) (by decide) (by decide) (by decide) (by decide), fm 13 (by decide) (by decide) (by decide) (by decide) (by decide) (by decide) (by decide)]
    exact h6 k hk
  · rw [fc 0 (by decide) (by decide) (by decide) (by omega), f14]; exact h7
  · unfold iv_tr
    rw [fc 6 (by decide) (by decide) (by decide) (by omega), fc 27 (by decide) (by decide) (by decide) (by omega), f16, fm 15 (by decide) (by decide) (by decide) (by decide) (by decide) (by decide) (by decide)]
    exact h8
  · rw [r3]; exact up _ v3
  · rw [r4]; exact up _ v4
  · intro q
    rw [r3, e] at q
    exact absurd q (old _ v3)
  · exact h11.fr (fc 9 (by decide) (by decide) (by decide) (by omega))
  · intro q
    rw [r4, e] at q
    exact absurd q (old _ v4)
  · intro q
    exact absurd f19 q
/-- a change of the net, noted on both sides -/
theorem iv.note (hN : 17 ≤ N) (h : iv al E c gc gm) (hc : c < 2 ^ 30) {gcA gmA : dl_Sg} (ho : en_ok E') (hM : en_M E' gmA) (hC : en_C E' gcA) (hd : iv_hd E' gcA gmA)
    (fc : ∀ k, k ≠ 1 → k ≠ 7 → k ≠ 8 → (k < 10 ∨ 16 < k) → gcA k = gc k) (f1 : gcA 1 16 = gc 1 16) (f2 : gcA 1 17 = gc 1 17)
    (fm : ∀ k, k ≠ 0 → k ≠ 1 → k ≠ 2 → k ≠ 4 → k ≠ 5 → k ≠ 6 → gmA k = gm k) (f9 : gmA 0 9 = gm 0 9) (f14 : gmA 0 14 = gm 0 14) (f16 : gmA 0 16 = gm 0 16)
    {x y : Int32} (hxy : lg_e x y) (hk : ∀ (ch : Nat → Int32) L, lg_ok (en_a E) (en_b E) ch L (en_n E) (en_m E) → ch L = y → lg_ok (en_a E') (en_b E') ch (L + 1) (en_n E') (en_m E')) :
    ∃ gc' gm', cl2_note gcA x = some gc' ∧ mo_changed N gmA y = some gm' ∧ iv al E' (c + 1) gc' gm' := by
  obtain ⟨L, l1, l2, l3, l4, l5⟩ := h.2.2.2.2.1
  obtain ⟨gc', e1, n1, n2, n3, n4, n5⟩ := ma_note l1 (f1.trans l2) x
  obtain ⟨gm', e2, m1, m2, m3, m4, m5⟩ := ma_changed hN l1 (f9.trans l3) y
  rw [fc 17 (by decide) (by decide) (by decide) (by omega)] at n1
  rw [fm 10 (by decide) (by decide) (by decide) (by decide) (by decide) (by decide)] at m1
  refine ⟨gc', gm', e1, e2, h.ch hc ho ?_ ?_ ?_ ?_ (fun k a b d e => ?_) ?_ (fun k a b d e f g i => ?_) ?_ ?_ m3⟩
  · exact hM.same (m5 0 (by decide) (by decide)) (m5 3 (by decide) (by decide)) (m5 7 (by decide) (by decide)) (m4 1 (by decide) (by decide)) (m4 2 (by decide) (by decide)) (m4 4 (by decide) (by decide)) (m4 5 (by decide) (by decide)) (m4 6 (by decide) (by decide))
  · exact hC.same (fun i a b => n5 i (by omega) (by omega)) (fun k a b => n4 k (by omega) (by omega)) (fun k a b => n4 k (by omega) (by omega))
  · unfold iv_hd
    rw [n5 15 (by decide) (by decide), m5 8 (by decide) (by decide)]
    exact hd
  · refine ⟨L - nt_S L + 1, ?_, n2, m2, fun k w => ?_, hk _ _ (lg_old l1 l5 m1) m1.2⟩
    · unfold nt_S
      by_cases z : L < 10
      · rw [if_pos z]; omega
      · rw [if_neg z]; omega
    · rcases Nat.lt_or_ge k (L - nt_S L) with w2 | w2
      · rw [n1.1 k w2, m1.1 k w2]
        exact l4 _ (by omega)
      · have : k = L - nt_S L := by omega
        subst this
        rw [n1.2, m1.2]
        exact hxy
  · rw [n4 k a (by omega)]
    exact fc k a b d (by omega)
  · rw [n3, f2]
  · rw [m4 k a i]
    exact fm k a b d e f g
  · rw [m5 14 (by decide) (by decide)]; exact f14
  · rw [m5 16 (by decide) (by decide)]; exact f16
end
