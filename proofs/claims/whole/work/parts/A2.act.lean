/-! The mathematics: what the places do -/
section
variable {al : Nat} {E : ma_E} {c N t p : Nat} {gc gm gc' gm' : dl_Sg}
theorem iv.trc (h : iv al E c gc gm) (hf : ∀ k, k ≠ 6 → k ≠ 27 → gc' k = gc k) (hm : ∀ k, k ≠ 0 → k ≠ 15 → gm' k = gm k) (z : ∀ i, i ≠ 16 → gm' 0 i = gm 0 i) (ht : iv_tr gc' gm') : iv al E c gc' gm' := by
  obtain ⟨h1, h2, h3, h4, h5, h6, h7, h8, h9, h10, h11, h12, h13⟩ := h
  refine ⟨h1, h2.same (z 0 (by decide)) (z 3 (by decide)) (z 7 (by decide)) (hm 1 (by decide) (by decide)) (hm 2 (by decide) (by decide)) (hm 4 (by decide) (by decide)) (hm 5 (by decide) (by decide)) (hm 6 (by decide) (by decide)), h3.same (fun i _ _ => by rw [hf 1 (by decide) (by decide)]) (fun k a b => hf k (by omega) (by omega)) (fun k a b => hf k (by omega) (by omega)), ?_, ?_, ?_, ?_, ht, ?_, ?_, ?_, ?_, ?_⟩
  · unfold iv_hd
    rw [hf 1 (by decide) (by decide), z 8 (by decide)]; exact h4
  · unfold iv_lg
    rw [hf 1 (by decide) (by decide), hf 17 (by decide) (by decide), z 9 (by decide), hm 10 (by decide) (by decide)]; exact h5
  · intro k hk
    rw [hf 25 (by decide) (by decide), hf 26 (by decide) (by decide), hf (28 + k) (by omega) (by omega), hm 11 (by decide) (by decide), hm 12 (by decide) (by decide), hm 13 (by decide) (by decide)]; exact h6 k hk
  · rw [hf 0 (by decide) (by decide), z 14 (by decide)]; exact h7
  · unfold iv_vr
    rw [hf 1 (by decide) (by decide), hf 3 (by decide) (by decide), hf 4 (by decide) (by decide)]; exact h9
  · intro q
    rw [hf 1 (by decide) (by decide), hf 3 (by decide) (by decide)] at q
    exact (h10 q).fr (hf 3 (by decide) (by decide)) (hf 9 (by decide) (by decide)) (hf 21 (by decide) (by decide)) (hf 33 (by decide) (by decide))
  · exact h11.fr (hf 9 (by decide) (by decide))
  · intro q
    rw [hf 1 (by decide) (by decide), hf 4 (by decide) (by decide)] at q
    exact (h12 q).fr (hf 4 (by decide) (by decide)) (hf 22 (by decide) (by decide)) (hf 23 (by decide) (by decide)) (hf 24 (by decide) (by decide))
  · intro q
    rw [z 19 (by decide)] at q
    exact (h13 q).fr (z 20 (by decide)) (z 24 (by decide)) (z 25 (by decide)) (hm 21 (by decide) (by decide)) (hm 22 (by decide) (by decide)) (hm 23 (by decide) (by decide))
/-- both answer the same, and at most B bodies ran -/
def tw (al : Nat) (E : ma_E) (c B : Nat) (x y : Option (Int32 × dl_Sg)) : Prop := ∃ r g1 g2 u, x = some (r, g1) ∧ y = some (r, g2) ∧ iv al E c g1 g2 ∧ g1 6 1 = nI u ∧ u ≤ B
theorem tw_some {B u : Nat} (r : Int32) (h : iv al E c gc gm) (e : gc 6 1 = nI u) (hu : u ≤ B) : tw al E c B (some (r, gc)) (some (r, gm)) := ⟨r, gc, gm, u, rfl, rfl, h, e, hu⟩
theorem tw_b2 {B B1 : Nat} {x y : Option (Int32 × dl_Sg)} {f k : Int32 → dl_Sg → Option (Int32 × dl_Sg)} (h : tw al E c B1 x y) (q : ∀ r g1 g2 u, iv al E c g1 g2 → g1 6 1 = nI u → u ≤ B1 → tw al E c B (f r g1) (k r g2)) : tw al E c B (dl_b2 x f) (dl_b2 y k) := by
  obtain ⟨r, g1, g2, u, e1, e2, h1, h2, h3⟩ := h
  rw [dl_b2_e e1, dl_b2_e e2]
  exact q r g1 g2 u h1 h2 h3
theorem tw_ran {B : Nat} {f k : dl_Sg → Option (Int32 × dl_Sg)} (h : iv al E c gc gm) (e : gc 6 1 = nI t) (ht : t < 50) (x : Int32) (q : ∀ g1 g2, iv al E c g1 g2 → g1 6 1 = nI (t + 1) → tw al E c B (f g1) (k g2)) : tw al E c B (dl_bi (cl5_ran gc x) f) (dl_bi (mo_ran gm x) k) := by
  obtain ⟨t', t1, t2, t3, t4⟩ := h.2.2.2.2.2.2.2.1
  have : t' = t := (ma_eqn (by omega) (by omega)).mp (t2.symm.trans e)
  subst this
  have n50 : ¬ (50 : Int32) ≤ nI t' := fun q => absurd ((ma_le (a := 50) (by omega) (by omega)).mp q) (by omega)
  have e1 : cl5_ran gc x = some (dl_s2 (dl_s2 gc 27 t' x) 6 1 (nI (t' + 1))) := by
    unfold cl5_ran
    rw [e, if_neg n50, ma_gde (ma_in_t (by omega) (by omega)), ma_wr _ (by omega), ma_nme, ma_nme, ma_s2n (b := 6) _ _ (by omega), e, nI_1]
  have e2 : mo_ran gm x = some (dl_s2 (dl_s2 gm 15 t' x) 0 16 (nI (t' + 1))) := by
    unfold mo_ran mo_ran_b19
    rw [t3, if_neg n50, ma_gde (ma_in_t (by omega) (by omega)), ma_wr _ (by omega), ma_nme, ma_nme, ma_s2n (b := 0) _ _ (by omega), t3, nI_1]
  rw [dl_bi_e e1, dl_bi_e e2]
  refine q _ _ (h.trc (fun k a b => ?_) (fun k a b => ?_) (fun i a => ?_) ⟨t' + 1, by omega, ma_s2s _ _ _ _, ma_s2s _ _ _ _, fun i hi => ?_⟩) (ma_s2s _ _ _ _)
  · rw [ma_s2r _ _ _ _ a, ma_s2r _ _ _ _ b]
  · rw [ma_s2r _ _ _ _ a, ma_s2r _ _ _ _ b]
  · rw [ma_s2n _ _ (by omega), ma_s2n _ _ (by omega)]
  · rw [ma_s2n _ _ (by omega), ma_s2n (b := 15) _ _ (by omega)]
    by_cases w : i = t'
    · rw [w, ma_s2s, ma_s2s]
    · rw [ma_s2n _ _ (by omega), ma_s2n _ _ (by omega)]
      exact t4 i (by omega)
theorem kk5 (h : iv al E c gc gm) (hp : p < en_n E) : en_k E p = 0 ∨ en_k E p = 1 ∨ en_k E p = 2 ∨ en_k E p = 3 ∨ en_k E p = 4 := by
  have := h.ok.k hp
  omega
theorem kM (h : iv al E c gc gm) (hp : p < en_n E) {K : Nat} (hk : en_k E p = K) : gm 1 (nI p).toNatClampNeg = nI K := by
  have hn := h.ok.n
  rw [nI_clamp (by omega), h.M.k hp, hk]
theorem wM (h : iv al E c gc gm) (hp : p < en_n E) : gm 2 (nI p).toNatClampNeg = nI (en_w E p) := by
  have hn := h.ok.n
  rw [nI_clamp (by omega), h.M.w hp]
theorem i10 (h : iv al E c gc gm) (hp : p < en_n E) : dl_in (nI p) 10 = true := by
  have hn := h.ok.n
  exact ma_in_t (by omega) (by omega)
theorem act_j16 (hN : 17 ≤ N) (h : iv al E c gc gm) (e : gc 6 1 = nI t) (ht : t + 1 ≤ 50) (hp : p < en_n E) (x nr w : Int32) : tw al E c (t + 1) (dl_b2 (plX3_X3_join gc nr w (nI (en_deg E (en_t E) p)) x) fun r g => some (if en_k E p = 3 then r + 9 else r, g)) (mo_join0_b16 N (nI p) x gm) := by
  unfold plX3_X3_join mo_join0_b16
  have e0 : (dl_b2 (dl_bi (cl5_ran gc 10) fun g1 => some (x + nI (en_deg E (en_t E) p), g1)) fun r g => some (if en_k E p = 3 then r + 9 else r, g)) = dl_bi (cl5_ran gc 10) fun g1 => some (if en_k E p = 3 then x + nI (en_deg E (en_t E) p) + 9 else x + nI (en_deg E (en_t E) p), g1) := by
    cases cl5_ran gc 10 <;> rfl
  rw [e0]
  refine tw_ran h e (by omega) 10 fun g1 g2 h1 e1 => ?_
  rw [h1.M.t, dl_bi_e (ma_degree hN h.ok h1.M hp), ma_gde (i10 h hp)]
  by_cases k3 : en_k E p = 3
  · rw [if_pos k3, kM h1 hp k3, if_pos (show nI 3 = (3 : Int32) from rfl)]
    exact tw_some _ h1 e1 (Nat.le_refl _)
  · have k4 : ¬ gm 1 (nI p).toNatClampNeg = (3 : Int32) := fun q => by
      have hk := h.ok.k hp
      rw [kM h hp rfl] at q
      exact k3 ((ma_eqn (b := 3) (by omega) (by omega)).mp q)
    have k5 : ¬ g2 1 (nI p).toNatClampNeg = (3 : Int32) := fun q => by
      have hk := h.ok.k hp
      rw [kM h1 hp rfl] at q
      exact k3 ((ma_eqn (b := 3) (by omega) (by omega)).mp q)
    rw [if_neg k3, if_neg k5, Int32.add_zero]
    exact tw_some _ h1 e1 (Nat.le_refl _)
theorem tw.up {B B' : Nat} {x y : Option (Int32 × dl_Sg)} (h : tw al E c B x y) (hb : B ≤ B') : tw al E c B' x y := by
  obtain ⟨r, g1, g2, u, a, b, d, e, f⟩ := h
  exact ⟨r, g1, g2, u, a, b, d, e, by omega⟩
theorem b2_id (x : Option (Int32 × dl_Sg)) : (dl_b2 x fun r g => some (r, g)) = x := by
  cases x <;> rfl
theorem act_join (hN : 17 ≤ N) (h : iv al E c gc gm) (e : gc 6 1 = nI t) (ht : t + 2 ≤ 50) (hp : p < en_n E) (x nr w : Int32) : tw al E c (t + 2) (cc_join (nI (en_k E p)) gc nr w (nI (en_deg E (en_t E) p)) x) (mo_join0 N gm (nI p) x) := by
  unfold mo_join0
  rw [ma_gde (i10 h hp), kM h hp rfl]
  by_cases k3 : en_k E p = 3
  · have c3 : cc_join (nI (en_k E p)) gc nr w (nI (en_deg E (en_t E) p)) x = dl_bi (cl5_ran gc 40) fun g1 => dl_b2 (plX3_X3_join g1 nr w (nI (en_deg E (en_t E) p)) x) fun r2 g3 => some (if en_k E p = 3 then r2 + 9 else r2, g3) := by
      unfold cc_join
      rw [k3, if_neg (show ¬ nI 3 = (1 : Int32) by decide), if_neg (show ¬ nI 3 = (2 : Int32) by decide), if_pos (show nI 3 = (3 : Int32) from rfl)]
      rfl
    rw [c3, if_pos (show nI (en_k E p) = (3 : Int32) by rw [k3]; rfl)]
    exact tw_ran h e (by omega) 40 fun g1 g2 h1 e1 => act_j16 hN h1 e1 (by omega) hp x nr w
  · have hk := h.ok.k hp
    have c3 : cc_join (nI (en_k E p)) gc nr w (nI (en_deg E (en_t E) p)) x = dl_b2 (plX3_X3_join gc nr w (nI (en_deg E (en_t E) p)) x) fun r2 g3 => some (if en_k E p = 3 then r2 + 9 else r2, g3) := by
      have : (fun (r2 : Int32) (g3 : dl_Sg) => some (if en_k E p = 3 then r2 + 9 else r2, g3)) = fun r2 g3 => some (r2, g3) := by
        funext r2 g3
        rw [if_neg k3]
      rw [this, b2_id]
      unfold cc_join
      rcases kk5 h hp with q | q | q | q | q
      · rw [q, if_neg (show ¬ nI 0 = (1 : Int32) by decide), if_neg (show ¬ nI 0 = (2 : Int32) by decide), if_neg (show ¬ nI 0 = (3 : Int32) by decide), if_neg (show ¬ nI 0 = (4 : Int32) by decide)]
      · rw [q, if_pos (show nI 1 = (1 : Int32) by decide)]
        rfl
      · rw [q, if_neg (show ¬ nI 2 = (1 : Int32) by decide), if_pos (show nI 2 = (2 : Int32) by decide)]
        rfl
      · exact absurd q k3
      · rw [q, if_neg (show ¬ nI 4 = (1 : Int32) by decide), if_neg (show ¬ nI 4 = (2 : Int32) by decide), if_neg (show ¬ nI 4 = (3 : Int32) by decide), if_pos (show nI 4 = (4 : Int32) by decide)]
        rfl
    have k4 : ¬ nI (en_k E p) = (3 : Int32) := fun q => k3 ((ma_eqn (b := 3) (by omega) (by omega)).mp q)
    rw [c3, if_neg k4]
    exact (act_j16 hN h e (by omega) hp x nr w).up (by omega)
/-- the cost without the tap's and the pump's part -/
def ac_c (k : Int32) (g : dl_Sg) (nr w st x : Int32) : Option (Int32 × dl_Sg) :=
    dl_bi (cl5_ran g (11 : Int32)) fun g1 =>
    dl_b2 (cc_join k g1 nr w st x) fun r2 g3 =>
    some (r2 * (2 : Int32), g3)
theorem act_c30 (hN : 17 ≤ N) (h : iv al E c gc gm) (e : gc 6 1 = nI t) (ht : t + 3 ≤ 50) (hp : p < en_n E) (x nr w : Int32) : tw al E c (t + 3) (dl_b2 (ac_c (nI (en_k E p)) gc nr w (nI (en_deg E (en_t E) p)) x) fun r g => some (r + (if en_tap E p = true then 1 else 0) + (if en_k E p = 4 then nI (en_w E p) else 0), g)) (mo_cost0_b30 N (nI p) x gm) := by
  have hk := h.ok.k hp
  have e0 : (dl_b2 (ac_c (nI (en_k E p)) gc nr w (nI (en_deg E (en_t E) p)) x) fun r g => some (r + (if en_tap E p = true then 1 else 0) + (if en_k E p = 4 then nI (en_w E p) else 0), g)) = dl_bi (cl5_ran gc (11 : Int32)) fun g1 => dl_b2 (cc_join (nI (en_k E p)) g1 nr w (nI (en_deg E (en_t E) p)) x) fun r2 g3 => some (r2 * 2 + (if en_tap E p = true then 1 else 0) + (if en_k E p = 4 then nI (en_w E p) else 0), g3) := by
    unfold ac_c
    cases cl5_ran gc 11 with
    | none => rfl
    | some g1 =>
      show dl_b2 (dl_b2 (cc_join (nI (en_k E p)) g1 nr w (nI (en_deg E (en_t E) p)) x) _) _ = dl_b2 (cc_join (nI (en_k E p)) g1 nr w (nI (en_deg E (en_t E) p)) x) _
      cases cc_join (nI (en_k E p)) g1 nr w (nI (en_deg E (en_t E) p)) x <;> rfl
  rw [e0]
  unfold mo_cost0_b30 mo_cost0_b57
  refine tw_ran h e (by omega) 11 fun g1 g2 h1 e1 => tw_b2 (act_join hN h1 e1 (by omega) hp x nr w) fun r g3 g4 u h2 e2 hu => ?_
  have gt : ∀ (α : Type) (x : Option α), dl_gd true x = x := fun _ _ => rfl
  rw [dl_bi_e (ma_misTap h.ok h2.M hp)]
  simp only [i10 h hp, gt]
  rw [kM h2 hp rfl, wM h2 hp]
  have tail : ∀ b : Int32, tw al E c (t + 3) (some (r * 2 + b + (if en_k E p = 4 then nI (en_w E p) else 0), g3)) (if nI (en_k E p) = (4 : Int32) then some (r * 2 + b + nI (en_w E p), g4) else some (r * 2 + b + 0, g4)) := fun b => by
    by_cases k4 : en_k E p = 4
    · rw [if_pos k4, if_pos (show nI (en_k E p) = (4 : Int32) by rw [k4]; rfl)]
      exact tw_some _ h2 e2 (by omega)
    · rw [if_neg k4, if_neg (show ¬ nI (en_k E p) = (4 : Int32) from fun q => k4 ((ma_eqn (b := 4) (by omega) (by omega)).mp q))]
      exact tw_some _ h2 e2 (by omega)
  cases en_tap E p
  · rw [if_pos ma_q0, if_neg (show ¬ (false = true) by decide)]
    exact tail 0
  · rw [if_neg ma_q1, if_pos (show (true = true) from rfl)]
    exact tail 1
theorem cj (k : Nat) (hk : k ≤ 4) (g : dl_Sg) (nr w st x : Int32) : cc_join (nI k) g nr w st x = if k = 3 then plX9_X9_join g nr w st x else plX3_X3_join g nr w st x := by
  unfold cc_join
  have : k = 0 ∨ k = 1 ∨ k = 2 ∨ k = 3 ∨ k = 4 := by omega
  rcases this with q | q | q | q | q <;> subst q
  · rw [if_neg (show ¬ nI 0 = (1 : Int32) by decide), if_neg (show ¬ nI 0 = (2 : Int32) by decide), if_neg (show ¬ nI 0 = (3 : Int32) by decide), if_neg (show ¬ nI 0 = (4 : Int32) by decide), if_neg (by decide)]
  · rw [if_pos (show nI 1 = (1 : Int32) by decide), if_neg (by decide)]
    rfl
  · rw [if_neg (show ¬ nI 2 = (1 : Int32) by decide), if_pos (show nI 2 = (2 : Int32) by decide), if_neg (by decide)]
    rfl
  · rw [if_neg (show ¬ nI 3 = (1 : Int32) by decide), if_neg (show ¬ nI 3 = (2 : Int32) by decide), if_pos (show nI 3 = (3 : Int32) by decide), if_pos rfl]
  · rw [if_neg (show ¬ nI 4 = (1 : Int32) by decide), if_neg (show ¬ nI 4 = (2 : Int32) by decide), if_neg (show ¬ nI 4 = (3 : Int32) by decide), if_pos (show nI 4 = (4 : Int32) by decide), if_neg (by decide)]
    rfl
theorem ac_c_e (k : Nat) (hk : k ≤ 4) (g : dl_Sg) (nr w st x : Int32) : ac_c (nI k) g nr w st x = if k = 3 then plX9_X3_cost g nr w st x else plX3_X3_cost g nr w st x := by
  unfold ac_c
  by_cases q : k = 3
  · rw [if_pos q]
    unfold plX9_X3_cost
    simp only [cj k hk, if_pos q]
  · rw [if_neg q]
    unfold plX3_X3_cost
    simp only [cj k hk, if_neg q]
theorem act_cost (hN : 17 ≤ N) (h : iv al E c gc gm) (e : gc 6 1 = nI t) (ht : t + 4 ≤ 50) (hp : p < en_n E) (x nr : Int32) : tw al E c (t + 4) (cc_cost (nI (en_k E p)) gc nr (nI (en_w E p)) (nI (en_deg E (en_t E) p)) x) (mo_cost0 N gm (nI p) x) := by
  have hk := h.ok.k hp
  unfold mo_cost0 mo_cost0_b14
  rw [dl_bi_e (ma_misTap h.ok h.M hp)]
  have gt : ∀ (α : Type) (x : Option α), dl_gd true x = x := fun _ _ => rfl
  simp only [i10 h hp, gt]
  have c30 : ∀ {t : Nat} {g1 g2 : dl_Sg}, iv al E c g1 g2 → g1 6 1 = nI t → t + 3 ≤ 50 → tw al E c (t + 3) (dl_b2 (ac_c (nI (en_k E p)) g1 nr (nI (en_w E p)) (nI (en_deg E (en_t E) p)) x) fun r g => some (r + (if en_tap E p = true then 1 else 0) + (if en_k E p = 4 then nI (en_w E p) else 0), g)) (mo_cost0_b30 N (nI p) x g2) := fun h e ht => act_c30 hN h e ht hp x nr (nI (en_w E p))
  have tap : ∀ K : Nat, en_k E p = K → (K = 1 ∨ K = 3) → cc_cost (nI (en_k E p)) gc nr (nI (en_w E p)) (nI (en_deg E (en_t E) p)) x = (dl_bi (cl5_ran gc 20) fun g1 => dl_b2 (ac_c (nI (en_k E p)) g1 nr (nI (en_w E p)) (nI (en_deg E (en_t E) p)) x) fun r g => some (r + 1, g)) → tw al E c (t + 4) (cc_cost (nI (en_k E p)) gc nr (nI (en_w E p)) (nI (en_deg E (en_t E) p)) x) (if (if en_tap E p = true then (1 : Int32) else 0) = 0 then (if gm 1 (nI p).toNatClampNeg = 4 then dl_bi (mo_ran gm 50) fun g1 => mo_cost0_b30 N (nI p) x g1 else mo_cost0_b30 N (nI p) x gm) else dl_bi (mo_ran gm 20) fun g2 => if g2 1 (nI p).toNatClampNeg = 4 then dl_bi (mo_ran g2 50) fun g1 => mo_cost0_b30 N (nI p) x g1 else mo_cost0_b30 N (nI p) x g2) := by
    intro K hK hK2 he
    have ht1 : en_tap E p = true := decide_eq_true (by omega)
    have n4 : ¬ en_k E p = 4 := by omega
    have n4' : ¬ nI (en_k E p) = (4 : Int32) := fun q => n4 ((ma_eqn (b := 4) (by omega) (by omega)).mp q)
    rw [he, ht1, if_neg ma_q1]
    refine tw_ran h e (by omega) 20 fun g1 g2 h1 e1 => ?_
    rw [kM h1 hp rfl, if_neg n4']
    have z := c30 h1 e1 (by omega)
    rw [ht1, if_neg n4] at z
    simp only [if_pos, Int32.add_zero] at z
    exact z.up (by omega)
  rcases kk5 h hp with q | q | q | q | q
  · have ht0 : en_tap E p = false := decide_eq_false (by omega)
    have z := c30 h e (by omega)
    have he : cc_cost (nI (en_k E p)) gc nr (nI (en_w E p)) (nI (en_deg E (en_t E) p)) x = ac_c (nI (en_k E p)) gc nr (nI (en_w E p)) (nI (en_deg E (en_t E) p)) x := by
      rw [ac_c_e _ hk, q, if_neg (show ¬ (0 = 3) by decide)]
      unfold cc_cost
      rw [if_neg (show ¬ nI 0 = (1 : Int32) by decide), if_neg (show ¬ nI 0 = (2 : Int32) by decide), if_neg (show ¬ nI 0 = (3 : Int32) by decide), if_neg (show ¬ nI 0 = (4 : Int32) by decide)]
    rw [ht0, if_neg (show ¬ (false = true) by decide), if_neg (show ¬ en_k E p = 4 by omega)] at z
    simp only [Int32.add_zero, b2_id] at z
    rw [he, ht0, if_pos ma_q0, kM h hp q, if_neg (show ¬ nI 0 = (4 : Int32) by decide)]
    exact z.up (by omega)
  · refine tap 1 q (Or.inl rfl) ?_
    simp only [ac_c_e _ hk, q, if_neg (show ¬ (1 = 3) by decide)]
    unfold cc_cost
    rw [if_pos (show nI 1 = (1 : Int32) by decide)]
    rfl
  · have ht0 : en_tap E p = false := decide_eq_false (by omega)
    have z := c30 h e (by omega)
    have he : cc_cost (nI (en_k E p)) gc nr (nI (en_w E p)) (nI (en_deg E (en_t E) p)) x = ac_c (nI (en_k E p)) gc nr (nI (en_w E p)) (nI (en_deg E (en_t E) p)) x := by
      rw [ac_c_e _ hk, q, if_neg (show ¬ (2 = 3) by decide)]
      unfold cc_cost
      rw [if_neg (show ¬ nI 2 = (1 : Int32) by decide), if_pos (show nI 2 = (2 : Int32) by decide)]
      rfl
    rw [ht0, if_neg (show ¬ (false = true) by decide), if_neg (show ¬ en_k E p = 4 by omega)] at z
    simp only [Int32.add_zero, b2_id] at z
    rw [he, ht0, if_pos ma_q0, kM h hp q, if_neg (show ¬ nI 2 = (4 : Int32) by decide)]
    exact z.up (by omega)
  · refine tap 3 q (Or.inr rfl) ?_
    simp only [ac_c_e _ hk, q, if_pos (show (3 = 3) from rfl)]
    unfold cc_cost
    rw [if_neg (show ¬ nI 3 = (1 : Int32) by decide), if_neg (show ¬ nI 3 = (2 : Int32) by decide), if_pos (show nI 3 = (3 : Int32) by decide)]
    rfl
  · have ht0 : en_tap E p = false := decide_eq_false (by omega)
    have he : cc_cost (nI (en_k E p)) gc nr (nI (en_w E p)) (nI (en_deg E (en_t E) p)) x = (dl_bi (cl5_ran gc 50) fun g1 => dl_b2 (ac_c (nI (en_k E p)) g1 nr (nI (en_w E p)) (nI (en_deg E (en_t E) p)) x) fun r g => some (r + nI (en_w E p), g)) := by
      simp only [ac_c_e _ hk, q, if_neg (show ¬ (4 = 3) by decide)]
      unfold cc_cost
      rw [if_neg (show ¬ nI 4 = (1 : Int32) by decide), if_neg (show ¬ nI 4 = (2 : Int32) by decide), if_neg (show ¬ nI 4 = (3 : Int32) by decide), if_pos (show nI 4 = (4 : Int32) by decide)]
      rfl
    rw [he, ht0, if_pos ma_q0, kM h hp q, if_pos (show nI 4 = (4 : Int32) by decide)]
    refine tw_ran h e (by omega) 50 fun g1 g2 h1 e1 => ?_
    have z := c30 h1 e1 (by omega)
    rw [ht0, if_neg (show ¬ (false = true) by decide), if_pos q] at z
    simp only [Int32.add_zero] at z
    exact z.up (by omega)
theorem act_ask (h : iv al E c gc gm) (e : gc 6 1 = nI t) (ht : t + 2 ≤ 50) (hp : p < en_n E) (x st : Int32) : tw al E c (t + 2) (cc_ask (nI (en_k E p)) gc (nI p) (nI (en_w E p)) st x) (mo_ask0 gm (nI p) x) := by
  have gt : ∀ (α : Type) (x : Option α), dl_gd true x = x := fun _ _ => rfl
  unfold mo_ask0 mo_ask0_b16 mo_ask0_b32 cc_ask
  simp only [i10 h hp, gt]
  have plain : ∀ K, en_k E p = K → K ≠ 2 → K ≠ 3 → K ≤ 4 → tw al E c (t + 2) (plX3_X3_ask gc (nI p) (nI (en_w E p)) st x) (dl_bi (mo_ran gm 12) fun g1 => if g1 1 (nI p).toNatClampNeg = 3 then some (x * 3 - nI p, g1) else if g1 1 (nI p).toNatClampNeg = 2 then some ((x - nI p) * g1 2 (nI p).toNatClampNeg, g1) else some (x - nI p, g1)) := by
    intro K hK k2 k3 k4
    refine tw_ran h e (by omega) 12 fun g1 g2 h1 e1 => ?_
    rw [kM h1 hp hK, if_neg (show ¬ nI K = (3 : Int32) from fun q => k3 ((ma_eqn (b := 3) (by omega) (by omega)).mp q)), if_neg (show ¬ nI K = (2 : Int32) from fun q => k2 ((ma_eqn (b := 2) (by omega) (by omega)).mp q))]
    exact tw_some _ h1 e1 (by omega)
  rcases kk5 h hp with q | q | q | q | q
  · rw [kM h hp q, q, if_neg (show ¬ nI 0 = (1 : Int32) by decide), if_neg (show ¬ nI 0 = (2 : Int32) by decide), if_neg (show ¬ nI 0 = (3 : Int32) by decide), if_neg (show ¬ nI 0 = (4 : Int32) by decide), if_neg (show ¬ nI 0 = (2 : Int32) by decide), if_neg (show ¬ nI 0 = (3 : Int32) by decide)]
    exact plain 0 q (by decide) (by decide) (by decide)
  · rw [kM h hp q, q, if_pos (show nI 1 = (1 : Int32) by decide), if_neg (show ¬ nI 1 = (2 : Int32) by decide), if_neg (show ¬ nI 1 = (3 : Int32) by decide)]
    exact plain 1 q (by decide) (by decide) (by decide)
  · rw [kM h hp q, q, if_neg (show ¬ nI 2 = (1 : Int32) by decide), if_pos (show nI 2 = (2 : Int32) by decide), if_pos (show nI 2 = (2 : Int32) by decide)]
    unfold plX10_X10_ask plX10_X3_ask
    refine tw_ran h e (by omega) 30 fun g1 g2 h1 e1 => ?_
    rw [kM h1 hp q, if_neg (show ¬ nI 2 = (3 : Int32) by decide)]
    have e0 : (dl_b2 (dl_bi (cl5_ran g1 12) fun g1 => some (x - nI p, g1)) fun r2 g3 => some (r2 * nI (en_w E p), g3)) = dl_bi (cl5_ran g1 12) fun g1 => some ((x - nI p) * nI (en_w E p), g1) := by
      cases cl5_ran g1 12 <;> rfl
    rw [e0]
    refine tw_ran h1 e1 (by omega) 12 fun g3 g4 h2 e2 => ?_
    rw [kM h2 hp q, wM h2 hp, if_neg (show ¬ nI 2 = (3 : Int32) by decide), if_pos (show nI 2 = (2 : Int32) by decide)]
    exact tw_some _ h2 e2 (by omega)
  · rw [kM h hp q, q, if_neg (show ¬ nI 3 = (1 : Int32) by decide), if_neg (show ¬ nI 3 = (2 : Int32) by decide), if_pos (show nI 3 = (3 : Int32) by decide), if_neg (show ¬ nI 3 = (2 : Int32) by decide), if_pos (show nI 3 = (3 : Int32) by decide)]
    unfold plX9_X9_ask plX9_X3_ask
    refine tw_ran h e (by omega) 41 fun g1 g2 h1 e1 => ?_
    rw [b2_id]
    refine tw_ran h1 e1 (by omega) 12 fun g3 g4 h2 e2 => ?_
    rw [kM h2 hp q, if_pos (show nI 3 = (3 : Int32) by decide)]
    exact tw_some _ h2 e2 (by omega)
  · rw [kM h hp q, q, if_neg (show ¬ nI 4 = (1 : Int32) by decide), if_neg (show ¬ nI 4 = (2 : Int32) by decide), if_neg (show ¬ nI 4 = (3 : Int32) by decide), if_pos (show nI 4 = (4 : Int32) by decide), if_neg (show ¬ nI 4 = (2 : Int32) by decide), if_neg (show ¬ nI 4 = (3 : Int32) by decide)]
    exact plain 4 q (by decide) (by decide) (by decide)
/-- what a place tells, without the parts of the kinds -/
def ac_t (k : Int32) (g : dl_Sg) (nr w st x : Int32) : Option (Int32 × dl_Sg) :=
    dl_bi (cl5_ran g (13 : Int32)) fun g1 =>
    dl_b2 (cc_cost k g1 nr w st x) fun r2 g3 =>
    dl_b2 (cc_ask k g3 nr w st x) fun r4 g5 =>
    some (r2 ^^^ r4, g5)
theorem act_pt (hN : 17 ≤ N) (h : iv al E c gc gm) (e : gc 6 1 = nI t) (ht : t + 7 ≤ 50) (hp : p < en_n E) (x : Int32) : tw al E c (t + 7) (ac_t (nI (en_k E p)) gc (nI p) (nI (en_w E p)) (nI (en_deg E (en_t E) p)) x) (mo_placeTell N gm (nI p) x) := by
  unfold ac_t mo_placeTell
  refine tw_ran h e (by omega) 13 fun g1 g2 h1 e1 => tw_b2 (act_cost hN h1 e1 (by omega) hp x (nI p)) fun r g3 g4 u h2 e2 hu => ?_
  rw [ma_nme]
  refine tw_b2 (act_ask h2 e2 (by omega) hp x _) fun r' g5 g6 u' h3 e3 hu' => ?_
  exact tw_some _ h3 e3 (by omega)
theorem ck (k : Nat) (hk : k ≤ 4) (g : dl_Sg) (nr w st x : Int32) : cc_cost (nI k) g nr w st x = (if k = 1 then plX4_X4_cost g nr w st x else if k = 3 then plX9_X4_cost g nr w st x else if k = 4 then plX0_X0_cost g nr w st x else plX3_X3_cost g nr w st x) ∧ cc_ask (nI k) g nr w st x = (if k = 2 then plX10_X10_ask g nr w st x else if k = 3 then plX9_X9_ask g nr w st x else plX3_X3_ask g nr w st x) := by
  unfold cc_cost cc_ask
  have : k = 0 ∨ k = 1 ∨ k = 2 ∨ k = 3 ∨ k = 4 := by omega
  rcases this with q | q | q | q | q <;> subst q
  · rw [if_neg (show ¬ nI 0 = (1 : Int32) by decide), if_neg (show ¬ nI 0 = (2 : Int32) by decide), if_neg (show ¬ nI 0 = (3 : Int32) by decide), if_neg (show ¬ nI 0 = (4 : Int32) by decide), if_neg (show ¬ nI 0 = (1 : Int32) by decide), if_neg (show ¬ nI 0 = (2 : Int32) by decide), if_neg (show ¬ nI 0 = (3 : Int32) by decide), if_neg (show ¬ nI 0 = (4 : Int32) by decide)]
    exact ⟨rfl, rfl⟩
  · rw [if_pos (show nI 1 = (1 : Int32) by decide), if_pos (show nI 1 = (1 : Int32) by decide)]
    exact ⟨rfl, rfl⟩
  · rw [if_neg (show ¬ nI 2 = (1 : Int32) by decide), if_pos (show nI 2 = (2 : Int32) by decide), if_neg (show ¬ nI 2 = (1 : Int32) by decide), if_pos (show nI 2 = (2 : Int32) by decide)]
    exact ⟨rfl, rfl⟩
  · rw [if_neg (show ¬ nI 3 = (1 : Int32) by decide), if_neg (show ¬ nI 3 = (2 : Int32) by decide), if_pos (show nI 3 = (3 : Int32) by decide), if_neg (show ¬ nI 3 = (1 : Int32) by decide), if_neg (show ¬ nI 3 = (2 : Int32) by decide), if_pos (show nI 3 = (3 : Int32) by decide)]
    exact ⟨rfl, rfl⟩
  · rw [if_neg (show ¬ nI 4 = (1 : Int32) by decide), if_neg (show ¬ nI 4 = (2 : Int32) by decide), if_neg (show ¬ nI 4 = (3 : Int32) by decide), if_pos (show nI 4 = (4 : Int32) by decide), if_neg (show ¬ nI 4 = (1 : Int32) by decide), if_neg (show ¬ nI 4 = (2 : Int32) by decide), if_neg (show ¬ nI 4 = (3 : Int32) by decide), if_pos (show nI 4 = (4 : Int32) by decide)]
    exact ⟨rfl, rfl⟩
theorem ac_t_e (g : dl_Sg) (nr w st x : Int32) : ac_t (nI 0) g nr w st x = plX3_X3_tell g nr w st x ∧ ac_t (nI 1) g nr w st x = plX4_X3_tell g nr w st x ∧ ac_t (nI 2) g nr w st x = plX10_X3_tell g nr w st x ∧ ac_t (nI 3) g nr w st x = plX9_X3_tell g nr w st x ∧ ac_t (nI 4) g nr w st x = plX0_X3_tell g nr w st x := by
  unfold ac_t
  simp only [fun g x => (ck 0 (by decide) g nr w st x).1, fun g x => (ck 0 (by decide) g nr w st x).2, fun g x => (ck 1 (by decide) g nr w st x).1, fun g x => (ck 1 (by decide) g nr w st x).2, fun g x => (ck 2 (by decide) g nr w st x).1, fun g x => (ck 2 (by decide) g nr w st x).2, fun g x => (ck 3 (by decide) g nr w st x).1, fun g x => (ck 3 (by decide) g nr w st x).2, fun g x => (ck 4 (by decide) g nr w st x).1, fun g x => (ck 4 (by decide) g nr w st x).2]
  exact ⟨rfl, rfl, rfl, rfl, rfl⟩
theorem act_tell (hN : 17 ≤ N) (h : iv al E c gc gm) (e : gc 6 1 = nI t) (ht : t + 10 ≤ 50) (hp : p < en_n E) (x : Int32) : tw al E c (t + 10) (cc_tell (nI (en_k E p)) gc (nI p) (nI (en_w E p)) (nI (en_deg E (en_t E) p)) x) (mo_tell0 N gm (nI p) x) := by
  have gt : ∀ (α : Type) (x : Option α), dl_gd true x = x := fun _ _ => rfl
  unfold mo_tell0 cc_tell
  rw [dl_bi_e (ma_misTap h.ok h.M hp)]
  simp only [i10 h hp, gt, b2_id]
  have pt : ∀ {t : Nat} {g1 g2 : dl_Sg} (x : Int32), iv al E c g1 g2 → g1 6 1 = nI t → t + 7 ≤ 50 → tw al E c (t + 7) (ac_t (nI (en_k E p)) g1 (nI p) (nI (en_w E p)) (nI (en_deg E (en_t E) p)) x) (mo_placeTell N g2 (nI p) x) := fun x h e ht => act_pt hN h e ht hp x
  rcases kk5 h hp with q | q | q | q | q
  · have ht0 : en_tap E p = false := decide_eq_false (by omega)
    have z := pt x h e (by omega)
    rw [ht0, if_pos ma_q0, kM h hp q, q, if_neg (show ¬ nI 0 = (1 : Int32) by decide), if_neg (show ¬ nI 0 = (2 : Int32) by decide), if_neg (show ¬ nI 0 = (3 : Int32) by decide), if_neg (show ¬ nI 0 = (4 : Int32) by decide), if_neg (show ¬ nI 0 = (4 : Int32) by decide), ← (ac_t_e _ _ _ _ _).1]
    rw [q] at z
    exact z.up (by omega)
  · have ht0 : en_tap E p = true := decide_eq_true (by omega)
    rw [ht0, if_neg ma_q1, q, if_pos (show nI 1 = (1 : Int32) by decide)]
    unfold plX4_X4_tell
    refine tw_ran h e (by omega) 21 fun g1 g2 h1 e1 => ?_
    have z := pt (x - 1) h1 e1 (by omega)
    rw [b2_id, ← (ac_t_e _ _ _ _ _).2.1]
    rw [q] at z
    exact z.up (by omega)
  · have ht0 : en_tap E p = false := decide_eq_false (by omega)
    have z := pt x h e (by omega)
    rw [ht0, if_pos ma_q0, kM h hp q, q, if_neg (show ¬ nI 2 = (1 : Int32) by decide), if_pos (show nI 2 = (2 : Int32) by decide), if_neg (show ¬ nI 2 = (4 : Int32) by decide), ← (ac_t_e _ _ _ _ _).2.2.1]
    rw [q] at z
    exact z.up (by omega)
  · have ht0 : en_tap E p = true := decide_eq_true (by omega)
    rw [ht0, if_neg ma_q1, q, if_neg (show ¬ nI 3 = (1 : Int32) by decide), if_neg (show ¬ nI 3 = (2 : Int32) by decide), if_pos (show nI 3 = (3 : Int32) by decide)]
    unfold plX9_X4_tell
    refine tw_ran h e (by omega) 21 fun g1 g2 h1 e1 => ?_
    have z := pt (x - 1) h1 e1 (by omega)
    rw [b2_id, ← (ac_t_e _ _ _ _ _).2.2.2.1]
    rw [q] at z
    exact z.up (by omega)
  · have ht0 : en_tap E p = false := decide_eq_false (by omega)
    rw [ht0, if_pos ma_q0, kM h hp q, if_pos (show nI 4 = (4 : Int32) by decide)]
    have he : cc_tell (nI (en_k E p)) gc (nI p) (nI (en_w E p)) (nI (en_deg E (en_t E) p)) x = (dl_bi (cl5_ran gc 51) fun g1 => dl_b2 (cc_ask (nI (en_k E p)) g1 (nI p) (nI (en_w E p)) (nI (en_deg E (en_t E) p)) x) fun r2 g3 => dl_b2 (ac_t (nI (en_k E p)) g3 (nI p) (nI (en_w E p)) (nI (en_deg E (en_t E) p)) x) fun r4 g5 => some (r2 + r4, g5)) := by
      unfold cc_tell
      simp only [q, fun g x => (ck 4 (by decide) g (nI p) (nI (en_w E p)) (nI (en_deg E (en_t E) p)) x).2, fun g => (ac_t_e g (nI p) (nI (en_w E p)) (nI (en_deg E (en_t E) p)) x).2.2.2.2]
      rw [if_neg (show ¬ nI 4 = (1 : Int32) by decide), if_neg (show ¬ nI 4 = (2 : Int32) by decide), if_neg (show ¬ nI 4 = (3 : Int32) by decide), if_pos (show nI 4 = (4 : Int32) by decide)]
      rfl
    unfold cc_tell at he
    rw [he]
    refine tw_ran h e (by omega) 51 fun g1 g2 h1 e1 => tw_b2 (act_ask h1 e1 (by omega) hp x _) fun r g3 g4 u h2 e2 hu => ?_
    rw [ma_nme]
    refine tw_b2 (pt x h2 e2 (by omega)) fun r' g5 g6 u' h3 e3 hu' => ?_
    exact tw_some _ h3 e3 (by omega)
theorem tw.done {B : Nat} {x y : Option (Int32 × dl_Sg)} (h : tw al E c B x y) : ma_two al E c (dl_b2 x fun r2 g2 => dl_b2 (cl11_done g2 r2) fun r3 g3 => some (r3, g3)) (dl_b2 y fun r4 g5 => mo_act_b76 N r4 g5) := by
  obtain ⟨r, g1, g2, u, e1, e2, h1, _⟩ := h
  rw [dl_b2_e e1, dl_b2_e e2]
  exact ⟨_, _, _, rfl, rfl, E, kw.rf E, h1.s 0⟩
theorem ma_in3 (x : Int32) : mo_in x 0 3 = some (if ma_dec (px 4 x) = true then 1 else 0) := by
  rw [mo_in_e, ← px_in (n := 4) (by omega)]
  rfl
theorem do_act (hN : 131073 ≤ N) (h : iv al E c gc gm) (x y z : Int32) : ma_two al E c (cl11_act gc x y z) (mo_act N gm x y z) := by
  have hn := h.ok.n
  have no : ma_two al E c (dl_b2 (cl11_refused gc 1) fun r1 g2 => some (r1, g2)) (mo_act_b17 N gm) := ⟨_, _, _, rfl, rfl, E, kw.rf E, h.s 1⟩
  unfold cl11_act mo_act
  rw [dl_bi_e (ma_hasPlace h.ok h.C x), dl_bi_e (ma_isPlace h.ok h.M x), dl_bi_e (ma_in3 y)]
  by_cases hx : px (en_n E) x
  · rw [ma_dec_t.mpr hx, if_neg ma_q1, if_neg ma_q1]
    obtain ⟨p, p1, rfl⟩ := hx
    rw [ma_gde (i10 h p1)]
    have hy : px 4 y ↔ (¬ y < 0 ∧ y ≤ 3) := (ma_fit (z := 4) (d := 1) (by omega) (by omega) y).symm
    by_cases y1 : y < 0
    · rw [if_pos y1, ma_dec_f.mpr (fun q => (hy.mp q).1 y1), if_pos ma_q0]
      exact no
    · rw [if_neg y1]
      by_cases y2 : y ≤ 3
      · rw [if_pos y2, ma_dec_t.mpr (hy.mpr ⟨y1, y2⟩), if_neg ma_q1]
        have hl : ma_lo (gc 12 p) 16 := fun i q => h.C.ofl h.ok (by omega) i (by have := h.ok.m; omega)
        have e := ma_cdeg (T := en_t E) h.ok h.C p1 (fun i q => q)
        have e2 : fb_ct (bt (gc 12 p)) 16 = fb_ct (bt (gc 12 p &&& en_t E)) 16 := by
          refine congrArg (fun f => fb_ct f 16) (funext (fun i => ?_))
          rw [b_and, h.C.of (by omega)]
          cases bt (en_t E) i <;> simp
        have sa : cl2_streetsAt gc (nI p) = some (nI (en_deg E (en_t E) p)) := by
          unfold cl2_streetsAt
          rw [ma_gde (ma_in_t (by omega) (by omega)), nI_clamp (by omega), dl_bi_e (ma_bitc hl), e2, e]
        have h1 : iv al E c (dl_s2 gc 6 1 0) (dl_s2 gm 0 16 0) := h.trc (fun k a b => ma_s2r _ _ _ _ a) (fun k a b => ma_s2r _ _ _ _ a) (fun i a => ma_s2n _ _ (by omega)) ⟨0, by omega, ma_s2s _ _ _ _, ma_s2s _ _ _ _, fun i q => absurd q (by omega)⟩
        have e1 : dl_s2 gc 6 1 0 6 1 = nI 0 := ma_s2s _ _ _ _
        rw [dl_bi_e sa, ma_nme, ma_nme, nI_clamp (show p < 2 ^ 31 by omega), h.C.k p1, h.C.w p1]
        by_cases y3 : y = 0
        · rw [if_pos y3, if_pos y3]
          exact (act_join (by omega) h1 e1 (by omega) p1 z _ _).done
        · rw [if_neg y3, if_neg y3]
          by_cases y4 : y = 1
          · rw [if_pos y4, if_pos y4]
            exact (act_cost (by omega) h1 e1 (by omega) p1 z _).done
          · rw [if_neg y4, if_neg y4]
            by_cases y5 : y = 2
            · rw [if_pos y5, if_pos y5]
              exact (act_ask h1 e1 (by omega) p1 z _).done
            · rw [if_neg y5, if_neg y5]
              exact (act_tell (by omega) h1 e1 (by omega) p1 z).done
      · rw [if_neg y2, ma_dec_f.mpr (fun q => y2 (hy.mp q).2), if_pos ma_q0]
        exact no
  · rw [ma_dec_f.mpr hx, if_pos ma_q0, if_pos ma_q0]
    exact no
end
