/-! The law: the first states, and the places among the further cells -/
def cl_ini : dl_Sg := fun k => if k = 25 then upd (upd (upd (upd (upd (fun _ => 0) 0 (-1)) 1 (-1)) 2 (-1)) 3 (-1)) 4 (-1) else if k = 1 then (fun i => if i = 13 then -1 else 0) else if k = 3 then (fun i => if i = 8 then -1 else 0) else if k = 4 then (fun i => if i = 7 then -1 else 0) else if k = 9 then (fun _ => 64) else fun _ => 0
def E_0 : ma_E := ((0, 0), ((fun _ => 0), (fun _ => 0)), ((fun _ => 0), (fun _ => 0), (fun _ => 0)), 0)
theorem iv_0 : iv 64 E_0 0 cl_ini mo_ini := by
  have b0 : ∀ i, bt (0 : Int32) i = true → False := fun i q => by rw [bt_0] at q; exact absurd q (by decide)
  have z : ∀ {P : Prop} {p : Nat}, p < 0 → P := fun h => absurd h (Nat.not_lt_zero _)
  refine ⟨⟨Nat.zero_le _, Nat.zero_le _, fun p hp => z hp, fun s hs => z hs, fun i q => (b0 i q).elim, fun p q hp => z hp⟩, ⟨by decide +kernel, by decide +kernel, fun p hp => z hp, fun s hs => z hs, by decide +kernel⟩, ⟨by decide +kernel, by decide +kernel, fun p hp => z hp, fun s hs => z hs, by decide +kernel, fun p hp i => ?_, by decide +kernel, Or.inl ⟨by decide +kernel, fun p hp => z hp⟩⟩, ⟨by decide +kernel, fun i q => (b0 i q).elim⟩, ⟨0, Nat.zero_le _, by decide +kernel, by decide +kernel, fun k hk => z hk, trivial⟩, ?_, by decide +kernel, ⟨0, Nat.zero_le _, by decide +kernel, by decide +kernel, fun i hi => z hi⟩, ⟨0, Nat.le_refl _, by decide +kernel, Or.inl (by decide +kernel), Or.inl (by decide +kernel)⟩, fun q => absurd q (by decide +kernel), ⟨⟨by decide +kernel, by decide +kernel, by decide +kernel⟩, by decide +kernel⟩, fun q => absurd q (by decide +kernel), fun q => absurd (by decide +kernel) q⟩
  · show bt (0 : Int32) i = (bt (0 : Int32) i && _)
    rw [bt_0]
    rfl
  · intro k hk
    have : k = 0 ∨ k = 1 ∨ k = 2 ∨ k = 3 ∨ k = 4 := by omega
    rcases this with q | q | q | q | q <;> subst q
    · exact ⟨by decide +kernel, Or.inl (by decide +kernel), by decide +kernel, ⟨0, by omega, by decide +kernel⟩, fun i _ => rfl⟩
    · exact ⟨by decide +kernel, Or.inl (by decide +kernel), by decide +kernel, ⟨0, by omega, by decide +kernel⟩, fun i _ => rfl⟩
    · exact ⟨by decide +kernel, Or.inl (by decide +kernel), by decide +kernel, ⟨0, by omega, by decide +kernel⟩, fun i _ => rfl⟩
    · exact ⟨by decide +kernel, Or.inl (by decide +kernel), by decide +kernel, ⟨0, by omega, by decide +kernel⟩, fun i _ => rfl⟩
    · exact ⟨by decide +kernel, Or.inl (by decide +kernel), by decide +kernel, ⟨0, by omega, by decide +kernel⟩, fun i _ => rfl⟩
section
variable {al : Nat} {E F : ma_E} {c c' : Nat} {g g' gm gm' : dl_Sg} {ad : Nat → Nat} {pr pr1 : Nat → Option Nat} {R : va_W}
theorem cc_ok_0 : cc_ok ad pr cl_ini R := fun p hp => by
  rw [show (cl_ini 1 10).toNatClampNeg = 0 by decide +kernel] at hp
  exact absurd hp (Nat.not_lt_zero _)
theorem cc_ok_to (hok : cc_ok ad pr g R) (h : iv al E c g gm) (h' : iv al F c' g' gm') (hk : kw F E) : cc_ok ad pr g' R := by
  intro p hp
  have hn := h.ok.n
  have hn' := h'.ok.n
  rw [h'.C.n, nI_clamp (by omega)] at hp
  have hp2 : p < en_n E := Nat.lt_of_lt_of_le hp hk.1
  obtain ⟨q, a, st, q1, q2⟩ := hok p (by rw [h.C.n, nI_clamp (by omega)]; exact hp2)
  refine ⟨q, a, st, q1, ?_⟩
  rw [h.C.k hp2, h.C.w hp2] at q2
  rw [h'.C.k hp, h'.C.w hp, hk.2.1, hk.2.2]
  exact q2
theorem cc_ok_pr (hok : cc_ok ad pr g R) (hp : dl_pr pr pr1 g) : cc_ok ad pr1 g R := fun p h => by
  obtain ⟨q, a, st, q1, q2⟩ := hok p h
  exact ⟨q, a, st, (hp p h).trans q1, q2⟩
theorem cc_ok_up (hok : cc_ok ad pr g R) (b : Nat) : cc_ok (va_up ad 33 b) pr g R := fun p h => hok p h
theorem cc_ok_app (X : va_W) (hok : cc_ok ad pr g R) : cc_ok ad pr g (X ++ R) := fun p h => by
  obtain ⟨q, a, st, q1, q2⟩ := hok p h
  exact ⟨X.length + q, a, st, q1, by rw [List.getElem?_append_right (by omega), Nat.add_sub_cancel_left]; exact q2⟩
/-- the rows of kinds and worths while a place is made -/
def pl_P (g : dl_Sg) (n L : Nat) (x w : Int32) (G : dl_Sg) : Prop := (∀ p, G 7 p = if p = n then x else g 7 p) ∧ (∀ p, G 8 p = if p = n then w else g 8 p) ∧ G 1 10 = nI n ∧ G 1 16 = nI L
def pl_Q (g : dl_Sg) (n : Nat) (x w : Int32) (G : dl_Sg) : Prop := (∀ p, G 7 p = if p = n then x else g 7 p) ∧ (∀ p, G 8 p = if p = n then w else g 8 p) ∧ G 1 10 = nI (n + 1)
variable {n L : Nat} {x w : Int32} {G gN : dl_Sg} {r x3 : Int32}
theorem pl_keep (h : pl_P g n L x w G) {k i : Nat} (v : Int32) (h7 : k ≠ 7) (h8 : k ≠ 8) (h1 : ¬ (k = 1 ∧ (i = 10 ∨ i = 16))) : pl_P g n L x w (dl_s2 G k i v) := by
  refine ⟨fun p => ?_, fun p => ?_, ?_, ?_⟩
  · rw [ma_s2n _ _ (by omega)]; exact h.1 p
  · rw [ma_s2n _ _ (by omega)]; exact h.2.1 p
  · rw [ma_s2n _ _ (by omega)]; exact h.2.2.1
  · rw [ma_s2n _ _ (by omega)]; exact h.2.2.2
theorem pl_82 (hL : L ≤ 10) (hG : pl_P g n L x w G) (h : cl2_addPlace_b82 x3 G = some (r, gN)) : pl_Q g n x w gN := by
  unfold cl2_addPlace_b82 at h
  rw [hG.2.2.1, nI_1, ma_nme] at h
  obtain ⟨g2, e, q⟩ := ma_note (g := dl_s2 G 1 10 (nI (n + 1))) hL (by rw [ma_s2n _ _ (by omega)]; exact hG.2.2.2) (-1)
  rw [dl_bi_e e] at h
  have h := (Prod.mk.inj (Option.some.inj h)).2
  rw [← h]
  refine ⟨fun p => ?_, fun p => ?_, ?_⟩
  · rw [q.2.2.2.1 7 (by decide) (by decide), ma_s2n _ _ (by omega)]; exact hG.1 p
  · rw [q.2.2.2.1 8 (by decide) (by decide), ma_s2n _ _ (by omega)]; exact hG.2.1 p
  · rw [q.2.2.2.2 10 (by decide) (by decide), ma_s2s]
theorem pl_72 (hL : L ≤ 10) (hG : pl_P g n L x w G) (h : cl2_addPlace_b72 x x3 G = some (r, gN)) : pl_Q g n x w gN := by
  unfold cl2_addPlace_b72 at h
  by_cases q : x = 3
  · rw [if_pos q, ma_nme] at h
    exact pl_82 hL (pl_keep hG _ (by decide) (by decide) (by omega)) h
  · rw [if_neg q] at h
    exact pl_82 hL hG h
theorem pl_60 (hL : L ≤ 10) (hG : pl_P g n L x w G) (h : cl2_addPlace_b60 x x3 G = some (r, gN)) : pl_Q g n x w gN := by
  unfold cl2_addPlace_b60 at h
  rw [ma_nme] at h
  exact pl_72 hL (pl_keep hG _ (by decide) (by decide) (by omega)) h
theorem pl_49 (hL : L ≤ 10) (hG : pl_P g n L x w G) {y1 y2 : Int32} (h : cl2_addPlace_b49 x x3 y1 y2 G = some (r, gN)) : pl_Q g n x w gN := by
  unfold cl2_addPlace_b49 at h
  obtain ⟨_, h⟩ := dl_gd_some h
  rw [ma_nme] at h
  have hG := pl_keep (i := y1.toNatClampNeg) hG y2 (show 11 ≠ 7 by decide) (show 11 ≠ 8 by decide) (by omega)
  by_cases q : x = 1
  · rw [if_pos q] at h
    exact pl_60 hL hG h
  · rw [if_neg q] at h
    by_cases q3 : x = 3
    · rw [if_pos q3] at h
      exact pl_60 hL hG h
    · rw [if_neg q3] at h
      exact pl_72 hL hG h
theorem pl_33 (hL : L ≤ 10) (hG : pl_P g n L x w G) {x2 y1 y2 : Int32} (h : cl2_addPlace_b33 x x2 x3 y1 y2 G = some (r, gN)) : pl_Q g n x w gN := by
  unfold cl2_addPlace_b33 at h
  obtain ⟨_, h⟩ := dl_gd_some h
  rw [ma_nme] at h
  have hG := pl_keep (i := y1.toNatClampNeg) hG y2 (show 10 ≠ 7 by decide) (show 10 ≠ 8 by decide) (by omega)
  by_cases q : x = 2
  · rw [if_pos q] at h
    exact pl_49 hL hG h
  · rw [if_neg q] at h
    exact pl_49 hL hG h
theorem pl_rows (hL : L ≤ 10) (e : g 1 10 = nI n) (hn : n < 2 ^ 31) (eL : g 1 16 = nI L) (h : cl2_addPlace g x w = some (r, gN)) : pl_Q g n x w gN := by
  unfold cl2_addPlace at h
  rw [e, ma_nme] at h
  obtain ⟨_, h⟩ := dl_gd_some h
  rw [ma_nme, ma_nme, ma_wr _ hn, ma_wr _ hn] at h
  have hG : pl_P g n L x w (dl_s2 (dl_s2 g 7 n x) 8 n w) := by
    refine ⟨fun p => ?_, fun p => ?_, ?_, ?_⟩
    · rw [ma_s2n _ _ (by omega), ma_s2]
      by_cases q : p = n
      · rw [if_pos ⟨rfl, q⟩, if_pos q]
      · rw [if_neg (fun z => q z.2), if_neg q]
    · rw [ma_s2]
      by_cases q : p = n
      · rw [if_pos ⟨rfl, q⟩, if_pos q]
      · rw [if_neg (fun z => q z.2), if_neg q, ma_s2n _ _ (by omega)]
    · rw [ma_s2n _ _ (by omega), ma_s2n _ _ (by omega)]; exact e
    · rw [ma_s2n _ _ (by omega), ma_s2n _ _ (by omega)]; exact eL
  by_cases q : x = 4
  · rw [if_pos q] at h
    exact pl_33 hL hG h
  · rw [if_neg q] at h
    exact pl_33 hL hG h
/-- a place more among the further cells -/
theorem cc_ok_place (hok : cc_ok ad pr g R) (h : iv al E c g gm) {rN : Int32} (hA : cl2_addPlace g x w = some (rN, gN)) {g0 : dl_Sg} (hd : ∃ r : Int32, cl11_done gN rN = some (r, g0)) (a : Nat) : cc_ok ad (va_up pr (g 1 10).toNatClampNeg (some a)) g0 (R ++ [(a, .inr (cc_ci x, [.int (g 1 10), .int w, .ref (ad 6), .int 0]))]) := by
  have hn := h.ok.n
  obtain ⟨L, l1, l2, _⟩ := h.2.2.2.2.1
  obtain ⟨q7, q8, q10⟩ := pl_rows l1 h.C.n (by omega) l2 hA
  obtain ⟨r, hr⟩ := hd
  have e0 : dl_s2 gN 0 5 0 = g0 := (Prod.mk.inj (Option.some.inj hr)).2
  rw [← e0]
  intro p hp
  rw [ma_s2n _ _ (by omega), q10, nI_clamp (by omega)] at hp
  rw [ma_s2n _ _ (by omega), ma_s2n _ _ (by omega), q7, q8, h.C.n, nI_clamp (by omega)]
  by_cases z : p = en_n E
  · refine ⟨R.length, a, 0, ?_, ?_⟩
    · unfold va_up
      rw [if_pos z]
    · rw [if_pos z, if_pos z, List.getElem?_append_right (Nat.le_refl _), Nat.sub_self, z]
      rfl
  · obtain ⟨q, a', st, q1, q2⟩ := hok p (by rw [h.C.n, nI_clamp (by omega)]; omega)
    refine ⟨q, a', st, ?_, ?_⟩
    · unfold va_up
      rw [if_neg z]
      exact q1
    · rw [if_neg z, if_neg z, List.getElem?_append_left (List.getElem?_eq_some_iff.mp q2).1]
      exact q2
theorem cc_ok_refused (hok : cc_ok ad pr g R) {v r : Int32} {g0 : dl_Sg} (hd : cl11_refused g v = some (r, g0)) : cc_ok ad pr g0 R := by
  have e0 : dl_s2 g 0 5 v = g0 := (Prod.mk.inj (Option.some.inj hd)).2
  rw [← e0]
  intro p hp
  rw [ma_s2n _ _ (by omega)] at hp
  rw [ma_s2n _ _ (by omega), ma_s2n _ _ (by omega)]
  exact hok p hp
/-- act writes one cell of a place: the reference's cells stay where they are -/
theorem okk_app {cI : ClassId} {am : Nat → Nat} {R1 : va_W} (hok : cc_ok ad pr g R) (hk : dl_okk ad pr (mm_w cI am gm ++ R) R1) : ∃ R2, R1 = mm_w cI am gm ++ R2 ∧ cc_ok ad pr g R2 := by
  rcases hk.2 with e | ⟨q, a, d, t, nr, wv, st, dv, e1, e2⟩
  · exact ⟨R, e, hok⟩
  · have hq : 19 ≤ q := by
      rcases Nat.lt_or_ge q 19 with z | z
      · exfalso
        have : q = 0 ∨ q = 1 ∨ q = 2 ∨ q = 3 ∨ q = 4 ∨ q = 5 ∨ q = 6 ∨ q = 7 ∨ q = 8 ∨ q = 9 ∨ q = 10 ∨ q = 11 ∨ q = 12 ∨ q = 13 ∨ q = 14 ∨ q = 15 ∨ q = 16 ∨ q = 17 ∨ q = 18 := by omega
        rcases this with q | q | q | q | q | q | q | q | q | q | q | q | q | q | q | q | q | q | q <;> subst q <;> cases e1
      · exact z
    obtain ⟨q', rfl⟩ : ∃ q', q = 19 + q' := ⟨q - 19, by omega⟩
    have e3 : R[q']? = some (a, .inr (d, [.int nr, .int wv, .ref t, .int st])) := by
      rw [List.getElem?_append_right (show (mm_w cI am gm).length ≤ 19 + q' from Nat.le_add_right 19 q')] at e1
      have : 19 + q' - (mm_w cI am gm).length = q' := Nat.add_sub_cancel_left 19 q'
      rw [this] at e1
      exact e1
    refine ⟨R.set q' (a, .inr (d, [.int nr, .int wv, .ref t, .int dv])), ?_, (dl_okk_set e3).1 g hok⟩
    rw [e2, List.set_append_right _ _ (show (mm_w cI am gm).length ≤ 19 + q' from Nat.le_add_right 19 q')]
    have : 19 + q' - (mm_w cI am gm).length = q' := Nat.add_sub_cancel_left 19 q'
    rw [this]
end
