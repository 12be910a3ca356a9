/-! The mathematics: the forge -/
section
variable {al : Nat} {E : ma_E} {c N k : Nat} {gc gm : dl_Sg}
theorem fg_100 {x : Int32} (h1 : ¬ x < -100) (h2 : x ≤ 100) : ∃ j, j < 201 ∧ x = nI j - 100 := by
  have a := (not_congr (fa_lt _ _)).mp h1
  have b := (fa_le _ _).mp h2
  have e1 : (-100 : Int32).toInt = -100 := rfl
  have e2 : (100 : Int32).toInt = 100 := rfl
  refine ⟨(x.toInt + 100).toNat, by omega, Int32.toInt_inj.mp ?_⟩
  have := pk_sub_toInt (a := (x.toInt + 100).toNat) (b := 100) (by omega) (by omega)
  rw [show (100 : Int32) = nI 100 from rfl, this]
  omega
set_option maxRecDepth 100000 in
theorem fg_5 : ∀ j, j < 201 → jd_floorMod (nI j - 100) 5 = some (nI (j % 5)) ∧ mo_modulo (nI j - 100) 5 = some (nI (j % 5)) := by decide +kernel
set_option maxRecDepth 100000 in
theorem fg_10 : ∀ j, j < 201 → jd_floorMod (nI j - 100) 10 = some (nI (j % 10)) ∧ mo_modulo (nI j - 100) 10 = some (nI (j % 10)) := by decide +kernel
set_option maxRecDepth 100000 in
theorem fg_2 : ∀ j, j < 201 → jd_floorMod (nI j - 100) 2 = some (nI (j % 2)) ∧ (nI j - 100) &&& 1 = nI (j % 2) := by decide +kernel
theorem fg_no (h : iv al E c gc gm) (v : Int32) : ma_two al E c (dl_b2 (cl11_refused gc v) fun r1 g2 => some (r1, g2)) (dl_b2 (mo_refused gm v) fun r1 g2 => some (r1, g2)) := ⟨_, _, _, rfl, rfl, E, kw.rf E, h.s v⟩
theorem fg_yes (h : iv al E c gc gm) (v : Int32) : ma_two al E c (dl_b2 (cl11_done gc v) fun r1 g2 => some (r1, g2)) (dl_b2 (mo_done gm v) fun r1 g2 => some (r1, g2)) := ⟨_, _, _, rfl, rfl, E, kw.rf E, h.s 0⟩
theorem fg_isk : ∀ k, k < 5 → ∀ x, x < 5 → (cc_isk (nI k) (nI x) = 0 ↔ ¬ (x = 0 ∨ x = k ∨ (x = 1 ∧ k = 3))) := by decide +kernel
theorem fg_take (h : iv al E c gc gm) {p x : Nat} (hp : p < 10) (hx : x < 5) : ma_two al E c (cl11_takePlaceForKind gc (nI p) (nI x)) (mo_placeTaken gm (nI p) (nI x)) := by
  have hn := h.ok.n
  unfold cl11_takePlaceForKind mo_placeTaken
  rw [dl_bi_e (ma_hasPlace h.ok h.C _), dl_bi_e (ma_isPlace h.ok h.M _)]
  by_cases hq : px (en_n E) (nI p)
  · rw [ma_dec_t.mpr hq, if_neg ma_q1, if_neg ma_q1]
    obtain ⟨j, j1, j2⟩ := hq
    have : p = j := (ma_eqn (by omega) (by omega)).mp j2
    subst this
    have hk := h.ok.k j1
    have gt : ∀ (α : Type) (x : Option α), dl_gd true x = x := fun _ _ => rfl
    have is := fg_isk (en_k E p) (by omega) x hx
    have t1 : ma_two al E c (dl_b2 (cl11_done gc (nI (en_k E p))) fun r1 g2 => some (r1, g2)) (mo_placeTaken_b44 (nI p) gm) := by
      unfold mo_placeTaken_b44 mo_placeTaken_b49
      rw [ma_nme, if_neg (show ¬ (1 : Int32) = 0 by decide), ma_gde (i10 h j1), kM h j1 rfl]
      exact fg_yes h _
    have t0 : ma_two al E c (dl_b2 (cl11_refused gc 11) fun r1 g2 => some (r1, g2)) (mo_placeTaken_b48 (nI p) gm) := by
      unfold mo_placeTaken_b48 mo_placeTaken_b49
      rw [ma_nme, if_pos rfl]
      exact fg_no h 11
    simp only [i10 h j1, gt]
    rw [kM h j1 rfl, nI_clamp (show p < 2 ^ 31 by omega), h.C.k j1, dl_bi_e (cc_kd_e hk)]
    by_cases x0 : x = 0
    · rw [if_neg (fun q => is.mp q (Or.inl x0)), if_pos (show nI x = 0 by rw [x0]; rfl)]
      exact t1
    · rw [if_neg (show ¬ nI x = 0 from nI_ne0 (by omega) (by omega))]
      by_cases x1 : x = en_k E p
      · rw [if_neg (fun q => is.mp q (Or.inr (Or.inl x1))), if_pos (show nI x = nI (en_k E p) by rw [x1])]
        exact t1
      · rw [if_neg (show ¬ nI x = nI (en_k E p) from fun q => x1 ((ma_eqn (by omega) (by omega)).mp q))]
        by_cases x2 : x = 1
        · rw [if_pos (show nI x = (1 : Int32) by rw [x2]; rfl)]
          by_cases k3 : en_k E p = 3
          · rw [if_neg (fun q => is.mp q (Or.inr (Or.inr ⟨x2, k3⟩))), if_pos (show nI (en_k E p) = (3 : Int32) by rw [k3]; rfl)]
            exact t1
          · rw [if_pos (is.mpr (fun q => by omega)), if_neg (show ¬ nI (en_k E p) = (3 : Int32) from fun q => k3 ((ma_eqn (b := 3) (by omega) (by omega)).mp q))]
            exact t0
        · rw [if_pos (is.mpr (fun q => by omega)), if_neg (show ¬ nI x = (1 : Int32) from fun q => x2 ((ma_eqn (b := 1) (by omega) (by omega)).mp q))]
          exact t0
  · rw [ma_dec_f.mpr hq, if_pos ma_q0, if_pos ma_q0]
    exact fg_no h 10
theorem fg_loop (h : iv al E c gc gm) (hk : k < 5) {d : Nat} (hd : d ≤ 3) : ∀ f i (a : Int32), i ≤ d + 1 → d + 1 - i < f → ∃ r, cl11_copyBytes_b43 N f (nI k) (nI d) a (nI i) gc = some (r, dl_s2 gc 0 5 0) ∧ mo_copied_b5 N gm f (nI k) (nI d) a (nI i) = some r
  | 0, i, a, _, hf => absurd hf (by omega)
  | f + 1, i, a, hi, hf => by
    rw [cl11_copyBytes_b43, mo_copied_b5]
    by_cases e : d < i
    · rw [if_pos ((ma_lt (by omega) (by omega)).mpr e), if_pos ((ma_lt (by omega) (by omega)).mpr e)]
      exact ⟨a, rfl, rfl⟩
    · have gt : ∀ (α : Type) (x : Option α), dl_gd true x = x := fun _ _ => rfl
      have g5 : dl_in (nI k) 5 = true := ma_in_t hk (by omega)
      have g20 : dl_in (nI i) 20 = true := ma_in_t (by omega) (by omega)
      have g100 : dl_in (nI (20 * k + i)) 100 = true := ma_in_t (by omega) (by omega)
      obtain ⟨m1, m2, m3, m4, m5⟩ := h.mp k hk
      have ne : ¬ nI d < nI i := fun q => e ((ma_lt (by omega) (by omega)).mp q)
      rw [if_neg ne, if_neg ne, ma_20]
      simp only [g5, g20, g100, gt]
      rw [ma_nme, ma_nme, ma_nme, ma_nme, nI_1, nI_clamp (show k < 2 ^ 31 by omega), nI_clamp (show i < 2 ^ 31 by omega), nI_clamp (show 20 * k + i < 2 ^ 31 by omega), m5 i (by omega)]
      exact fg_loop h hk hd f (i + 1) _ (by omega) (by omega)
theorem fg_read (h : iv al E c gc gm) (hk : k < 5) (x : Int32) : ma_two al E c (cl11_readInt gc (nI k) x) (
    dl_gd (dl_in (nI k) 5) (
    if (gm 11 (nI k).toNatClampNeg) = (-1 : Int32) then (
    dl_b2 (mo_refused gm (10 : Int32)) fun r21 g22 =>
    some (r21, g22))
    else (
    dl_gd (dl_in (nI k) 5) (
    if (gm 11 (nI k).toNatClampNeg) = (1 : Int32) then (
    dl_gd (dl_in (nI k) 5) (
    dl_bi (mo_in x (0 : Int32) ((gm 12 (nI k).toNatClampNeg) - (1 : Int32))) fun r23 =>
    if r23 = 0 then (
    dl_b2 (mo_refused gm (12 : Int32)) fun r24 g25 =>
    some (r24, g25))
    else (
    dl_gd (dl_in (((20 : Int32) * nI k) + x) 100) (
    dl_b2 (mo_done gm (gm 13 (((20 : Int32) * nI k) + x).toNatClampNeg)) fun r26 g27 =>
    some (r26, g27)))))
    else (
    dl_b2 (mo_refused gm (11 : Int32)) fun r29 g30 =>
    some (r29, g30)))))) := by
  have gt : ∀ (α : Type) (x : Option α), dl_gd true x = x := fun _ _ => rfl
  have g5 : dl_in (nI k) 5 = true := ma_in_t hk (by omega)
  obtain ⟨m1, m2, m3, ⟨Z, z1, m4⟩, m5⟩ := h.mp k hk
  obtain ⟨r, r1, r2⟩ := ma_refusal (d := 1) h hk z1 (by omega) (by omega) (m3.trans m4) 1 x
  have r1 : cl1_refusal gc (nI k) 1 x 1 = some r := r1
  unfold cl11_readInt
  rw [dl_bi_e r1, ma_nme]
  simp only [g5, gt]
  rw [nI_clamp (show k < 2 ^ 31 by omega), m4]
  rw [m1] at r2
  rcases r2 with ⟨q1, q2⟩ | ⟨q1, q0, q2⟩ | ⟨q1, q2, q3⟩
  · subst q2
    rw [if_neg (show ¬ (10 : Int32) = 0 by decide), if_pos q1]
    exact fg_no h 10
  · rw [if_neg q1, if_pos q0, dl_bi_e (mo_in_e _ _ _), px_in (by omega)]
    rcases q2 with ⟨⟨j, j1, j2⟩, q3⟩ | ⟨q2, q3⟩
    · subst q3
      rw [if_pos rfl, show ma_dec (px Z x) = true from ma_dec_t.mpr ⟨j, by omega, j2⟩, if_neg ma_q1, j2, ma_20, ma_gde (ma_in_t (show j < 20 by omega) (by omega)), ma_gde (ma_in_t (show 20 * k + j < 100 by omega) (by omega)), nI_clamp (show j < 2 ^ 31 by omega), nI_clamp (show 20 * k + j < 2 ^ 31 by omega), m5 j (by omega)]
      exact fg_yes h _
    · subst q3
      rw [if_neg (show ¬ (12 : Int32) = 0 by decide), ma_dec_f.mpr (fun w => q2 (by rw [Nat.add_sub_cancel]; exact w)), if_pos ma_q0]
      exact fg_no h 12
  · subst q3
    rw [if_neg (show ¬ (11 : Int32) = 0 by decide), if_neg q1, if_neg q2]
    exact fg_no h 11
theorem fg_copy (hN : 17 ≤ N) (h : iv al E c gc gm) (hk : k < 5) {j : Nat} (hj : j < 201) : ma_two al E c (cl11_copyBytes N gc (nI k) (nI j - 100)) (
    dl_gd (dl_in (nI k) 5) (
    if (gm 11 (nI k).toNatClampNeg) = (-1 : Int32) then (
    dl_b2 (mo_refused gm (10 : Int32)) fun r33 g34 =>
    some (r33, g34))
    else (
    dl_gd (dl_in (nI k) 5) (
    if (gm 11 (nI k).toNatClampNeg) = 0 then (
    dl_bi (mo_in (nI j - 100) (0 : Int32) (3 : Int32)) fun r35 =>
    if r35 = 0 then (
    mo_forge_b281 N gm)
    else (
    dl_gd (dl_in (nI k) 5) (
    if (gm 12 (nI k).toNatClampNeg) < ((1 : Int32) + (nI j - 100)) then (
    mo_forge_b281 N gm)
    else (
    dl_bi (mo_copied N gm (nI k) (nI j - 100)) fun r36 =>
    dl_b2 (mo_done gm r36) fun r37 g38 =>
    some (r37, g38)))))
    else (
    dl_b2 (mo_refused gm (11 : Int32)) fun r41 g42 =>
    some (r41, g42)))))) := by
  have gt : ∀ (α : Type) (x : Option α), dl_gd true x = x := fun _ _ => rfl
  have g5 : dl_in (nI k) 5 = true := ma_in_t hk (by omega)
  obtain ⟨m1, m2, m3, ⟨Z, z1, m4⟩, m5⟩ := h.mp k hk
  unfold cl11_copyBytes cl1_refusal
  simp only [g5, gt]
  rw [nI_clamp (show k < 2 ^ 31 by omega), m1, m3, m4]
  have no12 : ma_two al E c (dl_b2 (cl11_refused gc 12) fun r1 g2 => some (r1, g2)) (mo_forge_b281 N gm) := fg_no h 12
  by_cases q1 : gm 11 k = -1
  · rw [if_pos q1, if_pos q1]
    exact fg_no h 10
  · rw [if_neg q1, if_neg q1]
    by_cases q0 : gm 11 k = 0
    · rw [if_pos q0, if_pos q0, if_neg (show ¬ (1 : Int32) < 0 by decide), dl_bi_e (ma_in3 _)]
      by_cases w : j < 100
      · have neg : nI j - 100 < 0 := pk_sneg (a := j) (b := 100) (by omega) w
        rw [if_pos neg, ma_dec_f.mpr (fun ⟨i, i1, i2⟩ => by rw [i2] at neg; exact nI_pos (by omega) neg), if_pos ma_q0]
        exact no12
      · obtain ⟨d, rfl⟩ : ∃ d, j = d + 100 := ⟨j - 100, by omega⟩
        have e : nI (d + 100) - 100 = nI d := by
          rw [show (100 : Int32) = nI 100 from rfl, pk_sub (by omega)]
          exact congrArg nI (by omega)
        rw [e, if_neg (nI_pos (by omega))]
        by_cases d3 : d ≤ 3
        · rw [show ma_dec (px 4 (nI d)) = true from ma_dec_t.mpr ⟨d, by omega, rfl⟩, if_neg ma_q1]
          have e1 : (1 : Int32) + nI d = nI (1 + d) := nI_add 1 d
          rw [e1]
          by_cases zd : Z < 1 + d
          · rw [if_pos ((ma_lt (by omega) (by omega)).mpr zd)]
            have nz : ¬ (1 : Int32) ≤ nI Z - nI d := fun q => by
              have := (ma_fit (z := Z) (d := d) z1 (by omega) 1).mp ⟨by decide, q⟩
              obtain ⟨i, i1, i2⟩ := this
              have := (ma_eqn (a := 1) (b := i) (by omega) (by omega)).mp i2
              omega
            rw [if_neg nz]
            exact no12
          · have yz : (1 : Int32) ≤ nI Z - nI d := ((ma_fit (z := Z) (d := d) z1 (by omega) 1).mpr ⟨1, by omega, rfl⟩).2
            have s6 : nI d + nI d ≤ (6 : Int32) := by
              rw [nI_add]
              exact (ma_le (b := 6) (by omega) (by omega)).mpr (by omega)
            rw [if_neg (fun q => zd ((ma_lt (by omega) (by omega)).mp q)), if_pos yz]
            obtain ⟨r, r1, r2⟩ := fg_loop (N := N) h hk d3 N 1 0 (by omega) (by omega)
            have r3 : mo_copied N gm (nI k) (nI d) = some r := r2
            rw [dl_bi_e r3]
            refine ⟨r, dl_s2 gc 0 5 0, dl_s2 gm 0 14 0, ?_, rfl, E, kw.rf E, h.s 0⟩
            show (dl_bi (some (0 : Int32)) fun r1 => _) = _
            rw [dl_bi_e (show some (0 : Int32) = some 0 from rfl), ma_nme, if_pos rfl, if_pos s6]
            exact r1
        · have n4 : ¬ px 4 (nI d) := fun ⟨i, i1, i2⟩ => by
            have := (ma_eqn (by omega) (by omega)).mp i2
            omega
          rw [ma_dec_f.mpr n4, if_pos ma_q0]
          have s6 : ¬ nI d + nI d ≤ (6 : Int32) := fun q => by
            rw [nI_add] at q
            have := (ma_le (b := 6) (by omega) (by omega)).mp q
            omega
          by_cases yz : (1 : Int32) ≤ nI Z - nI d
          · rw [if_pos yz, dl_bi_e (show some (0 : Int32) = some 0 from rfl), ma_nme, if_pos rfl, if_neg s6]
            exact no12
          · rw [if_neg yz]
            exact no12
    · rw [if_neg q0, if_neg q0]
      exact fg_no h 11
theorem fg_put (h : iv al E c gc gm) {p : Nat} (hp : p < 10) : ma_two al E c (cl11_putAmongTaps gc (nI p)) (
    dl_bi (mo_isPlace gm (nI p)) fun r45 =>
    if r45 = 0 then (
    dl_b2 (mo_done gm (0 : Int32)) fun r46 g47 =>
    some (r46, g47))
    else (
    dl_bi (mo_isTap gm (nI p)) fun r48 =>
    if r48 = 0 then (
    dl_b2 (mo_refused gm (14 : Int32)) fun r49 g50 =>
    some (r49, g50))
    else (
    dl_gd (dl_in (nI p) 10) (
    dl_b2 (mo_done gm (gm 1 (nI p).toNatClampNeg)) fun r51 g52 =>
    some (r51, g52))))) := by
  unfold cl11_putAmongTaps
  rw [dl_bi_e (ma_hasPlace h.ok h.C _), dl_bi_e (ma_isPlace h.ok h.M _)]
  by_cases hq : px (en_n E) (nI p)
  · rw [ma_dec_t.mpr hq, if_neg ma_q1, if_neg ma_q1]
    obtain ⟨j, j1, j2⟩ := hq
    have hn := h.ok.n
    have : p = j := (ma_eqn (by omega) (by omega)).mp j2
    subst this
    have hk := h.ok.k j1
    have is : cc_isk (nI (en_k E p)) 1 = 0 ↔ _ := fg_isk (en_k E p) (by omega) 1 (by omega)
    rw [dl_bi_e (ma_misTap h.ok h.M j1), ma_gde (i10 h j1), ma_gde (i10 h j1), kM h j1 rfl, nI_clamp (show p < 2 ^ 31 by omega), h.C.k j1, dl_bi_e (cc_kd_e hk)]
    cases e : en_tap E p
    · have e := of_decide_eq_false e
      rw [if_pos ma_q0, if_pos (is.mpr (fun q => by omega))]
      exact fg_no h 14
    · have e := of_decide_eq_true e
      rw [if_neg ma_q1, if_neg (fun q => is.mp q (by omega))]
      exact fg_yes h _
  · rw [ma_dec_f.mpr hq, if_pos ma_q0, if_pos ma_q0]
    exact fg_yes h 0
theorem do_forge (hN : 131073 ≤ N) (h : iv al E c gc gm) (x y z : Int32) : ma_two al E c (cl11_forge N gc x y z) (mo_forge N gm x y z) := by
  have no : ma_two al E c (dl_b2 (cl11_refused gc 1) fun r1 g2 => some (r1, g2)) (mo_forge_b32 N gm) := fg_no h 1
  unfold cl11_forge mo_forge
  have i6 : mo_in x 0 6 = some (if ma_dec (px 7 x) = true then 1 else 0) := by
    rw [mo_in_e, ← px_in (n := 7) (by omega)]
    rfl
  rw [dl_bi_e i6, dl_bi_e (mo_in_e y _ _), dl_bi_e (mo_in_e z _ _)]
  unfold ma_in
  by_cases y1 : y < -100
  · rw [if_pos y1, decide_eq_false (Int32.not_le.mpr y1), Bool.false_and, if_pos ma_q0, ite_self]
    exact no
  · rw [if_neg y1, decide_eq_true (Int32.not_lt.mp y1), Bool.true_and]
    by_cases y2 : 100 < y
    · rw [if_pos y2, decide_eq_false (Int32.not_le.mpr y2), if_pos ma_q0, ite_self]
      exact no
    · have y3 := Int32.not_lt.mp y2
      rw [if_neg y2, decide_eq_true y3, if_neg ma_q1]
      by_cases z1 : z < -100
      · rw [if_pos z1, decide_eq_false (Int32.not_le.mpr z1), Bool.false_and, if_pos ma_q0, ite_self]
        exact no
      · rw [if_neg z1, decide_eq_true (Int32.not_lt.mp z1), Bool.true_and]
        by_cases z2 : z ≤ 100
        · rw [if_pos z2, decide_eq_true z2, if_neg ma_q1]
          obtain ⟨j, j1, rfl⟩ := fg_100 y1 y3
          obtain ⟨i, i1, rfl⟩ := fg_100 z1 z2
          rw [dl_bi_e (fg_5 i i1).2, ma_nme, dl_bi_e (fg_10 i i1).2, ma_nme, dl_bi_e (fg_5 i i1).1, dl_bi_e (fg_5 i i1).1, dl_bi_e (fg_10 i i1).1, dl_bi_e (fg_10 i i1).1, dl_bi_e (fg_5 j j1).1, dl_bi_e (fg_5 j j1).2, dl_bi_e (fg_2 j j1).1, (fg_2 j j1).2]
          by_cases hx : px 7 x
          · rw [ma_dec_t.mpr hx, if_neg ma_q1]
            obtain ⟨v, v1, rfl⟩ := hx
            have : v = 0 ∨ v = 1 ∨ v = 2 ∨ v = 3 ∨ v = 4 ∨ v = 5 ∨ v = 6 := by omega
            rcases this with q | q | q | q | q | q | q <;> subst q
            · rw [if_pos (show nI 0 = 0 from rfl), if_pos (show nI 0 = 0 from rfl), b2_id, b2_id]
              exact fg_take h (by omega) (by omega)
            · rw [if_neg (show ¬ nI 1 = 0 by decide), if_neg (show ¬ nI 1 = 0 by decide), if_pos (show nI 1 = 1 from rfl), if_pos (show nI 1 = 1 from rfl)]
              by_cases w : 0 ≤ nI j - 100
              · rw [if_pos w, if_pos w]
                exact fg_yes h _
              · rw [if_neg w, if_neg w]
                exact fg_no h 13
            · rw [if_neg (show ¬ nI 2 = 0 by decide), if_neg (show ¬ nI 2 = 0 by decide), if_neg (show ¬ nI 2 = 1 by decide), if_neg (show ¬ nI 2 = 1 by decide), if_pos (show nI 2 = 2 from rfl), if_pos (show nI 2 = 2 from rfl), b2_id]
              exact fg_read h (by omega) _
            · rw [if_neg (show ¬ nI 3 = 0 by decide), if_neg (show ¬ nI 3 = 0 by decide), if_neg (show ¬ nI 3 = 1 by decide), if_neg (show ¬ nI 3 = 1 by decide), if_neg (show ¬ nI 3 = 2 by decide), if_neg (show ¬ nI 3 = 2 by decide), if_pos (show nI 3 = 3 from rfl), if_pos (show nI 3 = 3 from rfl), b2_id]
              exact fg_copy (by omega) h (by omega) j1
            · rw [if_neg (show ¬ nI 4 = 0 by decide), if_neg (show ¬ nI 4 = 0 by decide), if_neg (show ¬ nI 4 = 1 by decide), if_neg (show ¬ nI 4 = 1 by decide), if_neg (show ¬ nI 4 = 2 by decide), if_neg (show ¬ nI 4 = 2 by decide), if_neg (show ¬ nI 4 = 3 by decide), if_neg (show ¬ nI 4 = 3 by decide), if_pos (show nI 4 = 4 from rfl), if_pos (show nI 4 = 4 from rfl), b2_id]
              exact fg_put h (by omega)
            · rw [if_neg (show ¬ nI 5 = 0 by decide), if_neg (show ¬ nI 5 = 0 by decide), if_neg (show ¬ nI 5 = 1 by decide), if_neg (show ¬ nI 5 = 1 by decide), if_neg (show ¬ nI 5 = 2 by decide), if_neg (show ¬ nI 5 = 2 by decide), if_neg (show ¬ nI 5 = 3 by decide), if_neg (show ¬ nI 5 = 3 by decide), if_neg (show ¬ nI 5 = 4 by decide), if_neg (show ¬ nI 5 = 4 by decide), if_pos (show nI 5 = 5 from rfl), if_pos (show nI 5 = 5 from rfl)]
              by_cases w : nI j - 100 = 0
              · rw [if_pos w, if_pos w]
                exact fg_no h 15
              · have g : dl_ne0 (nI j - 100) = true := decide_eq_true w
                rw [if_neg w, if_neg w, ma_gde g, ma_gde g]
                exact fg_yes h _
            · rw [if_neg (show ¬ nI 6 = 0 by decide), if_neg (show ¬ nI 6 = 0 by decide), if_neg (show ¬ nI 6 = 1 by decide), if_neg (show ¬ nI 6 = 1 by decide), if_neg (show ¬ nI 6 = 2 by decide), if_neg (show ¬ nI 6 = 2 by decide), if_neg (show ¬ nI 6 = 3 by decide), if_neg (show ¬ nI 6 = 3 by decide), if_neg (show ¬ nI 6 = 4 by decide), if_neg (show ¬ nI 6 = 4 by decide), if_neg (show ¬ nI 6 = 5 by decide), if_neg (show ¬ nI 6 = 5 by decide), if_pos (show nI 6 = 6 from rfl)]
              by_cases w : nI (j % 2) = 0
              · rw [if_pos w, if_pos w]
                exact fg_no h 10
              · rw [if_neg w, if_neg w]
                exact fg_yes h 1
          · have n : ∀ v : Nat, v < 7 → ¬ x = nI v := fun v v1 q => hx ⟨v, v1, q⟩
            rw [ma_dec_f.mpr hx, if_pos ma_q0, if_neg (show ¬ x = 0 from n 0 (by omega)), if_neg (show ¬ x = 1 from n 1 (by omega)), if_neg (show ¬ x = 2 from n 2 (by omega)), if_neg (show ¬ x = 3 from n 3 (by omega)), if_neg (show ¬ x = 4 from n 4 (by omega)), if_neg (show ¬ x = 5 from n 5 (by omega)), if_neg (show ¬ x = 6 from n 6 (by omega))]
            exact no
        · rw [if_neg z2, decide_eq_false z2, if_pos ma_q0, ite_self]
          exact no
end
