/-! The mathematics: streets dropped, streets from a map, changes taken back -/
section
variable {al : Nat} {E : ma_E} {c N : Nat} {gc gm g g' : dl_Sg} {t : Int32}
theorem ma_out1 (x : Int32) {s : Nat} (hs : s < 32) (i : Nat) : bt (x &&& (bi1 s ^^^ (-1 : Int32))) i = (bt x i && !decide (i = s)) := ma_out x hs i
theorem ma_put1 (x : Int32) {s : Nat} (hs : s < 32) (i : Nat) : bt (x ||| bi1 s) i = (bt x i || decide (i = s)) := ma_put x hs i
theorem do_drop (hN : 131073 ≤ N) (h : iv al E c gc gm) (hc : c < 2 ^ 30) (x : Int32) : ma_two al E (c + 1) (cl11_drop gc x) (mo_drop N gm x) := by
  have hm := h.ok.m
  have hn := h.ok.n
  unfold cl11_drop mo_drop
  rw [dl_bi_e (ma_hasStreet h.ok h.C x), dl_bi_e (ma_isStreet h.ok h.M x)]
  by_cases hx : px (en_m E) x
  · rw [ma_dec_t.mpr hx, if_neg ma_q1, if_neg ma_q1]
    obtain ⟨s, s1, rfl⟩ := hx
    rw [dl_bi_e (ma_isThere h.C (by omega)), h.M.t, dl_bi_e (ma_has _ (by omega))]
    cases e : bt (en_t E) s
    · rw [if_pos ma_q0, if_pos ma_q0]
      exact ma_two.up ⟨_, _, _, rfl, rfl, E, kw.rf E, h.s 3⟩
    · rw [if_neg ma_q1, if_neg ma_q1]
      have ha := h.ok.a s1
      have hb := h.ok.b s1
      obtain ⟨g1, e1, e2, e3, e4, e5⟩ := ma_close0 (g := gc) (s := s) (by omega) (show en_a E s < 10 by omega) (show en_b E s < 10 by omega) (h.C.a s1) (h.C.b s1)
      have ho : en_ok (en_T E (en_t E &&& (bi1 s ^^^ (-1 : Int32)))) := h.ok.T (fun i q => by
        rw [ma_out1 _ (by omega), Bool.and_eq_true] at q
        exact h.ok.t q.1)
      have hC : en_C (en_T E (en_t E &&& (bi1 s ^^^ (-1 : Int32)))) (dl_s2 g1 1 15 (g1 1 15 &&& (bi1 s ^^^ (-1 : Int32)))) := by
        refine h.C.T (fun i a b => ?_) (fun k a b => ?_) ?_ (fun p hp i => ?_)
        · rw [ma_s2n _ _ (by omega)]
          exact e5 i (by omega)
        · rw [ma_s2r _ _ _ _ a]
          exact e4 k a b
        · rw [ma_s2n _ _ (by omega), e2, h.C.t]
        · rw [ma_s2n _ _ (by omega), e3 p hp i, h.C.of hp, ma_out1 _ (by omega)]
          by_cases z : i = s
          · subst z
            rw [decide_eq_true (show i = i from rfl)]
            cases bt (en_t E) i <;> cases decide (en_a E i = p) <;> cases decide (en_b E i = p) <;> rfl
          · rw [decide_eq_false z]
            cases bt (en_t E) i <;> cases decide (en_a E i = p) <;> cases decide (en_b E i = p) <;> rfl
      have hM : en_M (en_T E (en_t E &&& (bi1 s ^^^ (-1 : Int32)))) (dl_s2 (dl_s2 gm 0 7 (en_t E &&& (bi1 s ^^^ (-1 : Int32)))) 0 8 (gm 0 8 &&& (bi1 s ^^^ (-1 : Int32)))) := by
        refine h.M.T ?_ ?_ ?_ (fun k a b => ?_)
        · rw [ma_s2n _ _ (by omega), ma_s2n _ _ (by omega)]
        · rw [ma_s2n _ _ (by omega), ma_s2n _ _ (by omega)]
        · rw [ma_s2n _ _ (by omega), ma_s2s]
        · rw [ma_s2r _ _ _ _ (by omega), ma_s2r _ _ _ _ (by omega)]
      have hd : iv_hd (en_T E (en_t E &&& (bi1 s ^^^ (-1 : Int32)))) (dl_s2 g1 1 15 (g1 1 15 &&& (bi1 s ^^^ (-1 : Int32)))) (dl_s2 (dl_s2 gm 0 7 (en_t E &&& (bi1 s ^^^ (-1 : Int32)))) 0 8 (gm 0 8 &&& (bi1 s ^^^ (-1 : Int32)))) := by
        unfold iv_hd
        rw [ma_s2s, ma_s2s, e5 15 (by decide), h.hd.1]
        refine ⟨rfl, fun i q => ?_⟩
        show bt (en_t E &&& (bi1 s ^^^ (-1 : Int32))) i = true
        rw [ma_out1 _ (by omega), Bool.and_eq_true] at q ⊢
        exact ⟨h.hd.2 i q.1, q.2⟩
      obtain ⟨gc', gm', i1, i2, i3⟩ := iv.note (N := N) (by omega) h hc ho hM hC hd (fun k a b d f => by rw [ma_s2r _ _ _ _ a]; exact e4 k a (by omega)) (by rw [ma_s2n _ _ (by omega)]; exact e5 16 (by decide)) (by rw [ma_s2n _ _ (by omega)]; exact e5 17 (by decide)) (fun k a b d e f i => by rw [ma_s2r _ _ _ _ a, ma_s2r _ _ _ _ a]) (by rw [ma_s2n _ _ (by omega), ma_s2n _ _ (by omega)]) (by rw [ma_s2n _ _ (by omega), ma_s2n _ _ (by omega)]) (by rw [ma_s2n _ _ (by omega), ma_s2n _ _ (by omega)]) (x := nI s) (y := nI (3 + s)) (Or.inr (Or.inr ⟨s, by omega, rfl, rfl⟩)) (fun ch L hl hL => Or.inr (Or.inr ⟨s, s1, by omega, hL, hl⟩))
      have j1 : cl2_dropStreet gc (nI s) = some gc' := by
        unfold cl2_dropStreet
        rw [dl_bi_e e1, ma_nme]
        exact dl_bi_e i1
      have j2 : mo_changed N (dl_s2 (dl_s2 gm 0 7 (en_t E &&& (bi1 s ^^^ (-1 : Int32)))) 0 8 (gm 0 8 &&& (bi1 s ^^^ (-1 : Int32)))) ((3 : Int32) + nI s) = some gm' := by
        rw [show (3 : Int32) + nI s = nI (3 + s) from nI_add 3 s]
        exact i2
      have j3 : dl_s2 gm 0 7 (en_t E &&& (((1 : Int32) <<< (nI s &&& 31)) ^^^ (-1 : Int32))) 0 8 = gm 0 8 := ma_s2n _ _ (by omega)
      rw [dl_bi_e j1, ma_nme, ma_nme, j3]
      refine ⟨1, dl_s2 gc' 0 5 0, dl_s2 gm' 0 14 0, rfl, ?_, en_T E (en_t E &&& (bi1 s ^^^ (-1 : Int32))), ⟨Nat.le_refl _, rfl, rfl⟩, i3.s 0⟩
      exact dl_bi_e j2
  · rw [ma_dec_f.mpr hx, if_pos ma_q0, if_pos ma_q0]
    exact ma_two.up ⟨_, _, _, rfl, rfl, E, kw.rf E, h.s 1⟩
theorem ma_fit {z d : Nat} (hz : z ≤ 20) (hd : d ≤ 20) (x : Int32) : (¬ x < 0 ∧ x ≤ nI z - nI d) ↔ px (z + 1 - d) x := by
  constructor
  · rintro ⟨q3, w⟩
    obtain ⟨j, j1, rfl⟩ := nI_of q3
    by_cases q4 : d ≤ z
    · rw [pk_sub q4] at w
      have := (ma_le j1 (by omega)).mp w
      exact ⟨j, by omega, rfl⟩
    · have hneg := pk_sneg (a := z) (b := d) (by omega) (by omega)
      have a := (fa_lt _ _).mp hneg
      have b := (fa_le _ _).mp w
      rw [nI_toInt j1] at b
      have e0 : (0 : Int32).toInt = 0 := rfl
      omega
  · rintro ⟨j, j1, rfl⟩
    refine ⟨nI_pos (by omega), ?_⟩
    rw [pk_sub (by omega)]
    exact (ma_le (by omega) (by omega)).mpr (by omega)
theorem ma_in2_e (x : Int32) : mo_in x 0 2 = some (if ma_dec (px 3 x) = true then 1 else 0) := by
  rw [mo_in_e, ← px_in (n := 3) (by omega)]
  rfl
theorem do_fromMap (hN : 131073 ≤ N) (h : iv al E c gc gm) (hc : c < 2 ^ 30) (x y z : Int32) : ma_two al E (c + 1) (cl11_fromMap gc x y z) (mo_fromMap N gm x y z) := by
  have hm := h.ok.m
  have no : ∀ v, ma_two al E (c + 1) (dl_b2 (cl11_refused gc v) fun r1 g2 => some (r1, g2)) (dl_b2 (mo_refused gm v) fun r1 g2 => some (r1, g2)) := fun v => ma_two.up ⟨_, _, _, rfl, rfl, E, kw.rf E, h.s v⟩
  unfold cl11_fromMap mo_fromMap
  rw [dl_bi_e (ma_isMap x), dl_bi_e (ma_inMap x), dl_bi_e (ma_in2_e y)]
  by_cases hx : px 5 x
  · rw [ma_dec_t.mpr hx, if_neg ma_q1, if_neg ma_q1]
    obtain ⟨k, k1, rfl⟩ := hx
    have hy : px 3 y ↔ (¬ y < 0 ∧ y ≤ 2) := (ma_fit (z := 3) (d := 1) (by omega) (by omega) y).symm
    by_cases y1 : y < 0
    · rw [if_pos y1, ma_dec_f.mpr (fun q => (hy.mp q).1 y1), if_pos ma_q0]
      exact no 1
    · rw [if_neg y1]
      by_cases y2 : y ≤ 2
      · rw [if_pos y2, ma_dec_t.mpr (hy.mpr ⟨y1, y2⟩), if_neg ma_q1, h.C.m, h.M.m]
        by_cases e : en_m E < 16
        · have e16 : ¬ nI (en_m E) = (16 : Int32) := fun q => by
            have := (ma_eqn (b := 16) (by omega) (by omega)).mp q
            omega
          have l16 : nI (en_m E) < (16 : Int32) := (ma_lt (b := 16) (by omega) (by omega)).mpr e
          obtain ⟨m1, m2, m3, ⟨Z, z1, m4⟩, m5⟩ := h.mp k k1
          obtain ⟨r, r1, r2⟩ := ma_refusal (d := 3) h k1 z1 (by omega) (by omega) (m3.trans m4) y z
          have r1 : cl1_refusal gc (nI k) y z 3 = some r := r1
          rw [if_pos l16, if_neg e16, dl_bi_e r1, ma_nme, nI_clamp (show k < 2 ^ 31 by omega), m4]
          rw [m1] at r2
          rw [ma_gde (b := dl_in (nI k) 5) (x := if gm 11 k = -1 then _ else _) (ma_in_t k1 (by omega))]
          rcases r2 with ⟨q1, q2⟩ | ⟨q1, q0, q2⟩ | ⟨q1, q2, q3⟩
          · subst q2
            rw [if_neg (show ¬ (10 : Int32) = 0 by decide), if_pos q1]
            exact no 10
          · rw [if_neg q1, ma_gde (b := dl_in (nI k) 5) (x := if gm 11 k = y then _ else _) (ma_in_t k1 (by omega)), if_pos q0]
            have fit := ma_fit (z := Z) (d := 3) z1 (by omega) z
            rcases q2 with ⟨q2, q3⟩ | ⟨q2, q3⟩
            · subst q3
              obtain ⟨f1, f2⟩ := fit.mpr q2
              have f2 : z ≤ nI Z - 3 := f2
              rw [if_pos rfl, if_neg f1]
              obtain ⟨j, j1, rfl⟩ := q2
              have a1 : nI j + 1 = nI (j + 1) := nI_1 j
              have a2 : nI j + 2 = nI (j + 2) := nI_add j 2
              have a3 : nI (20 * k + j) + 1 = nI (20 * k + j + 1) := nI_1 _
              have a4 : nI (20 * k + j) + 2 = nI (20 * k + j + 2) := nI_add _ 2
              have g5 : dl_in (nI k) 5 = true := ma_in_t k1 (by omega)
              have g20 : dl_in (nI j) 20 = true := ma_in_t (by omega) (by omega)
              have g21 : dl_in (nI (j + 1)) 20 = true := ma_in_t (by omega) (by omega)
              have g22 : dl_in (nI (j + 2)) 20 = true := ma_in_t (by omega) (by omega)
              have g100 : dl_in (nI (20 * k + j)) 100 = true := ma_in_t (by omega) (by omega)
              have g101 : dl_in (nI (20 * k + j + 1)) 100 = true := ma_in_t (by omega) (by omega)
              have g102 : dl_in (nI (20 * k + j + 2)) 100 = true := ma_in_t (by omega) (by omega)
              have gt : ∀ (α : Type) (x : Option α), dl_gd true x = x := fun _ _ => rfl
              rw [ma_20, ma_nme, a1, a2, a3, a4]
              simp only [g5, g20, g21, g22, g100, g101, g102, gt]
              rw [if_pos f2, nI_clamp (show j < 2 ^ 31 by omega), nI_clamp (show j + 1 < 2 ^ 31 by omega), nI_clamp (show j + 2 < 2 ^ 31 by omega), nI_clamp (show 20 * k + j < 2 ^ 31 by omega), nI_clamp (show 20 * k + j + 1 < 2 ^ 31 by omega), nI_clamp (show 20 * k + j + 2 < 2 ^ 31 by omega), m5 j (by omega), m5 (j + 1) (by omega), m5 (j + 2) (by omega), ← Nat.add_assoc, ← Nat.add_assoc]
              obtain ⟨r, r1, r2, r3⟩ := ma_good h (gm 13 (20 * k + j)) (gm 13 (20 * k + j + 1)) (gm 13 (20 * k + j + 2))
              rw [dl_bi_e r1, dl_bi_e r2]
              rcases r3 with r3 | ⟨r3, A, B, C, a1, a2, a3, a4, a5, a6, a7, a8⟩
              · subst r3
                rw [if_pos rfl, if_pos rfl]
                exact no 3
              · subst r3
                rw [if_neg (show ¬ (1 : Int32) = 0 by decide), if_neg (show ¬ (1 : Int32) = 0 by decide), a6, a7, a8]
                obtain ⟨gc', gm', e1, e2, e3⟩ := ma_street hN h hc e a1 a2 a3 a4 a5
                rw [dl_b2_e e1, dl_b2_e e2]
                exact ⟨_, _, _, rfl, rfl, en_S E A B C, ⟨Nat.le_refl _, rfl, rfl⟩, e3.s 0⟩
            · subst q3
              rw [if_neg (show ¬ (12 : Int32) = 0 by decide)]
              by_cases z0 : z < 0
              · rw [if_pos z0]
                exact no 12
              · have z3 : ¬ z ≤ nI Z - 3 := fun q => q2 (fit.mp ⟨z0, q⟩)
                rw [if_neg z0, ma_gde (b := dl_in (nI k) 5) (x := if z ≤ nI Z - 3 then _ else _) (ma_in_t k1 (by omega)), if_neg z3]
                exact no 12
          · subst q3
            rw [if_neg (show ¬ (11 : Int32) = 0 by decide), if_neg q1, ma_gde (b := dl_in (nI k) 5) (x := if gm 11 k = y then _ else _) (ma_in_t k1 (by omega)), if_neg q2]
            exact no 11
        · have e16 : en_m E = 16 := by omega
          rw [e16, if_neg (show ¬ nI 16 < (16 : Int32) by decide), if_pos (show nI 16 = (16 : Int32) from rfl)]
          exact no 2
      · rw [if_neg y2, ma_dec_f.mpr (fun q => y2 (hy.mp q).2), if_pos ma_q0]
        exact no 1
  · rw [ma_dec_f.mpr hx, if_pos ma_q0, if_pos ma_q0]
    exact no 1
end
