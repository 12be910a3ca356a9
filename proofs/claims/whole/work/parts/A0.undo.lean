/-! The mathematics: changes taken back -/
/-- one place less -/
def en_Q (E : ma_E) : ma_E := ((en_n E - 1, en_m E), (en_k E, en_w E), (en_a E, en_b E, en_c E), en_t E)
section
variable {al : Nat} {E E' : ma_E} {c N L : Nat} {gc gm gX gY : dl_Sg}
theorem ma_undone (h : iv al E c gc gm) (hc : c < 2 ^ 30) (hL : L ≤ 10) (hlg : ∀ k, k < L → lg_e (gc 17 k) (gm 10 k)) (ho : en_ok E') (hC : en_C E' gX) (hM : en_M E' gY) (fc : ∀ k, k ≠ 1 → k ≠ 12 → gX k = gc k) (f16 : gX 1 16 = nI L) (f17 : gX 1 17 = gc 1 17) (fm : ∀ k, k ≠ 0 → gY k = gm k) (f9 : gY 0 9 = nI L) (f14 : gY 0 14 = gm 0 14) (fg : gY 0 16 = gm 0 16) (hl : lg_ok (en_a E') (en_b E') (gm 10) L (en_n E') (en_m E')) : iv al E' (c + 1) (dl_s2 (dl_s2 gX 1 15 0) 1 17 (dl_s2 gX 1 15 0 1 17 + 1)) (dl_s2 (dl_s2 gY 0 8 0) 0 19 0) := by
  have rX : ∀ k, k ≠ 1 → dl_s2 (dl_s2 gX 1 15 0) 1 17 (dl_s2 gX 1 15 0 1 17 + 1) k = gX k := fun k q => by rw [ma_s2r _ _ _ _ q, ma_s2r _ _ _ _ q]
  have iX : ∀ i, i ≠ 15 → i ≠ 17 → dl_s2 (dl_s2 gX 1 15 0) 1 17 (dl_s2 gX 1 15 0 1 17 + 1) 1 i = gX 1 i := fun i a b => by rw [ma_s2n _ _ (by omega), ma_s2n _ _ (by omega)]
  have rY : ∀ k, k ≠ 0 → dl_s2 (dl_s2 gY 0 8 0) 0 19 0 k = gY k := fun k q => by rw [ma_s2r _ _ _ _ q, ma_s2r _ _ _ _ q]
  have iY : ∀ i, i ≠ 8 → i ≠ 19 → dl_s2 (dl_s2 gY 0 8 0) 0 19 0 0 i = gY 0 i := fun i a b => by rw [ma_s2n _ _ (by omega), ma_s2n _ _ (by omega)]
  refine h.ch hc ho ?_ ?_ ?_ ?_ (fun k a b d e => ?_) ?_ (fun k a b d e f g i => ?_) ?_ ?_ (ma_s2s _ _ _ _)
  · exact hM.same (iY 0 (by decide) (by decide)) (iY 3 (by decide) (by decide)) (iY 7 (by decide) (by decide)) (rY 1 (by decide)) (rY 2 (by decide)) (rY 4 (by decide)) (rY 5 (by decide)) (rY 6 (by decide))
  · exact hC.same (fun i a b => iX i (by omega) (by omega)) (fun k a b => rX k (by omega)) (fun k a b => rX k (by omega))
  · have e1 : dl_s2 (dl_s2 gX 1 15 0) 1 17 (dl_s2 gX 1 15 0 1 17 + 1) 1 15 = 0 := by rw [ma_s2n _ _ (by omega), ma_s2s]
    have e2 : dl_s2 (dl_s2 gY 0 8 0) 0 19 0 0 8 = 0 := by rw [ma_s2n _ _ (by omega), ma_s2s]
    unfold iv_hd
    rw [e1, e2]
    exact ⟨rfl, fun i q => by rw [bt_0] at q; exact absurd q (by decide)⟩
  · refine ⟨L, hL, ?_, ?_, fun k hk => ?_, ?_⟩
    · rw [iX 16 (by decide) (by decide), f16]
    · rw [iY 9 (by decide) (by decide), f9]
    · rw [rX 17 (by decide), rY 10 (by decide), fc 17 (by decide) (by decide), fm 10 (by decide)]
      exact hlg k hk
    · rw [rY 10 (by decide), fm 10 (by decide)]
      exact hl
  · rw [rX k a, fc k a (by omega)]
  · rw [ma_s2s, ma_s2n _ _ (by omega), f17]
  · rw [rY k a, fm k a]
  · rw [iY 14 (by decide) (by decide), f14]
  · rw [iY 16 (by decide) (by decide), fg]
theorem lg_e_no {x y : Int32} (h : lg_e x y) : (y = 1 → x = -1) ∧ (y = 2 → x = -2) ∧ ∀ s, s < 16 → y = nI (3 + s) → x = nI s := by
  rcases h with ⟨h1, h2⟩ | ⟨h1, h2⟩ | ⟨s, s1, h1, h2⟩
  · subst h2
    refine ⟨fun _ => h1, fun q => absurd q (by decide), fun s hs q => ?_⟩
    have := (ma_eqn (a := 1) (b := 3 + s) (by omega) (by omega)).mp q
    omega
  · subst h2
    refine ⟨fun q => absurd q (by decide), fun _ => h1, fun s hs q => ?_⟩
    have := (ma_eqn (a := 2) (b := 3 + s) (by omega) (by omega)).mp q
    omega
  · subst h2
    refine ⟨fun q => ?_, fun q => ?_, fun s' hs q => ?_⟩
    · have := (ma_eqn (a := 3 + s) (b := 1) (by omega) (by omega)).mp q
      omega
    · have := (ma_eqn (a := 3 + s) (b := 2) (by omega) (by omega)).mp q
      omega
    · have := (ma_eqn (a := 3 + s) (b := 3 + s') (by omega) (by omega)).mp q
      have : s = s' := by omega
      rw [h1, this]
theorem do_undo (h : iv al E c gc gm) (hc : c < 2 ^ 30) : ma_two al E (c + 1) (cl11_undo gc) (mo_undo gm) := by
  have hm := h.ok.m
  have hn := h.ok.n
  obtain ⟨L0, l1, l2, l3, l4, l5⟩ := h.2.2.2.2.1
  unfold cl11_undo mo_undo
  rw [l2, l3]
  rcases Nat.eq_zero_or_pos L0 with z | z
  · subst z
    rw [if_pos (show nI 0 = 0 from rfl), if_pos (show nI 0 = 0 from rfl)]
    exact ma_two.up ⟨_, _, _, rfl, rfl, E, kw.rf E, h.s 3⟩
  · obtain ⟨L, rfl⟩ : ∃ L, L0 = L + 1 := ⟨L0 - 1, by omega⟩
    rw [if_neg (nI_ne0 (by omega) (by omega)), if_neg (nI_ne0 (by omega) (by omega)), nI_pred, ma_nme, ma_s2s, ma_gde (ma_in_t (show L < 10 by omega) (by omega)), nI_clamp (show L < 2 ^ 31 by omega), ma_s2n (b := 10) _ _ (by omega), ma_nme]
    have hlg : ∀ k, k < L → lg_e (gc 17 k) (gm 10 k) := fun k q => l4 k (by omega)
    have tb : cl2_takeBack gc = (if gc 17 L = (-1 : Int32) then (
    dl_bi (cl2_removeLastPlace (dl_s2 gc 1 16 (nI L))) fun g3 =>
    dl_nm (dl_s2 g3 1 15 (0 : Int32)) fun g4 =>
    dl_nm (dl_s2 g4 1 17 ((g4 1 17) + (1 : Int32))) fun g5 =>
    some g5)
    else (
    if gc 17 L = (-2 : Int32) then (
    dl_nm (dl_s2 (dl_s2 gc 1 16 (nI L)) 1 11 (((dl_s2 gc 1 16 (nI L)) 1 11) - (1 : Int32))) fun g6 =>
    dl_bi (cl2_close g6 (g6 1 11)) fun g7 =>
    dl_nm (dl_s2 g7 1 15 (0 : Int32)) fun g8 =>
    dl_nm (dl_s2 g8 1 17 ((g8 1 17) + (1 : Int32))) fun g9 =>
    some g9)
    else (
    dl_bi (cl2_open (dl_s2 gc 1 16 (nI L)) (gc 17 L)) fun g10 =>
    dl_nm (dl_s2 g10 1 15 (0 : Int32)) fun g11 =>
    dl_nm (dl_s2 g11 1 17 ((g11 1 17) + (1 : Int32))) fun g12 =>
    some g12))) := by
      unfold cl2_takeBack
      rw [l2, nI_pred, ma_nme, ma_s2s, ma_gde (ma_in_t (show L < 10 by omega) (by omega)), nI_clamp (show L < 2 ^ 31 by omega), ma_s2n (b := 17) _ _ (by omega), ma_nme]
    have eL := lg_e_no (l4 L (by omega))
    rcases l5 with ⟨y1, y2, y3, y4⟩ | ⟨y1, y2, y3⟩ | ⟨s, y1, y2, y3, y4⟩
    · -- a place
      rw [if_pos (eL.1 y1)] at tb
      rw [if_pos y1, ma_nme]
      obtain ⟨n, hn1⟩ : ∃ n, en_n E = n + 1 := ⟨en_n E - 1, by omega⟩
      have ho : en_ok (en_Q E) := by
        refine ⟨show en_n E - 1 ≤ 10 by omega, hm, fun p hp => h.ok.2.2.1 p ?_, fun s hs => ?_, h.ok.2.2.2.2.1, fun p q hp hq => h.ok.2.2.2.2.2 p q ?_ ?_⟩
        · have hp : p < en_n E - 1 := hp
          omega
        · exact ⟨(y3 s hs).1, (y3 s hs).2, (h.ok.2.2.2.1 s hs).2.2⟩
        · have hp : p < en_n E - 1 := hp
          omega
        · have hq : q < en_n E - 1 := hq
          omega
      have e10 : dl_s2 gc 1 16 (nI L) 1 10 - 1 = nI n := by
        rw [ma_s2n _ _ (by omega), h.C.n, hn1, nI_pred]
      have taps : en_taps E &&& (bi1 n ^^^ (-1 : Int32)) = en_taps (en_Q E) := by
        refine ma_mk_of (show en_n E - 1 ≤ 32 by omega) (fun i => ?_)
        rw [ma_out1 _ (by omega), en_taps_b h.ok]
        show (decide (i < en_n E) && en_tap E i && !decide (i = n)) = (decide (i < en_n E - 1) && en_tap E i)
        by_cases w : i = n
        · rw [decide_eq_true w, decide_eq_false (show ¬ i < en_n E - 1 by omega), Bool.not_true, Bool.and_false]
          rfl
        · rw [decide_eq_false w, Bool.not_false, Bool.and_true]
          by_cases w2 : i < en_n E
          · rw [decide_eq_true w2, decide_eq_true (show i < en_n E - 1 by omega)]
          · rw [decide_eq_false w2, decide_eq_false (show ¬ i < en_n E - 1 by omega)]
      have cls : ∃ gX, cl2_removeLastPlace (dl_s2 gc 1 16 (nI L)) = some gX ∧ en_C (en_Q E) gX ∧ (∀ k, k ≠ 1 → gX k = gc k) ∧ gX 1 16 = nI L ∧ gX 1 17 = gc 1 17 := by
        unfold cl2_removeLastPlace
        rw [e10, ma_nme, ma_s2s, ma_gde (ma_in_t (show n < 10 by omega) (by omega)), ma_s2n (j := 12) _ _ (by omega), ma_s2n (j := 12) _ _ (by omega), h.C.taps, ma_nme, ma_s2n (j := 13) _ _ (by omega), ma_s2n (j := 13) _ _ (by omega), ma_s2n (j := 13) _ _ (by omega), ma_s2n (i := 12) (j := 10) _ _ (by omega), ma_s2s]
        have t12 : en_taps E &&& (((1 : Int32) <<< (nI n &&& 31)) ^^^ (-1 : Int32)) = en_taps (en_Q E) := taps
        rw [t12]
        have base : ∀ gX : dl_Sg, (∀ k, k ≠ 1 → gX k = gc k) → gX 1 10 = nI n → gX 1 11 = gc 1 11 → gX 1 12 = en_taps (en_Q E) → gX 1 14 = gc 1 14 → ((gX 1 13 = -1 ∧ ∀ p, p < n → en_k E p ≠ 3) ∨ ∃ p, p < n ∧ en_k E p = 3 ∧ gX 1 13 = nI p) → en_C (en_Q E) gX := by
          intro gX r1 r2 r3 r4 r5 r6
          refine ⟨?_, r3.trans h.C.m, fun p hp => ?_, fun s hs => ?_, r5.trans h.C.t, fun p hp i => ?_, r4, ?_⟩
          · rw [r2]
            show nI n = nI (en_n E - 1)
            rw [hn1]
            rfl
          · have hp : p < en_n E - 1 := hp
            rw [r1 7 (by decide), r1 8 (by decide), r1 10 (by decide), r1 11 (by decide)]
            exact h.C.2.2.1 p (by omega)
          · rw [r1 13 (by decide), r1 14 (by decide), r1 15 (by decide), r1 16 (by decide)]
            exact h.C.2.2.2.1 s hs
          · rw [r1 12 (by decide)]
            exact h.C.of hp i
          · have en : en_n (en_Q E) = n := by
              show en_n E - 1 = n
              omega
            rw [en]
            exact r6
        by_cases w : gc 1 13 = nI n
        · rw [if_pos w, ma_nme]
          refine ⟨_, rfl, base _ (fun k q => ?_) ?_ ?_ ?_ ?_ (Or.inl ⟨ma_s2s _ _ _ _, fun p hp q => ?_⟩), fun k q => ?_, ?_, ?_⟩
          · rw [ma_s2r _ _ _ _ q, ma_s2r _ _ _ _ q, ma_s2r _ _ _ _ q, ma_s2r _ _ _ _ q]
          · rw [ma_s2n _ _ (by omega), ma_s2n _ _ (by omega), ma_s2s]
          · rw [ma_s2n _ _ (by omega), ma_s2n _ _ (by omega), ma_s2n _ _ (by omega), ma_s2n _ _ (by omega)]
          · rw [ma_s2n _ _ (by omega), ma_s2s]
          · rw [ma_s2n _ _ (by omega), ma_s2n _ _ (by omega), ma_s2n _ _ (by omega), ma_s2n _ _ (by omega)]
          · rcases h.C.well with ⟨u1, u2⟩ | ⟨p', u1, u2, u3⟩
            · exact u2 p (by omega) q
            · have e1 := (ma_eqn (a := p') (b := n) (by omega) (by omega)).mp (u3.symm.trans w)
              have e2 := h.ok.well (show p < en_n E by omega) u1 q u2
              omega
          · rw [ma_s2r _ _ _ _ q, ma_s2r _ _ _ _ q, ma_s2r _ _ _ _ q, ma_s2r _ _ _ _ q]
          · rw [ma_s2n _ _ (by omega), ma_s2n _ _ (by omega), ma_s2n _ _ (by omega), ma_s2s]
          · rw [ma_s2n _ _ (by omega), ma_s2n _ _ (by omega), ma_s2n _ _ (by omega), ma_s2n _ _ (by omega)]
        · rw [if_neg w]
          have e13 : dl_s2 (dl_s2 (dl_s2 gc 1 16 (nI L)) 1 10 (nI n)) 1 12 (en_taps (en_Q E)) 1 13 = gc 1 13 := by
            rw [ma_s2n _ _ (by omega), ma_s2n _ _ (by omega), ma_s2n _ _ (by omega)]
          refine ⟨_, rfl, base _ (fun k q => ?_) ?_ ?_ ?_ ?_ ?_, fun k q => ?_, ?_, ?_⟩
          · rw [ma_s2r _ _ _ _ q, ma_s2r _ _ _ _ q, ma_s2r _ _ _ _ q]
          · rw [ma_s2n _ _ (by omega), ma_s2s]
          · rw [ma_s2n _ _ (by omega), ma_s2n _ _ (by omega), ma_s2n _ _ (by omega)]
          · rw [ma_s2s]
          · rw [ma_s2n _ _ (by omega), ma_s2n _ _ (by omega), ma_s2n _ _ (by omega)]
          · rw [e13]
            rcases h.C.well with ⟨u1, u2⟩ | ⟨p', u1, u2, u3⟩
            · exact Or.inl ⟨u1, fun p hp => u2 p (by omega)⟩
            · refine Or.inr ⟨p', ?_, u2, u3⟩
              have : p' ≠ n := fun q => w (by rw [u3, q])
              omega
          · rw [ma_s2r _ _ _ _ q, ma_s2r _ _ _ _ q, ma_s2r _ _ _ _ q]
          · rw [ma_s2n _ _ (by omega), ma_s2n _ _ (by omega), ma_s2s]
          · rw [ma_s2n _ _ (by omega), ma_s2n _ _ (by omega), ma_s2n _ _ (by omega)]
      obtain ⟨gX, x1, x2, x3, x4, x5⟩ := cls
      rw [dl_bi_e x1, ma_nme, ma_nme] at tb
      have hMM : en_M (en_Q E) (dl_s2 (dl_s2 gm 0 9 (nI L)) 0 0 (dl_s2 gm 0 9 (nI L) 0 0 - 1)) := by
        refine ⟨?_, ?_, fun p hp => ?_, fun s hs => ?_, ?_⟩
        · rw [ma_s2s, ma_s2n _ _ (by omega), h.M.n, hn1, nI_pred]
          show nI n = nI (en_n E - 1)
          rw [hn1]
          rfl
        · rw [ma_s2n _ _ (by omega), ma_s2n _ _ (by omega)]
          exact h.M.m
        · have hp : p < en_n E - 1 := hp
          rw [ma_s2n _ _ (by omega), ma_s2n _ _ (by omega), ma_s2n _ _ (by omega), ma_s2n _ _ (by omega)]
          exact h.M.2.2.1 p (by omega)
        · rw [ma_s2n _ _ (by omega), ma_s2n _ _ (by omega), ma_s2n _ _ (by omega), ma_s2n _ _ (by omega), ma_s2n _ _ (by omega), ma_s2n _ _ (by omega)]
          exact h.M.2.2.2.1 s hs
        · rw [ma_s2n _ _ (by omega), ma_s2n _ _ (by omega)]
          exact h.M.t
      have fin := ma_undone (L := L) h hc (by omega) hlg ho x2 hMM (fun k a _ => x3 k a) x4 x5 (fun k a => by rw [ma_s2r _ _ _ _ a, ma_s2r _ _ _ _ a]) (by rw [ma_s2n _ _ (by omega), ma_s2s]) (by rw [ma_s2n _ _ (by omega), ma_s2n _ _ (by omega)]) (by rw [ma_s2n _ _ (by omega), ma_s2n _ _ (by omega)]) y4
      rw [dl_bi_e tb]
      exact ⟨_, _, _, rfl, rfl, en_Q E, ⟨Nat.sub_le _ _, rfl, rfl⟩, fin.s 0⟩
    · -- a street
      have n1 : ¬ gc 17 L = -1 := by rw [eL.2.1 y1]; decide
      have n2 : ¬ gm 10 L = 1 := by rw [y1]; decide
      rw [if_neg n1, if_pos (eL.2.1 y1), ma_nme, ma_s2s, ma_s2n (j := 11) _ _ (by omega), h.C.m] at tb
      rw [if_neg n2, if_pos y1, ma_nme, ma_nme, ma_s2s, ma_s2n (i := 9) (j := 3) _ _ (by omega), ma_s2n (j := 7) _ _ (by omega), ma_s2n (j := 7) _ _ (by omega), h.M.m, h.M.t]
      obtain ⟨m, hm1⟩ : ∃ m, en_m E = m + 1 := ⟨en_m E - 1, by omega⟩
      have ha := h.ok.a (show m < en_m E by omega)
      have hb := h.ok.b (show m < en_m E by omega)
      rw [hm1, nI_pred] at tb ⊢
      obtain ⟨g1, e1, e2, e3, e4, e5⟩ := ma_close0 (g := dl_s2 (dl_s2 gc 1 16 (nI L)) 1 11 (nI m)) (s := m) (by omega) (show en_a E m < 10 by omega) (show en_b E m < 10 by omega) (by rw [ma_s2n _ _ (by omega), ma_s2n _ _ (by omega)]; exact h.C.a (by omega)) (by rw [ma_s2n _ _ (by omega), ma_s2n _ _ (by omega)]; exact h.C.b (by omega))
      rw [dl_bi_e e1, ma_nme, ma_nme] at tb
      have ho : en_ok (en_R E) := by
        refine ⟨hn, show en_m E - 1 ≤ 16 by omega, h.ok.2.2.1, fun s hs => h.ok.2.2.2.1 s ?_, fun i q => ?_, h.ok.2.2.2.2.2⟩
        · have hs : s < en_m E - 1 := hs
          omega
        · have q : bt (en_t E &&& (bi1 (en_m E - 1) ^^^ (-1 : Int32))) i = true := q
          rw [ma_out1 _ (by omega), Bool.and_eq_true] at q
          show i < en_m E - 1
          have q1 := h.ok.t q.1
          have q2 : ¬ i = en_m E - 1 := by
            intro w
            rw [decide_eq_true w] at q
            exact absurd q.2 (by decide)
          omega
      have hm2 : en_m E - 1 = m := by omega
      have hCC : en_C (en_R E) g1 := by
        refine ⟨?_, ?_, fun p hp => ?_, fun s hs => ?_, ?_, fun p hp i => ?_, ?_, ?_⟩
        · rw [e5 10 (by decide), ma_s2n _ _ (by omega), ma_s2n _ _ (by omega)]
          exact h.C.n
        · rw [e5 11 (by decide), ma_s2s]
          show nI m = nI (en_m E - 1)
          rw [hm2]
        · rw [e4 7 (by decide) (by decide), e4 8 (by decide) (by decide), e4 10 (by decide) (by decide), e4 11 (by decide) (by decide), ma_s2n _ _ (by omega), ma_s2n _ _ (by omega), ma_s2n _ _ (by omega), ma_s2n _ _ (by omega), ma_s2n _ _ (by omega), ma_s2n _ _ (by omega), ma_s2n _ _ (by omega), ma_s2n _ _ (by omega)]
          exact h.C.2.2.1 p hp
        · have hs : s < en_m E - 1 := hs
          rw [e4 13 (by decide) (by decide), e4 14 (by decide) (by decide), e4 15 (by decide) (by decide), e4 16 (by decide) (by decide), ma_s2n _ _ (by omega), ma_s2n _ _ (by omega), ma_s2n _ _ (by omega), ma_s2n _ _ (by omega), ma_s2n _ _ (by omega), ma_s2n _ _ (by omega), ma_s2n _ _ (by omega), ma_s2n _ _ (by omega)]
          exact h.C.2.2.2.1 s (by omega)
        · rw [e2, ma_s2n _ _ (by omega), ma_s2n _ _ (by omega), h.C.t]
          show _ = en_t E &&& (bi1 (en_m E - 1) ^^^ (-1 : Int32))
          rw [hm2]
        · show bt (g1 12 p) i = (bt (en_t E &&& (bi1 (en_m E - 1) ^^^ (-1 : Int32))) i && (decide (en_a E i = p) || decide (en_b E i = p)))
          rw [e3 p hp i, ma_s2n _ _ (by omega), ma_s2n _ _ (by omega), h.C.of hp, hm2, ma_out1 _ (by omega)]
          by_cases z : i = m
          · subst z
            rw [decide_eq_true (show i = i from rfl)]
            cases bt (en_t E) i <;> cases decide (en_a E i = p) <;> cases decide (en_b E i = p) <;> rfl
          · rw [decide_eq_false z]
            cases bt (en_t E) i <;> cases decide (en_a E i = p) <;> cases decide (en_b E i = p) <;> rfl
        · rw [e5 12 (by decide), ma_s2n _ _ (by omega), ma_s2n _ _ (by omega)]
          exact h.C.taps
        · rw [e5 13 (by decide), ma_s2n _ _ (by omega), ma_s2n _ _ (by omega)]
          exact h.C.well
      have hMM : en_M (en_R E) (dl_s2 (dl_s2 (dl_s2 gm 0 9 (nI L)) 0 3 (nI m)) 0 7 (en_t E &&& (bi1 m ^^^ (-1 : Int32)))) := by
        refine ⟨?_, ?_, fun p hp => ?_, fun s hs => ?_, ?_⟩
        · rw [ma_s2n _ _ (by omega), ma_s2n _ _ (by omega), ma_s2n _ _ (by omega)]
          exact h.M.n
        · rw [ma_s2n _ _ (by omega), ma_s2s]
          show nI m = nI (en_m E - 1)
          rw [hm2]
        · rw [ma_s2r _ _ _ _ (by decide), ma_s2r _ _ _ _ (by decide), ma_s2r _ _ _ _ (by decide), ma_s2r _ _ _ _ (by decide), ma_s2r _ _ _ _ (by decide), ma_s2r _ _ _ _ (by decide)]
          exact h.M.2.2.1 p hp
        · have hs : s < en_m E - 1 := hs
          rw [ma_s2r _ _ _ _ (by decide), ma_s2r _ _ _ _ (by decide), ma_s2r _ _ _ _ (by decide), ma_s2r _ _ _ _ (by decide), ma_s2r _ _ _ _ (by decide), ma_s2r _ _ _ _ (by decide), ma_s2r _ _ _ _ (by decide), ma_s2r _ _ _ _ (by decide), ma_s2r _ _ _ _ (by decide)]
          exact h.M.2.2.2.1 s (by omega)
        · rw [ma_s2s]
          show _ = en_t E &&& (bi1 (en_m E - 1) ^^^ (-1 : Int32))
          rw [hm2]
      have fin := ma_undone (L := L) h hc (by omega) hlg ho hCC hMM (fun k a b => by rw [e4 k a b, ma_s2r _ _ _ _ a, ma_s2r _ _ _ _ a]) (by rw [e5 16 (by decide), ma_s2n _ _ (by omega), ma_s2s]) (by rw [e5 17 (by decide), ma_s2n _ _ (by omega), ma_s2n _ _ (by omega)]) (fun k a => by rw [ma_s2r _ _ _ _ a, ma_s2r _ _ _ _ a, ma_s2r _ _ _ _ a]) (by rw [ma_s2n _ _ (by omega), ma_s2n _ _ (by omega), ma_s2s]) (by rw [ma_s2n _ _ (by omega), ma_s2n _ _ (by omega), ma_s2n _ _ (by omega)]) (by rw [ma_s2n _ _ (by omega), ma_s2n _ _ (by omega), ma_s2n _ _ (by omega)]) y3
      rw [dl_bi_e tb]
      exact ⟨_, _, _, rfl, rfl, en_R E, ⟨Nat.le_refl _, rfl, rfl⟩, fin.s 0⟩
    · -- a street that was dropped
      have e17 := eL.2.2 s y2 y3
      have n1 : ¬ gc 17 L = -1 := by rw [e17]; exact ma_m1 (by omega)
      have n2 : ¬ gc 17 L = -2 := by
        rw [e17]
        intro q
        have := congrArg Int32.toInt q
        rw [nI_toInt (by omega)] at this
        have e2 : (-2 : Int32).toInt = -2 := rfl
        omega
      have n3 : ¬ gm 10 L = 1 := by
        rw [y3]
        intro q
        have := (ma_eqn (a := 3 + s) (b := 1) (by omega) (by omega)).mp q
        omega
      have n4 : ¬ gm 10 L = 2 := by
        rw [y3]
        intro q
        have := (ma_eqn (a := 3 + s) (b := 2) (by omega) (by omega)).mp q
        omega
      have e3' : gm 10 L - 3 = nI s := by
        rw [y3]
        show nI (3 + s) - nI 3 = nI s
        rw [pk_sub (by omega)]
        exact congrArg nI (by omega)
      rw [if_neg n1, if_neg n2, e17] at tb
      rw [if_neg n3, if_neg n4, e3', ma_nme, ma_s2n (j := 7) _ _ (by omega), h.M.t]
      have ha := h.ok.a y1
      have hb := h.ok.b y1
      obtain ⟨g1, e1, e2, e3, e4, e5⟩ := ma_open0 (g := dl_s2 gc 1 16 (nI L)) (s := s) (by omega) (show en_a E s < 10 by omega) (show en_b E s < 10 by omega) (by rw [ma_s2n _ _ (by omega)]; exact h.C.a y1) (by rw [ma_s2n _ _ (by omega)]; exact h.C.b y1)
      rw [dl_bi_e e1, ma_nme, ma_nme] at tb
      have ho : en_ok (en_T E (en_t E ||| bi1 s)) := h.ok.T (fun i q => by
        rw [ma_put1 _ (by omega), Bool.or_eq_true, decide_eq_true_iff] at q
        rcases q with q | q
        · exact h.ok.t q
        · omega)
      have hCC : en_C (en_T E (en_t E ||| bi1 s)) g1 := by
        refine h.C.T (fun i a b => ?_) (fun k a b => ?_) ?_ (fun p hp i => ?_)
        · rw [e5 i (by omega), ma_s2n _ _ (by omega)]
        · rw [e4 k a b, ma_s2r _ _ _ _ a]
        · rw [e2, ma_s2n _ _ (by omega), h.C.t]
        · rw [e3 p hp i, ma_s2n _ _ (by omega), h.C.of hp, ma_put1 _ (by omega)]
          by_cases z : i = s
          · subst z
            rw [decide_eq_true (show i = i from rfl)]
            cases bt (en_t E) i <;> cases decide (en_a E i = p) <;> cases decide (en_b E i = p) <;> rfl
          · rw [decide_eq_false z]
            cases bt (en_t E) i <;> cases decide (en_a E i = p) <;> cases decide (en_b E i = p) <;> rfl
      have hMM : en_M (en_T E (en_t E ||| bi1 s)) (dl_s2 (dl_s2 gm 0 9 (nI L)) 0 7 (en_t E ||| bi1 s)) := by
        refine h.M.T ?_ ?_ ?_ (fun k a b => ?_)
        · rw [ma_s2n _ _ (by omega), ma_s2n _ _ (by omega)]
        · rw [ma_s2n _ _ (by omega), ma_s2n _ _ (by omega)]
        · rw [ma_s2s]
        · rw [ma_s2r _ _ _ _ (by omega), ma_s2r _ _ _ _ (by omega)]
      have fin := ma_undone (L := L) h hc (by omega) hlg ho hCC hMM (fun k a b => by rw [e4 k a b, ma_s2r _ _ _ _ a]) (by rw [e5 16 (by decide), ma_s2s]) (by rw [e5 17 (by decide), ma_s2n _ _ (by omega)]) (fun k a => by rw [ma_s2r _ _ _ _ a, ma_s2r _ _ _ _ a]) (by rw [ma_s2n _ _ (by omega), ma_s2s]) (by rw [ma_s2n _ _ (by omega), ma_s2n _ _ (by omega)]) (by rw [ma_s2n _ _ (by omega), ma_s2n _ _ (by omega)]) y4
      rw [dl_bi_e tb]
      exact ⟨_, _, _, rfl, rfl, en_T E (en_t E ||| bi1 s), ⟨Nat.le_refl _, rfl, rfl⟩, fin.s 0⟩
end
