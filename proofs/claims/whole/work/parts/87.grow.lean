/-! The mathematics: the class grows all trees -/
section
variable {E : ma_E} {r N : Nat}
theorem ma_len {l : List Int32} (h : l.Nodup) (hl : ∀ X, X ∈ l → ma_lo X 16) : l.length ≤ 65536 := by
  refine fb_holes 65536 l.length (fun i => (l.getD i 0).toBitVec.toNat) (fun i hi => ?_) (fun i j hij hj e => ?_)
  · have hm : l.getD i 0 ∈ l := by
      rw [List.getD_eq_getElem?_getD, List.getElem?_eq_getElem hi]
      exact List.getElem_mem hi
    exact Nat.lt_pow_two_of_testBit (n := 16) _ (fun k hk => hl _ hm k hk)
  · have hi : i < l.length := by omega
    have e2 : l.getD i 0 = l.getD j 0 := Int32.toBitVec_inj.mp (BitVec.eq_of_toNat_eq e)
    rw [List.getD_eq_getElem?_getD, List.getElem?_eq_getElem hi, List.getD_eq_getElem?_getD, List.getElem?_eq_getElem hj] at e2
    exact (List.pairwise_iff_getElem.mp h) i j hi hj hij e2
theorem tg_lo (ho : en_ok E) {X : Int32} (h : tg_T E r X) : ma_lo X 16 := by
  have hm := ho.m
  obtain ⟨P, h1, _⟩ := h
  exact fun i hi => Bool.eq_false_iff.mpr (fun q => by have := tg_lt ho h1 q; omega)
/-- costs and worths of a tree by its places -/
theorem tg_ends (ho : en_ok E) (hr : sp_tap E r) {T P : Int32} (h : tg_I E r T P) {f : Nat → Nat} (hf : f r = 0) : fb_sm (fun p => if bt (en_ends E T (en_m E)) p = true then f p else 0) (en_n E) = fb_sm (fun p => if bt P p = true then f p else 0) (en_n E) := by
  refine fb_sm_cong (fun p _ => ?_)
  by_cases e : p = r
  · rw [e, hf, ite_self, ite_self]
  · have : bt (en_ends E T (en_m E)) p = true ↔ bt P p = true := by
      rw [en_ends_b ho (Nat.le_refl _), h.2.1]
      constructor
      · rintro ⟨s, _, s2, s3⟩
        rcases s3 with z | z
        · rw [← z]; exact (h.2.1 _).mp (h.2.2.1 s s2).1
        · rw [← z]; exact (h.2.1 _).mp (h.2.2.1 s s2).2
      · intro q
        rcases cn_end q with z | z
        · exact absurd z e
        · exact z
    by_cases c : bt P p = true
    · rw [if_pos c, if_pos (this.mpr c)]
    · rw [if_neg c, if_neg (fun q => c (this.mp q))]
theorem sp_tap_pr {p : Nat} (h : sp_tap E p) : en_pr E p = 0 ∧ en_wi E p = 0 := by
  have := of_decide_eq_true h.2
  exact ⟨if_neg (by omega), if_neg (by omega)⟩
theorem tg_sum_put {P : Int32} {p n : Nat} (hp : p < n) (hp2 : p < 32) (h : bt P p = false) (f : Nat → Nat) : fb_sm (fun x => if bt (tg_put P p) x = true then f x else 0) n = fb_sm (fun x => if bt P x = true then f x else 0) n + f p := by
  have e : fb_sm (fun x => if bt (tg_put P p) x = true then f x else 0) n = fb_sm (fun x => if x = p then f p else (if bt P x = true then f x else 0)) n := fb_sm_cong (fun x _ => by
    by_cases c : x = p
    · rw [if_pos c, c, if_pos ((tg_put_b hp2 p).mpr (Or.inr rfl))]
    · rw [if_neg c]
      by_cases c2 : bt P x = true
      · rw [if_pos c2, if_pos ((tg_put_b hp2 x).mpr (Or.inl c2))]
      · rw [if_neg c2, if_neg (fun q => c2 (((tg_put_b hp2 x).mp q).resolve_right c))])
  have u := fb_sm_upd (fun x => if bt P x = true then f x else 0) (f p) hp
  rw [e]
  simp only [h, Bool.false_eq_true, if_false] at u
  omega
theorem tg_co_add (ho : en_ok E) (hr : sp_tap E r) {T P : Int32} {s p : Nat} (h : tg_I E r T P) (h2 : tg_I E r (tg_put T s) (tg_put P p)) (hs : s < en_m E) (hp : p < en_n E) (hsT : bt T s = false) (hpP : bt P p = false) : fl_co E (tg_put T s) = fl_co E T + en_c E s + en_pr E p ∧ fl_wo E (tg_put T s) = fl_wo E T + en_wi E p := by
  have hn := ho.n
  have hm := ho.m
  obtain ⟨z1, z2⟩ := sp_tap_pr hr
  unfold fl_co fl_wo fl_cs fl_ps fl_ws
  rw [tg_ends ho hr h z1, tg_ends ho hr h2 z1, tg_ends ho hr h z2, tg_ends ho hr h2 z2, tg_sum_put hs (by omega) hsT, tg_sum_put hp (by omega) hpP, tg_sum_put hp (by omega) hpP]
  omega
theorem tg_ct (ho : en_ok E) {P : Int32} {p : Nat} (hp : p < en_n E) (h : bt P p = false) : fb_ct (bt (tg_put P p)) 10 = fb_ct (bt P) 10 + 1 := by
  have hn := ho.n
  have e : fb_ct (bt (tg_put P p)) 10 = fb_ct (fun x => if x = p then true else bt P x) 10 := fb_ct_cong (fun x _ => by
    by_cases c : x = p
    · rw [if_pos c, c, (tg_put_b (by omega) p).mpr (Or.inr rfl)]
    · rw [if_neg c]
      cases e : bt P x
      · exact Bool.eq_false_iff.mpr (fun q => ((tg_put_b (by omega) x).mp q).elim (fun w => absurd (e.symm.trans w) (by decide)) c)
      · exact (tg_put_b (by omega) x).mpr (Or.inl e))
  have u := fb_ct_upd (bt P) true (show p < 10 by omega)
  rw [e]
  simp only [h, Bool.false_eq_true, if_false, if_true] at u
  omega
/-- what a call of grow does -/
def tg_does (E : ma_E) (r : Nat) (g0 : dl_Sg) (l : List Int32) (S : Int32 → Prop) (g : dl_Sg) : Prop := ma_ft g g0 ∧ ∃ l', ac_ok E (l ++ l') g ∧ (l ++ l').Nodup ∧ ∀ X, X ∈ l' ↔ S X
/-- what lies near -/
def tg_near (E : ma_E) (P L : Int32) : Prop := ∀ s, bt L s = true → bt (en_t E) s = true ∧ (bt P (en_a E s) = true ∨ bt P (en_b E s) = true)
def tg_rec (E : ma_E) (r : Nat) (g0 : dl_Sg) (rec : dl_Sg → Int32 → Int32 → Int32 → Int32 → Int32 → Int32 → Option dl_Sg) (dep : Nat) : Prop := ∀ (T P L : Int32) (l : List Int32) (g : dl_Sg), ma_ft g g0 → tg_I E r T P → tg_near E P L → fb_ct (bt P) 10 = dep + 1 → ac_ok E l g → l.Nodup → (∀ X, X ∈ l → tg_T E r X ∧ ¬ tg_X E r T P L X) → ma_wp (rec g T P L (nI (fl_co E T)) (nI (fl_wo E T)) (nI dep)) (tg_does E r g0 l (tg_X E r T P L))
theorem ma_growin (hN : 17 ≤ N) (ho : en_ok E) (hr : sp_tap E r) {g0 : dl_Sg} (hC : en_C E g0) (rec : dl_Sg → Int32 → Int32 → Int32 → Int32 → Int32 → Int32 → Option dl_Sg) {dep : Nat} (hdep : dep < 2 ^ 30) (hrec : tg_rec E r g0 rec (dep + 1)) {T P : Int32} (hI : tg_I E r T P) (hct : fb_ct (bt P) 10 = dep + 1) :
    ∀ k t (L : Int32) (l : List Int32) (g : dl_Sg), ma_ft g g0 → tg_near E P L → t + fb_ct (bt L) 16 ≤ 16 → fb_ct (bt L) 16 < k → ac_ok E l g → l.Nodup → (∀ X, X ∈ l → tg_T E r X ∧ ¬ (tg_X E r T P L X ∧ X ≠ T)) → ma_wp (cl6_grow_b37 N rec k T P (nI (fl_co E T)) (nI (fl_wo E T)) (nI dep) L (nI t) g) (tg_does E r g0 l (fun X => tg_X E r T P L X ∧ X ≠ T)) := by
  have hn := ho.n
  have hm := ho.m
  have hrn : r < en_n E := hr.1
  intro k
  induction k with
  | zero => intro t L l g _ _ _ h; omega
  | succ k ih =>
    intro t L l g hf hnear ht hk hac hnd hl
    have hCg := hf.C hC
    have hLlo : ma_lo L 16 := fun i hi => Bool.eq_false_iff.mpr (fun q => by have := ho.t (hnear i q).1; omega)
    have empty : L = 0 → tg_does E r g0 l (fun X => tg_X E r T P L X ∧ X ≠ T) g := fun e => ⟨hf, [], by rw [List.append_nil]; exact hac, by rw [List.append_nil]; exact hnd, fun X => ⟨fun q => (by cases q), fun q => by rw [e] at q; exact absurd (tg_none hI q.1) q.2⟩⟩
    rw [cl6_grow_b37]
    by_cases c16 : 16 ≤ t
    · rw [if_pos ((ma_L16 (by omega)).mpr c16)]
      refine ma_some (empty (ma_z.mpr fun i _ => ?_))
      rcases Nat.lt_or_ge i 16 with q | q
      · exact fb_ct_zero.mp (show fb_ct (bt L) 16 = 0 by omega) i q
      · exact hLlo i q
    · rw [if_neg (fun q => c16 ((ma_L16 (by omega)).mp q))]
      by_cases c0 : L = 0
      · rw [if_pos c0]; exact ma_some (empty c0)
      · rw [if_neg c0]
        obtain ⟨s, s1, s2, _, s4, _⟩ := ma_ntz hLlo c0
        obtain ⟨hst, htouch⟩ := hnear s s2
        have hsm := ho.t hst
        have ha := ho.a hsm
        have hb := ho.b hsm
        rw [dl_bi_e s4, ma_nme, show L &&& (((1 : Int32) <<< (nI s &&& 31)) ^^^ (-1 : Int32)) = tg_out L s from rfl, ma_nme, ma_gde (ma_in_t (by omega) (by omega)), nI_clamp (by omega), ma_nme]
        have hv : ∀ i, bt ((g 16 s) &&& (P ^^^ (-1 : Int32))) i = true ↔ i < 32 ∧ (i = en_a E s ∨ i = en_b E s) ∧ bt P i = false := fun i => by
          rcases Nat.lt_or_ge i 32 with q | q
          · rw [b_and, hCg.eb ho hsm, ma_bn _ q, Bool.and_eq_true, Bool.or_eq_true, decide_eq_true_iff, decide_eq_true_iff, Bool.not_eq_true']
            exact ⟨fun z => ⟨q, z⟩, fun z => z.2⟩
          · rw [b_big q]
            exact ⟨fun z => absurd z (by decide), fun z => absurd z.1 (by omega)⟩
        have hct2 : fb_ct (bt (tg_out L s)) 16 + 1 = fb_ct (bt L) 16 := ma_ct_out s1 s2
        have hnear2 : tg_near E P (tg_out L s) := fun i q => hnear i ((tg_out_b (by omega) i).mp q).1
        unfold cl6_grow_b163
        by_cases cv : (g 16 s) &&& (P ^^^ (-1 : Int32)) = 0
        · rw [if_pos cv, ma_nme, nI_1]
          have hin : ∀ x, (x = en_a E s ∨ x = en_b E s) → bt P x = true := fun x hx => by
            cases e : bt P x
            · have hx32 : x < 32 := by omega
              have := (hv x).mpr ⟨hx32, hx, e⟩
              rw [cv, b_0] at this; cases this
            · rfl
          have hskip : ∀ X, tg_X E r T P L X ↔ tg_X E r T P (tg_out L s) X := fun X => tg_skip ho hI (by omega) (hin _ (Or.inl rfl)) (hin _ (Or.inr rfl))
          refine ma_mono (ih (t + 1) (tg_out L s) l g hf hnear2 (by omega) (by omega) hac hnd (fun X hX => ⟨(hl X hX).1, fun q => (hl X hX).2 ⟨(hskip X).mpr q.1, q.2⟩⟩)) ?_
          rintro g' ⟨q1, l', q2, q3, q4⟩
          exact ⟨q1, l', q2, q3, fun X => (q4 X).trans ⟨fun z => ⟨(hskip X).mpr z.1, z.2⟩, fun z => ⟨(hskip X).mp z.1, z.2⟩⟩⟩
        · rw [if_neg cv]
          have hvlo : ma_lo ((g 16 s) &&& (P ^^^ (-1 : Int32))) 16 := fun i hi => Bool.eq_false_iff.mpr (fun q => by
            have := ((hv i).mp q).2.1
            omega)
          obtain ⟨p, p1, p2, _, p4, _⟩ := ma_ntz hvlo cv
          obtain ⟨_, hpe, hpP⟩ := (hv p).mp p2
          have hpn : p < en_n E := by omega
          -- the other end
          obtain ⟨q, hsq, hqP⟩ : ∃ q, ((en_a E s = q ∧ en_b E s = p) ∨ (en_a E s = p ∧ en_b E s = q)) ∧ bt P q = true := by
            rcases hpe with e | e
            · refine ⟨en_b E s, Or.inr ⟨e.symm, rfl⟩, htouch.resolve_left (fun z => ?_)⟩
              rw [← e, hpP] at z; cases z
            · refine ⟨en_a E s, Or.inl ⟨rfl, e.symm⟩, htouch.resolve_right (fun z => ?_)⟩
              rw [← e, hpP] at z; cases z
          obtain ⟨hI2, hsT⟩ := hI.add ho hrn hst hsq hqP hpP
          obtain ⟨hco, hwo⟩ := tg_co_add ho hr hI hI2 hsm hpn hsT hpP
          have eP : P ||| ((g 16 s) &&& (P ^^^ (-1 : Int32))) = tg_put P p := ma_ext fun i => by
            rw [b_or, Bool.or_eq_true, hv, tg_put_b (by omega)]
            constructor
            · rintro (w | ⟨_, w, w2⟩)
              · exact Or.inl w
              · by_cases e : i = p
                · exact Or.inr e
                · exfalso
                  have : i = q := by omega
                  rw [this, hqP] at w2; cases w2
            · rintro (w | w)
              · exact Or.inl w
              · rw [w]; exact Or.inr ⟨by omega, hpe, hpP⟩
          have hO : ∀ i, bt (g 12 p) i = true ↔ bt (en_t E) i = true ∧ (en_a E i = p ∨ en_b E i = p) := fun i => by
            rw [hCg.of (by omega), Bool.and_eq_true, Bool.or_eq_true, decide_eq_true_iff, decide_eq_true_iff]
          rw [dl_bi_e p4, ma_nme, ma_gde (ma_in_t (by omega) (by omega)), ma_gde (ma_in_t (by omega) (by omega)), ma_gde (ma_in_t (by omega) (by omega)), ma_gde (ma_in_t (by omega) (by omega)), nI_clamp (by omega), hCg.c hsm, hCg.pr hpn, hCg.wi hpn, eP, nI_add, nI_add, nI_add, ← hco, ← hwo, show T ||| ((1 : Int32) <<< (nI s &&& 31)) = tg_put T s from rfl, nI_1]
          have hgo : ∀ X, (tg_X E r T P L X ∧ X ≠ T) ↔ (tg_X E r (tg_put T s) (tg_put P p) (tg_out L s ||| g 12 p) X ∨ (tg_X E r T P (tg_out L s) X ∧ X ≠ T)) := fun X => tg_go ho hI hst s2 hsq hqP hpP (by omega) hO hsT
          have hnear3 : tg_near E (tg_put P p) (tg_out L s ||| g 12 p) := fun i w => by
            rw [b_or, Bool.or_eq_true] at w
            rcases w with w | w
            · obtain ⟨w1, w2⟩ := hnear2 i w
              exact ⟨w1, w2.imp (fun z => (tg_put_b (by omega) _).mpr (Or.inl z)) (fun z => (tg_put_b (by omega) _).mpr (Or.inl z))⟩
            · obtain ⟨w1, w2⟩ := (hO i).mp w
              exact ⟨w1, w2.imp (fun z => (tg_put_b (by omega) _).mpr (Or.inr z)) (fun z => (tg_put_b (by omega) _).mpr (Or.inr z))⟩
          obtain ⟨g1, e1, f1, l1, a1, a2, a3⟩ := hrec (tg_put T s) (tg_put P p) (tg_out L s ||| g 12 p) l g hf hI2 hnear3 (by rw [tg_ct ho hpn hpP, hct]) hac hnd (fun X hX => ⟨(hl X hX).1, fun z => (hl X hX).2 ((hgo X).mpr (Or.inl z))⟩)
          rw [dl_bi_e e1, ma_nme, nI_1]
          refine ma_mono (ih (t + 1) (tg_out L s) (l ++ l1) g1 f1 hnear2 (by omega) (by omega) a1 a2 (fun X hX => ?_)) ?_
          · rw [List.mem_append] at hX
            rcases hX with hX | hX
            · exact ⟨(hl X hX).1, fun z => (hl X hX).2 ((hgo X).mpr (Or.inr z))⟩
            · have hx := (a3 X).mp hX
              refine ⟨hx.1, fun z => ?_⟩
              have hsX : bt X s = true := hx.2.1 s ((tg_put_b (by omega) s).mpr (Or.inr rfl))
              rcases z.1.2.2 s hsX htouch with w | w
              · rw [hsT] at w; cases w
              · exact ((tg_out_b (by omega) s).mp w).2 rfl
          · rintro g' ⟨q1, l', q2, q3, q4⟩
            refine ⟨q1, l1 ++ l', by rw [← List.append_assoc]; exact q2, by rw [← List.append_assoc]; exact q3, fun X => ?_⟩
            rw [List.mem_append, a3, q4, ← hgo]
theorem ma_grow (hN : 17 ≤ N) (ho : en_ok E) (hr : sp_tap E r) {g0 : dl_Sg} (hC : en_C E g0) : ∀ d dep, dep ≤ 10 → 11 ≤ dep + d → tg_rec E r g0 (cl6_grow N (d + 1)) dep := by
  have hn := ho.n
  have hm := ho.m
  have htap : ∀ p, bt (en_taps E) p = true ↔ sp_tap E p := fun p => by
    rw [en_taps_b ho, Bool.and_eq_true, decide_eq_true_iff]
    exact Iff.rfl
  intro d
  induction d with
  | zero => intro dep h1 h2; omega
  | succ d ih =>
    intro dep h1 h2 T P L l g hf hI hnear hct hac hnd hl
    have hCg := hf.C hC
    have hdep : dep < 10 := by
      have hle := fb_ct_le (bt P) 10
      omega
    rw [cl6_grow]
    unfold cl6_grow_e
    rw [if_pos (show nI dep < (10 : Int32) from (ma_lt (b := 10) (by omega) (by omega)).mpr hdep), hCg.taps]
    have hrec : tg_rec E r g0 (cl6_grow N (d + 1)) (dep + 1) := ih (dep + 1) (by omega) (by omega)
    have hLle := fb_ct_le (bt L) 16
    have hall : en_taps E &&& (P ^^^ (-1 : Int32)) = 0 ↔ ∀ p, sp_tap E p → bt P p = true := by
      rw [ma_z]
      constructor
      · intro q p hp
        have hpn : p < en_n E := hp.1
        have := q p (by omega)
        rw [b_and, ma_bn _ (by omega), (htap p).mpr hp, Bool.true_and] at this
        cases e : bt P p
        · rw [e] at this; cases this
        · rfl
      · intro q i hi
        rw [b_and, ma_bn _ hi]
        cases e : bt (en_taps E) i
        · rfl
        · rw [q i ((htap i).mp e)]; rfl
    unfold cl6_grow_b31
    by_cases c : en_taps E &&& (P ^^^ (-1 : Int32)) = 0
    · have hc := hall.mp c
      have hTT : tg_X E r T P L T := (tg_top hI).mpr hc
      have hnot : T ∉ l := fun q => (hl T q).2 hTT
      have hnd2 : (l ++ [T]).Nodup := by
        rw [List.nodup_append]
        refine ⟨hnd, by simp, fun a ha b hb e => ?_⟩
        rw [List.mem_singleton] at hb
        exact hnot (by rw [← hb, ← e]; exact ha)
      have hlen := ma_len hnd2 (fun X hX => by
        rw [List.mem_append, List.mem_singleton] at hX
        rcases hX with hX | hX
        · exact tg_lo ho (hl X hX).1
        · rw [hX]; exact tg_lo ho hTT.1)
      rw [List.length_append, List.length_singleton] at hlen
      obtain ⟨g1, e1, f1, a1⟩ := ma_weigh (X := T) ho hac (by omega) ((tg_lo ho hTT.1).up (by omega))
      rw [if_pos c, dl_bi_e e1, ma_nme, ma_nme]
      refine ma_mono (ma_growin hN ho hr hC _ (by omega) hrec hI hct N 0 L (l ++ [T]) g1 (f1.t hf) hnear (by omega) (by omega) a1 hnd2 (fun X hX => ?_)) ?_
      · rw [List.mem_append, List.mem_singleton] at hX
        rcases hX with hX | hX
        · exact ⟨(hl X hX).1, fun z => (hl X hX).2 z.1⟩
        · rw [hX]; exact ⟨hTT.1, fun z => z.2 rfl⟩
      · rintro g' ⟨q1, l', q2, q3, q4⟩
        refine ⟨q1, [T] ++ l', by rw [← List.append_assoc]; exact q2, by rw [← List.append_assoc]; exact q3, fun X => ?_⟩
        rw [List.mem_append, List.mem_singleton, q4]
        constructor
        · rintro (z | z)
          · rw [z]; exact hTT
          · exact z.1
        · intro z
          by_cases e : X = T
          · exact Or.inl e
          · exact Or.inr ⟨z, e⟩
    · rw [if_neg c, ma_nme, ma_nme]
      refine ma_mono (ma_growin hN ho hr hC _ (by omega) hrec hI hct N 0 L l g hf hnear (by omega) (by omega) hac hnd (fun X hX => ⟨(hl X hX).1, fun z => (hl X hX).2 z.1⟩)) ?_
      rintro g' ⟨q1, l', q2, q3, q4⟩
      refine ⟨q1, l', q2, q3, fun X => ?_⟩
      rw [q4]
      refine ⟨fun z => z.1, fun z => ⟨z, fun e => c (hall.mpr ?_)⟩⟩
      rw [e] at z
      exact (tg_top hI).mp z
end
