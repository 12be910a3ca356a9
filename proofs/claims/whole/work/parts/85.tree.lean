/-! The mathematics: trees that grow from the root -/
def ma_sub (X Y : Int32) : Prop := ∀ i, bt X i = true → bt Y i = true
/-- a set without one street -/
def tg_out (T : Int32) (s : Nat) : Int32 := T &&& (((1 : Int32) <<< (nI s &&& 31)) ^^^ (-1 : Int32))
def tg_put (T : Int32) (s : Nat) : Int32 := T ||| ((1 : Int32) <<< (nI s &&& 31))
theorem tg_out_b {T : Int32} {s : Nat} (hs : s < 32) (i : Nat) : bt (tg_out T s) i = true ↔ bt T i = true ∧ i ≠ s := by
  unfold tg_out
  rw [ma_out _ hs, Bool.and_eq_true, Bool.not_eq_true', decide_eq_false_iff_not]
theorem tg_put_b {T : Int32} {s : Nat} (hs : s < 32) (i : Nat) : bt (tg_put T s) i = true ↔ bt T i = true ∨ i = s := by
  unfold tg_put
  rw [ma_put _ hs, Bool.or_eq_true, decide_eq_true_iff]
/-- no street's ends hang together without it -/
def tg_ac (E : ma_E) (T : Int32) : Prop := ∀ s, s < en_m E → bt T s = true → ¬ cn_R E (tg_out T s) (en_m E) (en_a E s) (en_b E s)
section
variable {E : ma_E} {T : Int32}
theorem tg_ac_ring (ho : en_ok E) : tg_ac E T ↔ ¬ fl_ring E T (en_m E) := by
  have hm := ho.m
  constructor
  · rintro h ⟨s, h1, h2, h3⟩
    refine h s h1 h2 (cn_up h3 (fun s' a1 a2 => ⟨by omega, ?_⟩))
    rw [tg_out_b (by omega)]
    exact ⟨a2, by omega⟩
  · intro h s hs ht hc
    have hsub : ∀ i, bt (tg_out T s) i = true → bt T i = true := fun i q => ((tg_out_b (by omega) i).mp q).1
    have h' : ¬ fl_ring E (tg_out T s) (en_m E) := by
      rintro ⟨s', a1, a2, a3⟩
      exact h ⟨s', a1, hsub s' a2, cn_up a3 (fun i b1 b2 => ⟨b1, hsub i b2⟩)⟩
    have e1 := fl_count ho (en_m E) (Nat.le_refl _) h
    have e2 := fl_count ho (en_m E) (Nat.le_refl _) h'
    have same : ∀ x y, cn_R E T (en_m E) x y ↔ cn_R E (tg_out T s) (en_m E) x y := fun x y => by
      constructor
      · intro q
        refine q (fun z => cn_R E (tg_out T s) (en_m E) x z) cn_0 (fun i hi hb => ?_)
        by_cases e : i = s
        · subst e
          exact ⟨fun w => cn_t w hc, fun w => cn_t w (cn_s hc)⟩
        · have hb' := (tg_out_b (s := s) (by omega) i).mpr ⟨hb, e⟩
          exact ⟨fun w => cn_t w (cn_1 hi hb'), fun w => cn_t w (cn_2 hi hb')⟩
      · intro q
        exact cn_up q (fun i b1 b2 => ⟨b1, hsub i b2⟩)
    have e3 : fl_c E T (en_m E) = fl_c E (tg_out T s) (en_m E) := fb_ct_cong (fun z _ => ma_dec_c ⟨fun q y hy w => q y hy ((same y z).mpr w), fun q y hy w => q y hy ((same y z).mp w)⟩)
    have e4 : fb_ct (bt (tg_out T s)) (en_m E) < fb_ct (bt T) (en_m E) := ma_ct_lt (fun k _ q => hsub k q) ⟨s, hs, ht, Bool.eq_false_iff.mpr (fun q => ((tg_out_b (by omega) s).mp q).2 rfl)⟩
    omega
/-- a place that no street touches, joined by one: nothing else comes to hang together -/
theorem tg_leaf {X Y : Int32} {s q p : Nat} (hne : q ≠ p) (hY : ∀ i, i < en_m E → bt Y i = true → bt X i = true ∨ i = s) (hs : (en_a E s = q ∧ en_b E s = p) ∨ (en_a E s = p ∧ en_b E s = q)) (hX : ∀ i, i < en_m E → bt X i = true → en_a E i ≠ p ∧ en_b E i ≠ p) {x y : Nat} (hx : x ≠ p) (hy : y ≠ p) (h : cn_R E Y (en_m E) x y) : cn_R E X (en_m E) x y := by
  have := h (fun z => (z = p ∧ cn_R E X (en_m E) x q) ∨ (z ≠ p ∧ cn_R E X (en_m E) x z)) (Or.inr ⟨hx, cn_0⟩) (fun i hi hb => by
    rcases hY i hi hb with hb | hb
    · obtain ⟨n1, n2⟩ := hX i hi hb
      constructor
      · rintro (⟨w, _⟩ | ⟨_, w⟩)
        · exact absurd w n1
        · exact Or.inr ⟨n2, cn_t w (cn_1 hi hb)⟩
      · rintro (⟨w, _⟩ | ⟨_, w⟩)
        · exact absurd w n2
        · exact Or.inr ⟨n1, cn_t w (cn_2 hi hb)⟩
    · subst hb
      rcases hs with ⟨e1, e2⟩ | ⟨e1, e2⟩
      · rw [e1, e2]
        exact ⟨fun w => Or.inl ⟨rfl, w.elim (fun z => absurd z.1 hne) (fun z => z.2)⟩, fun w => Or.inr ⟨hne, w.elim (fun z => z.2) (fun z => absurd rfl z.1)⟩⟩
      · rw [e1, e2]
        exact ⟨fun w => Or.inr ⟨hne, w.elim (fun z => z.2) (fun z => absurd rfl z.1)⟩, fun w => Or.inl ⟨rfl, w.elim (fun z => absurd z.1 hne) (fun z => z.2)⟩⟩)
  rcases this with ⟨w, _⟩ | ⟨_, w⟩
  · exact absurd w hy
  · exact w
end
/-- a tree with the root, and its places -/
def tg_I (E : ma_E) (r : Nat) (T P : Int32) : Prop := ma_sub T (en_t E) ∧ (∀ p, bt P p = true ↔ cn_R E T (en_m E) r p) ∧ (∀ s, bt T s = true → bt P (en_a E s) = true ∧ bt P (en_b E s) = true) ∧ tg_ac E T
/-- one that has all taps -/
def tg_T (E : ma_E) (r : Nat) (X : Int32) : Prop := ∃ P, tg_I E r X P ∧ ∀ p, sp_tap E p → bt P p = true
section
variable {E : ma_E} {r : Nat}
theorem tg_lt (ho : en_ok E) {T P : Int32} (h : tg_I E r T P) {s : Nat} (hs : bt T s = true) : s < en_m E := ho.t (h.1 s hs)
theorem tg_Plo (ho : en_ok E) (hr : r < en_n E) {T P : Int32} (h : tg_I E r T P) : ma_lo P (en_n E) := fun i hi => Bool.eq_false_iff.mpr (fun q => by
  have := cn_in ho (Nat.le_refl _) hr ((h.2.1 i).mp q)
  omega)
theorem tg_P_one {T P P' : Int32} (h : tg_I E r T P) (h2 : tg_I E r T P') : P = P' := ma_ext fun i => (h.2.1 i).trans (h2.2.1 i).symm
theorem tg_I0 (hr : r < 32) : tg_I E r 0 ((1 : Int32) <<< (nI r &&& 31)) := by
  refine ⟨fun i q => ?_, fun p => ?_, fun s q => ?_, fun s _ q => ?_⟩
  · rw [b_0] at q; cases q
  · rw [ma_b1 hr, decide_eq_true_iff]
    constructor
    · intro e; rw [e]; exact cn_0
    · intro q
      exact q (fun z => z = r) rfl (fun s _ w => by rw [b_0] at w; cases w)
  · rw [b_0] at q; cases q
  · rw [b_0] at q; cases q
/-- a tree of the document, as one grown from the root -/
theorem tg_tree (ho : en_ok E) (hr : sp_tap E r) {T : Int32} (hT : ma_sub T (en_t E)) : fl_tree E T ↔ tg_T E r T := by
  have hn := ho.n
  have hm := ho.m
  constructor
  · rintro ⟨h1, h2, h3⟩
    have hPb : ∀ p, bt (ma_mk (fun p => ma_dec (cn_R E T (en_m E) r p)) (en_n E)) p = true ↔ cn_R E T (en_m E) r p := fun p => by
      rw [ma_mk_b _ p _ (by omega), Bool.and_eq_true, decide_eq_true_iff, ma_dec_t]
      exact ⟨fun q => q.2, fun q => ⟨cn_in ho (Nat.le_refl _) hr.1 q, q⟩⟩
    -- the root is an end, if there is a street
    have hre : ∀ s, bt T s = true → fl_end E T (en_m E) r := fun s hs => by
      rcases h3.2 r hr with q | ⟨q, _⟩
      · exact q
      · rw [q, b_0] at hs; cases hs
    refine ⟨_, ⟨hT, hPb, fun s hs => ?_, (tg_ac_ring ho).mpr h1⟩, fun p hp => ?_⟩
    · have hsm := ho.t (hT s hs)
      rw [hPb, hPb]
      exact ⟨h2 _ _ (hre s hs) ⟨s, hsm, hs, Or.inl rfl⟩, h2 _ _ (hre s hs) ⟨s, hsm, hs, Or.inr rfl⟩⟩
    · rw [hPb]
      rcases h3.2 p hp with ⟨s, q1, q2, q3⟩ | ⟨_, q⟩
      · exact h2 _ _ (hre s q2) ⟨s, q1, q2, q3⟩
      · rw [q r hr]; exact cn_0
  · rintro ⟨P, ⟨h1, h2, h3, h4⟩, h5⟩
    refine ⟨(tg_ac_ring ho).mp h4, fun p q hp hq => ?_, ⟨r, hr⟩, fun p hp => ?_⟩
    · have hin : ∀ x, fl_end E T (en_m E) x → cn_R E T (en_m E) r x := fun x ⟨s, _, s2, s3⟩ => by
        rcases s3 with e | e
        · rw [← e]; exact (h2 _).mp (h3 s s2).1
        · rw [← e]; exact (h2 _).mp (h3 s s2).2
      exact cn_t (cn_s (hin p hp)) (hin q hq)
    · by_cases t0 : T = 0
      · refine Or.inr ⟨t0, fun q hq => ?_⟩
        have one : ∀ x, cn_R E T (en_m E) r x → x = r := fun x w => w (fun z => z = r) rfl (fun s _ w => by rw [t0, b_0] at w; cases w)
        rw [one q ((h2 q).mp (h5 q hq)), one p ((h2 p).mp (h5 p hp))]
      · obtain ⟨s, _, hs⟩ := ma_nz t0
        have ca := (h2 _).mp (h3 s hs).1
        have ra : fl_end E T (en_m E) r := by
          rcases cn_end (cn_s ca) with e | e
          · exact ⟨s, ho.t (h1 s hs), hs, Or.inl e.symm⟩
          · exact e
        rcases cn_end ((h2 p).mp (h5 p hp)) with e | e
        · rw [e]; exact Or.inl ra
        · exact Or.inl e
/-- a near street is added -/
theorem tg_I.add (ho : en_ok E) (hr : r < en_n E) {T P : Int32} (h : tg_I E r T P) {s q p : Nat} (hs : bt (en_t E) s = true) (hsq : (en_a E s = q ∧ en_b E s = p) ∨ (en_a E s = p ∧ en_b E s = q)) (hq : bt P q = true) (hp : bt P p = false) : tg_I E r (tg_put T s) (tg_put P p) ∧ bt T s = false := by
  have hn := ho.n
  have hm := ho.m
  have hsm := ho.t hs
  have hpn : p < en_n E := by
    have := ho.a hsm
    have := ho.b hsm
    omega
  have hne : q ≠ p := fun e => by rw [e, hp] at hq; cases hq
  have hsT : bt T s = false := Bool.eq_false_iff.mpr (fun w => by
    have h3 := h.2.2.1 s w
    rcases hsq with ⟨e1, e2⟩ | ⟨e1, e2⟩
    · rw [e2, hp] at h3; cases h3.2
    · rw [e1, hp] at h3; cases h3.1)
  have hpr : p ≠ r := fun e => by
    have := (h.2.1 r).mpr cn_0
    rw [← e, hp] at this; cases this
  have hiso : ∀ i, i < en_m E → bt T i = true → en_a E i ≠ p ∧ en_b E i ≠ p := fun i _ hb => by
    obtain ⟨b1, b2⟩ := h.2.2.1 i hb
    exact ⟨fun e => absurd (b1.symm.trans (by rw [e, hp])) (by decide), fun e => absurd (b2.symm.trans (by rw [e, hp])) (by decide)⟩
  have hput : ∀ i, bt (tg_put T s) i = true ↔ bt T i = true ∨ i = s := tg_put_b (by omega)
  have hup : ∀ {x y}, cn_R E T (en_m E) x y → cn_R E (tg_put T s) (en_m E) x y := fun w => cn_up w (fun i a b => ⟨a, (hput i).mpr (Or.inl b)⟩)
  have hs' : bt (tg_put T s) s = true := (hput s).mpr (Or.inr rfl)
  have hqp : cn_R E (tg_put T s) (en_m E) q p := by
    rcases hsq with ⟨e1, e2⟩ | ⟨e1, e2⟩
    · rw [← e1, ← e2]; exact cn_1 hsm hs'
    · rw [← e1, ← e2]; exact cn_2 hsm hs'
  refine ⟨⟨fun i w => ?_, fun x => ?_, fun i w => ?_, fun i hi hb hc => ?_⟩, hsT⟩
  · rcases (hput i).mp w with w | w
    · exact h.1 i w
    · rw [w]; exact hs
  · rw [tg_put_b (by omega), h.2.1]
    constructor
    · rintro (w | w)
      · exact hup w
      · rw [w]; exact cn_t (hup ((h.2.1 q).mp hq)) hqp
    · intro w
      by_cases e : x = p
      · exact Or.inr e
      · exact Or.inl (tg_leaf hne (fun i _ hb => (hput i).mp hb) hsq hiso (Ne.symm hpr) e w)
  · rw [tg_put_b (by omega), tg_put_b (by omega)]
    rcases (hput i).mp w with w | w
    · exact ⟨Or.inl (h.2.2.1 i w).1, Or.inl (h.2.2.1 i w).2⟩
    · subst w
      rcases hsq with ⟨e1, e2⟩ | ⟨e1, e2⟩
      · rw [e1, e2]; exact ⟨Or.inl hq, Or.inr rfl⟩
      · rw [e1, e2]; exact ⟨Or.inr rfl, Or.inl hq⟩
  · have hi32 : i < 32 := by omega
    by_cases e : i = s
    · subst e
      -- without it q and p do not hang together
      have hc' : cn_R E T (en_m E) (en_a E i) (en_b E i) := cn_up hc (fun j a b => ⟨a, by
        rw [tg_out_b hi32, hput] at b
        exact b.1.resolve_right b.2⟩)
      rcases hsq with ⟨e1, e2⟩ | ⟨e1, e2⟩
      · rw [e1, e2] at hc'
        have := (h.2.1 p).mpr (cn_t ((h.2.1 q).mp hq) hc')
        rw [hp] at this; cases this
      · rw [e1, e2] at hc'
        have := (h.2.1 p).mpr (cn_t ((h.2.1 q).mp hq) (cn_s hc'))
        rw [hp] at this; cases this
    · have hb := ((hput i).mp hb).resolve_right e
      obtain ⟨n1, n2⟩ := hiso i hi hb
      refine h.2.2.2 i hi hb (tg_leaf (Y := tg_out (tg_put T s) i) hne (fun j _ w => ?_) hsq (fun j hj w => hiso j hj ((tg_out_b hi32 j).mp w).1) n1 n2 hc)
      rw [tg_out_b hi32, hput] at w
      rcases w.1 with z | z
      · exact Or.inl ((tg_out_b hi32 j).mpr ⟨z, w.2⟩)
      · exact Or.inr z
/-- trees that come from T by streets near P that are in L, or further off -/
def tg_X (E : ma_E) (r : Nat) (T P L X : Int32) : Prop := tg_T E r X ∧ ma_sub T X ∧ ∀ s, bt X s = true → (bt P (en_a E s) = true ∨ bt P (en_b E s) = true) → bt T s = true ∨ bt L s = true
theorem tg_top {T P L : Int32} (h : tg_I E r T P) : tg_X E r T P L T ↔ ∀ p, sp_tap E p → bt P p = true := by
  constructor
  · rintro ⟨⟨P', h1, h2⟩, _⟩
    rw [tg_P_one h h1]; exact h2
  · intro h2
    exact ⟨⟨P, h, h2⟩, fun _ q => q, fun s q _ => Or.inl q⟩
/-- nothing near is left -/
theorem tg_none {T P X : Int32} (h : tg_I E r T P) (hX : tg_X E r T P 0 X) : X = T := by
  obtain ⟨⟨P', h1, _⟩, h2, h3⟩ := hX
  have h3' : ∀ s, bt X s = true → (bt P (en_a E s) = true ∨ bt P (en_b E s) = true) → bt T s = true := fun s q w => (h3 s q w).resolve_right (fun z => by rw [b_0] at z; cases z)
  -- what hangs at the root in X lies in P
  have hin : ∀ x, cn_R E X (en_m E) r x → bt P x = true := fun x w => w (fun z => bt P z = true) ((h.2.1 r).mpr cn_0) (fun s hs hb => ⟨fun z => (h.2.2.1 s (h3' s hb (Or.inl z))).2, fun z => (h.2.2.1 s (h3' s hb (Or.inr z))).1⟩)
  refine ma_ext fun i => ⟨fun q => ?_, fun q => h2 i q⟩
  have := (h1.2.1 _).mp (h1.2.2.1 i q).1
  exact h3' i q (Or.inl (hin _ this))
/-- a street with both ends among the places is in no such tree but T's own -/
theorem tg_both (ho : en_ok E) {T P X : Int32} (h : tg_I E r T P) (hX : tg_T E r X) (hTX : ma_sub T X) {s : Nat} (hs : bt X s = true) (ha : bt P (en_a E s) = true) (hb : bt P (en_b E s) = true) : bt T s = true := by
  have hm := ho.m
  obtain ⟨P', h1, _⟩ := hX
  have hsm := tg_lt ho h1 hs
  cases e : bt T s
  · exfalso
    refine h1.2.2.2 s hsm hs (cn_up (cn_t (cn_s ((h.2.1 _).mp ha)) ((h.2.1 _).mp hb)) (fun i a b => ⟨a, ?_⟩))
    rw [tg_out_b (by omega)]
    exact ⟨hTX i b, fun z => by rw [z, e] at b; cases b⟩
  · rfl
/-- the turn of a street with both ends among the places -/
theorem tg_skip (ho : en_ok E) {T P L X : Int32} (h : tg_I E r T P) {s : Nat} (hs : s < 32) (ha : bt P (en_a E s) = true) (hb : bt P (en_b E s) = true) : tg_X E r T P L X ↔ tg_X E r T P (tg_out L s) X := by
  constructor
  · rintro ⟨h1, h2, h3⟩
    refine ⟨h1, h2, fun i q w => ?_⟩
    rcases h3 i q w with z | z
    · exact Or.inl z
    · by_cases e : i = s
      · subst e; exact Or.inl (tg_both ho h h1 h2 q ha hb)
      · exact Or.inr ((tg_out_b hs i).mpr ⟨z, e⟩)
  · rintro ⟨h1, h2, h3⟩
    refine ⟨h1, h2, fun i q w => ?_⟩
    rcases h3 i q w with z | z
    · exact Or.inl z
    · exact Or.inr ((tg_out_b hs i).mp z).1
/-- the turn of a street that leads on -/
theorem tg_go (ho : en_ok E) {T P L O X : Int32} (h : tg_I E r T P) {s q p : Nat} (hs : bt (en_t E) s = true) (hL : bt L s = true) (hsq : (en_a E s = q ∧ en_b E s = p) ∨ (en_a E s = p ∧ en_b E s = q)) (hq : bt P q = true) (hp : bt P p = false) (hpn : p < 32) (hO : ∀ i, bt O i = true ↔ bt (en_t E) i = true ∧ (en_a E i = p ∨ en_b E i = p)) (hsT : bt T s = false) :
    (tg_X E r T P L X ∧ X ≠ T) ↔ (tg_X E r (tg_put T s) (tg_put P p) (tg_out L s ||| O) X ∨ (tg_X E r T P (tg_out L s) X ∧ X ≠ T)) := by
  have hm := ho.m
  have hsm := ho.t hs
  have hs32 : s < 32 := by omega
  constructor
  · rintro ⟨⟨h1, h2, h3⟩, hne⟩
    by_cases e : bt X s = true
    · refine Or.inl ⟨h1, fun i w => ?_, fun i w z => ?_⟩
      · rcases (tg_put_b hs32 i).mp w with w | w
        · exact h2 i w
        · rw [w]; exact e
      · rw [tg_put_b hs32, b_or, Bool.or_eq_true, tg_out_b hs32, hO]
        by_cases tp : en_a E i = p ∨ en_b E i = p
        · obtain ⟨P', h1', _⟩ := h1
          exact Or.inr (Or.inr ⟨h1'.1 i w, tp⟩)
        · have z' : bt P (en_a E i) = true ∨ bt P (en_b E i) = true := by
            rcases z with z | z
            · rcases (tg_put_b hpn _).mp z with z | z
              · exact Or.inl z
              · exact absurd (Or.inl z) tp
            · rcases (tg_put_b hpn _).mp z with z | z
              · exact Or.inr z
              · exact absurd (Or.inr z) tp
          rcases h3 i w z' with y | y
          · exact Or.inl (Or.inl y)
          · by_cases e2 : i = s
            · exact Or.inl (Or.inr e2)
            · exact Or.inr (Or.inl ⟨y, e2⟩)
    · refine Or.inr ⟨⟨h1, h2, fun i w z => ?_⟩, hne⟩
      rcases h3 i w z with y | y
      · exact Or.inl y
      · exact Or.inr ((tg_out_b hs32 i).mpr ⟨y, fun e2 => e (e2 ▸ w)⟩)
  · rintro (⟨h1, h2, h3⟩ | ⟨⟨h1, h2, h3⟩, hne⟩)
    · have hTX : ma_sub T X := fun i w => h2 i ((tg_put_b hs32 i).mpr (Or.inl w))
      have hsX : bt X s = true := h2 s ((tg_put_b hs32 s).mpr (Or.inr rfl))
      refine ⟨⟨h1, hTX, fun i w z => ?_⟩, fun e => by rw [e, hsT] at hsX; cases hsX⟩
      have z' : bt (tg_put P p) (en_a E i) = true ∨ bt (tg_put P p) (en_b E i) = true := by
        rcases z with z | z
        · exact Or.inl ((tg_put_b hpn _).mpr (Or.inl z))
        · exact Or.inr ((tg_put_b hpn _).mpr (Or.inl z))
      have y := h3 i w z'
      rw [tg_put_b hs32, b_or, Bool.or_eq_true, tg_out_b hs32, hO] at y
      rcases y with (y | y) | (y | ⟨y, y2⟩)
      · exact Or.inl y
      · rw [y]; exact Or.inr hL
      · exact Or.inr y.1
      · -- it joins p and a place of P, as s does: it is s
        by_cases e : i = s
        · rw [e]; exact Or.inr hL
        · exfalso
          obtain ⟨P', h1', _⟩ := h1
          have him := tg_lt ho h1' w
          have hia : bt T i = false := Bool.eq_false_iff.mpr (fun t => by
            have := h.2.2.1 i t
            rcases y2 with y2 | y2
            · rw [y2, hp] at this; cases this.1
            · rw [y2, hp] at this; cases this.2)
          have hup : ∀ {x u}, cn_R E T (en_m E) x u → cn_R E (tg_out X i) (en_m E) x u := fun t => cn_up t (fun j a b => ⟨a, (tg_out_b (by omega) j).mpr ⟨hTX j b, fun z => by rw [z, hia] at b; cases b⟩⟩)
          have hs' : bt (tg_out X i) s = true := (tg_out_b (by omega) s).mpr ⟨hsX, fun z => e z.symm⟩
          have hqp : cn_R E (tg_out X i) (en_m E) q p := by
            rcases hsq with ⟨e1, e2⟩ | ⟨e1, e2⟩
            · rw [← e1, ← e2]; exact cn_1 hsm hs'
            · rw [← e1, ← e2]; exact cn_2 hsm hs'
          have hab := ho.ab him
          have key : ∀ x, bt P x = true → cn_R E (tg_out X i) (en_m E) x p := fun x hx => cn_t (hup (cn_t (cn_s ((h.2.1 x).mp hx)) ((h.2.1 q).mp hq))) hqp
          refine h1'.2.2.2 i him w ?_
          rcases y2 with y2 | y2
          · -- a end is p, so the other end lies in P
            have : bt P (en_b E i) = true := z.resolve_left (fun t => by rw [y2, hp] at t; cases t)
            rw [y2]; exact cn_s (key _ this)
          · have : bt P (en_a E i) = true := z.resolve_right (fun t => by rw [y2, hp] at t; cases t)
            rw [y2]; exact key _ this
    · exact ⟨⟨h1, h2, fun i w z => (h3 i w z).imp id (fun y => ((tg_out_b hs32 i).mp y).1)⟩, hne⟩
end
