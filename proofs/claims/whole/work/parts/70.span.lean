/-! The mathematics: the span. Any way of joining the nearest has the same sum: for each t, how many picks lie above t is how many groups of taps (joined by ways up to t) have been met, less one -/
noncomputable def ma_dec (P : Prop) : Bool := @decide P (Classical.propDecidable P)
theorem ma_dec_t {P : Prop} : ma_dec P = true ↔ P := @decide_eq_true_iff P (Classical.propDecidable P)
theorem ma_dec_f {P : Prop} : ma_dec P = false ↔ ¬ P := @decide_eq_false_iff_not P (Classical.propDecidable P)
theorem ma_dec_c {P Q : Prop} (h : P ↔ Q) : ma_dec P = ma_dec Q := by
  by_cases q : Q
  · rw [ma_dec_t.mpr q, ma_dec_t.mpr (h.mpr q)]
  · rw [ma_dec_f.mpr q, ma_dec_f.mpr (fun p => q (h.mp p))]
def sp_tap (E : ma_E) (p : Nat) : Prop := p < en_n E ∧ en_tap E p = true
def sp_R (E : ma_E) (t x y : Nat) : Prop := ∀ P : Nat → Prop, P x → (∀ a b, sp_tap E a → sp_tap E b → ds_d E b a ≤ t → P a → P b) → P y
section
variable {E : ma_E} {t : Nat}
theorem sp_R0 {x : Nat} : sp_R E t x x := fun _ h _ => h
theorem sp_R1 {a b : Nat} (ha : sp_tap E a) (hb : sp_tap E b) (h : ds_d E b a ≤ t) : sp_R E t a b := fun _ h0 hs => hs a b ha hb h h0
theorem sp_Rt {x y z : Nat} (h : sp_R E t x y) (h2 : sp_R E t y z) : sp_R E t x z := fun P h0 hs => h2 P (h P h0 hs) hs
theorem sp_Rs {x y : Nat} (h : sp_R E t x y) : sp_R E t y x :=
  h (fun z => sp_R E t z x) sp_R0 (fun a b ha hb hd hR => sp_Rt (sp_R1 hb ha (by rw [ds_sym]; exact hd)) hR)
theorem sp_Rin {x y : Nat} (hx : x < en_n E) (h : sp_R E t x y) : y < en_n E := h (fun z => z < en_n E) hx (fun _ _ _ hb _ _ => hb.1)
/-- how many groups a set meets -/
noncomputable def sp_C (E : ma_E) (t : Nat) (S : Nat → Prop) : Nat := fb_ct (fun z => ma_dec ((∀ y, y < z → ¬ sp_R E t y z) ∧ ∃ x, S x ∧ sp_R E t x z)) (en_n E)
theorem sp_rep (x : Nat) : ∃ z, sp_R E t x z ∧ ∀ y, y < z → ¬ sp_R E t y z := by
  obtain ⟨z, h1, h2⟩ := pk_least (fun z => sp_R E t x z) ⟨x, sp_R0⟩
  exact ⟨z, h1, fun y hy q => h2 y hy (sp_Rt h1 (sp_Rs q))⟩
theorem sp_C_old {S : Nat → Prop} {x y : Nat} (hy : S y) (h : sp_R E t y x) : sp_C E t (fun z => S z ∨ z = x) = sp_C E t S := by
  refine fb_ct_cong (fun z _ => ma_dec_c ?_)
  constructor
  · rintro ⟨h1, u, hu, hr⟩
    refine ⟨h1, ?_⟩
    rcases hu with hu | hu
    · exact ⟨u, hu, hr⟩
    · subst hu; exact ⟨y, hy, sp_Rt h hr⟩
  · rintro ⟨h1, u, hu, hr⟩
    exact ⟨h1, u, Or.inl hu, hr⟩
theorem sp_C_new {S : Nat → Prop} {x : Nat} (hx : x < en_n E) (h : ∀ y, S y → ¬ sp_R E t y x) : sp_C E t (fun z => S z ∨ z = x) = sp_C E t S + 1 := by
  obtain ⟨r, h1, h2⟩ := sp_rep (E := E) (t := t) x
  have hr := sp_Rin hx h1
  have e : sp_C E t (fun z => S z ∨ z = x) = fb_ct (fun z => if z = r then true else ma_dec ((∀ y, y < z → ¬ sp_R E t y z) ∧ ∃ x, S x ∧ sp_R E t x z)) (en_n E) := by
    refine fb_ct_cong (fun z _ => ?_)
    by_cases q : z = r
    · rw [if_pos q]
      subst q
      exact ma_dec_t.mpr ⟨h2, x, Or.inr rfl, h1⟩
    · rw [if_neg q]
      refine ma_dec_c ⟨?_, ?_⟩
      · rintro ⟨a1, u, hu, hr⟩
        refine ⟨a1, ?_⟩
        rcases hu with hu | hu
        · exact ⟨u, hu, hr⟩
        · subst hu
          exfalso
          have zr : sp_R E t z r := sp_Rt (sp_Rs hr) h1
          rcases Nat.lt_trichotomy z r with w | w | w
          · exact h2 z w zr
          · exact q w
          · exact a1 r w (sp_Rs zr)
      · rintro ⟨a1, u, hu, hr⟩
        exact ⟨a1, u, Or.inl hu, hr⟩
  have f : ma_dec ((∀ y, y < r → ¬ sp_R E t y r) ∧ ∃ x, S x ∧ sp_R E t x r) = false := ma_dec_f.mpr (fun ⟨_, u, hu, hr⟩ => h u hu (sp_Rt hr (sp_Rs h1)))
  have := fb_ct_upd (fun z => ma_dec ((∀ y, y < z → ¬ sp_R E t y z) ∧ ∃ x, S x ∧ sp_R E t x z)) true hr
  rw [← e] at this
  simp only [f] at this
  unfold sp_C at this ⊢
  simpa using this
theorem sp_C_one {x : Nat} (hx : x < en_n E) : sp_C E t (fun z => z = x) = 1 := by
  have h0 : sp_C E t (fun _ => False) = 0 := fb_ct_zero.mpr (fun k _ => ma_dec_f.mpr (fun ⟨_, u, hu, _⟩ => hu))
  have h1 := sp_C_new (E := E) (t := t) (S := fun _ => False) hx (fun _ h => absurd h id)
  rw [h0] at h1
  have : (fun z => False ∨ z = x) = (fun z => z = x) := funext fun z => propext ⟨fun h => h.resolve_left id, Or.inr⟩
  rw [this] at h1
  exact h1
end
theorem sp_sum_lt (v : Nat) : ∀ F, fb_sm (fun t => if t < v then 1 else 0) F = if F ≤ v then F else v
  | 0 => by rw [if_pos (Nat.zero_le _)]; rfl
  | F + 1 => by
    rw [fb_sm_succ, sp_sum_lt v F]
    by_cases h : F + 1 ≤ v
    · rw [if_pos (by omega), if_pos h, if_pos (by omega)]
    · rw [if_neg h]
      by_cases h2 : F ≤ v
      · rw [if_pos h2, if_neg (by omega)]; omega
      · rw [if_neg h2, if_neg (by omega)]; omega
/-- what has been joined so far, with its sum -/
def sp_I (E : ma_E) (F root : Nat) (S : Nat → Prop) (sum : Nat) : Prop := S root ∧ (∀ x, S x → sp_tap E x) ∧ (∀ x, S x → sp_R E (F - 1) root x) ∧ sum + F = fb_sm (fun t => sp_C E t S) F
section
variable {E : ma_E} {F root : Nat} {S : Nat → Prop} {sum : Nat}
theorem sp_I0 (h : sp_tap E root) : sp_I E F root (fun z => z = root) 0 := by
  refine ⟨rfl, fun x hx => ?_, fun x hx => ?_, ?_⟩
  · subst hx; exact h
  · subst hx; exact sp_R0
  · rw [fb_sm_cong (g := fun _ => 1) (fun k _ => sp_C_one h.1), fb_sm_const]
    omega
theorem sp_I.cong (h : sp_I E F root S sum) {S' : Nat → Prop} (e : ∀ x, S' x ↔ S x) : sp_I E F root S' sum := by
  have : S' = S := funext fun x => propext (e x)
  rw [this]; exact h
theorem sp_pick (h : sp_I E F root S sum) {x y v : Nat} (hx : sp_tap E x) (hS : ¬ S x) (hy : S y) (hv : ds_d E y x = v) (hF : v < F) (hmin : ∀ a b, sp_tap E a → ¬ S a → S b → v ≤ ds_d E b a) : sp_I E F root (fun z => S z ∨ z = x) (sum + v) := by
  obtain ⟨h1, h2, h3, h4⟩ := h
  have hR : ∀ t, v ≤ t → sp_R E t y x := fun t ht => sp_R1 (h2 y hy) hx (by rw [ds_sym, hv]; exact ht)
  · refine ⟨Or.inl h1, fun z hz => ?_, fun z hz => ?_, ?_⟩
    · rcases hz with hz | hz
      · exact h2 z hz
      · subst hz; exact hx
    · rcases hz with hz | hz
      · exact h3 z hz
      · subst hz; exact sp_Rt (h3 y hy) (hR _ (by omega))
    · have e : fb_sm (fun t => sp_C E t (fun z => S z ∨ z = x)) F = fb_sm (fun t => sp_C E t S + (if t < v then 1 else 0)) F := by
        refine fb_sm_cong (fun t _ => ?_)
        by_cases q : t < v
        · rw [if_pos q]
          refine sp_C_new hx.1 (fun u hu hr => hS ?_)
          refine hr S hu (fun a b ha hb hd hSa => ?_)
          refine Classical.byContradiction fun hSb => ?_
          have := hmin b a hb hSb hSa
          rw [ds_sym] at this
          omega
        · rw [if_neg q]
          exact sp_C_old hy (hR t (by omega))
      rw [e, fb_sm_add, ← h4, sp_sum_lt, if_neg (by omega)]
      omega
end
/-- the answer of span -/
def sp_ans (E : ma_E) (F : Nat) (r : Int32) : Prop := ((∀ p, ¬ sp_tap E p) ∧ r = -1000000) ∨ ∃ root, sp_tap E root ∧ (∀ p, p < root → ¬ sp_tap E p) ∧ (((∃ x, sp_tap E x ∧ ¬ sp_R E (F - 1) root x) ∧ r = -1000000) ∨ ((∀ x, sp_tap E x → sp_R E (F - 1) root x) ∧ ∃ sum, r = nI sum ∧ sum + F = fb_sm (fun t => sp_C E t (sp_tap E)) F))
theorem sp_ans_one {E : ma_E} {F : Nat} {r q : Int32} (h : sp_ans E F r) (h2 : sp_ans E F q) : r = q := by
  rcases h with ⟨a1, a2⟩ | ⟨x, a1, a2, a3⟩
  · rcases h2 with ⟨b1, b2⟩ | ⟨y, b1, _⟩
    · rw [a2, b2]
    · exact absurd b1 (a1 y)
  · rcases h2 with ⟨b1, b2⟩ | ⟨y, b1, b2, b3⟩
    · exact absurd a1 (b1 x)
    · have e : x = y := by
        rcases Nat.lt_trichotomy x y with w | w | w
        · exact absurd a1 (b2 x w)
        · exact w
        · exact absurd b1 (a2 y w)
      subst e
      rcases a3 with ⟨⟨u, u1, u2⟩, a4⟩ | ⟨a3, s, a4, a5⟩
      · rcases b3 with ⟨_, b4⟩ | ⟨b3, _⟩
        · rw [a4, b4]
        · exact absurd (b3 u u1) u2
      · rcases b3 with ⟨⟨u, u1, u2⟩, _⟩ | ⟨b3, s2, b4, b5⟩
        · exact absurd (a3 u u1) u2
        · rw [a4, b4, show s = s2 by omega]
theorem sp_end {E : ma_E} {F root sum : Nat} {S : Nat → Prop} (h : sp_I E F root S sum) (hr : ∀ p, p < root → ¬ sp_tap E p) (hall : ∀ x, sp_tap E x → S x) : sp_ans E F (nI sum) := by
  have e : ∀ x, sp_tap E x ↔ S x := fun x => ⟨hall x, h.2.1 x⟩
  have h := h.cong e
  exact Or.inr ⟨root, h.1, hr, Or.inr ⟨h.2.2.1, sum, rfl, h.2.2.2⟩⟩
theorem sp_stuck {E : ma_E} {F root sum : Nat} {S : Nat → Prop} (h : sp_I E F root S sum) (hr : ∀ p, p < root → ¬ sp_tap E p) {x : Nat} (hx : sp_tap E x) (hS : ¬ S x) (hF0 : 0 < F) (hF : ∀ a b, sp_tap E a → ¬ S a → S b → F ≤ ds_d E b a) : sp_ans E F (-1000000) := by
  refine Or.inr ⟨root, h.2.1 root h.1, hr, Or.inl ⟨⟨x, hx, fun hR => hS ?_⟩, rfl⟩⟩
  refine hR S h.1 (fun a b ha hb hd hSa => ?_)
  refine Classical.byContradiction fun hSb => ?_
  have := hF b a hb hSb hSa
  rw [ds_sym] at this
  omega
