/-! The mathematics: how far a place is from a goal -/
/-- a street that is there joins a and p -/
def en_st (E : ma_E) (s a p : Nat) : Prop := s < en_m E ∧ bt (en_t E) s = true ∧ ((en_a E s = a ∧ en_b E s = p) ∨ (en_a E s = p ∧ en_b E s = a))
theorem en_st.sym {E : ma_E} {s a p : Nat} (h : en_st E s a p) : en_st E s p a := ⟨h.1, h.2.1, h.2.2.symm⟩
theorem en_st.l {E : ma_E} (ho : en_ok E) {s a p : Nat} (h : en_st E s a p) : a < en_n E := by
  have h1 := ho.a h.1
  have h2 := ho.b h.1
  rcases h.2.2 with q | q <;> omega
theorem en_st.r {E : ma_E} (ho : en_ok E) {s a p : Nat} (h : en_st E s a p) : p < en_n E := en_st.l ho h.sym
theorem en_st.ne {E : ma_E} (ho : en_ok E) {s a p : Nat} (h : en_st E s a p) : a ≠ p := by
  have h1 := ho.ab h.1
  rcases h.2.2 with q | q <;> omega
def en_q (E : ma_E) (b p : Nat) : Nat := if p = b then 0 else en_pr E p
abbrev ds_F : Nat := 100000000
/-- v is the sum of a walk from a to the goal b -/
def ds_W (E : ma_E) (b a v : Nat) : Prop := ∀ P : Nat → Nat → Prop, P b 0 → (∀ s x p u, en_st E s x p → x ≠ b → P p u → P x (en_c E s + en_q E b p + u)) → P a v
section
variable {E : ma_E} {b : Nat}
theorem ds_W0 : ds_W E b b 0 := fun _ h _ => h
theorem ds_Ws {s x p u : Nat} (h : en_st E s x p) (hx : x ≠ b) (hp : ds_W E b p u) : ds_W E b x (en_c E s + en_q E b p + u) := fun P h0 hs => hs s x p u h hx (hp P h0 hs)
theorem ds_inv {a v : Nat} (h : ds_W E b a v) : (a = b ∧ v = 0) ∨ ∃ s p u, en_st E s a p ∧ a ≠ b ∧ ds_W E b p u ∧ v = en_c E s + en_q E b p + u := by
  have := h (fun x u => ds_W E b x u ∧ ((x = b ∧ u = 0) ∨ ∃ s p w, en_st E s x p ∧ x ≠ b ∧ ds_W E b p w ∧ u = en_c E s + en_q E b p + w)) ⟨ds_W0, Or.inl ⟨rfl, rfl⟩⟩ (fun s x p u hs hx hp => ⟨ds_Ws hs hx hp.1, Or.inr ⟨s, p, u, hs, hx, hp.1, rfl⟩⟩)
  exact this.2
/-- d is how far each place is -/
def ds_is (E : ma_E) (b : Nat) (d : Nat → Nat) : Prop := d b = 0 ∧ (∀ a, d a ≤ ds_F) ∧ (∀ s a p, en_st E s a p → a ≠ b → d a ≤ en_c E s + en_q E b p + d p) ∧ (∀ a, a ≠ b → d a < ds_F → ∃ s p, en_st E s a p ∧ d a = en_c E s + en_q E b p + d p) ∧ (∀ a u, ds_W E b a u → d a ≤ u) ∧ (∀ a, d a < ds_F → ds_W E b a (d a))
theorem ds_one (a : Nat) : ∃ v, (ds_W E b a v ∧ v < ds_F ∧ ∀ u, ds_W E b a u → v ≤ u) ∨ (v = ds_F ∧ ∀ u, ds_W E b a u → ds_F ≤ u) := by
  by_cases h : ∃ v, ds_W E b a v ∧ v < ds_F
  · obtain ⟨v, h1, h2⟩ := pk_least (fun v => ds_W E b a v ∧ v < ds_F) h
    refine ⟨v, Or.inl ⟨h1.1, h1.2, fun u hu => ?_⟩⟩
    rcases Nat.lt_or_ge u v with q | q
    · exact absurd ⟨hu, Nat.lt_trans q h1.2⟩ (h2 u q)
    · exact q
  · refine ⟨ds_F, Or.inr ⟨rfl, fun u hu => ?_⟩⟩
    rcases Nat.lt_or_ge u ds_F with q | q
    · exact absurd ⟨u, hu, q⟩ h
    · exact q
theorem ds_ex (E : ma_E) (b : Nat) : ∃ d, ds_is E b d := by
  obtain ⟨d, hc⟩ := Classical.axiomOfChoice (ds_one (E := E) (b := b))
  refine ⟨d, ?_⟩
  have h5 : ∀ a u, ds_W E b a u → d a ≤ u := fun a u hu => by
    rcases hc a with q | q
    · exact q.2.2 u hu
    · rw [q.1]; exact q.2 u hu
  have h2 : ∀ a, d a ≤ ds_F := fun a => by
    rcases hc a with q | q
    · omega
    · omega
  have h6 : ∀ a, d a < ds_F → ds_W E b a (d a) := fun a ha => by
    rcases hc a with q | q
    · exact q.1
    · omega
  have h3 : ∀ s a p, en_st E s a p → a ≠ b → d a ≤ en_c E s + en_q E b p + d p := fun s a p hs hab => by
    by_cases q : d p < ds_F
    · exact h5 a _ (ds_Ws hs hab (h6 p q))
    · have := h2 a
      omega
  refine ⟨Nat.le_zero.mp (h5 b 0 ds_W0), h2, h3, fun a hab ha => ?_, h5, h6⟩
  rcases ds_inv (h6 a ha) with q | ⟨s, p, u, hs, _, hu, e⟩
  · exact absurd q.1 hab
  · refine ⟨s, p, hs, ?_⟩
    have a1 := h3 s a p hs hab
    have a2 := h5 p u hu
    omega
end
noncomputable def ds_d (E : ma_E) (b : Nat) : Nat → Nat := Classical.choose (ds_ex E b)
theorem ds_sp (E : ma_E) (b : Nat) : ds_is E b (ds_d E b) := Classical.choose_spec (ds_ex E b)
theorem ds_0 (E : ma_E) (b : Nat) : ds_d E b b = 0 := (ds_sp E b).1
theorem ds_le (E : ma_E) (b a : Nat) : ds_d E b a ≤ ds_F := (ds_sp E b).2.1 a
theorem ds_tri {E : ma_E} {b s a p : Nat} (h : en_st E s a p) (hab : a ≠ b) : ds_d E b a ≤ en_c E s + en_q E b p + ds_d E b p := (ds_sp E b).2.2.1 s a p h hab
theorem ds_by {E : ma_E} {b a : Nat} (hab : a ≠ b) (h : ds_d E b a < ds_F) : ∃ s p, en_st E s a p ∧ ds_d E b a = en_c E s + en_q E b p + ds_d E b p := (ds_sp E b).2.2.2.1 a hab h
/-- both ways it is as far -/
theorem ds_half (E : ma_E) (a b : Nat) : ds_d E a b ≤ ds_d E b a := by
  have key : ∀ v, ds_W E b a v → ds_d E a b ≤ v := by
    intro v hv
    have := hv (fun x u => (x = b ∧ u = 0) ∨ (x ≠ b ∧ ds_d E a b ≤ u + (if x = a then 0 else en_pr E x + ds_d E a x))) (Or.inl ⟨rfl, rfl⟩) (by
      intro s x p u hs hx hp
      refine Or.inr ⟨hx, ?_⟩
      have tl : ∀ y z, en_st E s z y → z ≠ a → ds_d E a z ≤ en_c E s + (if y = a then 0 else en_pr E y + ds_d E a y) := by
        intro y z h1 h2
        have := ds_tri h1 h2
        unfold en_q at this
        by_cases q : y = a
        · rw [if_pos q] at this ⊢
          subst q
          rw [ds_0] at this
          omega
        · rw [if_neg q] at this ⊢
          omega
      rcases hp with ⟨q1, q2⟩ | ⟨q1, q2⟩
      · subst q1 q2
        by_cases hb : p = a
        · subst hb; rw [ds_0]; omega
        · have := tl x p hs.sym hb
          omega
      · have e : en_q E b p = en_pr E p := if_neg q1
        rw [e]
        by_cases hb : p = a
        · rw [if_pos hb] at q2; omega
        · rw [if_neg hb] at q2
          have := tl x p hs.sym hb
          omega)
    rcases this with ⟨q1, q2⟩ | ⟨_, q⟩
    · subst q1; rw [ds_0]; omega
    · rw [if_pos rfl] at q; omega
  by_cases h : ds_d E b a < ds_F
  · exact key _ ((ds_sp E b).2.2.2.2.2 a h)
  · have := ds_le E a b
    omega
theorem ds_sym (E : ma_E) (a b : Nat) : ds_d E a b = ds_d E b a := Nat.le_antisymm (ds_half E a b) (ds_half E b a)
/-! rank: how many places are nearer -/
theorem ma_ct_lt {p q : Nat → Bool} : ∀ {n : Nat}, (∀ k, k < n → p k = true → q k = true) → (∃ j, j < n ∧ q j = true ∧ p j = false) → fb_ct p n < fb_ct q n
  | 0, _, h => by obtain ⟨j, h, _⟩ := h; omega
  | n + 1, h, ⟨j, h1, h2, h3⟩ => by
    rw [fb_ct_succ, fb_ct_succ]
    by_cases e : j = n
    · subst e
      have := fb_ct_sub (p := p) (q := q) (n := j) (fun k hk => h k (by omega))
      rw [h2, h3]
      simp
      omega
    · have := ma_ct_lt (p := p) (q := q) (n := n) (fun k hk => h k (by omega)) ⟨j, by omega, h2, h3⟩
      have h4 := h n (by omega)
      cases hp : p n <;> cases hq : q n <;> simp_all <;> omega
def ds_rk (E : ma_E) (d : Nat → Nat) (a : Nat) : Nat := fb_ct (fun q => decide (d q < d a)) (en_n E)
theorem ds_rk_lt {E : ma_E} {d : Nat → Nat} {a p : Nat} (hp : p < en_n E) (h : d p < d a) : ds_rk E d p < ds_rk E d a := by
  refine ma_ct_lt (fun k _ q => ?_) ⟨p, hp, decide_eq_true h, decide_eq_false (Nat.lt_irrefl _)⟩
  exact decide_eq_true (Nat.lt_trans (of_decide_eq_true q) h)
theorem ds_rk_n {E : ma_E} {d : Nat → Nat} {a : Nat} (ha : a < en_n E) : ds_rk E d a < en_n E := by
  rcases Nat.lt_or_ge (ds_rk E d a) (en_n E) with q | q
  · exact q
  · have h1 : ds_rk E d a = en_n E := Nat.le_antisymm (fb_ct_le _ _) q
    have := fb_ct_all.mp h1 a ha
    exact absurd (of_decide_eq_true this) (Nat.lt_irrefl _)
/-! coming nearer, round by round -/
/-- f lies above how far it is, and is right for the r nearest -/
def ds_B (E : ma_E) (b r : Nat) (f : Nat → Nat) : Prop := f b = 0 ∧ (∀ a, a < en_n E → ds_d E b a ≤ f a ∧ f a ≤ ds_F) ∧ (∀ a, a < en_n E → ds_rk E (ds_d E b) a ≤ r → f a = ds_d E b a)
section
variable {E : ma_E} {b r : Nat} {f : Nat → Nat}
/-- one place comes nearer by a sum that is not too low -/
theorem ds_B.put (h : ds_B E b r f) {a v : Nat} (ha : a ≠ b) (h1 : ds_d E b a ≤ v) (h2 : v < f a) : ds_B E b r (va_up f a v) := by
  have e : ∀ x, x ≠ a → va_up f a v x = f x := fun x hx => if_neg hx
  have e2 : va_up f a v a = v := if_pos rfl
  refine ⟨by rw [e b (Ne.symm ha)]; exact h.1, fun x hx => ?_, fun x hx hr => ?_⟩
  · by_cases q : x = a
    · subst q
      rw [e2]
      have := h.2.1 x hx
      omega
    · rw [e x q]; exact h.2.1 x hx
  · by_cases q : x = a
    · subst q
      rw [e2]
      have h3 := h.2.2 x hx hr
      omega
    · rw [e x q]; exact h.2.2 x hx hr
/-- a round is through -/
theorem ds_B.next (ho : en_ok E) (h : ds_B E b r f) (hx : ∀ s a p, en_st E s a p → a ≠ b → ds_rk E (ds_d E b) p ≤ r → f a ≤ en_c E s + en_q E b p + ds_d E b p) : ds_B E b (r + 1) f := by
  refine ⟨h.1, h.2.1, fun a ha hr => ?_⟩
  have h1 := h.2.1 a ha
  by_cases hab : a = b
  · subst hab; rw [h.1, ds_0]
  · by_cases hF : ds_d E b a < ds_F
    · obtain ⟨s, p, hs, e⟩ := ds_by hab hF
      have c1 := ho.c1 hs.1
      have := ds_rk_lt (d := ds_d E b) (en_st.r ho hs) (a := a) (by omega)
      have := hx s a p hs hab (by omega)
      omega
    · have := ds_le E b a
      omega
theorem ds_B.all (h : ds_B E b r f) (hr : en_n E ≤ r + 1) {a : Nat} (ha : a < en_n E) : f a = ds_d E b a := by
  have := ds_rk_n (d := ds_d E b) ha
  exact h.2.2 a ha (by omega)
/-- nothing fell: it is right -/
theorem ds_B.done (ho : en_ok E) (h : ds_B E b r f) (hx : ∀ s a p, en_st E s a p → a ≠ b → f a ≤ en_c E s + en_q E b p + f p) : ∀ a, a < en_n E → f a = ds_d E b a := by
  have key : ∀ v a, a < en_n E → ds_d E b a = v → f a = v := by
    intro v
    induction v using Nat.strongRecOn with
    | ind v ih =>
      intro a ha e
      have h1 := h.2.1 a ha
      by_cases hab : a = b
      · subst hab; rw [h.1, ← e, ds_0]
      · by_cases hF : ds_d E b a < ds_F
        · obtain ⟨s, p, hs, e2⟩ := ds_by hab hF
          have c1 := ho.c1 hs.1
          have := ih (ds_d E b p) (by omega) p (en_st.r ho hs) rfl
          have := hx s a p hs hab
          omega
        · have := ds_le E b a
          omega
  exact fun a ha => key _ a ha rfl
/-- the start -/
theorem ds_B0 (ho : en_ok E) (hb : b < en_n E) (h0 : f b = 0) (h1 : ∀ a, a < en_n E → a ≠ b → f a = ds_F) : ds_B E b 0 f := by
  refine ⟨h0, fun a ha => ?_, fun a ha hr => ?_⟩
  · by_cases q : a = b
    · subst q; rw [h0, ds_0]; omega
    · rw [h1 a ha q]; exact ⟨ds_le E b a, Nat.le_refl _⟩
  · by_cases q : a = b
    · subst q; rw [h0, ds_0]
    · exfalso
      have z : ds_rk E (ds_d E b) a = 0 := Nat.le_zero.mp hr
      have := fb_ct_zero.mp z b hb
      have : ¬ ds_d E b b < ds_d E b a := of_decide_eq_false this
      rw [ds_0] at this
      by_cases hF : ds_d E b a < ds_F
      · obtain ⟨s, p, hs, e⟩ := ds_by q hF
        have := ho.c1 hs.1
        omega
      · have : 0 < ds_F := by decide
        omega
end
