/-! The mathematics: walls. A state: how many parts, their places, their shares, of each place its part -/
abbrev wl_S : Type := (Nat × (Nat → Int32)) × ((Nat → Nat) × (Nat → Nat))
def wl_K (A : wl_S) : Nat := A.1.1
def wl_P (A : wl_S) : Nat → Int32 := A.1.2
def wl_H (A : wl_S) : Nat → Nat := A.2.1
def wl_O (A : wl_S) : Nat → Nat := A.2.2
/-- the well, or the lowest tap -/
def wl_rt (E : ma_E) (r : Nat) : Prop := sp_tap E r ∧ (en_k E r = 3 ∨ ((∀ p, p < en_n E → en_k E p ≠ 3) ∧ ∀ p, p < r → ¬ sp_tap E p))
theorem wl_rt_one {E : ma_E} (ho : en_ok E) {r q : Nat} (h : wl_rt E r) (h2 : wl_rt E q) : r = q := by
  rcases h.2 with a | ⟨a1, a2⟩ <;> rcases h2.2 with b | ⟨b1, b2⟩
  · exact ho.well h.1.1 h2.1.1 a b
  · exact absurd a (b1 r h.1.1)
  · exact absurd b (a1 q h2.1.1)
  · rcases Nat.lt_trichotomy r q with w | w | w
    · exact absurd h.1 (b2 r w)
    · exact w
    · exact absurd h2.1 (a2 q w)
def wl_act (E : ma_E) (r : Nat) (A : wl_S) (k : Nat) : Bool := !decide (wl_P A k &&& en_taps E = 0) && !bt (wl_P A k) r
def wl_now (E : ma_E) (A : wl_S) (k : Nat) : Prop := ∃ p, p < en_n E ∧ wl_O A p = k
def wl_some (E : ma_E) (r : Nat) (A : wl_S) : Prop := ∃ p, p < en_n E ∧ wl_act E r A (wl_O A p) = true
def wl_b1 (b : Bool) : Nat := if b = true then 1 else 0
def wl_c (E : ma_E) (r : Nat) (A : wl_S) (s : Nat) : Nat := if bt (en_t E) s = true ∧ wl_O A (en_a E s) ≠ wl_O A (en_b E s) then wl_b1 (wl_act E r A (wl_O A (en_a E s))) + wl_b1 (wl_act E r A (wl_O A (en_b E s))) else 0
def wl_x (E : ma_E) (A : wl_S) (s k : Nat) : Bool := bt (wl_P A k) (en_a E s) ^^ bt (wl_P A k) (en_b E s)
def wl_sum (E : ma_E) (A : wl_S) (s m : Nat) : Nat := fb_sm (fun k => if wl_x E A s k = true then wl_H A k else 0) m
/-- a street that joins its parts -/
def wl_ok (E : ma_E) (r : Nat) (A : wl_S) (s : Nat) : Prop := s < en_m E ∧ 0 < wl_c E r A s ∧ 1024 * en_c E s < wl_sum E A s (wl_K A) + wl_c E r A s
def wl_fst (E : ma_E) (r : Nat) (A : wl_S) (s : Nat) : Prop := wl_ok E r A s ∧ ∀ s', s' < s → ¬ wl_ok E r A s'
def wl_q (E : ma_E) (r : Nat) (A : wl_S) (s : Nat) : Nat := (1024 * en_c E s - wl_sum E A s (wl_K A)) / wl_c E r A s
/-- by how much all grow -/
def wl_min (E : ma_E) (r : Nat) (A : wl_S) (v : Nat) : Prop := (∀ s, ¬ wl_ok E r A s) ∧ (∃ s, s < en_m E ∧ 0 < wl_c E r A s ∧ v = wl_q E r A s) ∧ ∀ s, s < en_m E → 0 < wl_c E r A s → v ≤ wl_q E r A s
def wl_none (E : ma_E) (r : Nat) (A : wl_S) : Prop := ∀ s, s < en_m E → wl_c E r A s = 0
def wl_join (E : ma_E) (A : wl_S) (s : Nat) : wl_S := ((wl_K A + 1, va_up (wl_P A) (wl_K A) (wl_P A (wl_O A (en_a E s)) ||| wl_P A (wl_O A (en_b E s)))), (va_up (wl_H A) (wl_K A) 0, fun p => if wl_O A p = wl_O A (en_a E s) ∨ wl_O A p = wl_O A (en_b E s) then wl_K A else wl_O A p))
noncomputable def wl_grow (E : ma_E) (r : Nat) (A : wl_S) (v : Nat) : wl_S := ((wl_K A, wl_P A), (fun k => if ma_dec (wl_now E A k) = true ∧ wl_act E r A k = true then wl_H A k + v else wl_H A k, wl_O A))
def wl_step (E : ma_E) (r : Nat) (A B : wl_S) : Prop := (∃ s, wl_fst E r A s ∧ B = wl_join E A s) ∨ ∃ v, wl_min E r A v ∧ B = wl_grow E r A v
def wl_run (E : ma_E) (r : Nat) : Nat → wl_S → Int32 → wl_S → Prop
  | 0, A, o, B => B = A ∧ ((¬ wl_some E r A ∧ o = 0) ∨ (wl_some E r A ∧ wl_none E r A ∧ o = -2))
  | j + 1, A, o, B => wl_some E r A ∧ ∃ A1, wl_step E r A A1 ∧ wl_run E r j A1 o B
section
variable {E : ma_E} {r : Nat} {A : wl_S}
theorem wl_fst_one {s s' : Nat} (h : wl_fst E r A s) (h2 : wl_fst E r A s') : s = s' := by
  rcases Nat.lt_trichotomy s s' with w | w | w
  · exact absurd h.1 (h2.2 s w)
  · exact w
  · exact absurd h2.1 (h.2 s' w)
theorem wl_min_one {v v' : Nat} (h : wl_min E r A v) (h2 : wl_min E r A v') : v = v' := by
  obtain ⟨_, ⟨s, a1, a2, a3⟩, a4⟩ := h
  obtain ⟨_, ⟨s', b1, b2, b3⟩, b4⟩ := h2
  have := a4 s' b1 b2
  have := b4 s a1 a2
  omega
theorem wl_step_one {B C : wl_S} (h : wl_step E r A B) (h2 : wl_step E r A C) : B = C := by
  rcases h with ⟨s, h, e⟩ | ⟨v, h, e⟩ <;> rcases h2 with ⟨s', h2, e2⟩ | ⟨v', h2, e2⟩
  · rw [e, e2, wl_fst_one h h2]
  · exact absurd h.1 (h2.1 s)
  · exact absurd h2.1 (h.1 s')
  · rw [e, e2, wl_min_one h h2]
theorem wl_step_some {B : wl_S} (h : wl_step E r A B) : ¬ wl_none E r A := fun q => by
  rcases h with ⟨s, ⟨⟨h1, h2, _⟩, _⟩, _⟩ | ⟨v, ⟨_, ⟨s, h1, h2, _⟩, _⟩, _⟩
  · have := q s h1; omega
  · have := q s h1; omega
theorem wl_run_one : ∀ {j j' : Nat} {A B C : wl_S} {o o' : Int32}, wl_run E r j A o B → wl_run E r j' A o' C → o = o' ∧ B = C
  | 0, 0, A, B, C, o, o', h, h2 => by
    refine ⟨?_, h.1.trans h2.1.symm⟩
    rcases h.2 with ⟨a, e⟩ | ⟨a, b, e⟩ <;> rcases h2.2 with ⟨a', e'⟩ | ⟨a', b', e'⟩
    · rw [e, e']
    · exact absurd a' a
    · exact absurd a a'
    · rw [e, e']
  | 0, j' + 1, A, B, C, o, o', h, h2 => by
    obtain ⟨h3, A1, h4, _⟩ := h2
    rcases h.2 with ⟨a, _⟩ | ⟨_, b, _⟩
    · exact absurd h3 a
    · exact absurd b (wl_step_some h4)
  | j + 1, 0, A, B, C, o, o', h, h2 => by
    obtain ⟨h3, A1, h4, _⟩ := h
    rcases h2.2 with ⟨a, _⟩ | ⟨_, b, _⟩
    · exact absurd h3 a
    · exact absurd b (wl_step_some h4)
  | j + 1, j' + 1, A, B, C, o, o', h, h2 => by
    obtain ⟨_, A1, h4, h5⟩ := h
    obtain ⟨_, A2, h6, h7⟩ := h2
    have := wl_step_one h4 h6
    subst this
    exact wl_run_one h5 h7
end
/-- what holds of a state -/
def wl_I (E : ma_E) (A : wl_S) : Prop := (∀ k, k < wl_K A → ma_lo (wl_P A k) (en_n E) ∧ ¬ wl_P A k = 0) ∧ (∀ p, p < en_n E → wl_O A p < wl_K A ∧ bt (wl_P A (wl_O A p)) p = true) ∧ (∀ p q, p < en_n E → q < en_n E → bt (wl_P A (wl_O A q)) p = true → wl_O A p = wl_O A q) ∧ fb_ct (fun k => ma_dec (wl_now E A k)) (wl_K A) + wl_K A = 2 * en_n E
/-- shares after so many growths -/
def wl_B (A : wl_S) (c : Nat) : Prop := ∀ k, k < wl_K A → wl_H A k ≤ c * 102400
def wl_A0 (E : ma_E) : wl_S := ((en_n E, fun p => (1 : Int32) <<< (nI p &&& 31)), (fun _ => 0, fun p => p))
section
variable {E : ma_E} {r : Nat} {A : wl_S}
theorem wl_I0 (ho : en_ok E) : wl_I E (wl_A0 E) := by
  have hn := ho.n
  refine ⟨fun k hk => ?_, fun p hp => ⟨hp, ?_⟩, fun p q hp hq h => ?_, ?_⟩
  · have hk : k < en_n E := hk
    refine ⟨fun i hi => ?_, fun z => ?_⟩
    · show bt ((1 : Int32) <<< (nI k &&& 31)) i = false
      rw [ma_b1 (by omega), decide_eq_false (by omega)]
    · have : bt ((1 : Int32) <<< (nI k &&& 31)) k = true := by rw [ma_b1 (by omega), decide_eq_true rfl]
      rw [show (1 : Int32) <<< (nI k &&& 31) = 0 from z, b_0] at this
      cases this
  · show bt ((1 : Int32) <<< (nI p &&& 31)) p = true
    rw [ma_b1 (by omega), decide_eq_true rfl]
  · have h : bt ((1 : Int32) <<< (nI q &&& 31)) p = true := h
    rw [ma_b1 (by omega), decide_eq_true_iff] at h
    exact h
  · have : fb_ct (fun k => ma_dec (wl_now E (wl_A0 E) k)) (en_n E) = en_n E := fb_ct_all.mpr (fun k hk => ma_dec_t.mpr ⟨k, hk, rfl⟩)
    show fb_ct (fun k => ma_dec (wl_now E (wl_A0 E) k)) (en_n E) + en_n E = _
    omega
theorem wl_I.iff (h : wl_I E A) {p q : Nat} (hp : p < en_n E) (hq : q < en_n E) : bt (wl_P A (wl_O A q)) p = true ↔ wl_O A p = wl_O A q :=
  ⟨h.2.2.1 p q hp hq, fun e => by rw [← e]; exact (h.2.1 p hp).2⟩
theorem wl_c_pos {s : Nat} (h : 0 < wl_c E r A s) : bt (en_t E) s = true ∧ wl_O A (en_a E s) ≠ wl_O A (en_b E s) := by
  unfold wl_c at h
  by_cases q : bt (en_t E) s = true ∧ wl_O A (en_a E s) ≠ wl_O A (en_b E s)
  · exact q
  · rw [if_neg q] at h; omega
theorem wl_c_le {s : Nat} : wl_c E r A s ≤ 2 := by
  unfold wl_c wl_b1
  split
  · split <;> split <;> omega
  · omega
/-- two more parts to be joined -/
theorem wl_I.room (ho : en_ok E) (h : wl_I E A) {s : Nat} (hs : s < en_m E) (hne : wl_O A (en_a E s) ≠ wl_O A (en_b E s)) : wl_K A + 2 ≤ 2 * en_n E := by
  have ha := ho.a hs
  have hb := ho.b hs
  have ka := (h.2.1 _ ha).1
  have kb := (h.2.1 _ hb).1
  have : 2 ≤ fb_ct (fun k => ma_dec (wl_now E A k)) (wl_K A) := by
    rcases Nat.lt_or_ge (fb_ct (fun k => ma_dec (wl_now E A k)) (wl_K A)) 2 with w | w
    · exfalso
      have hpos : 0 < fb_ct (fun k => ma_dec (wl_now E A k)) (wl_K A) := fb_ct_pos.mpr ⟨_, ka, ma_dec_t.mpr ⟨_, ha, rfl⟩⟩
      have h1 : fb_ct (fun k => ma_dec (wl_now E A k)) (wl_K A) = 1 := by omega
      obtain ⟨i, _, _, i3⟩ := ma_ct_one.mp h1
      exact hne ((i3 _ ka (ma_dec_t.mpr ⟨_, ha, rfl⟩)).trans (i3 _ kb (ma_dec_t.mpr ⟨_, hb, rfl⟩)).symm)
    · exact w
  have := h.2.2.2
  omega
theorem wl_now_lt (h : wl_I E A) {k : Nat} (hk : wl_now E A k) : k < wl_K A := by
  obtain ⟨p, hp, e⟩ := hk
  rw [← e]; exact (h.2.1 p hp).1
theorem wl_I.join (ho : en_ok E) (h : wl_I E A) {s : Nat} (hs : s < en_m E) (hne : wl_O A (en_a E s) ≠ wl_O A (en_b E s)) : wl_I E (wl_join E A s) := by
  have ha := ho.a hs
  have hb := ho.b hs
  have ka := (h.2.1 _ ha).1
  have kb := (h.2.1 _ hb).1
  have hroom := h.room ho hs hne
  -- the new part's places
  have hJ : ∀ p, p < en_n E → (bt (wl_P A (wl_O A (en_a E s)) ||| wl_P A (wl_O A (en_b E s))) p = true ↔ wl_O A p = wl_O A (en_a E s) ∨ wl_O A p = wl_O A (en_b E s)) := fun p hp => by
    rw [b_or, Bool.or_eq_true, h.iff hp ha, h.iff hp hb]
  have eP : ∀ k, k < wl_K A → wl_P (wl_join E A s) k = wl_P A k := fun k hk => if_neg (by omega)
  have eN : wl_P (wl_join E A s) (wl_K A) = wl_P A (wl_O A (en_a E s)) ||| wl_P A (wl_O A (en_b E s)) := if_pos rfl
  have eO : ∀ p, wl_O (wl_join E A s) p = if wl_O A p = wl_O A (en_a E s) ∨ wl_O A p = wl_O A (en_b E s) then wl_K A else wl_O A p := fun p => rfl
  have eK : wl_K (wl_join E A s) = wl_K A + 1 := rfl
  refine ⟨fun k hk => ?_, fun p hp => ?_, fun p q hp hq hb' => ?_, ?_⟩
  · rw [eK] at hk
    by_cases e : k = wl_K A
    · rw [e, eN]
      refine ⟨ma_lo_or (h.1 _ ka).1 (h.1 _ kb).1, fun z => ?_⟩
      have := (hJ _ ha).mpr (Or.inl rfl)
      rw [z, b_0] at this
      cases this
    · rw [eP k (by omega)]
      exact h.1 k (by omega)
  · have hp1 := h.2.1 p hp
    rw [eO, eK]
    by_cases c : wl_O A p = wl_O A (en_a E s) ∨ wl_O A p = wl_O A (en_b E s)
    · rw [if_pos c, eN]
      exact ⟨by omega, (hJ p hp).mpr c⟩
    · rw [if_neg c, eP _ hp1.1]
      exact ⟨by omega, hp1.2⟩
  · have hp1 := h.2.1 p hp
    have hq1 := h.2.1 q hq
    rw [eO q] at hb'
    rw [eO p, eO q]
    by_cases c : wl_O A q = wl_O A (en_a E s) ∨ wl_O A q = wl_O A (en_b E s)
    · rw [if_pos c, eN] at hb'
      rw [if_pos c, if_pos ((hJ p hp).mp hb')]
    · rw [if_neg c, eP _ hq1.1] at hb'
      have e := h.2.2.1 p q hp hq hb'
      rw [if_neg c, if_neg (by rw [e]; exact c), e]
  · rw [eK, fb_ct_succ]
    have enew : ma_dec (wl_now E (wl_join E A s) (wl_K A)) = true := ma_dec_t.mpr ⟨_, ha, by rw [eO]; exact if_pos (Or.inl rfl)⟩
    rw [enew, if_pos rfl]
    -- the two old ones go
    have e1 : fb_ct (fun k => ma_dec (wl_now E (wl_join E A s) k)) (wl_K A) = fb_ct (fun k => if k = wl_O A (en_b E s) then false else (if k = wl_O A (en_a E s) then false else ma_dec (wl_now E A k))) (wl_K A) := by
      refine fb_ct_cong (fun k hk => ?_)
      by_cases c1 : k = wl_O A (en_b E s)
      · rw [if_pos c1]
        refine ma_dec_f.mpr (fun ⟨p, hp, e⟩ => ?_)
        rw [eO] at e
        by_cases c : wl_O A p = wl_O A (en_a E s) ∨ wl_O A p = wl_O A (en_b E s)
        · rw [if_pos c] at e; omega
        · rw [if_neg c] at e; exact c (Or.inr (e.trans c1))
      · rw [if_neg c1]
        by_cases c2 : k = wl_O A (en_a E s)
        · rw [if_pos c2]
          refine ma_dec_f.mpr (fun ⟨p, hp, e⟩ => ?_)
          rw [eO] at e
          by_cases c : wl_O A p = wl_O A (en_a E s) ∨ wl_O A p = wl_O A (en_b E s)
          · rw [if_pos c] at e; omega
          · rw [if_neg c] at e; exact c (Or.inl (e.trans c2))
        · rw [if_neg c2]
          refine ma_dec_c ⟨fun ⟨p, hp, e⟩ => ⟨p, hp, ?_⟩, fun ⟨p, hp, e⟩ => ⟨p, hp, ?_⟩⟩
          · rw [eO] at e
            by_cases c : wl_O A p = wl_O A (en_a E s) ∨ wl_O A p = wl_O A (en_b E s)
            · rw [if_pos c] at e; omega
            · rw [if_neg c] at e; exact e
          · rw [eO, if_neg (by rw [e]; exact fun z => z.elim c2 c1), e]
    have u1 := fb_ct_upd (fun k => ma_dec (wl_now E A k)) false ka
    have u2 := fb_ct_upd (fun k => if k = wl_O A (en_a E s) then false else ma_dec (wl_now E A k)) false kb
    have na : ma_dec (wl_now E A (wl_O A (en_a E s))) = true := ma_dec_t.mpr ⟨_, ha, rfl⟩
    have nb : ma_dec (wl_now E A (wl_O A (en_b E s))) = true := ma_dec_t.mpr ⟨_, hb, rfl⟩
    simp only [na, if_true, Bool.false_eq_true, if_false] at u1
    simp only [if_neg (Ne.symm hne), nb, if_true, Bool.false_eq_true, if_false] at u2
    have := h.2.2.2
    rw [e1]
    omega
theorem wl_I.grow (h : wl_I E A) (v : Nat) : wl_I E (wl_grow E r A v) := h
/-- a share grows, a room falls -/
theorem wl_fall (ho : en_ok E) (h : wl_I E A) {s v : Nat} (hs : s < en_m E) (hc : 0 < wl_c E r A s) : wl_sum E (wl_grow E r A v) s (wl_K A) = wl_sum E A s (wl_K A) + wl_c E r A s * v := by
  have ha := ho.a hs
  have hb := ho.b hs
  have ka := (h.2.1 _ ha).1
  have kb := (h.2.1 _ hb).1
  obtain ⟨ht, hne⟩ := wl_c_pos hc
  have e : wl_sum E (wl_grow E r A v) s (wl_K A) = wl_sum E A s (wl_K A) + fb_sm (fun k => if k = wl_O A (en_b E s) then wl_b1 (wl_act E r A (wl_O A (en_b E s))) * v else (if k = wl_O A (en_a E s) then wl_b1 (wl_act E r A (wl_O A (en_a E s))) * v else 0)) (wl_K A) := by
    unfold wl_sum
    rw [← fb_sm_add]
    refine fb_sm_cong (fun k hk => ?_)
    show (if wl_x E A s k = true then (if ma_dec (wl_now E A k) = true ∧ wl_act E r A k = true then wl_H A k + v else wl_H A k) else 0) = _
    have xa : ∀ q, q < en_n E → bt (wl_P A (wl_O A q)) (en_a E s) = decide (wl_O A (en_a E s) = wl_O A q) := fun q hq => by
      cases e : bt (wl_P A (wl_O A q)) (en_a E s)
      · exact (decide_eq_false (fun z => by rw [(h.iff ha hq).mpr z] at e; cases e)).symm
      · exact (decide_eq_true ((h.iff ha hq).mp e)).symm
    have xb : ∀ q, q < en_n E → bt (wl_P A (wl_O A q)) (en_b E s) = decide (wl_O A (en_b E s) = wl_O A q) := fun q hq => by
      cases e : bt (wl_P A (wl_O A q)) (en_b E s)
      · exact (decide_eq_false (fun z => by rw [(h.iff hb hq).mpr z] at e; cases e)).symm
      · exact (decide_eq_true ((h.iff hb hq).mp e)).symm
    by_cases c1 : k = wl_O A (en_b E s)
    · subst c1
      rw [if_pos rfl]
      have hx : wl_x E A s (wl_O A (en_b E s)) = true := by
        unfold wl_x
        rw [xa _ hb, xb _ hb, decide_eq_false hne, decide_eq_true rfl]; rfl
      rw [if_pos hx, if_pos hx, show ma_dec (wl_now E A (wl_O A (en_b E s))) = true from ma_dec_t.mpr ⟨_, hb, rfl⟩]
      cases wl_act E r A (wl_O A (en_b E s)) <;> simp [wl_b1]
    · rw [if_neg c1]
      by_cases c2 : k = wl_O A (en_a E s)
      · subst c2
        rw [if_pos rfl]
        have hx : wl_x E A s (wl_O A (en_a E s)) = true := by
          unfold wl_x
          rw [xa _ ha, xb _ ha, decide_eq_false (Ne.symm hne), decide_eq_true rfl]; rfl
        rw [if_pos hx, if_pos hx, show ma_dec (wl_now E A (wl_O A (en_a E s))) = true from ma_dec_t.mpr ⟨_, ha, rfl⟩]
        cases wl_act E r A (wl_O A (en_a E s)) <;> simp [wl_b1]
      · rw [if_neg c2, Nat.add_zero]
        by_cases hx : wl_x E A s k = true
        · rw [if_pos hx, if_pos hx, if_neg]
          rintro ⟨q, _⟩
          obtain ⟨p, hp, e⟩ := ma_dec_t.mp q
          subst e
          unfold wl_x at hx
          rw [xa _ hp, xb _ hp, decide_eq_false (Ne.symm c2), decide_eq_false (Ne.symm c1)] at hx
          cases hx
        · rw [if_neg hx, if_neg hx]
  have z : fb_sm (fun _ => 0) (wl_K A) = 0 := by rw [fb_sm_const]; omega
  have u1 := fb_sm_upd (fun _ => 0) (wl_b1 (wl_act E r A (wl_O A (en_a E s))) * v) ka
  have u2 := fb_sm_upd (fun k => if k = wl_O A (en_a E s) then wl_b1 (wl_act E r A (wl_O A (en_a E s))) * v else 0) (wl_b1 (wl_act E r A (wl_O A (en_b E s))) * v) kb
  simp only [if_neg (Ne.symm hne)] at u2
  have e2 : wl_c E r A s = wl_b1 (wl_act E r A (wl_O A (en_a E s))) + wl_b1 (wl_act E r A (wl_O A (en_b E s))) := if_pos ⟨ht, hne⟩
  rw [e, e2, Nat.add_mul]
  omega
/-- behind a growth a street joins -/
theorem wl_ready (ho : en_ok E) (h : wl_I E A) {v : Nat} (hv : wl_min E r A v) : ∃ s, wl_ok E r (wl_grow E r A v) s := by
  obtain ⟨h1, ⟨s, s1, s2, s3⟩, _⟩ := hv
  refine ⟨s, s1, s2, ?_⟩
  have e := wl_fall ho h s1 s2 (v := v)
  show 1024 * en_c E s < wl_sum E (wl_grow E r A v) s (wl_K A) + wl_c E r A s
  rw [e]
  have hno := h1 s
  have hnot : ¬ (1024 * en_c E s < wl_sum E A s (wl_K A) + wl_c E r A s) := fun q => hno ⟨s1, s2, q⟩
  unfold wl_q at s3
  have := Nat.div_add_mod (1024 * en_c E s - wl_sum E A s (wl_K A)) (wl_c E r A s)
  have := Nat.mod_lt (1024 * en_c E s - wl_sum E A s (wl_K A)) s2
  rw [← s3] at *
  omega
theorem wl_min_le (ho : en_ok E) {v : Nat} (hv : wl_min E r A v) : v ≤ 102400 := by
  obtain ⟨_, ⟨s, s1, s2, s3⟩, _⟩ := hv
  have := ho.c2 s1
  have h1 : wl_q E r A s ≤ 1024 * en_c E s - wl_sum E A s (wl_K A) := Nat.div_le_self _ _
  omega
theorem wl_B.grow (ho : en_ok E) {c v : Nat} (h : wl_B A c) (hv : wl_min E r A v) : wl_B (wl_grow E r A v) (c + 1) := fun k hk => by
  have h1 := h k hk
  have h2 := wl_min_le ho hv
  show (if ma_dec (wl_now E A k) = true ∧ wl_act E r A k = true then wl_H A k + v else wl_H A k) ≤ _
  rw [Nat.add_mul, Nat.one_mul]
  generalize c * 102400 = X at h1 ⊢
  split <;> omega
theorem wl_B.join {c s : Nat} (h : wl_B A c) : wl_B (wl_join E A s) (c + 1) := fun k hk => by
  have hk : k < wl_K A + 1 := hk
  show va_up (wl_H A) (wl_K A) 0 k ≤ _
  unfold va_up
  rw [Nat.add_mul, Nat.one_mul]
  split
  · exact Nat.zero_le _
  · exact Nat.le_trans (h k (by omega)) (Nat.le_add_right _ _)
theorem wl_sum_le {c s m : Nat} (h : wl_B A c) (hm : m ≤ wl_K A) : wl_sum E A s m ≤ m * (c * 102400) := fb_sm_bound (fun k hk => by
  have := h k (by omega)
  split <;> omega)
/-- how many steps are left at most -/
def wl_mu (E : ma_E) (r : Nat) (A : wl_S) (t : Nat) : Prop := t + 2 * (2 * en_n E - wl_K A) ≤ 2 * en_n E + 1 ∧ ((∀ s, ¬ wl_ok E r A s) → t + 2 * (2 * en_n E - wl_K A) + 1 ≤ 2 * en_n E + 1)
theorem wl_mu.join (ho : en_ok E) (h : wl_I E A) {t s : Nat} (hm : wl_mu E r A t) (hs : s < en_m E) (hne : wl_O A (en_a E s) ≠ wl_O A (en_b E s)) : wl_mu E r (wl_join E A s) (t + 1) := by
  have h1 := h.room ho hs hne
  have e : wl_K (wl_join E A s) = wl_K A + 1 := rfl
  have := hm.1
  unfold wl_mu
  rw [e]
  omega
theorem wl_mu.grow (ho : en_ok E) (h : wl_I E A) {t v : Nat} (hm : wl_mu E r A t) (hv : wl_min E r A v) : wl_mu E r (wl_grow E r A v) (t + 1) := by
  have h1 := hm.2 hv.1
  obtain ⟨s, hs⟩ := wl_ready ho h hv
  have e : wl_K (wl_grow E r A v) = wl_K A := rfl
  unfold wl_mu
  rw [e]
  refine ⟨by omega, fun q => absurd hs (q s)⟩
end
