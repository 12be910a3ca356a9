/-! The mathematics: the trees put in order -/
/-- the one that has the lowest street that is in just one of them stands ahead -/
def ah (X Y : Int32) : Prop := ∃ s, s < 16 ∧ (∀ i, i < s → bt X i = bt Y i) ∧ bt X s = true ∧ bt Y s = false
theorem ah_irr {X : Int32} (h : ah X X) : False := by
  obtain ⟨s, _, _, h1, h2⟩ := h
  rw [h1] at h2; cases h2
theorem ah_tr {X Y Z : Int32} (h : ah X Y) (h2 : ah Y Z) : ah X Z := by
  obtain ⟨s, s1, s2, s3, s4⟩ := h
  obtain ⟨t, t1, t2, t3, t4⟩ := h2
  rcases Nat.lt_trichotomy s t with w | w | w
  · exact ⟨s, s1, fun i hi => (s2 i hi).trans (t2 i (by omega)), s3, (t2 s w) ▸ s4⟩
  · subst w; rw [s4] at t3; cases t3
  · exact ⟨t, t1, fun i hi => (s2 i (by omega)).trans (t2 i hi), (s2 t w).trans t3, t4⟩
theorem ah_tri {X Y : Int32} (hX : ma_lo X 16) (hY : ma_lo Y 16) (h : X ≠ Y) : ah X Y ∨ ah Y X := by
  obtain ⟨s, hs, hmin⟩ := pk_least (fun s => bt X s ≠ bt Y s) (Classical.byContradiction fun q => h (b_ext fun i _ => Classical.byContradiction fun z => q ⟨i, z⟩))
  have hmin' : ∀ i, i < s → bt X i = bt Y i := fun i hi => Classical.byContradiction fun z => hmin i hi z
  have s16 : s < 16 := by
    rcases Nat.lt_or_ge s 16 with w | w
    · exact w
    · rw [hX s w, hY s w] at hs; exact absurd rfl hs
  cases e1 : bt X s <;> cases e2 : bt Y s
  · rw [e1, e2] at hs; exact absurd rfl hs
  · exact Or.inr ⟨s, s16, fun i hi => (hmin' i hi).symm, e2, e1⟩
  · exact Or.inl ⟨s, s16, hmin', e1, e2⟩
  · rw [e1, e2] at hs; exact absurd rfl hs
/-- two rows in order with the same members are the same -/
theorem ah_eq : ∀ {l l' : List Int32}, l.Pairwise ah → l'.Pairwise ah → (∀ X, X ∈ l ↔ X ∈ l') → l = l'
  | [], [], _, _, _ => rfl
  | [], Y :: l', _, _, h => by have := (h Y).mpr (by simp); cases this
  | X :: l, [], _, _, h => by have := (h X).mp (by simp); cases this
  | X :: l, Y :: l', h1, h2, h => by
    rw [List.pairwise_cons] at h1 h2
    have e : X = Y := by
      have hX := (h X).mp (by simp)
      have hY := (h Y).mpr (by simp)
      rw [List.mem_cons] at hX hY
      rcases hX with hX | hX
      · exact hX
      · rcases hY with hY | hY
        · exact hY.symm
        · exact (ah_irr (ah_tr (h1.1 Y hY) (h2.1 X hX))).elim
    subst e
    have : l = l' := ah_eq h1.2 h2.2 (fun Z => by
      have hz := h Z
      rw [List.mem_cons, List.mem_cons] at hz
      constructor
      · intro q
        rcases hz.mp (Or.inr q) with w | w
        · rw [w] at q; exact (ah_irr (h1.1 X q)).elim
        · exact w
      · intro q
        rcases hz.mpr (Or.inr q) with w | w
        · rw [w] at q; exact (ah_irr (h2.1 X q)).elim
        · exact w)
    rw [this]
def sg_in (a b i : Nat) : Prop := a ≤ i ∧ i < b
/-- a stretch holds the same, each once -/
def sg_pm (a b : Nat) (f f' : Nat → Int32) : Prop := (∀ i, ¬ sg_in a b i → f' i = f i) ∧ (∀ i, sg_in a b i → ∃ j, sg_in a b j ∧ f' i = f j) ∧ (∀ i, sg_in a b i → ∃ j, sg_in a b j ∧ f i = f' j) ∧ ((∀ i j, sg_in a b i → sg_in a b j → f i = f j → i = j) → ∀ i j, sg_in a b i → sg_in a b j → f' i = f' j → i = j)
theorem sg_pm.rf (a b : Nat) (f : Nat → Int32) : sg_pm a b f f := ⟨fun _ _ => rfl, fun i h => ⟨i, h, rfl⟩, fun i h => ⟨i, h, rfl⟩, fun h => h⟩
theorem sg_pm.t {a b : Nat} {f g h : Nat → Int32} (h1 : sg_pm a b f g) (h2 : sg_pm a b g h) : sg_pm a b f h :=
  ⟨fun i q => (h2.1 i q).trans (h1.1 i q), fun i q => by
    obtain ⟨j, j1, j2⟩ := h2.2.1 i q
    obtain ⟨k, k1, k2⟩ := h1.2.1 j j1
    exact ⟨k, k1, j2.trans k2⟩, fun i q => by
    obtain ⟨j, j1, j2⟩ := h1.2.2.1 i q
    obtain ⟨k, k1, k2⟩ := h2.2.2.1 j j1
    exact ⟨k, k1, j2.trans k2⟩, fun q => h2.2.2.2 (h1.2.2.2 q)⟩
/-- a stretch within a stretch -/
theorem sg_pm.up {a b c d : Nat} {f f' : Nat → Int32} (h : sg_pm c d f f') (h1 : a ≤ c) (h2 : d ≤ b) : sg_pm a b f f' := by
  have sub : ∀ i, sg_in c d i → sg_in a b i := fun i q => ⟨by have := q.1; omega, by have := q.2; omega⟩
  refine ⟨fun i q => h.1 i (fun z => q (sub i z)), fun i q => ?_, fun i q => ?_, fun q i j hi hj e => ?_⟩
  · by_cases z : sg_in c d i
    · obtain ⟨j, j1, j2⟩ := h.2.1 i z
      exact ⟨j, sub j j1, j2⟩
    · exact ⟨i, q, h.1 i z⟩
  · by_cases z : sg_in c d i
    · obtain ⟨j, j1, j2⟩ := h.2.2.1 i z
      exact ⟨j, sub j j1, j2⟩
    · exact ⟨i, q, (h.1 i z).symm⟩
  · by_cases zi : sg_in c d i
    · by_cases zj : sg_in c d j
      · exact h.2.2.2 (fun x y hx hy e => q x y (sub x hx) (sub y hy) e) i j zi zj e
      · exfalso
        obtain ⟨k, k1, k2⟩ := h.2.1 i zi
        rw [h.1 j zj, k2] at e
        have := q k j (sub k k1) hj e
        exact zj (this ▸ k1)
    · by_cases zj : sg_in c d j
      · exfalso
        obtain ⟨k, k1, k2⟩ := h.2.1 j zj
        rw [h.1 i zi, k2] at e
        have := q i k hi (sub k k1) e
        exact zi (this ▸ k1)
      · rw [h.1 i zi, h.1 j zj] at e
        exact q i j hi hj e
/-- two places change -/
theorem sg_swap {a b i j : Nat} (f : Nat → Int32) (hi : sg_in a b i) (hj : sg_in a b j) : sg_pm a b f (upd (upd f i (f j)) j (f i)) := by
  have e : ∀ k, upd (upd f i (f j)) j (f i) k = f (if k = j then i else if k = i then j else k) := fun k => by
    unfold upd
    by_cases c1 : k = j
    · rw [if_pos c1, if_pos c1]
    · rw [if_neg c1, if_neg c1]
      by_cases c2 : k = i
      · rw [if_pos c2, if_pos c2]
      · rw [if_neg c2, if_neg c2]
  have hs : ∀ k, sg_in a b k → sg_in a b (if k = j then i else if k = i then j else k) := fun k hk => by
    split
    · exact hi
    · split
      · exact hj
      · exact hk
  refine ⟨fun k hk => ?_, fun k hk => ⟨_, hs k hk, e k⟩, fun k hk => ⟨_, hs k hk, ?_⟩, fun q x y hx hy h => ?_⟩
  · rw [e, if_neg (show ¬ k = j from fun z => hk (by rw [z]; exact hj)), if_neg (show ¬ k = i from fun z => hk (by rw [z]; exact hi))]
  · rw [e]
    congr 1
    by_cases c1 : k = j
    · rw [if_pos c1]
      by_cases c2 : i = j
      · rw [if_pos c2]; omega
      · rw [if_neg c2, if_pos rfl]; exact c1
    · rw [if_neg c1]
      by_cases c2 : k = i
      · rw [if_pos c2, if_pos rfl]; exact c2
      · rw [if_neg c2, if_neg c1, if_neg c2]
  · rw [e x, e y] at h
    have := q _ _ (hs x hx) (hs y hy) h
    by_cases c1 : x = j
    · rw [if_pos c1] at this
      by_cases c2 : y = j
      · omega
      · rw [if_neg c2] at this
        by_cases c3 : y = i
        · rw [if_pos c3] at this; omega
        · rw [if_neg c3] at this; omega
    · rw [if_neg c1] at this
      by_cases c2 : y = j
      · rw [if_pos c2] at this
        by_cases c3 : x = i
        · rw [if_pos c3] at this; omega
        · rw [if_neg c3] at this; omega
      · rw [if_neg c2] at this
        by_cases c3 : x = i
        · rw [if_pos c3] at this
          by_cases c4 : y = i
          · omega
          · rw [if_neg c4] at this; omega
        · rw [if_neg c3] at this
          by_cases c4 : y = i
          · rw [if_pos c4] at this; omega
          · rw [if_neg c4] at this; omega
/-- what is asked of a stretch that is to be put in order from a street on -/
def sg_pre (a b s : Nat) (f : Nat → Int32) : Prop := (∀ i, sg_in a b i → ma_lo (f i) 16) ∧ (∀ i j, sg_in a b i → sg_in a b j → ∀ t, t < s → bt (f i) t = bt (f j) t) ∧ ∀ i j, sg_in a b i → sg_in a b j → f i = f j → i = j
def sg_srt (a b : Nat) (f : Nat → Int32) : Prop := ∀ i j, sg_in a b i → sg_in a b j → i < j → ah (f i) (f j)
theorem sg_pre.pm {a b s : Nat} {f f' : Nat → Int32} (h : sg_pre a b s f) (hp : sg_pm a b f f') : sg_pre a b s f' := by
  refine ⟨fun i hi => ?_, fun i j hi hj t ht => ?_, hp.2.2.2 h.2.2⟩
  · obtain ⟨k, k1, k2⟩ := hp.2.1 i hi
    rw [k2]; exact h.1 k k1
  · obtain ⟨k, k1, k2⟩ := hp.2.1 i hi
    obtain ⟨l, l1, l2⟩ := hp.2.1 j hj
    rw [k2, l2]; exact h.2.1 k l k1 l1 t ht
section
variable {N : Nat}
def sg_does (a b : Nat) (g0 g : dl_Sg) : Prop := (∀ k, k ≠ 33 → g k = g0 k) ∧ sg_pm a b (g0 33) (g 33) ∧ sg_srt a b (g 33)
def sg_rec (al : Nat) (rec : dl_Sg → Int32 → Int32 → Int32 → Option dl_Sg) (s : Nat) : Prop := ∀ (a b : Nat) (g : dl_Sg), a ≤ b → b ≤ al → dl_al g = al → sg_pre a b s (g 33) → ma_wp (rec g (nI a) (nI b) (nI s)) (sg_does a b g)
theorem ma_orderin {al : Nat} (hal : al ≤ 131072) (rec : dl_Sg → Int32 → Int32 → Int32 → Option dl_Sg) {s : Nat} (hs : s < 16) (hrec : sg_rec al rec (s + 1)) {a b : Nat} (hab : a ≤ b) (hb : b ≤ al) {g0 : dl_Sg} (hg0 : dl_al g0 = al) (hpre : sg_pre a b s (g0 33)) :
    ∀ k i m (g : dl_Sg), i ≤ b → b - i < k → a ≤ m → m ≤ i → (∀ k, k ≠ 33 → g k = g0 k) → sg_pm a b (g0 33) (g 33) → (∀ j, sg_in a m j → bt (g 33 j) s = true) → (∀ j, sg_in m i j → bt (g 33 j) s = false) → ma_wp (cl6_putInOrder_b20 N rec k (nI a) (nI b) (nI s) (nI m) (nI i) g) (sg_does a b g0) := by
  intro k
  induction k with
  | zero => intro i m g _ h; omega
  | succ k ih =>
    intro i m g hi hk ham hmi hf hpm h1 h0
    have eal : dl_al g = al := by unfold dl_al; rw [hf 9 (by decide)]; exact hg0
    have h9 : (g 9 0).toNatClampNeg = al := eal
    rw [cl6_putInOrder_b20]
    by_cases c : b ≤ i
    · have e : i = b := by omega
      subst e
      rw [if_pos ((ma_le (by omega) (by omega)).mpr c), nI_1]
      have hp := hpre.pm hpm
      -- the first half
      have p1 : sg_pre a m (s + 1) (g 33) := ⟨fun j hj => hp.1 j ⟨hj.1, by have := hj.2; omega⟩, fun x y hx hy t ht => by
        by_cases e : t = s
        · rw [e, h1 x hx, h1 y hy]
        · exact hp.2.1 x y ⟨hx.1, by have := hx.2; omega⟩ ⟨hy.1, by have := hy.2; omega⟩ t (by omega), fun x y hx hy q => hp.2.2 x y ⟨hx.1, by have := hx.2; omega⟩ ⟨hy.1, by have := hy.2; omega⟩ q⟩
      obtain ⟨g1, e1, r1, r2, r3⟩ := hrec a m g ham (by omega) eal p1
      have eal1 : dl_al g1 = al := by unfold dl_al; rw [r1 9 (by decide)]; exact eal
      rw [dl_bi_e e1]
      -- the second half is as it was
      have same : ∀ j, sg_in m i j → g1 33 j = g 33 j := fun j hj => r2.1 j (fun z => by have := z.2; have := hj.1; omega)
      have p2 : sg_pre m i (s + 1) (g1 33) := ⟨fun j hj => by rw [same j hj]; exact hp.1 j ⟨by have := hj.1; omega, hj.2⟩, fun x y hx hy t ht => by
        rw [same x hx, same y hy]
        by_cases e : t = s
        · rw [e, h0 x hx, h0 y hy]
        · exact hp.2.1 x y ⟨by have := hx.1; omega, hx.2⟩ ⟨by have := hy.1; omega, hy.2⟩ t (by omega), fun x y hx hy q => by
        rw [same x hx, same y hy] at q
        exact hp.2.2 x y ⟨by have := hx.1; omega, hx.2⟩ ⟨by have := hy.1; omega, hy.2⟩ q⟩
      obtain ⟨g2, e2, t1, t2, t3⟩ := hrec m i g1 hmi hb eal1 p2
      rw [dl_bi_e e2]
      have q12 := (hpm.t (r2.up (Nat.le_refl a) hmi)).t (t2.up ham (Nat.le_refl i))
      refine ma_some ⟨fun k hk' => (t1 k hk').trans ((r1 k hk').trans (hf k hk')), q12, fun x y hx hy hxy => ?_⟩
      have sameA : ∀ j, sg_in a m j → g2 33 j = g1 33 j := fun j hj => t2.1 j (fun z => by have := z.1; have := hj.2; omega)
      rcases Nat.lt_or_ge y m with w | w
      · have hx' : sg_in a m x := ⟨hx.1, by omega⟩
        have hy' : sg_in a m y := ⟨hy.1, w⟩
        rw [sameA x hx', sameA y hy']
        exact r3 x y hx' hy' hxy
      · rcases Nat.lt_or_ge x m with z | z
        · -- one of each half
          have hx' : sg_in a m x := ⟨hx.1, z⟩
          have hy' : sg_in m i y := ⟨w, hy.2⟩
          refine ⟨s, hs, fun t ht => ((hpre.pm q12).2.1 x y hx hy t ht), ?_, ?_⟩
          · rw [sameA x hx']
            obtain ⟨k2, k21, k22⟩ := r2.2.1 x hx'
            rw [k22]; exact h1 k2 k21
          · obtain ⟨k2, k21, k22⟩ := t2.2.1 y hy'
            rw [k22, same k2 k21]; exact h0 k2 k21
        · exact t3 x y ⟨z, hx.2⟩ ⟨w, hy.2⟩ hxy
    · rw [if_neg (fun q => c ((ma_le (by omega) (by omega)).mp q)), h9, ma_gde (ma_in_t (show i < al by omega) (by omega)), nI_clamp (by omega), dl_bi_e (ma_bitAt _ (by omega)), ma_gde (ma_in_t (show i < al by omega) (by omega))]
      unfold cl6_putInOrder_b76
      by_cases cb : bt (g 33 i) s = true
      · rw [if_pos cb, if_pos rfl, ma_nme, ma_gde (ma_in_t (show m < al by omega) (by omega)), nI_clamp (by omega), ma_gde (ma_in_t (show i < al by omega) (by omega)), ma_nme, ma_wr _ (by omega), show (dl_s2 g 33 i (g 33 m) 9 0).toNatClampNeg = al by rw [ma_s2r _ _ _ _ (by decide)]; exact h9, ma_gde (ma_in_t (show m < al by omega) (by omega)), ma_nme, ma_wr _ (by omega), ma_nme, ma_nme, nI_1, nI_1]
        have e33 : dl_s2 (dl_s2 g 33 i (g 33 m)) 33 m (g 33 i) 33 = upd (upd (g 33) i (g 33 m)) m (g 33 i) := by
          unfold dl_s2
          rw [if_pos rfl, if_pos rfl]
        have ev : ∀ j, dl_s2 (dl_s2 g 33 i (g 33 m)) 33 m (g 33 i) 33 j = if j = m then g 33 i else if j = i then g 33 m else g 33 j := fun j => by
          rw [e33]; rfl
        refine ih (i + 1) (m + 1) _ (by omega) (by omega) (by omega) (by omega) (fun k hk' => ?_) ?_ (fun j hj => ?_) (fun j hj => ?_)
        · rw [ma_s2r _ _ _ _ hk', ma_s2r _ _ _ _ hk']; exact hf k hk'
        · rw [e33]
          exact hpm.t (sg_swap (g 33) ⟨by omega, by omega⟩ ⟨by omega, by omega⟩)
        · rw [ev]
          by_cases e : j = m
          · rw [if_pos e]; exact cb
          · have : sg_in a m j := ⟨hj.1, by have := hj.2; omega⟩
            rw [if_neg e, if_neg (by have := this.2; omega)]
            exact h1 j this
        · have hj1 := hj.1
          have hj2 := hj.2
          rw [ev, if_neg (by omega)]
          by_cases e : j = i
          · rw [if_pos e]
            exact h0 m ⟨Nat.le_refl _, by omega⟩
          · rw [if_neg e]
            exact h0 j ⟨by omega, by omega⟩
      · rw [if_neg cb, if_neg (by decide), ma_nme, nI_1]
        refine ih (i + 1) m g (by omega) (by omega) ham (by omega) hf hpm h1 (fun j hj => ?_)
        by_cases e : j = i
        · rw [e]; exact Bool.eq_false_iff.mpr cb
        · exact h0 j ⟨hj.1, by have := hj.2; omega⟩
theorem ma_order {al : Nat} (hal : al ≤ 131072) (hN : 131073 ≤ N) : ∀ d s, s ≤ 16 → 17 ≤ s + d → sg_rec al (cl6_putInOrder N (d + 1)) s := by
  intro d
  induction d with
  | zero => intro s h1 h2; omega
  | succ d ih =>
    intro s h1 h2 a b g hab hb hg hpre
    rw [cl6_putInOrder]
    unfold cl6_putInOrder_e
    rw [pk_sub hab]
    have one : b - a < 2 → sg_does a b g g := fun q => ⟨fun _ _ => rfl, sg_pm.rf _ _ _, fun i j hi hj hij => by
      have := hi.1
      have := hj.2
      omega⟩
    by_cases c : b - a < 2
    · rw [if_pos (show nI (b - a) < (2 : Int32) from (ma_lt (b := 2) (by omega) (by omega)).mpr c)]
      exact ma_some (one c)
    · rw [if_neg (show ¬ nI (b - a) < (2 : Int32) from fun q => c ((ma_lt (b := 2) (by omega) (by omega)).mp q))]
      by_cases c2 : s < 16
      · rw [if_pos (show nI s < (16 : Int32) from (ma_lt (b := 16) (by omega) (by omega)).mpr c2), ma_nme, ma_nme]
        exact ma_orderin hal _ c2 (ih (s + 1) (by omega) (by omega)) hab hb hg hpre N a a g hab (by omega) (Nat.le_refl _) (Nat.le_refl _) (fun _ _ => rfl) (sg_pm.rf _ _ _) (fun j hj => by have := hj.1; have := hj.2; omega) (fun j hj => by have := hj.1; have := hj.2; omega)
      · exfalso
        have e : g 33 a = g 33 (a + 1) := b_ext fun i _ => by
          rcases Nat.lt_or_ge i 16 with w | w
          · exact hpre.2.1 a (a + 1) ⟨Nat.le_refl _, by omega⟩ ⟨by omega, by omega⟩ i (by omega)
          · rw [hpre.1 a ⟨Nat.le_refl _, by omega⟩ i w, hpre.1 (a + 1) ⟨by omega, by omega⟩ i w]
        have := hpre.2.2 a (a + 1) ⟨Nat.le_refl _, by omega⟩ ⟨by omega, by omega⟩ e
        omega
end
