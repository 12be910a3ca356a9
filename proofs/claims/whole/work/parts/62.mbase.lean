/-! The mathematics: base (what a function answers, loops, bits) -/
def ma_wp {α : Type} (x : Option α) (Q : α → Prop) : Prop := ∃ a, x = some a ∧ Q a
theorem ma_some {α : Type} {a : α} {Q : α → Prop} (h : Q a) : ma_wp (some a) Q := ⟨a, rfl, h⟩
theorem ma_nm {α β : Type} {x : α} {f : α → Option β} {Q : β → Prop} (h : ma_wp (f x) Q) : ma_wp (dl_nm x f) Q := h
theorem ma_nme {α β : Type} (x : α) (f : α → β) : dl_nm x f = f x := rfl
theorem ma_gd {α : Type} {b : Bool} {x : Option α} {Q : α → Prop} (hb : b = true) (h : ma_wp x Q) : ma_wp (dl_gd b x) Q := by
  subst hb; exact h
theorem ma_gde {α : Type} {b : Bool} {x : Option α} (hb : b = true) : dl_gd b x = x := by subst hb; rfl
theorem ma_bi {α β : Type} {x : Option α} {f : α → Option β} {Q : β → Prop} (h : ma_wp x (fun a => ma_wp (f a) Q)) : ma_wp (dl_bi x f) Q := by
  obtain ⟨a, e, h⟩ := h
  subst e; exact h
theorem ma_bie {α β : Type} {x : Option α} {a : α} {f : α → Option β} {Q : β → Prop} (e : x = some a) (h : ma_wp (f a) Q) : ma_wp (dl_bi x f) Q := by
  subst e; exact h
theorem ma_b2 {α γ β : Type} {x : Option (α × γ)} {f : α → γ → Option β} {Q : β → Prop} (h : ma_wp x (fun a => ma_wp (f a.1 a.2) Q)) : ma_wp (dl_b2 x f) Q := by
  obtain ⟨⟨a, b⟩, e, h⟩ := h
  subst e; exact h
theorem ma_b2e {α γ β : Type} {x : Option (α × γ)} {a : α} {b : γ} {f : α → γ → Option β} {Q : β → Prop} (e : x = some (a, b)) (h : ma_wp (f a b) Q) : ma_wp (dl_b2 x f) Q := by
  subst e; exact h
theorem ma_if {α : Type} {c : Prop} [Decidable c] {x y : Option α} {Q : α → Prop} (h1 : c → ma_wp x Q) (h2 : ¬ c → ma_wp y Q) : ma_wp (if c then x else y) Q := by
  by_cases h : c
  · rw [if_pos h]; exact h1 h
  · rw [if_neg h]; exact h2 h
theorem ma_ift {α : Type} {c : Prop} [Decidable c] {x y : Option α} {Q : α → Prop} (h : c) (h1 : ma_wp x Q) : ma_wp (if c then x else y) Q := by
  rw [if_pos h]; exact h1
theorem ma_iff {α : Type} {c : Prop} [Decidable c] {x y : Option α} {Q : α → Prop} (h : ¬ c) (h1 : ma_wp y Q) : ma_wp (if c then x else y) Q := by
  rw [if_neg h]; exact h1
theorem ma_mono {α : Type} {x : Option α} {P Q : α → Prop} (h : ma_wp x P) (k : ∀ a, P a → Q a) : ma_wp x Q := by
  obtain ⟨a, e, h⟩ := h
  exact ⟨a, e, k a h⟩
theorem ma_is {α : Type} {x : Option α} {a : α} (h : ma_wp x (fun r => r = a)) : x = some a := by
  obtain ⟨b, e, h⟩ := h
  rw [e, h]
theorem ma_of {α : Type} {x : Option α} {a : α} {Q : α → Prop} (e : x = some a) (h : Q a) : ma_wp x Q := ⟨a, e, h⟩
/-- a loop that counts up -/
theorem ma_loop {σ α : Type} (L : Nat → Nat → σ → Option α) (I : Nat → σ → Prop) (Q : α → Prop) (n : Nat)
    (hx : ∀ k s, I n s → ma_wp (L (k + 1) n s) Q)
    (hs : ∀ k p s, p < n → I p s → (∀ s', I (p + 1) s' → ma_wp (L k (p + 1) s') Q) → ma_wp (L (k + 1) p s) Q) :
    ∀ k p s, p ≤ n → n - p < k → I p s → ma_wp (L k p s) Q := by
  intro k
  induction k with
  | zero => intro p s _ h; omega
  | succ k ih =>
    intro p s hp hk hI
    by_cases e : p = n
    · subst e; exact hx k s hI
    · exact hs k p s (by omega) hI (fun s' h' => ih (p + 1) s' (by omega) (by omega) h')
/-! numbers -/
theorem ma_in_t {p n : Nat} (h : p < n) (hn : n < 2 ^ 31) : dl_in (nI p) n = true := decide_eq_true (nI_in h hn)
theorem ma_in2 {x : Int32} {p n : Nat} (e : x = nI p) (h : p < n) (hn : n < 2 ^ 31) : dl_in x n = true := by
  subst e; exact ma_in_t h hn
theorem ma_le {a b : Nat} (ha : a < 2 ^ 31) (hb : b < 2 ^ 31) : nI a ≤ nI b ↔ a ≤ b := nI_leI ha hb
theorem ma_lt {a b : Nat} (ha : a < 2 ^ 31) (hb : b < 2 ^ 31) : nI a < nI b ↔ a < b := nI_ltI ha hb
theorem ma_eqn {a b : Nat} (ha : a < 2 ^ 31) (hb : b < 2 ^ 31) : nI a = nI b ↔ a = b := nI_eq ha hb
/-! cells -/
theorem ma_s2 (g : dl_Sg) (a i : Nat) (v : Int32) (b j : Nat) : dl_s2 g a i v b j = if b = a ∧ j = i then v else g b j := by
  unfold dl_s2 upd
  by_cases h : b = a
  · subst h
    rw [if_pos rfl]
    by_cases h2 : j = i
    · rw [if_pos h2, if_pos ⟨rfl, h2⟩]
    · rw [if_neg h2, if_neg (fun q => h2 q.2)]
  · rw [if_neg h, if_neg (fun q => h q.1)]
theorem ma_s2s (g : dl_Sg) (a i : Nat) (v : Int32) : dl_s2 g a i v a i = v := by rw [ma_s2, if_pos ⟨rfl, rfl⟩]
theorem ma_s2n (g : dl_Sg) {a i b j : Nat} (v : Int32) (h : ¬ (b = a ∧ j = i)) : dl_s2 g a i v b j = g b j := by rw [ma_s2, if_neg h]
theorem ma_wr (g : dl_Sg) {p : Nat} (hp : p < 2 ^ 31) (a : Nat) (v : Int32) : dl_wr g a (nI p) v = dl_s2 g a p v := by
  show dl_s2 g a (nI p).toNatClampNeg v = _
  rw [nI_clamp hp]
/-! bits -/
theorem ma_b1 {k : Nat} (hk : k < 32) (i : Nat) : bt ((1 : Int32) <<< (nI k &&& 31)) i = decide (i = k) := by
  rcases Nat.lt_or_ge i 32 with h | h
  · exact (by decide +kernel : ∀ k, k < 32 → ∀ i, i < 32 → bt ((1 : Int32) <<< (nI k &&& 31)) i = decide (i = k)) k hk i h
  · rw [b_big h, decide_eq_false (by omega)]
theorem ma_bt1 : ∀ i, i < 32 → bt 1 i = decide (i = 0) := by decide +kernel
theorem ma_bA (x : Int32) {k : Nat} (hk : k < 32) : (x >>> (nI k &&& 31)) &&& 1 = if bt x k = true then 1 else 0 := by
  apply b_ext
  intro i hi
  rw [b_and, b_sshr k hk x hi, ma_bt1 i hi]
  by_cases e : i = 0
  · subst e
    rw [if_pos (by omega), Nat.add_zero]
    cases bt x k
    · rw [if_neg (by decide), b_0]; rfl
    · rw [if_pos rfl, ma_bt1 0 (by decide)]; rfl
  · rw [decide_eq_false e, Bool.and_false]
    cases bt x k
    · rw [if_neg (by decide), b_0]
    · rw [if_pos rfl, ma_bt1 i hi, decide_eq_false e]
theorem ma_bn (x : Int32) {i : Nat} (hi : i < 32) : bt (x ^^^ (-1)) i = !bt x i := by
  rw [b_xor, b_m1 i hi]
  cases bt x i <;> rfl
theorem ma_z {x : Int32} : x = 0 ↔ ∀ i, i < 32 → bt x i = false :=
  ⟨fun h i _ => by rw [h, b_0], fun h => b_ext fun i hi => by rw [h i hi, b_0]⟩
theorem ma_nz {x : Int32} (h : ¬ x = 0) : ∃ i, i < 32 ∧ bt x i = true := by
  refine Classical.byContradiction fun q => h (ma_z.mpr fun i hi => ?_)
  cases e : bt x i
  · rfl
  · exact absurd ⟨i, hi, e⟩ q
/-- a bit taken out -/
theorem ma_out (x : Int32) {k : Nat} (hk : k < 32) (i : Nat) : bt (x &&& (((1 : Int32) <<< (nI k &&& 31)) ^^^ (-1 : Int32))) i = (bt x i && !decide (i = k)) := by
  rcases Nat.lt_or_ge i 32 with h | h
  · rw [b_and, ma_bn _ h, ma_b1 hk]
  · rw [b_big h, b_big h]; rfl
theorem ma_put (x : Int32) {k : Nat} (hk : k < 32) (i : Nat) : bt (x ||| ((1 : Int32) <<< (nI k &&& 31))) i = (bt x i || decide (i = k)) := by
  rw [b_or, ma_b1 hk]
theorem ma_flip (x : Int32) {k : Nat} (hk : k < 32) (i : Nat) : bt (x ^^^ ((1 : Int32) <<< (nI k &&& 31))) i = (bt x i ^^ decide (i = k)) := by
  rw [b_xor, ma_b1 hk]
/-- all bits stand below w -/
def ma_lo (x : Int32) (w : Nat) : Prop := ∀ i, w ≤ i → bt x i = false
theorem ma_lo.lt {x : Int32} {w i : Nat} (h : ma_lo x w) (hi : bt x i = true) : i < w := by
  rcases Nat.lt_or_ge i w with q | q
  · exact q
  · rw [h i q] at hi; cases hi
theorem ma_lo.up {x : Int32} {w v : Nat} (h : ma_lo x w) (hv : w ≤ v) : ma_lo x v := fun i hi => h i (by omega)
theorem ma_lo_and {x y : Int32} {w : Nat} (h : ma_lo x w) : ma_lo (x &&& y) w := fun i hi => by rw [b_and, h i hi]; rfl
theorem ma_lo_and2 {x y : Int32} {w : Nat} (h : ma_lo y w) : ma_lo (x &&& y) w := fun i hi => by rw [b_and, h i hi, Bool.and_false]
theorem ma_lo_or {x y : Int32} {w : Nat} (h : ma_lo x w) (h2 : ma_lo y w) : ma_lo (x ||| y) w := fun i hi => by rw [b_or, h i hi, h2 i hi]; rfl
theorem ma_lo_1 {k w : Nat} (hk : k < w) (h2 : k < 32) : ma_lo ((1 : Int32) <<< (nI k &&& 31)) w := fun i hi => by
  rw [ma_b1 h2, decide_eq_false (by omega)]
theorem ma_lo_0 {w : Nat} : ma_lo 0 w := fun i _ => b_0 i
theorem ma_lo_nI {x : Int32} (h : ma_lo x 16) : ∃ v, v < 65536 ∧ x = nI v :=
  ⟨x.toBitVec.toNat, Nat.lt_pow_two_of_testBit (n := 16) _ (fun i hi => h i hi), Int32.toBitVec_inj.mp (by show x.toBitVec = BitVec.ofNat 32 x.toBitVec.toNat; simp)⟩
theorem ma_btN {v i : Nat} (hi : i < 32) : bt (nI v) i = v.testBit i := by
  unfold bt
  show (BitVec.ofNat 32 v).getLsbD i = _
  rw [BitVec.getLsbD_ofNat]
  simp [hi]
/-- the set of the places below k that have a property -/
def ma_mk (S : Nat → Bool) : Nat → Int32
  | 0 => 0
  | k + 1 => if S k = true then ma_mk S k ||| ((1 : Int32) <<< (nI k &&& 31)) else ma_mk S k
theorem ma_mk_b (S : Nat → Bool) (i : Nat) : ∀ k, k ≤ 32 → bt (ma_mk S k) i = (decide (i < k) && S i)
  | 0, _ => by rw [ma_mk, b_0, decide_eq_false (by omega)]; rfl
  | k + 1, h => by
    have ih := ma_mk_b S i k (by omega)
    rw [ma_mk]
    by_cases e : i = k
    · subst e
      rw [decide_eq_true (show i < i + 1 by omega)]
      rw [decide_eq_false (show ¬ i < i by omega)] at ih
      cases hs : S i
      · rw [if_neg (by decide), ih]; rfl
      · rw [if_pos rfl, ma_put _ (by omega), ih, decide_eq_true rfl]; rfl
    · have e2 : decide (i < k + 1) = decide (i < k) := by
        by_cases q : i < k
        · rw [decide_eq_true q, decide_eq_true (by omega)]
        · rw [decide_eq_false q, decide_eq_false (by omega)]
      rw [e2, ← ih]
      by_cases hs : S k = true
      · rw [if_pos hs, ma_put _ (by omega), decide_eq_false e, Bool.or_false]
      · rw [if_neg hs]
theorem ma_mk_lo (S : Nat → Bool) {k w : Nat} (h : k ≤ 32) (hw : k ≤ w) : ma_lo (ma_mk S k) w := fun i hi => by
  rw [ma_mk_b S i k h, decide_eq_false (by omega)]; rfl
theorem ma_mk_of {S : Nat → Bool} {k : Nat} (h : k ≤ 32) {x : Int32} (hx : ∀ i, bt x i = (decide (i < k) && S i)) : x = ma_mk S k :=
  b_ext fun i _ => by rw [hx, ma_mk_b S i k h]
