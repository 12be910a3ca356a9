/-! The mathematics: how many bits, the lowest bit -/
theorem ma_ush {a : Nat} (ha : a < 2 ^ 32) {k : Nat} (hk : k < 32) : dl_ush (nI a) (nI k) = nI (a / 2 ^ k) := pk_ushrN ha (nI k) k (s_u k hk)
def ma_c1 (v : Nat) : Nat := v - ((v / 2 ^ 1) &&& 1431655765)
def ma_c2 (v : Nat) : Nat := (v &&& 858993459) + ((v / 2 ^ 2) &&& 858993459)
def ma_c3 (v : Nat) : Nat := (v + v / 2 ^ 4) &&& 252645135
def ma_c4 (v : Nat) : Nat := v + v / 2 ^ 8
def ma_c5 (v : Nat) : Nat := v + v / 2 ^ 16
def ma_bc (v : Nat) : Nat := ma_c5 (ma_c4 (ma_c3 (ma_c2 (ma_c1 v)))) &&& 63
/-! byte by byte -/
def ma_d1 (b : Nat) : Nat := b - ((b / 2) &&& 85)
def ma_d2 (b : Nat) : Nat := (b &&& 51) + ((b / 4) &&& 51)
def ma_d3 (b : Nat) : Nat := (b + b / 16) % 16
theorem ma_byte : ∀ b, b < 256 → ma_d3 (ma_d2 (ma_d1 b)) = fb_ct (fun i => b.testBit i) 8 ∧ ma_d2 (ma_d1 b) % 16 ≤ 4 ∧ ma_d2 (ma_d1 b) / 16 ≤ 4 := by decide +kernel
theorem ma_m1a : ∀ c, c < 2 → ∀ l, l < 128 → (128 * c + l) &&& 85 = l &&& 85 := by decide +kernel
theorem ma_m1b : ∀ h, h < 128 → h &&& 5592405 = h &&& 85 := by decide +kernel
theorem ma_m2a : ∀ c, c < 4 → ∀ l, l < 64 → (64 * c + l) &&& 51 = l &&& 51 := by decide +kernel
theorem ma_m2b : ∀ h, h < 256 → h &&& 3355443 = h &&& 51 := by decide +kernel
theorem ma_m3b : ∀ h, h < 256 → h &&& 986895 = h % 16 := by decide +kernel
theorem ma_and_split (w M : Nat) : w &&& M = 256 * (w / 2 ^ 8 &&& M / 2 ^ 8) + (w % 2 ^ 8 &&& M % 2 ^ 8) := by
  have h1 := Nat.and_div_two_pow (a := w) (b := M) (n := 8)
  have h2 := Nat.and_mod_two_pow (a := w) (b := M) (n := 8)
  have h3 := Nat.div_add_mod (w &&& M) (2 ^ 8)
  rw [← h1, ← h2]
  omega
theorem ma_g1 {h l : Nat} (hh : h < 256) (hl : l < 256) : ma_c1 (256 * h + l) = 256 * ma_d1 h + ma_d1 l := by
  have e := ma_and_split ((256 * h + l) / 2 ^ 1) 1431655765
  have a1 : (256 * h + l) / 2 ^ 1 / 2 ^ 8 = h / 2 := by omega
  have a2 : (256 * h + l) / 2 ^ 1 % 2 ^ 8 = 128 * (h % 2) + l / 2 := by omega
  rw [a1, a2, show (1431655765 : Nat) / 2 ^ 8 = 5592405 from rfl, show (1431655765 : Nat) % 2 ^ 8 = 85 from rfl, ma_m1b _ (by omega), ma_m1a _ (by omega) _ (by omega)] at e
  unfold ma_c1 ma_d1
  rw [e]
  have b1 : h / 2 &&& 85 ≤ h / 2 := Nat.and_le_left
  have b2 : l / 2 &&& 85 ≤ l / 2 := Nat.and_le_left
  omega
theorem ma_g2 {h l : Nat} (hh : h < 256) (hl : l < 256) : ma_c2 (256 * h + l) = 256 * ma_d2 h + ma_d2 l := by
  have e := ma_and_split ((256 * h + l) / 2 ^ 2) 858993459
  have a1 : (256 * h + l) / 2 ^ 2 / 2 ^ 8 = h / 4 := by omega
  have a2 : (256 * h + l) / 2 ^ 2 % 2 ^ 8 = 64 * (h % 4) + l / 4 := by omega
  rw [a1, a2, show (858993459 : Nat) / 2 ^ 8 = 3355443 from rfl, show (858993459 : Nat) % 2 ^ 8 = 51 from rfl, ma_m2b _ (by omega), ma_m2a _ (by omega) _ (by omega)] at e
  have e2 := ma_and_split (256 * h + l) 858993459
  have a3 : (256 * h + l) / 2 ^ 8 = h := by omega
  have a4 : (256 * h + l) % 2 ^ 8 = l := by omega
  rw [a3, a4, show (858993459 : Nat) / 2 ^ 8 = 3355443 from rfl, show (858993459 : Nat) % 2 ^ 8 = 51 from rfl, ma_m2b _ (by omega)] at e2
  unfold ma_c2 ma_d2
  rw [e, e2]
  omega
theorem ma_g3 {h l : Nat} (h1 : h % 16 ≤ 4) (h2 : h / 16 ≤ 4) (l1 : l % 16 ≤ 4) (l2 : l / 16 ≤ 4) : ma_c3 (256 * h + l) = 256 * ma_d3 h + ma_d3 l := by
  have e := ma_and_split (256 * h + l + (256 * h + l) / 2 ^ 4) 252645135
  have a1 : (256 * h + l + (256 * h + l) / 2 ^ 4) / 2 ^ 8 = h + h / 16 := by omega
  have a2 : (256 * h + l + (256 * h + l) / 2 ^ 4) % 2 ^ 8 = 16 * (h % 16) + l + l / 16 := by omega
  rw [a1, a2, show (252645135 : Nat) / 2 ^ 8 = 986895 from rfl, show (252645135 : Nat) % 2 ^ 8 = 2 ^ 4 - 1 from rfl, ma_m3b _ (by omega), Nat.and_two_pow_sub_one_eq_mod] at e
  unfold ma_c3 ma_d3
  rw [e]
  omega
theorem ma_d1_lt {b : Nat} (h : b < 256) : ma_d1 b < 256 := Nat.lt_of_le_of_lt (Nat.sub_le _ _) h
theorem ma_d2_lt (b : Nat) : ma_d2 b < 256 := by
  have b1 : b &&& 51 ≤ 51 := Nat.and_le_right
  have b2 : b / 4 &&& 51 ≤ 51 := Nat.and_le_right
  unfold ma_d2
  omega
theorem ma_bc_ct {v : Nat} (h : v < 65536) : ma_bc v = fb_ct (fun i => v.testBit i) 16 := by
  obtain ⟨p1, p2, p3⟩ := ma_byte (v / 256) (by omega)
  obtain ⟨q1, q2, q3⟩ := ma_byte (v % 256) (by omega)
  have e : ma_c3 (ma_c2 (ma_c1 v)) = 256 * ma_d3 (ma_d2 (ma_d1 (v / 256))) + ma_d3 (ma_d2 (ma_d1 (v % 256))) := by
    have hv : v = 256 * (v / 256) + v % 256 := by omega
    rw [← ma_g3 p2 p3 q2 q3, ← ma_g2 (ma_d1_lt (by omega)) (ma_d1_lt (by omega)), ← ma_g1 (by omega) (by omega), ← hv]
  have s : fb_ct (fun i => v.testBit i) 16 = fb_ct (fun i => (v % 256).testBit i) 8 + fb_ct (fun i => (v / 256).testBit i) 8 := by
    have := fb_ct_split (fun i => v.testBit i) 8 8
    rw [show (8 + 8 : Nat) = 16 from rfl] at this
    rw [this]
    congr 1
    · refine fb_ct_cong (fun k hk => ?_)
      rw [show (256 : Nat) = 2 ^ 8 from rfl, Nat.testBit_mod_two_pow, decide_eq_true hk, Bool.true_and]
    · refine fb_ct_cong (fun k hk => ?_)
      rw [show (256 : Nat) = 2 ^ 8 from rfl, Nat.testBit_div_two_pow, Nat.add_comm]
  have c1 := fb_ct_le (fun i => (v / 256).testBit i) 8
  have c2 := fb_ct_le (fun i => (v % 256).testBit i) 8
  unfold ma_bc
  rw [e, p1, q1, s]
  generalize fb_ct (fun i => (v / 256).testBit i) 8 = H at c1 ⊢
  generalize fb_ct (fun i => (v % 256).testBit i) 8 = L at c2 ⊢
  rw [show (63 : Nat) = 2 ^ 6 - 1 from rfl, Nat.and_two_pow_sub_one_eq_mod]
  unfold ma_c5 ma_c4
  have a1 : (256 * H + L) / 2 ^ 8 = H := by omega
  rw [a1]
  have a2 : (256 * H + L + H) / 2 ^ 16 = 0 := by omega
  rw [a2]
  have a3 : 256 * H + L + H + 0 = 64 * (4 * H) + (L + H) := by omega
  rw [a3, show (2 : Nat) ^ 6 = 64 from rfl, Nat.mul_add_mod, Nat.mod_eq_of_lt (by omega)]
theorem ma_e1 {v : Nat} (h : v < 65536) : nI v - ((dl_ush (nI v) (1 : Int32)) &&& (1431655765 : Int32)) = nI (ma_c1 v) := by
  show nI v - (dl_ush (nI v) (nI 1) &&& nI 1431655765) = _
  rw [ma_ush (by omega) (by omega), nx_and, pk_sub (Nat.le_trans Nat.and_le_left (by omega))]
  rfl
theorem ma_e2 {w : Nat} (h : w < 1048576) : (nI w &&& (858993459 : Int32)) + ((dl_ush (nI w) (2 : Int32)) &&& (858993459 : Int32)) = nI (ma_c2 w) := by
  show (nI w &&& nI 858993459) + (dl_ush (nI w) (nI 2) &&& nI 858993459) = _
  rw [ma_ush (by omega) (by omega), nx_and, nx_and, nI_add]
  rfl
theorem ma_e3 {w : Nat} (h : w < 1048576) : (nI w + (dl_ush (nI w) (4 : Int32))) &&& (252645135 : Int32) = nI (ma_c3 w) := by
  show (nI w + dl_ush (nI w) (nI 4)) &&& nI 252645135 = _
  rw [ma_ush (by omega) (by omega), nI_add, nx_and]
  rfl
theorem ma_e4 {w : Nat} (h : w < 1048576) : nI w + (dl_ush (nI w) (8 : Int32)) = nI (ma_c4 w) := by
  show nI w + dl_ush (nI w) (nI 8) = _
  rw [ma_ush (by omega) (by omega), nI_add]
  rfl
theorem ma_e5 {w : Nat} (h : w < 1048576) : nI w + (dl_ush (nI w) (16 : Int32)) = nI (ma_c5 w) := by
  show nI w + dl_ush (nI w) (nI 16) = _
  rw [ma_ush (by omega) (by omega), nI_add]
  rfl
theorem ma_k1 (w : Nat) : ma_c1 w ≤ w := Nat.sub_le _ _
theorem ma_k2 (w : Nat) : ma_c2 w ≤ 2 * w := by
  have q1 : w &&& 858993459 ≤ w := Nat.and_le_left
  have q2 : (w / 2 ^ 2) &&& 858993459 ≤ w / 2 ^ 2 := Nat.and_le_left
  unfold ma_c2
  omega
theorem ma_k3 (w : Nat) : ma_c3 w ≤ 2 * w := by
  have q1 : (w + w / 2 ^ 4) &&& 252645135 ≤ w + w / 2 ^ 4 := Nat.and_le_left
  unfold ma_c3
  omega
theorem ma_k4 (w : Nat) : ma_c4 w ≤ 2 * w := by
  unfold ma_c4
  omega
theorem ma_bcN {v : Nat} (h : v < 65536) : jd_bitCount (nI v) = some (nI (ma_bc v)) := by
  have k1 := ma_k1 v
  have k2 := ma_k2 (ma_c1 v)
  have k3 := ma_k3 (ma_c2 (ma_c1 v))
  have k4 := ma_k4 (ma_c3 (ma_c2 (ma_c1 v)))
  unfold jd_bitCount
  rw [ma_e1 h, ma_nme, ma_e2 (by omega), ma_nme, ma_e3 (by omega), ma_nme, ma_e4 (by omega), ma_nme, ma_e5 (by omega), ma_nme]
  show some (nI _ &&& nI 63) = _
  rw [nx_and]
  rfl
theorem ma_bitc {x : Int32} (h : ma_lo x 16) : jd_bitCount x = some (nI (fb_ct (bt x) 16)) := by
  obtain ⟨v, hv, rfl⟩ := ma_lo_nI h
  rw [ma_bcN hv, ma_bc_ct hv]
  rw [fb_ct_cong (q := bt (nI v)) (fun k hk => (ma_btN (by omega)).symm)]
/-- the trailing zeros: the lowest bit -/
theorem ma_ntzk {x : Int32} {k : Nat} (hk : k < 16) (h : (x ^^^ (-1 : Int32)) &&& (x - (1 : Int32)) = nI (2 ^ k - 1)) : jd_numberOfTrailingZeros x = some (nI k) := by
  unfold jd_numberOfTrailingZeros
  rw [h]
  clear h x
  revert k
  decide +kernel
/-- the lowest bit of a set -/
theorem ma_lowN {v : Nat} (h : v < 65536) (h0 : v ≠ 0) : ∃ k, k < 16 ∧ v.testBit k = true ∧ (∀ j, j < k → v.testBit j = false) ∧ v = 2 ^ (k + 1) * (v / 2 ^ (k + 1)) + 2 ^ k := by
  obtain ⟨i, hi⟩ := Nat.exists_testBit_of_ne_zero h0
  obtain ⟨k, k1, k2⟩ := pk_least (fun k => v.testBit k = true) ⟨i, hi⟩
  have k3 : ∀ j, j < k → v.testBit j = false := fun j hj => Bool.eq_false_iff.mpr (k2 j hj)
  have k4 : k < 16 := by
    rcases Nat.lt_or_ge k 16 with q | q
    · exact q
    · have := Nat.testBit_lt_two_pow (x := v) (i := k) (Nat.lt_of_lt_of_le (show v < 2 ^ 16 by omega) (Nat.pow_le_pow_right (by decide) q))
      rw [this] at k1
      cases k1
  refine ⟨k, k4, k1, k3, ?_⟩
  have e : v % 2 ^ (k + 1) = 2 ^ k := by
    apply Nat.eq_of_testBit_eq
    intro j
    rw [Nat.testBit_mod_two_pow, Nat.testBit_two_pow]
    rcases Nat.lt_trichotomy j k with q | q | q
    · rw [k3 j q, Bool.and_false, decide_eq_false (by omega)]
    · subst q
      rw [k1, Bool.and_true, decide_eq_true (by omega), decide_eq_true rfl]
    · rw [decide_eq_false (show ¬ j < k + 1 by omega), decide_eq_false (show ¬ k = j by omega)]; rfl
  have := Nat.div_add_mod v (2 ^ (k + 1))
  omega
theorem ma_ntz {x : Int32} (h : ma_lo x 16) (h0 : ¬ x = 0) : ∃ k, k < 16 ∧ bt x k = true ∧ (∀ j, j < k → bt x j = false) ∧ jd_numberOfTrailingZeros x = some (nI k) ∧ jd_lowestOneBit x = some ((1 : Int32) <<< (nI k &&& 31)) := by
  obtain ⟨v, hv, rfl⟩ := ma_lo_nI h
  have hv0 : v ≠ 0 := fun e => h0 (by rw [e]; rfl)
  obtain ⟨k, l1, l2, l3, l4⟩ := ma_lowN hv hv0
  have hp : 2 ^ k ≤ 2 ^ 15 := Nat.pow_le_pow_right (by decide) (by omega)
  have hp1 : 2 ^ (k + 1) = 2 * 2 ^ k := by rw [Nat.pow_succ]; omega
  have hp0 : 0 < 2 ^ k := Nat.two_pow_pos k
  -- bits of v above k
  have hi : ∀ i, k < i → v.testBit i = (v / 2 ^ (k + 1)).testBit (i - (k + 1)) := fun i q => by
    rw [Nat.testBit_div_two_pow]
    congr 1
    omega
  refine ⟨k, l1, ?_, ?_, ?_, ?_⟩
  · rw [ma_btN (by omega)]; exact l2
  · intro j hj
    rw [ma_btN (by omega)]; exact l3 j hj
  · refine ma_ntzk l1 ?_
    have e : nI v - (1 : Int32) = nI (v - 1) := by
      show nI v - nI 1 = _
      exact pk_sub (by omega)
    rw [e]
    apply b_ext
    intro i hi32
    rw [b_and, ma_bn _ hi32, ma_btN hi32, ma_btN hi32, ma_btN hi32, Nat.testBit_two_pow_sub_one]
    have e2 : v - 1 = 2 ^ (k + 1) * (v / 2 ^ (k + 1)) + (2 ^ k - 1) := by omega
    rw [e2, Nat.testBit_two_pow_mul_add _ (show 2 ^ k - 1 < 2 ^ (k + 1) by omega)]
    rcases Nat.lt_trichotomy i k with q | q | q
    · rw [l3 i q, if_pos (by omega), Nat.testBit_two_pow_sub_one]; rfl
    · subst q
      rw [l2, decide_eq_false (Nat.lt_irrefl _)]; rfl
    · rw [hi i q, if_neg (by omega), decide_eq_false (by omega)]
      cases (v / 2 ^ (k + 1)).testBit (i - (k + 1)) <;> rfl
  · show some (nI v &&& -nI v) = _
    have e : -nI v = nI (4294967296 - v) := by
      apply Int32.toBitVec_inj.1
      show -(BitVec.ofNat 32 v) = BitVec.ofNat 32 (4294967296 - v)
      apply BitVec.eq_of_toNat_eq
      rw [BitVec.toNat_neg, BitVec.toNat_ofNat, BitVec.toNat_ofNat, Nat.mod_eq_of_lt (show v < 2 ^ 32 by omega)]
    rw [e]
    congr 1
    apply b_ext
    intro i hi32
    rw [b_and, ma_b1 (by omega), ma_btN hi32, ma_btN hi32]
    have hq : v / 2 ^ (k + 1) < 2 ^ (31 - k) := by
      rw [Nat.div_lt_iff_lt_mul (Nat.two_pow_pos _), ← Nat.pow_add, show 31 - k + (k + 1) = 32 by omega]
      omega
    have hm : 2 ^ (k + 1) * 2 ^ (31 - k) = 4294967296 := by
      rw [← Nat.pow_add, show k + 1 + (31 - k) = 32 by omega]
    have e2 : 4294967296 - v = 2 ^ (k + 1) * (2 ^ (31 - k) - (v / 2 ^ (k + 1) + 1)) + 2 ^ k := by
      rw [Nat.mul_sub, hm, Nat.mul_add]
      omega
    rw [e2, Nat.testBit_two_pow_mul_add _ (show 2 ^ k < 2 ^ (k + 1) by omega)]
    rcases Nat.lt_trichotomy i k with q | q | q
    · rw [l3 i q, decide_eq_false (by omega)]; rfl
    · subst q
      rw [l2, if_pos (by omega), Nat.testBit_two_pow_self, decide_eq_true rfl]; rfl
    · rw [hi i q, if_neg (by omega), decide_eq_false (by omega), Nat.testBit_two_pow_sub_succ hq]
      cases (v / 2 ^ (k + 1)).testBit (i - (k + 1)) <;> simp
/-- the reference's count -/
theorem ma_bits {N : Nat} (hN : 17 ≤ N) (x : Int32) : mo_bits N x = some (nI (fb_ct (bt x) 16)) := by
  refine ma_is ?_
  refine ma_loop (fun k p (s : Int32) => mo_bits_b4 N k x s (nI p)) (fun p s => s = nI (fb_ct (bt x) p)) _ 16 ?_ ?_ N 0 0 (by omega) (by omega) rfl
  · intro k s h
    rw [mo_bits_b4, if_pos (by exact (ma_le (a := 16) (by omega) (by omega)).mpr (by omega))]
    exact ma_some h
  · intro k p s hp h ih
    rw [mo_bits_b4, if_neg (by exact fun q => absurd ((ma_le (a := 16) (by omega) (by omega)).mp q) (by omega)), ma_nme, ma_nme, nI_1]
    refine ih _ ?_
    rw [h, ma_bA x (by omega), fb_ct_succ]
    cases bt x p
    · rw [if_neg (by decide), if_neg (by decide)]
      exact nI_add _ 0
    · rw [if_pos rfl, if_pos rfl]
      exact nI_add _ 1
