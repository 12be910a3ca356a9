/-! The mathematics: a place more -/
def en_P (E : ma_E) (K W : Nat) : ma_E := ((en_n E + 1, en_m E), (fun p => if p = en_n E then K else en_k E p, fun p => if p = en_n E then W else en_w E p), (en_a E, en_b E, en_c E), en_t E)
theorem dl_s2_id (g : dl_Sg) (a i : Nat) : dl_s2 g a i (g a i) = g := by
  funext b j
  rw [ma_s2]
  by_cases h : b = a ∧ j = i
  · rw [if_pos h, h.1, h.2]
  · rw [if_neg h]
section
variable {al : Nat} {E : ma_E} {c N : Nat} {gc gm : dl_Sg} {K W : Nat}
theorem en_ok.P (h : en_ok E) (hn : en_n E < 10) (hK : K ≤ 4) (hW : W ≤ 100) (hw : K = 3 → ∀ p, p < en_n E → en_k E p ≠ 3) : en_ok (en_P E K W) := by
  refine ⟨hn, h.2.1, fun p hp => ?_, fun s hs => ?_, h.2.2.2.2.1, fun p q hp hq kp kq => ?_⟩
  · show (if p = en_n E then K else en_k E p) ≤ 4 ∧ (if p = en_n E then W else en_w E p) ≤ 100
    have hp : p < en_n E + 1 := hp
    by_cases e : p = en_n E
    · rw [if_pos e, if_pos e]
      exact ⟨hK, hW⟩
    · rw [if_neg e, if_neg e]
      exact h.2.2.1 p (by omega)
  · obtain ⟨a, b, d⟩ := h.2.2.2.1 s hs
    exact ⟨Nat.lt_succ_of_lt a, Nat.lt_succ_of_lt b, d⟩
  · have hp : p < en_n E + 1 := hp
    have hq : q < en_n E + 1 := hq
    have kp : (if p = en_n E then K else en_k E p) = 3 := kp
    have kq : (if q = en_n E then K else en_k E q) = 3 := kq
    by_cases e : p = en_n E
    · by_cases f : q = en_n E
      · rw [e, f]
      · rw [if_pos e] at kp
        rw [if_neg f] at kq
        exact absurd kq (hw kp q (by omega))
    · by_cases f : q = en_n E
      · rw [if_neg e] at kp
        rw [if_pos f] at kq
        exact absurd kp (hw kq p (by omega))
      · rw [if_neg e] at kp
        rw [if_neg f] at kq
        exact h.well (by omega) (by omega) kp kq
/-- what the class writes for a place -/
def pl_A (gc : dl_Sg) (n : Nat) (k w pr wi tp we : Int32) : dl_Sg := dl_s2 (dl_s2 (dl_s2 (dl_s2 (dl_s2 (dl_s2 (dl_s2 gc 7 n k) 8 n w) 10 n pr) 11 n wi) 1 12 tp) 1 13 we) 1 10 (nI (n + 1))
def en_pr1 (K W : Nat) : Nat := if K = 4 then W else 0
def en_wi1 (K W : Nat) : Nat := if K = 2 then W else 0
/-- both answer the same, and what holds between them still holds (the places may be more) -/
def ma_tp (al : Nat) (c : Nat) (x y : Option (Int32 × dl_Sg)) : Prop := ∃ r g1 g2, x = some (r, g1) ∧ y = some (r, g2) ∧ IV al c g1 g2
theorem ma_tp.up {x y : Option (Int32 × dl_Sg)} (h : ma_tp al c x y) : ma_tp al (c + 1) x y := by
  obtain ⟨r, g1, g2, e1, e2, F, e3⟩ := h
  exact ⟨r, g1, g2, e1, e2, F, e3.up (by omega)⟩
theorem ma_addPlace {n : Nat} (hn : n < 10) (e : gc 1 10 = nI n) (hK : K ≤ 4) : cl2_addPlace gc (nI K) (nI W) = (dl_bi (cl2_note (pl_A gc n (nI K) (nI W) (nI (en_pr1 K W)) (nI (en_wi1 K W)) (if K = 1 ∨ K = 3 then gc 1 12 ||| bi1 n else gc 1 12) (if K = 3 then nI n else gc 1 13)) (-1)) fun g2 => some (nI n, g2)) := by
  have g10 : dl_in (nI n) 10 = true := ma_in_t hn (by omega)
  have gt : ∀ (α : Type) (x : Option α), dl_gd true x = x := fun _ _ => rfl
  have wr : ∀ (g : dl_Sg) (a : Nat) (v : Int32), dl_wr g a (nI n) v = dl_s2 g a n v := fun g a v => ma_wr g (by omega) a v
  have j12 : ∀ (a b p q : Int32), dl_s2 (dl_s2 (dl_s2 (dl_s2 gc 7 n a) 8 n b) 10 n p) 11 n q 1 12 = gc 1 12 := fun a b p q => by
    rw [ma_s2n _ _ (by omega), ma_s2n _ _ (by omega), ma_s2n _ _ (by omega), ma_s2n _ _ (by omega)]
  have j13 : ∀ (a b p q : Int32), dl_s2 (dl_s2 (dl_s2 (dl_s2 gc 7 n a) 8 n b) 10 n p) 11 n q 1 13 = gc 1 13 := fun a b p q => by
    rw [ma_s2n _ _ (by omega), ma_s2n _ _ (by omega), ma_s2n _ _ (by omega), ma_s2n _ _ (by omega)]
  have j10 : ∀ (a b p q : Int32), dl_s2 (dl_s2 (dl_s2 (dl_s2 gc 7 n a) 8 n b) 10 n p) 11 n q 1 10 = nI n := fun a b p q => by
    rw [ma_s2n _ _ (by omega), ma_s2n _ _ (by omega), ma_s2n _ _ (by omega), ma_s2n _ _ (by omega), e]
  have k10 : ∀ (g : dl_Sg) (x : Int32), dl_s2 g 1 12 x 1 10 = g 1 10 := fun g x => ma_s2n _ _ (by omega)
  have k13 : ∀ (g : dl_Sg) (x : Int32), dl_s2 g 1 13 x 1 10 = g 1 10 := fun g x => ma_s2n _ _ (by omega)
  have i12 : ∀ (a b p q : Int32), dl_s2 (dl_s2 (dl_s2 (dl_s2 (dl_s2 gc 7 n a) 8 n b) 10 n p) 11 n q) 1 12 (gc 1 12) = dl_s2 (dl_s2 (dl_s2 (dl_s2 gc 7 n a) 8 n b) 10 n p) 11 n q := fun a b p q => by
    have := dl_s2_id (dl_s2 (dl_s2 (dl_s2 (dl_s2 gc 7 n a) 8 n b) 10 n p) 11 n q) 1 12
    rw [j12] at this
    exact this
  have i13 : ∀ (a b p q t : Int32), dl_s2 (dl_s2 (dl_s2 (dl_s2 (dl_s2 (dl_s2 gc 7 n a) 8 n b) 10 n p) 11 n q) 1 12 t) 1 13 (gc 1 13) = dl_s2 (dl_s2 (dl_s2 (dl_s2 (dl_s2 gc 7 n a) 8 n b) 10 n p) 11 n q) 1 12 t := fun a b p q t => by
    have := dl_s2_id (dl_s2 (dl_s2 (dl_s2 (dl_s2 (dl_s2 gc 7 n a) 8 n b) 10 n p) 11 n q) 1 12 t) 1 13
    rw [ma_s2n _ _ (by omega), j13] at this
    exact this
  have i14 : ∀ (a b p q : Int32), dl_s2 (dl_s2 (dl_s2 (dl_s2 (dl_s2 gc 7 n a) 8 n b) 10 n p) 11 n q) 1 13 (gc 1 13) = dl_s2 (dl_s2 (dl_s2 (dl_s2 gc 7 n a) 8 n b) 10 n p) 11 n q := fun a b p q => by
    have := dl_s2_id (dl_s2 (dl_s2 (dl_s2 (dl_s2 gc 7 n a) 8 n b) 10 n p) 11 n q) 1 13
    rw [j13] at this
    exact this
  unfold cl2_addPlace cl2_addPlace_b33 cl2_addPlace_b49 cl2_addPlace_b60 cl2_addPlace_b72 cl2_addPlace_b82 pl_A en_pr1 en_wi1
  rw [e]
  have : K = 0 ∨ K = 1 ∨ K = 2 ∨ K = 3 ∨ K = 4 := by omega
  rcases this with q | q | q | q | q <;> subst q
  · rw [if_neg (show ¬ (0 = 4) by decide), if_neg (show ¬ (0 = 2) by decide), if_neg (show ¬ (0 = 1 ∨ 0 = 3) by decide), if_neg (show ¬ (0 = 3) by decide), i12, i14]
    simp only [ma_nme, g10, gt, wr, if_neg (show ¬ nI 0 = (4 : Int32) by decide), if_neg (show ¬ nI 0 = (2 : Int32) by decide), if_neg (show ¬ nI 0 = (1 : Int32) by decide), if_neg (show ¬ nI 0 = (3 : Int32) by decide)]
    rw [show (0 : Int32) = nI 0 from rfl, j10, nI_1]
  · rw [if_neg (show ¬ (1 = 4) by decide), if_neg (show ¬ (1 = 2) by decide), if_pos (show (1 = 1 ∨ 1 = 3) by decide), if_neg (show ¬ (1 = 3) by decide), i13]
    simp only [ma_nme, g10, gt, wr, if_neg (show ¬ nI 1 = (4 : Int32) by decide), if_neg (show ¬ nI 1 = (2 : Int32) by decide), if_pos (show nI 1 = (1 : Int32) by decide), if_neg (show ¬ nI 1 = (3 : Int32) by decide)]
    rw [show (0 : Int32) = nI 0 from rfl, k10, j10, j12, nI_1]
    rfl
  · rw [if_neg (show ¬ (2 = 4) by decide), if_pos (show (2 = 2) by decide), if_neg (show ¬ (2 = 1 ∨ 2 = 3) by decide), if_neg (show ¬ (2 = 3) by decide), i12, i14]
    simp only [ma_nme, g10, gt, wr, if_neg (show ¬ nI 2 = (4 : Int32) by decide), if_pos (show nI 2 = (2 : Int32) by decide), if_neg (show ¬ nI 2 = (1 : Int32) by decide), if_neg (show ¬ nI 2 = (3 : Int32) by decide)]
    rw [show (0 : Int32) = nI 0 from rfl, j10, nI_1]
  · rw [if_neg (show ¬ (3 = 4) by decide), if_neg (show ¬ (3 = 2) by decide), if_pos (show (3 = 1 ∨ 3 = 3) by decide), if_pos (show (3 = 3) by decide)]
    simp only [ma_nme, g10, gt, wr, if_neg (show ¬ nI 3 = (4 : Int32) by decide), if_neg (show ¬ nI 3 = (2 : Int32) by decide), if_neg (show ¬ nI 3 = (1 : Int32) by decide), if_pos (show nI 3 = (3 : Int32) by decide)]
    rw [show (0 : Int32) = nI 0 from rfl, k13, k10, j10, j12, nI_1]
    rfl
  · rw [if_pos (show (4 = 4) by decide), if_neg (show ¬ (4 = 2) by decide), if_neg (show ¬ (4 = 1 ∨ 4 = 3) by decide), if_neg (show ¬ (4 = 3) by decide), i12, i14]
    simp only [ma_nme, g10, gt, wr, if_pos (show nI 4 = (4 : Int32) by decide), if_neg (show ¬ nI 4 = (2 : Int32) by decide), if_neg (show ¬ nI 4 = (1 : Int32) by decide), if_neg (show ¬ nI 4 = (3 : Int32) by decide)]
    rw [show (0 : Int32) = nI 0 from rfl, j10, nI_1]
/-- the reference looks for a well -/
theorem ma_well_no (h : iv al E c gc gm) (hK : K ≤ 4) (hn : en_n E < 10) (hw : K = 3 → ∀ p, p < en_n E → en_k E p ≠ 3) (x2 x3 : Int32) : ∀ f i, i ≤ en_n E → en_n E - i < f → mo_place_b63 N f (nI K) x2 x3 (nI i) gm = (if x3 = 0 then mo_place_b127 N (nI (en_n E)) 0 (dl_s2 gm 1 (en_n E) (nI K)) else mo_place_b127 N (nI (en_n E)) x2 (dl_s2 gm 1 (en_n E) (nI K)))
  | 0, i, _, hf => absurd hf (by omega)
  | f + 1, i, hi, hf => by
    rw [mo_place_b63, h.M.n]
    by_cases e : i = en_n E
    · rw [if_pos ((ma_le (by omega) (by omega)).mpr (by omega)), ma_gde (ma_in_t hn (by omega)), ma_wr _ (by omega), ma_nme, ma_s2n (b := 0) _ _ (by omega), h.M.n]
    · rw [if_neg (fun q => absurd ((ma_le (by omega) (by omega)).mp q) (by omega))]
      have hp : i < en_n E := by omega
      have ih := ma_well_no h hK hn hw x2 x3 f (i + 1) (by omega) (by omega)
      unfold mo_place_b94
      rw [nI_1, ma_nme, ih]
      by_cases k3 : nI K = (3 : Int32)
      · have k3' : K = 3 := (ma_eqn (b := 3) (by omega) (by omega)).mp k3
        have hk := h.ok.k hp
        have k4 : ¬ nI (en_k E i) = (3 : Int32) := fun q => hw k3' i hp ((ma_eqn (b := 3) (by omega) (by omega)).mp q)
        rw [if_pos k3, ma_gde (ma_in_t (by omega) (by omega)), nI_clamp (by omega), h.M.k hp, if_neg k4]
      · rw [if_neg k3]
theorem ma_well_yes (h : iv al E c gc gm) {p : Nat} (hp : p < en_n E) (h3 : en_k E p = 3) (x2 x3 : Int32) : ∀ f i, i ≤ p → p - i < f → mo_place_b63 N f 3 x2 x3 (nI i) gm = some (-1, dl_s2 gm 0 14 3)
  | 0, i, _, hf => absurd hf (by omega)
  | f + 1, i, hi, hf => by
    have hn := h.ok.n
    rw [mo_place_b63, h.M.n, if_neg (fun q => absurd ((ma_le (by omega) (by omega)).mp q) (by omega)), if_pos rfl, ma_gde (ma_in_t (by omega) (by omega)), nI_clamp (by omega), h.M.k (show i < en_n E by omega)]
    have hk := h.ok.k (show i < en_n E by omega)
    by_cases e : nI (en_k E i) = (3 : Int32)
    · rw [if_pos e]
      rfl
    · rw [if_neg e]
      unfold mo_place_b94
      rw [nI_1, ma_nme]
      have : i ≠ p := fun q => e (by rw [q, h3]; rfl)
      exact ma_well_yes h hp h3 x2 x3 f (i + 1) (by omega) (by omega)
/-- a place is made -/
theorem ma_place (hN : 131073 ≤ N) (h : iv al E c gc gm) (hc : c < 2 ^ 30) (hn : en_n E < 10) (hK : K ≤ 4) (hW : W ≤ 100) (hw : K = 3 → ∀ p, p < en_n E → en_k E p ≠ 3) : ∃ gc' gm', cl2_addPlace gc (nI K) (nI W) = some (nI (en_n E), gc') ∧ mo_place_b127 N (nI (en_n E)) (nI W) (dl_s2 gm 1 (en_n E) (nI K)) = some (nI (en_n E), dl_s2 gm' 0 14 0) ∧ iv al (en_P E K W) (c + 1) gc' gm' := by
  have ho := h.ok.P hn hK hW hw
  generalize hM : en_n E = M at hn
  have b1 : mo_place_b127 N (nI M) (nI W) (dl_s2 gm 1 M (nI K)) = (dl_bi (mo_changed N (dl_s2 (dl_s2 (dl_s2 gm 1 M (nI K)) 2 M (nI W)) 0 0 (nI (M + 1))) 1) fun g3 => some (g3 0 0 - 1, dl_s2 g3 0 14 0)) := by
    unfold mo_place_b127
    rw [ma_gde (ma_in_t hn (by omega)), ma_wr _ (by omega), ma_nme, ma_nme, ma_s2n (b := 0) _ _ (by omega), ma_s2n (b := 0) _ _ (by omega), h.M.n, hM, nI_1]
    rfl
  have hMM : en_M (en_P E K W) (dl_s2 (dl_s2 (dl_s2 gm 1 M (nI K)) 2 M (nI W)) 0 0 (nI (M + 1))) := by
    subst hM
    refine ⟨ma_s2s _ _ _ _, ?_, fun p hp => ?_, fun s hs => ?_, ?_⟩
    · rw [ma_s2n _ _ (by omega), ma_s2n _ _ (by omega), ma_s2n _ _ (by omega)]
      exact h.M.m
    · have hp : p < en_n E + 1 := hp
      show _ = nI (if p = en_n E then K else en_k E p) ∧ _ = nI (if p = en_n E then W else en_w E p)
      by_cases e : p = en_n E
      · rw [if_pos e, if_pos e, e, ma_s2n (b := 1) _ _ (by omega), ma_s2n (b := 1) _ _ (by omega), ma_s2s, ma_s2n (b := 2) _ _ (by omega), ma_s2s]
        exact ⟨rfl, rfl⟩
      · rw [if_neg e, if_neg e, ma_s2n _ _ (by omega), ma_s2n _ _ (by omega), ma_s2n _ _ (by omega), ma_s2n _ _ (by omega), ma_s2n _ _ (by omega), ma_s2n _ _ (by omega)]
        exact h.M.2.2.1 p (by omega)
    · rw [ma_s2r _ _ _ _ (by decide), ma_s2r _ _ _ _ (by decide), ma_s2r _ _ _ _ (by decide), ma_s2r _ _ _ _ (by decide), ma_s2r _ _ _ _ (by decide), ma_s2r _ _ _ _ (by decide), ma_s2r _ _ _ _ (by decide), ma_s2r _ _ _ _ (by decide), ma_s2r _ _ _ _ (by decide)]
      exact h.M.2.2.2.1 s hs
    · rw [ma_s2n _ _ (by omega), ma_s2n _ _ (by omega), ma_s2n _ _ (by omega)]
      exact h.M.t
  have a1 := ma_addPlace (W := W) hn (h.C.n.trans (by rw [hM])) hK
  generalize hA : pl_A gc M (nI K) (nI W) (nI (en_pr1 K W)) (nI (en_wi1 K W)) (if K = 1 ∨ K = 3 then gc 1 12 ||| bi1 M else gc 1 12) (if K = 3 then nI M else gc 1 13) = gA at a1
  have r : ∀ k, k ≠ 1 → k ≠ 7 → k ≠ 8 → k ≠ 10 → k ≠ 11 → gA k = gc k := fun k q1 q2 q3 q4 q5 => by
    rw [← hA]
    unfold pl_A
    rw [ma_s2r _ _ _ _ q1, ma_s2r _ _ _ _ q1, ma_s2r _ _ _ _ q1, ma_s2r _ _ _ _ q5, ma_s2r _ _ _ _ q4, ma_s2r _ _ _ _ q3, ma_s2r _ _ _ _ q2]
  have i1 : ∀ i, i ≠ 10 → i ≠ 12 → i ≠ 13 → gA 1 i = gc 1 i := fun i q1 q2 q3 => by
    rw [← hA]
    unfold pl_A
    rw [ma_s2n _ _ (by omega), ma_s2n _ _ (by omega), ma_s2n _ _ (by omega), ma_s2n _ _ (by omega), ma_s2n _ _ (by omega), ma_s2n _ _ (by omega), ma_s2n _ _ (by omega)]
  have i10 : gA 1 10 = nI (M + 1) := by
    rw [← hA]
    exact ma_s2s _ _ _ _
  have i12 : gA 1 12 = if K = 1 ∨ K = 3 then gc 1 12 ||| bi1 M else gc 1 12 := by
    rw [← hA]
    unfold pl_A
    rw [ma_s2n _ _ (by omega), ma_s2n _ _ (by omega), ma_s2s]
  have i13 : gA 1 13 = if K = 3 then nI M else gc 1 13 := by
    rw [← hA]
    unfold pl_A
    rw [ma_s2n _ _ (by omega), ma_s2s]
  have rs : ∀ p, gA 7 p = (if p = M then nI K else gc 7 p) ∧ gA 8 p = (if p = M then nI W else gc 8 p) ∧ gA 10 p = (if p = M then nI (en_pr1 K W) else gc 10 p) ∧ gA 11 p = (if p = M then nI (en_wi1 K W) else gc 11 p) := fun p => by
    rw [← hA]
    unfold pl_A
    have t : ∀ (g : dl_Sg) (a : Nat) (v : Int32), dl_s2 g a M v a p = if p = M then v else g a p := fun g a v => by
      rw [ma_s2]
      by_cases e : p = M
      · rw [if_pos ⟨rfl, e⟩, if_pos e]
      · rw [if_neg (fun w => e w.2), if_neg e]
    refine ⟨?_, ?_, ?_, ?_⟩
    · rw [ma_s2n _ _ (by omega), ma_s2n _ _ (by omega), ma_s2n _ _ (by omega), ma_s2n _ _ (by omega), ma_s2n _ _ (by omega), ma_s2n _ _ (by omega), t]
    · rw [ma_s2n _ _ (by omega), ma_s2n _ _ (by omega), ma_s2n _ _ (by omega), ma_s2n _ _ (by omega), ma_s2n _ _ (by omega), t, ma_s2n _ _ (by omega)]
    · rw [ma_s2n _ _ (by omega), ma_s2n _ _ (by omega), ma_s2n _ _ (by omega), ma_s2n _ _ (by omega), t, ma_s2n _ _ (by omega), ma_s2n _ _ (by omega)]
    · rw [ma_s2n _ _ (by omega), ma_s2n _ _ (by omega), ma_s2n _ _ (by omega), t, ma_s2n _ _ (by omega), ma_s2n _ _ (by omega), ma_s2n _ _ (by omega)]
  subst hM
  have hCC : en_C (en_P E K W) gA := by
    refine ⟨i10, (i1 11 (by decide) (by decide) (by decide)).trans h.C.m, fun p hp => ?_, fun s hs => ?_, ?_, fun p hp i => ?_, ?_, ?_⟩
    · have hp : p < en_n E + 1 := hp
      obtain ⟨r1, r2, r3, r4⟩ := rs p
      show gA 7 p = nI (if p = en_n E then K else en_k E p) ∧ gA 8 p = nI (if p = en_n E then W else en_w E p) ∧ gA 10 p = nI (if (if p = en_n E then K else en_k E p) = 4 then (if p = en_n E then W else en_w E p) else 0) ∧ gA 11 p = nI (if (if p = en_n E then K else en_k E p) = 2 then (if p = en_n E then W else en_w E p) else 0)
      rw [r1, r2, r3, r4]
      by_cases e : p = en_n E
      · rw [if_pos e, if_pos e, if_pos e, if_pos e, if_pos e, if_pos e]
        exact ⟨rfl, rfl, rfl, rfl⟩
      · rw [if_neg e, if_neg e, if_neg e, if_neg e, if_neg e, if_neg e]
        exact h.C.2.2.1 p (by omega)
    · rw [r 13 (by decide) (by decide) (by decide) (by decide) (by decide), r 14 (by decide) (by decide) (by decide) (by decide) (by decide), r 15 (by decide) (by decide) (by decide) (by decide) (by decide), r 16 (by decide) (by decide) (by decide) (by decide) (by decide)]
      exact h.C.2.2.2.1 s hs
    · rw [i1 14 (by decide) (by decide) (by decide)]
      exact h.C.t
    · rw [r 12 (by decide) (by decide) (by decide) (by decide) (by decide)]
      exact h.C.of hp i
    · rw [i12]
      refine ma_mk_of (show en_n E + 1 ≤ 32 by omega) (fun i => ?_)
      show _ = (decide (i < en_n E + 1) && decide ((if i = en_n E then K else en_k E i) = 1 ∨ (if i = en_n E then K else en_k E i) = 3))
      have base : i ≠ en_n E → bt (gc 1 12) i = (decide (i < en_n E + 1) && decide (en_k E i = 1 ∨ en_k E i = 3)) := fun q => by
        rw [h.C.taps, en_taps_b h.ok]
        by_cases w : i < en_n E
        · rw [decide_eq_true w, decide_eq_true (show i < en_n E + 1 by omega)]
          rfl
        · rw [decide_eq_false w, decide_eq_false (show ¬ i < en_n E + 1 by omega)]
          rfl
      by_cases z : i = en_n E
      · rw [if_pos z]
        have b0 : bt (gc 1 12) i = false := by
          rw [h.C.taps]
          exact en_taps_lo h.ok i (by omega)
        by_cases t : K = 1 ∨ K = 3
        · rw [if_pos t, ma_put1 _ (by omega), decide_eq_true z, decide_eq_true t, decide_eq_true (show i < en_n E + 1 by omega), Bool.or_true]
          rfl
        · rw [if_neg t, b0, decide_eq_false t, Bool.and_false]
      · rw [if_neg z, ← base z]
        by_cases t : K = 1 ∨ K = 3
        · rw [if_pos t, ma_put1 _ (by omega), decide_eq_false z, Bool.or_false]
        · rw [if_neg t]
    · rw [i13]
      show (_ ∧ ∀ p, p < en_n E + 1 → (if p = en_n E then K else en_k E p) ≠ 3) ∨ ∃ p, p < en_n E + 1 ∧ (if p = en_n E then K else en_k E p) = 3 ∧ _
      by_cases k3 : K = 3
      · rw [if_pos k3]
        exact Or.inr ⟨en_n E, Nat.lt_succ_self _, by rw [if_pos rfl]; exact k3, rfl⟩
      · rw [if_neg k3]
        rcases h.C.well with ⟨u1, u2⟩ | ⟨p', u1, u2, u3⟩
        · refine Or.inl ⟨u1, fun p hp => ?_⟩
          by_cases z : p = en_n E
          · rw [if_pos z]; exact k3
          · rw [if_neg z]; exact u2 p (by omega)
        · exact Or.inr ⟨p', by omega, by rw [if_neg (by omega)]; exact u2, u3⟩
  have hd : iv_hd (en_P E K W) gA (dl_s2 (dl_s2 (dl_s2 gm 1 (en_n E) (nI K)) 2 (en_n E) (nI W)) 0 0 (nI (en_n E + 1))) := by
    unfold iv_hd
    rw [i1 15 (by decide) (by decide) (by decide), ma_s2n _ _ (by omega), ma_s2n _ _ (by omega), ma_s2n _ _ (by omega)]
    exact h.hd
  obtain ⟨gc', gm', e1, e2, e3⟩ := iv.note (N := N) (by omega) h hc ho hMM hCC hd (fun k a b d e => r k a b d (by omega) (by omega)) (i1 16 (by decide) (by decide) (by decide)) (i1 17 (by decide) (by decide) (by decide)) (fun k a b d e f i => by rw [ma_s2r _ _ _ _ a, ma_s2r _ _ _ _ d, ma_s2r _ _ _ _ b]) (by rw [ma_s2n _ _ (by omega), ma_s2n _ _ (by omega), ma_s2n _ _ (by omega)]) (by rw [ma_s2n _ _ (by omega), ma_s2n _ _ (by omega), ma_s2n _ _ (by omega)]) (by rw [ma_s2n _ _ (by omega), ma_s2n _ _ (by omega), ma_s2n _ _ (by omega)]) (x := -1) (y := 1) (Or.inl ⟨rfl, rfl⟩) (fun ch L hl hL => Or.inl ⟨hL, Nat.succ_le_succ (Nat.zero_le _), fun s hs => ⟨h.ok.a hs, h.ok.b hs⟩, hl⟩)
  refine ⟨gc', gm', ?_, ?_, e3⟩
  · rw [a1, dl_bi_e e1]
  · rw [b1, dl_bi_e e2, e3.M.n]
    show some (nI (en_n E + 1) - 1, dl_s2 gm' 0 14 0) = _
    rw [nI_pred]
/-- behind the looks at kind and worth -/
theorem ma_placed (hN : 131073 ≤ N) (h : iv al E c gc gm) (hc : c < 2 ^ 30) (hK : K ≤ 4) (hW : W ≤ 100) (x2 x3 : Int32) (hx : (x3 = 0 ∧ W = 0) ∨ (¬ x3 = 0 ∧ x2 = nI W)) :
    ma_tp al (c + 1) (if nI (en_n E) < (10 : Int32) then (if nI K = (3 : Int32) then (if gc 1 13 = (-1 : Int32) then (dl_b2 (cl2_addPlace gc (nI K) (nI W)) fun r7 g8 => dl_b2 (cl11_done g8 r7) fun r9 g10 => some (r9, g10)) else (dl_b2 (cl11_refused gc (3 : Int32)) fun r16 g17 => some (r16, g17))) else (dl_b2 (cl2_addPlace gc (nI K) (nI W)) fun r7 g8 => dl_b2 (cl11_done g8 r7) fun r9 g10 => some (r9, g10))) else (dl_b2 (cl11_refused gc (2 : Int32)) fun r30 g31 => some (r30, g31))) (mo_place_b45 N (nI K) x2 x3 gm) := by
  have hn := h.ok.n
  unfold mo_place_b45
  rw [h.M.n, ma_nme]
  by_cases e : en_n E < 10
  · rw [if_pos ((ma_L10lt (by omega)).mpr e), if_neg (fun q => absurd ((ma_e10 (by omega)).mp q) (by omega))]
    have yes : (K = 3 → ∀ p, p < en_n E → en_k E p ≠ 3) → ma_tp al (c + 1) (dl_b2 (cl2_addPlace gc (nI K) (nI W)) fun r7 g8 => dl_b2 (cl11_done g8 r7) fun r9 g10 => some (r9, g10)) (mo_place_b63 N N (nI K) x2 x3 (nI 0) gm) := fun hw => by
      obtain ⟨gc', gm', e1, e2, e3⟩ := ma_place (W := W) hN h hc e hK hW hw
      have e4 : mo_place_b63 N N (nI K) x2 x3 (nI 0) gm = some (nI (en_n E), dl_s2 gm' 0 14 0) := by
        rw [ma_well_no h hK e hw x2 x3 N 0 (by omega) (by omega)]
        rcases hx with ⟨u1, u2⟩ | ⟨u1, u2⟩
        · rw [if_pos u1]
          rw [u2] at e2
          exact e2
        · rw [if_neg u1, u2]
          exact e2
      rw [dl_b2_e e1, e4]
      exact ⟨_, _, _, rfl, rfl, _, e3.s 0⟩
    by_cases k3 : K = 3
    · have k3' : nI K = (3 : Int32) := by rw [k3]; rfl
      rw [if_pos k3']
      rcases h.C.well with ⟨u1, u2⟩ | ⟨p, u1, u2, u3⟩
      · rw [if_pos u1]
        exact yes (fun _ => u2)
      · rw [u3, if_neg (ma_m1 (by omega)), k3']
        have := ma_well_yes (N := N) h u1 u2 x2 x3 N 0 (by omega) (by omega)
        have this : mo_place_b63 N N 3 x2 x3 0 gm = _ := this
        rw [this]
        exact ma_tp.up ⟨_, _, _, rfl, rfl, E, h.s 3⟩
    · have k4 : ¬ nI K = (3 : Int32) := fun q => k3 ((ma_eqn (b := 3) (by omega) (by omega)).mp q)
      rw [if_neg k4]
      exact yes (fun q => absurd q k3)
  · have e10 : en_n E = 10 := by omega
    rw [e10, if_neg (show ¬ nI 10 < (10 : Int32) by decide), if_pos (show nI 10 = (10 : Int32) from rfl)]
    exact ma_tp.up ⟨_, _, _, rfl, rfl, E, h.s 2⟩
theorem ma_pl0 (hN : 131073 ≤ N) (h : iv al E c gc gm) (hc : c < 2 ^ 30) (hK : K ≤ 4) (e : cl11_hasWorth (nI K) = some 0) (e2 : ¬ nI K = (2 : Int32)) (e4 : ¬ nI K = (4 : Int32)) (y : Int32) : ma_tp al (c + 1) (cl11_place gc (nI K) y) (mo_place N gm (nI K) y) := by
  have n5 : ¬ (5 : Int32) ≤ nI K := fun q => absurd ((ma_le (a := 5) (by omega) (by omega)).mp q) (by omega)
  unfold cl11_place mo_place mo_place_b15
  rw [if_neg e2, if_neg e4, ma_nme, dl_bi_e (ma_inMap _), show ma_dec (px 5 (nI K)) = true from ma_dec_t.mpr ⟨K, by omega, rfl⟩, if_neg ma_q1, if_pos (show (0 : Int32) = 0 from rfl), if_neg (nI_pos (by omega)), if_neg n5, dl_bi_e e, if_pos (show (0 : Int32) = 0 from rfl), dl_bi_e e, if_pos (show (0 : Int32) = 0 from rfl), h.C.n]
  exact ma_placed (W := 0) hN h hc hK (by omega) y 0 (Or.inl ⟨rfl, rfl⟩)
theorem ma_pl1 (hN : 131073 ≤ N) (h : iv al E c gc gm) (hc : c < 2 ^ 30) (hK : K ≤ 4) (e : cl11_hasWorth (nI K) = some 1) (e2 : nI K = (2 : Int32) ∨ nI K = (4 : Int32)) (y : Int32) : ma_tp al (c + 1) (cl11_place gc (nI K) y) (mo_place N gm (nI K) y) := by
  have n5 : ¬ (5 : Int32) ≤ nI K := fun q => absurd ((ma_le (a := 5) (by omega) (by omega)).mp q) (by omega)
  have no : ma_tp al (c + 1) (dl_b2 (cl11_refused gc 1) fun r1 g2 => some (r1, g2)) (mo_place_b39 N gm) := ma_tp.up ⟨_, _, _, rfl, rfl, E, h.s 1⟩
  have m : mo_place N gm (nI K) y = mo_place_b15 N (nI K) y 1 gm := by
    unfold mo_place mo_place_b10
    rcases e2 with q | q
    · rw [if_pos q]
    · rw [if_pos q, ite_self]
  rw [m]
  unfold cl11_place mo_place_b15
  rw [ma_nme, dl_bi_e (ma_inMap _), show ma_dec (px 5 (nI K)) = true from ma_dec_t.mpr ⟨K, by omega, rfl⟩, if_neg ma_q1, if_neg (show ¬ (1 : Int32) = 0 by decide), if_neg (nI_pos (by omega)), if_neg n5, dl_bi_e e, if_neg (show ¬ (1 : Int32) = 0 by decide), dl_bi_e (ma_amount y), dl_bi_e (mo_in_e y 1 100)]
  cases hy : ma_in y 1 100
  · rw [if_pos ma_q0, if_pos ma_q0]
    exact no
  · rw [if_neg ma_q1, if_neg ma_q1, dl_bi_e e, if_neg (show ¬ (1 : Int32) = 0 by decide), h.C.n]
    obtain ⟨W, w1, w2, rfl⟩ := ma_am hy
    exact ma_placed hN h hc hK w2 (nI W) 1 (Or.inr ⟨by decide, rfl⟩)
theorem do_place (hN : 131073 ≤ N) (h : iv al E c gc gm) (hc : c < 2 ^ 30) (x y : Int32) : ma_tp al (c + 1) (cl11_place gc x y) (mo_place N gm x y) := by
  rcases pk_ix x (show 5 < 2 ^ 31 by omega) with q | q | ⟨K, k1, rfl⟩
  · have hx : ¬ px 5 x := fun ⟨j, j1, j2⟩ => by rw [j2] at q; exact nI_pos (by omega) q
    unfold cl11_place mo_place mo_place_b15
    rw [if_pos q, if_neg (show ¬ x = (2 : Int32) from fun w => hx ⟨2, by omega, w⟩), if_neg (show ¬ x = (4 : Int32) from fun w => hx ⟨4, by omega, w⟩), ma_nme, dl_bi_e (ma_inMap _), ma_dec_f.mpr hx, if_pos ma_q0]
    exact ma_tp.up ⟨_, _, _, rfl, rfl, E, h.s 1⟩
  · have hx : ¬ px 5 x := fun ⟨j, j1, j2⟩ => by
      rw [j2] at q
      have := (ma_le (by omega) (by omega)).mp q
      omega
    have q : (5 : Int32) ≤ x := q
    unfold cl11_place mo_place mo_place_b15
    rw [if_pos q, ite_self, if_neg (show ¬ x = (2 : Int32) from fun w => hx ⟨2, by omega, w⟩), if_neg (show ¬ x = (4 : Int32) from fun w => hx ⟨4, by omega, w⟩), ma_nme, dl_bi_e (ma_inMap _), ma_dec_f.mpr hx, if_pos ma_q0]
    exact ma_tp.up ⟨_, _, _, rfl, rfl, E, h.s 1⟩
  · have : K = 0 ∨ K = 1 ∨ K = 2 ∨ K = 3 ∨ K = 4 := by omega
    rcases this with z | z | z | z | z <;> subst z
    · exact ma_pl0 hN h hc (by omega) rfl (by decide) (by decide) y
    · exact ma_pl0 hN h hc (by omega) rfl (by decide) (by decide) y
    · exact ma_pl1 (K := 2) hN h hc (by omega) rfl (Or.inl rfl) y
    · exact ma_pl0 hN h hc (by omega) rfl (by decide) (by decide) y
    · exact ma_pl1 (K := 4) hN h hc (by omega) rfl (Or.inr rfl) y
end
