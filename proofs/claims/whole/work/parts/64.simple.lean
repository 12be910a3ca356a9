/-! The mathematics, first rows: what the small functions answer -/
theorem mo_done_e (g : dl_Sg) (x : Int32) : mo_done g x = some (x, dl_s2 g 0 14 0) := rfl
theorem mo_refused_e (g : dl_Sg) (x : Int32) : mo_refused g x = some (-1, dl_s2 g 0 14 x) := rfl
theorem cl11_done_e (g : dl_Sg) (x : Int32) : cl11_done g x = some (x, dl_s2 g 0 5 0) := rfl
theorem cl11_refused_e (g : dl_Sg) (x : Int32) : cl11_refused g x = some (-1, dl_s2 g 0 5 x) := rfl
theorem mo_status_e (g : dl_Sg) : mo_status g = some (g 0 14) := rfl
theorem cl11_status_e (g : dl_Sg) : cl11_status g = some (g 0 5) := rfl
theorem cl11_bitAt_e (x i : Int32) : cl11_bitAt x i = some ((x >>> (i &&& 31)) &&& 1) := rfl
/-- between two numbers -/
def ma_in (v a b : Int32) : Bool := decide (a ≤ v) && decide (v ≤ b)
theorem mo_in_e (v a b : Int32) : mo_in v a b = some (if ma_in v a b = true then 1 else 0) := by
  unfold mo_in ma_in
  by_cases h1 : v < a
  · rw [if_pos h1, if_neg]
    simp only [Bool.and_eq_true, decide_eq_true_eq, not_and]
    intro h
    exact absurd h (Int32.not_le.mpr h1)
  · rw [if_neg h1]
    by_cases h2 : b < v
    · rw [if_pos h2, if_neg]
      simp only [Bool.and_eq_true, decide_eq_true_eq, not_and]
      exact fun _ => Int32.not_le.mpr h2
    · rw [if_neg h2, if_pos]
      simp only [Bool.and_eq_true, decide_eq_true_eq]
      exact ⟨Int32.not_lt.mp h1, Int32.not_lt.mp h2⟩
theorem ma_bo (b : Bool) : dl_bo (if b = true then 1 else 0) = true := by cases b <;> rfl
theorem mo_isPlace_e (g : dl_Sg) (x : Int32) : mo_isPlace g x = some (if ma_in x 0 (g 0 0 - 1) = true then 1 else 0) := by
  unfold mo_isPlace
  rw [dl_bi_e (mo_in_e _ _ _), ma_bo]
  rfl
theorem mo_isStreet_e (g : dl_Sg) (x : Int32) : mo_isStreet g x = some (if ma_in x 0 (g 0 3 - 1) = true then 1 else 0) := by
  unfold mo_isStreet
  rw [dl_bi_e (mo_in_e _ _ _), ma_bo]
  rfl
