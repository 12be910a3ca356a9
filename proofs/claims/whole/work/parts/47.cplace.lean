theorem cc_q {cI cP cII : ClassId} {ad : Nat → Nat} {pr : Nat → Option Nat} {g : dl_Sg} {R : va_W} {q : Nat} {z : Nat × va_E} (h : R[q]? = some z) : (cc_w cI cP cII ad pr g ++ R)[33 + q]? = some z := by
  rw [List.getElem?_append_right (show 33 ≤ 33 + q from Nat.le_add_right _ _)]
  show R[33 + q - 33]? = some z
  rw [Nat.add_sub_cancel_left]
  exact h
theorem hnw_join : ∀ w ∈ wsX3_join, w ∈ cc_nw := fun _ h => List.mem_append_right _ (List.mem_append_right _ (List.mem_append_left _ h))
theorem hnw_ask : ∀ w ∈ wsX3_ask, w ∈ cc_nw := fun _ h => List.mem_append_right _ (List.mem_append_right _ (List.mem_append_right _ h))
theorem hin_X0_cost_X0 : ∀ w ∈ u_ws RX0 TX0 4, w ∈ wsX0_cost := fun _ h => List.mem_cons_of_mem _ (List.mem_append_left _ (List.mem_append_left _ (List.mem_append_left _ (List.mem_append_left _ (List.mem_append_left _ (List.mem_append_right _ h))))))
theorem hin_X0_tell_X0 : ∀ w ∈ u_ws RX0 TX0 4, w ∈ wsX0_tell := fun _ h => List.mem_cons_of_mem _ (List.mem_append_left _ (List.mem_append_left _ (List.mem_append_left _ (List.mem_append_left _ (List.mem_append_left _ (List.mem_append_right _ h))))))
theorem hin_X10_ask_X10 : ∀ w ∈ u_ws RX10 TX10 4, w ∈ wsX10_ask := fun _ h => List.mem_cons_of_mem _ (List.mem_append_left _ (List.mem_append_right _ h))
theorem hin_X3_ask_X0 : ∀ w ∈ u_ws RX0 TX0 4, w ∈ wsX3_ask := fun _ h => List.mem_cons_of_mem _ (List.mem_append_left _ (List.mem_append_left _ (List.mem_append_left _ (List.mem_append_left _ (List.mem_append_left _ (List.mem_append_right _ h))))))
theorem hin_X3_ask_X10 : ∀ w ∈ u_ws RX10 TX10 4, w ∈ wsX3_ask := fun _ h => List.mem_cons_of_mem _ (List.mem_append_left _ (List.mem_append_right _ h))
theorem hin_X3_ask_X3 : ∀ w ∈ u_ws RX3 TX3 4, w ∈ wsX3_ask := fun _ h => List.mem_cons_of_mem _ (List.mem_append_left _ (List.mem_append_left _ (List.mem_append_left _ (List.mem_append_left _ (List.mem_append_right _ h)))))
theorem hin_X3_ask_X4 : ∀ w ∈ u_ws RX4 TX4 4, w ∈ wsX3_ask := fun _ h => List.mem_cons_of_mem _ (List.mem_append_left _ (List.mem_append_left _ (List.mem_append_left _ (List.mem_append_right _ h))))
theorem hin_X3_ask_X9 : ∀ w ∈ u_ws RX9 TX9 4, w ∈ wsX3_ask := fun _ h => List.mem_cons_of_mem _ (List.mem_append_left _ (List.mem_append_left _ (List.mem_append_right _ h)))
theorem hin_X3_cost_X0 : ∀ w ∈ u_ws RX0 TX0 4, w ∈ wsX3_cost := fun _ h => List.mem_cons_of_mem _ (List.mem_append_left _ (List.mem_append_left _ (List.mem_append_left _ (List.mem_append_left _ (List.mem_append_left _ (List.mem_append_right _ h))))))
theorem hin_X3_cost_X10 : ∀ w ∈ u_ws RX10 TX10 4, w ∈ wsX3_cost := fun _ h => List.mem_cons_of_mem _ (List.mem_append_left _ (List.mem_append_right _ h))
theorem hin_X3_cost_X3 : ∀ w ∈ u_ws RX3 TX3 4, w ∈ wsX3_cost := fun _ h => List.mem_cons_of_mem _ (List.mem_append_left _ (List.mem_append_left _ (List.mem_append_left _ (List.mem_append_left _ (List.mem_append_right _ h)))))
theorem hin_X3_cost_X4 : ∀ w ∈ u_ws RX4 TX4 4, w ∈ wsX3_cost := fun _ h => List.mem_cons_of_mem _ (List.mem_append_left _ (List.mem_append_left _ (List.mem_append_left _ (List.mem_append_right _ h))))
theorem hin_X3_cost_X9 : ∀ w ∈ u_ws RX9 TX9 4, w ∈ wsX3_cost := fun _ h => List.mem_cons_of_mem _ (List.mem_append_left _ (List.mem_append_left _ (List.mem_append_right _ h)))
theorem hin_X3_join_X0 : ∀ w ∈ u_ws RX0 TX0 4, w ∈ wsX3_join := fun _ h => List.mem_cons_of_mem _ (List.mem_append_left _ (List.mem_append_left _ (List.mem_append_left _ (List.mem_append_left _ (List.mem_append_left _ (List.mem_append_right _ h))))))
theorem hin_X3_join_X10 : ∀ w ∈ u_ws RX10 TX10 4, w ∈ wsX3_join := fun _ h => List.mem_cons_of_mem _ (List.mem_append_left _ (List.mem_append_right _ h))
theorem hin_X3_join_X3 : ∀ w ∈ u_ws RX3 TX3 4, w ∈ wsX3_join := fun _ h => List.mem_cons_of_mem _ (List.mem_append_left _ (List.mem_append_left _ (List.mem_append_left _ (List.mem_append_left _ (List.mem_append_right _ h)))))
theorem hin_X3_join_X4 : ∀ w ∈ u_ws RX4 TX4 4, w ∈ wsX3_join := fun _ h => List.mem_cons_of_mem _ (List.mem_append_left _ (List.mem_append_left _ (List.mem_append_left _ (List.mem_append_right _ h))))
theorem hin_X3_join_X9 : ∀ w ∈ u_ws RX9 TX9 4, w ∈ wsX3_join := fun _ h => List.mem_cons_of_mem _ (List.mem_append_left _ (List.mem_append_left _ (List.mem_append_right _ h)))
theorem hin_X3_tell_X0 : ∀ w ∈ u_ws RX0 TX0 4, w ∈ wsX3_tell := fun _ h => List.mem_cons_of_mem _ (List.mem_append_left _ (List.mem_append_left _ (List.mem_append_left _ (List.mem_append_left _ (List.mem_append_left _ (List.mem_append_right _ h))))))
theorem hin_X3_tell_X10 : ∀ w ∈ u_ws RX10 TX10 4, w ∈ wsX3_tell := fun _ h => List.mem_cons_of_mem _ (List.mem_append_left _ (List.mem_append_right _ h))
theorem hin_X3_tell_X3 : ∀ w ∈ u_ws RX3 TX3 4, w ∈ wsX3_tell := fun _ h => List.mem_cons_of_mem _ (List.mem_append_left _ (List.mem_append_left _ (List.mem_append_left _ (List.mem_append_left _ (List.mem_append_right _ h)))))
theorem hin_X3_tell_X4 : ∀ w ∈ u_ws RX4 TX4 4, w ∈ wsX3_tell := fun _ h => List.mem_cons_of_mem _ (List.mem_append_left _ (List.mem_append_left _ (List.mem_append_left _ (List.mem_append_right _ h))))
theorem hin_X3_tell_X9 : ∀ w ∈ u_ws RX9 TX9 4, w ∈ wsX3_tell := fun _ h => List.mem_cons_of_mem _ (List.mem_append_left _ (List.mem_append_left _ (List.mem_append_right _ h)))
theorem hin_X4_cost_X4 : ∀ w ∈ u_ws RX4 TX4 4, w ∈ wsX4_cost := fun _ h => List.mem_cons_of_mem _ (List.mem_append_left _ (List.mem_append_left _ (List.mem_append_left _ (List.mem_append_right _ h))))
theorem hin_X4_cost_X9 : ∀ w ∈ u_ws RX9 TX9 4, w ∈ wsX4_cost := fun _ h => List.mem_cons_of_mem _ (List.mem_append_left _ (List.mem_append_left _ (List.mem_append_right _ h)))
theorem hin_X4_tell_X4 : ∀ w ∈ u_ws RX4 TX4 4, w ∈ wsX4_tell := fun _ h => List.mem_cons_of_mem _ (List.mem_append_left _ (List.mem_append_left _ (List.mem_append_left _ (List.mem_append_right _ h))))
theorem hin_X4_tell_X9 : ∀ w ∈ u_ws RX9 TX9 4, w ∈ wsX4_tell := fun _ h => List.mem_cons_of_mem _ (List.mem_append_left _ (List.mem_append_left _ (List.mem_append_right _ h)))
theorem hin_X9_ask_X9 : ∀ w ∈ u_ws RX9 TX9 4, w ∈ wsX9_ask := fun _ h => List.mem_cons_of_mem _ (List.mem_append_left _ (List.mem_append_left _ (List.mem_append_right _ h)))
theorem hin_X9_join_X9 : ∀ w ∈ u_ws RX9 TX9 4, w ∈ wsX9_join := fun _ h => List.mem_cons_of_mem _ (List.mem_append_left _ (List.mem_append_left _ (List.mem_append_right _ h)))
theorem lkp_X0_cost_9_X0 : Cond.fieldLink (yX0_cost).cls 9 "DripLines$Gate" (TX0 2).2.1 (TX0 2).2.2.1 ∈ wsX0_cost := by decide +kernel
theorem lkp_X0_cost_25_X0 : Cond.fieldLink (yX0_cost).cls 25 "DripLines$Gate" (TX0 1).2.1 (TX0 1).2.2.1 ∈ wsX0_cost := by decide +kernel
theorem lkp_X0_tell_9_X0 : Cond.fieldLink (yX0_tell).cls 9 "DripLines$Gate" (TX0 2).2.1 (TX0 2).2.2.1 ∈ wsX0_tell := by decide +kernel
theorem lkp_X10_ask_9_X10 : Cond.fieldLink (yX10_ask).cls 9 "DripLines$Wish" (TX10 2).2.1 (TX10 2).2.2.1 ∈ wsX10_ask := by decide +kernel
theorem lkp_X10_ask_25_X10 : Cond.fieldLink (yX10_ask).cls 25 "DripLines$Wish" (TX10 1).2.1 (TX10 1).2.2.1 ∈ wsX10_ask := by decide +kernel
theorem lkp_X3_ask_9_X0 : Cond.fieldLink (yX3_ask).cls 9 "DripLines$Place" (TX0 0).2.1 (TX0 0).2.2.1 ∈ wsX3_ask := by decide +kernel
theorem lkp_X3_ask_9_X10 : Cond.fieldLink (yX3_ask).cls 9 "DripLines$Place" (TX10 0).2.1 (TX10 0).2.2.1 ∈ wsX3_ask := by decide +kernel
theorem lkp_X3_ask_9_X3 : Cond.fieldLink (yX3_ask).cls 9 "DripLines$Place" (TX3 0).2.1 (TX3 0).2.2.1 ∈ wsX3_ask := by decide +kernel
theorem lkp_X3_ask_9_X4 : Cond.fieldLink (yX3_ask).cls 9 "DripLines$Place" (TX4 0).2.1 (TX4 0).2.2.1 ∈ wsX3_ask := by decide +kernel
theorem lkp_X3_ask_9_X9 : Cond.fieldLink (yX3_ask).cls 9 "DripLines$Place" (TX9 0).2.1 (TX9 0).2.2.1 ∈ wsX3_ask := by decide +kernel
theorem lkp_X3_ask_18_X0 : Cond.fieldLink (yX3_ask).cls 18 "DripLines$Place" (TX0 2).2.1 (TX0 2).2.2.1 ∈ wsX3_ask := by decide +kernel
theorem lkp_X3_ask_18_X10 : Cond.fieldLink (yX3_ask).cls 18 "DripLines$Place" (TX10 2).2.1 (TX10 2).2.2.1 ∈ wsX3_ask := by decide +kernel
theorem lkp_X3_ask_18_X3 : Cond.fieldLink (yX3_ask).cls 18 "DripLines$Place" (TX3 2).2.1 (TX3 2).2.2.1 ∈ wsX3_ask := by decide +kernel
theorem lkp_X3_ask_18_X4 : Cond.fieldLink (yX3_ask).cls 18 "DripLines$Place" (TX4 2).2.1 (TX4 2).2.2.1 ∈ wsX3_ask := by decide +kernel
theorem lkp_X3_ask_18_X9 : Cond.fieldLink (yX3_ask).cls 18 "DripLines$Place" (TX9 2).2.1 (TX9 2).2.2.1 ∈ wsX3_ask := by decide +kernel
theorem lkp_X3_cost_18_X0 : Cond.fieldLink (yX3_cost).cls 18 "DripLines$Place" (TX0 2).2.1 (TX0 2).2.2.1 ∈ wsX3_cost := by decide +kernel
theorem lkp_X3_cost_18_X10 : Cond.fieldLink (yX3_cost).cls 18 "DripLines$Place" (TX10 2).2.1 (TX10 2).2.2.1 ∈ wsX3_cost := by decide +kernel
theorem lkp_X3_cost_18_X3 : Cond.fieldLink (yX3_cost).cls 18 "DripLines$Place" (TX3 2).2.1 (TX3 2).2.2.1 ∈ wsX3_cost := by decide +kernel
theorem lkp_X3_cost_18_X4 : Cond.fieldLink (yX3_cost).cls 18 "DripLines$Place" (TX4 2).2.1 (TX4 2).2.2.1 ∈ wsX3_cost := by decide +kernel
theorem lkp_X3_cost_18_X9 : Cond.fieldLink (yX3_cost).cls 18 "DripLines$Place" (TX9 2).2.1 (TX9 2).2.2.1 ∈ wsX3_cost := by decide +kernel
theorem lkp_X3_join_18_X0 : Cond.fieldLink (yX3_join).cls 18 "DripLines$Place" (TX0 2).2.1 (TX0 2).2.2.1 ∈ wsX3_join := by decide +kernel
theorem lkp_X3_join_18_X10 : Cond.fieldLink (yX3_join).cls 18 "DripLines$Place" (TX10 2).2.1 (TX10 2).2.2.1 ∈ wsX3_join := by decide +kernel
theorem lkp_X3_join_18_X3 : Cond.fieldLink (yX3_join).cls 18 "DripLines$Place" (TX3 2).2.1 (TX3 2).2.2.1 ∈ wsX3_join := by decide +kernel
theorem lkp_X3_join_18_X4 : Cond.fieldLink (yX3_join).cls 18 "DripLines$Place" (TX4 2).2.1 (TX4 2).2.2.1 ∈ wsX3_join := by decide +kernel
theorem lkp_X3_join_18_X9 : Cond.fieldLink (yX3_join).cls 18 "DripLines$Place" (TX9 2).2.1 (TX9 2).2.2.1 ∈ wsX3_join := by decide +kernel
theorem lkp_X3_join_28_X0 : Cond.fieldLink (yX3_join).cls 28 "DripLines$Place" (TX0 3).2.1 (TX0 3).2.2.1 ∈ wsX3_join := by decide +kernel
theorem lkp_X3_join_28_X10 : Cond.fieldLink (yX3_join).cls 28 "DripLines$Place" (TX10 3).2.1 (TX10 3).2.2.1 ∈ wsX3_join := by decide +kernel
theorem lkp_X3_join_28_X3 : Cond.fieldLink (yX3_join).cls 28 "DripLines$Place" (TX3 3).2.1 (TX3 3).2.2.1 ∈ wsX3_join := by decide +kernel
theorem lkp_X3_join_28_X4 : Cond.fieldLink (yX3_join).cls 28 "DripLines$Place" (TX4 3).2.1 (TX4 3).2.2.1 ∈ wsX3_join := by decide +kernel
theorem lkp_X3_join_28_X9 : Cond.fieldLink (yX3_join).cls 28 "DripLines$Place" (TX9 3).2.1 (TX9 3).2.2.1 ∈ wsX3_join := by decide +kernel
theorem lkp_X3_tell_18_X0 : Cond.fieldLink (yX3_tell).cls 18 "DripLines$Place" (TX0 2).2.1 (TX0 2).2.2.1 ∈ wsX3_tell := by decide +kernel
theorem lkp_X3_tell_18_X10 : Cond.fieldLink (yX3_tell).cls 18 "DripLines$Place" (TX10 2).2.1 (TX10 2).2.2.1 ∈ wsX3_tell := by decide +kernel
theorem lkp_X3_tell_18_X3 : Cond.fieldLink (yX3_tell).cls 18 "DripLines$Place" (TX3 2).2.1 (TX3 2).2.2.1 ∈ wsX3_tell := by decide +kernel
theorem lkp_X3_tell_18_X4 : Cond.fieldLink (yX3_tell).cls 18 "DripLines$Place" (TX4 2).2.1 (TX4 2).2.2.1 ∈ wsX3_tell := by decide +kernel
theorem lkp_X3_tell_18_X9 : Cond.fieldLink (yX3_tell).cls 18 "DripLines$Place" (TX9 2).2.1 (TX9 2).2.2.1 ∈ wsX3_tell := by decide +kernel
theorem lkp_X4_cost_9_X4 : Cond.fieldLink (yX4_cost).cls 9 "DripLines$Tap" (TX4 2).2.1 (TX4 2).2.2.1 ∈ wsX4_cost := by decide +kernel
theorem lkp_X4_cost_9_X9 : Cond.fieldLink (yX4_cost).cls 9 "DripLines$Tap" (TX9 2).2.1 (TX9 2).2.2.1 ∈ wsX4_cost := by decide +kernel
theorem lkp_X4_tell_9_X4 : Cond.fieldLink (yX4_tell).cls 9 "DripLines$Tap" (TX4 2).2.1 (TX4 2).2.2.1 ∈ wsX4_tell := by decide +kernel
theorem lkp_X4_tell_9_X9 : Cond.fieldLink (yX4_tell).cls 9 "DripLines$Tap" (TX9 2).2.1 (TX9 2).2.2.1 ∈ wsX4_tell := by decide +kernel
theorem lkp_X9_ask_9_X9 : Cond.fieldLink (yX9_ask).cls 9 "DripLines$Well" (TX9 2).2.1 (TX9 2).2.2.1 ∈ wsX9_ask := by decide +kernel
theorem lkp_X9_join_9_X9 : Cond.fieldLink (yX9_join).cls 9 "DripLines$Well" (TX9 2).2.1 (TX9 2).2.2.1 ∈ wsX9_join := by decide +kernel
def plX3_X3_join (g : dl_Sg) (nr w st x1 : Int32) : Option (Int32 × dl_Sg) :=
    dl_bi (cl5_ran g (10 : Int32)) fun g1 =>
    some (x1 + st, g1)
def plX3_X3_cost (g : dl_Sg) (nr w st x1 : Int32) : Option (Int32 × dl_Sg) :=
    dl_bi (cl5_ran g (11 : Int32)) fun g1 =>
    dl_b2 (plX3_X3_join g1 nr w st x1) fun r2 g3 =>
    some (r2 * (2 : Int32), g3)
def plX3_X3_ask (g : dl_Sg) (nr w st x1 : Int32) : Option (Int32 × dl_Sg) :=
    dl_bi (cl5_ran g (12 : Int32)) fun g1 =>
    some (x1 - nr, g1)
def plX3_X3_tell (g : dl_Sg) (nr w st x1 : Int32) : Option (Int32 × dl_Sg) :=
    dl_bi (cl5_ran g (13 : Int32)) fun g1 =>
    dl_b2 (plX3_X3_cost g1 nr w st x1) fun r2 g3 =>
    dl_b2 (plX3_X3_ask g3 nr w st x1) fun r4 g5 =>
    some (r2 ^^^ r4, g5)
def plX3_X3_kind : Option Int32 := some (0 : Int32)
def plX4_X3_join (g : dl_Sg) (nr w st x1 : Int32) : Option (Int32 × dl_Sg) :=
    dl_bi (cl5_ran g (10 : Int32)) fun g1 =>
    some (x1 + st, g1)
def plX4_X3_cost (g : dl_Sg) (nr w st x1 : Int32) : Option (Int32 × dl_Sg) :=
    dl_bi (cl5_ran g (11 : Int32)) fun g1 =>
    dl_b2 (plX4_X3_join g1 nr w st x1) fun r2 g3 =>
    some (r2 * (2 : Int32), g3)
def plX4_X4_cost (g : dl_Sg) (nr w st x1 : Int32) : Option (Int32 × dl_Sg) :=
    dl_bi (cl5_ran g (20 : Int32)) fun g1 =>
    dl_b2 (plX4_X3_cost g1 nr w st x1) fun r2 g3 =>
    some (r2 + (1 : Int32), g3)
def plX4_X3_ask (g : dl_Sg) (nr w st x1 : Int32) : Option (Int32 × dl_Sg) :=
    dl_bi (cl5_ran g (12 : Int32)) fun g1 =>
    some (x1 - nr, g1)
def plX4_X3_tell (g : dl_Sg) (nr w st x1 : Int32) : Option (Int32 × dl_Sg) :=
    dl_bi (cl5_ran g (13 : Int32)) fun g1 =>
    dl_b2 (plX4_X4_cost g1 nr w st x1) fun r2 g3 =>
    dl_b2 (plX4_X3_ask g3 nr w st x1) fun r4 g5 =>
    some (r2 ^^^ r4, g5)
def plX4_X4_tell (g : dl_Sg) (nr w st x1 : Int32) : Option (Int32 × dl_Sg) :=
    dl_bi (cl5_ran g (21 : Int32)) fun g1 =>
    dl_b2 (plX4_X3_tell g1 nr w st (x1 - (1 : Int32))) fun r2 g3 =>
    some (r2, g3)
def plX4_X4_kind : Option Int32 := some (1 : Int32)
def plX9_X3_join (g : dl_Sg) (nr w st x1 : Int32) : Option (Int32 × dl_Sg) :=
    dl_bi (cl5_ran g (10 : Int32)) fun g1 =>
    some (x1 + st, g1)
def plX9_X9_join (g : dl_Sg) (nr w st x1 : Int32) : Option (Int32 × dl_Sg) :=
    dl_bi (cl5_ran g (40 : Int32)) fun g1 =>
    dl_b2 (plX9_X3_join g1 nr w st x1) fun r2 g3 =>
    some (r2 + (9 : Int32), g3)
def plX9_X3_cost (g : dl_Sg) (nr w st x1 : Int32) : Option (Int32 × dl_Sg) :=
    dl_bi (cl5_ran g (11 : Int32)) fun g1 =>
    dl_b2 (plX9_X9_join g1 nr w st x1) fun r2 g3 =>
    some (r2 * (2 : Int32), g3)
def plX9_X4_cost (g : dl_Sg) (nr w st x1 : Int32) : Option (Int32 × dl_Sg) :=
    dl_bi (cl5_ran g (20 : Int32)) fun g1 =>
    dl_b2 (plX9_X3_cost g1 nr w st x1) fun r2 g3 =>
    some (r2 + (1 : Int32), g3)
def plX9_X3_ask (g : dl_Sg) (nr w st x1 : Int32) : Option (Int32 × dl_Sg) :=
    dl_bi (cl5_ran g (12 : Int32)) fun g1 =>
    some (x1 - nr, g1)
def plX9_X9_ask (g : dl_Sg) (nr w st x1 : Int32) : Option (Int32 × dl_Sg) :=
    dl_bi (cl5_ran g (41 : Int32)) fun g1 =>
    dl_b2 (plX9_X3_ask g1 nr w st (x1 * (3 : Int32))) fun r2 g3 =>
    some (r2, g3)
def plX9_X3_tell (g : dl_Sg) (nr w st x1 : Int32) : Option (Int32 × dl_Sg) :=
    dl_bi (cl5_ran g (13 : Int32)) fun g1 =>
    dl_b2 (plX9_X4_cost g1 nr w st x1) fun r2 g3 =>
    dl_b2 (plX9_X9_ask g3 nr w st x1) fun r4 g5 =>
    some (r2 ^^^ r4, g5)
def plX9_X4_tell (g : dl_Sg) (nr w st x1 : Int32) : Option (Int32 × dl_Sg) :=
    dl_bi (cl5_ran g (21 : Int32)) fun g1 =>
    dl_b2 (plX9_X3_tell g1 nr w st (x1 - (1 : Int32))) fun r2 g3 =>
    some (r2, g3)
def plX9_X9_kind : Option Int32 := some (3 : Int32)
def plX10_X3_join (g : dl_Sg) (nr w st x1 : Int32) : Option (Int32 × dl_Sg) :=
    dl_bi (cl5_ran g (10 : Int32)) fun g1 =>
    some (x1 + st, g1)
def plX10_X3_cost (g : dl_Sg) (nr w st x1 : Int32) : Option (Int32 × dl_Sg) :=
    dl_bi (cl5_ran g (11 : Int32)) fun g1 =>
    dl_b2 (plX10_X3_join g1 nr w st x1) fun r2 g3 =>
    some (r2 * (2 : Int32), g3)
def plX10_X3_ask (g : dl_Sg) (nr w st x1 : Int32) : Option (Int32 × dl_Sg) :=
    dl_bi (cl5_ran g (12 : Int32)) fun g1 =>
    some (x1 - nr, g1)
def plX10_X10_ask (g : dl_Sg) (nr w st x1 : Int32) : Option (Int32 × dl_Sg) :=
    dl_bi (cl5_ran g (30 : Int32)) fun g1 =>
    dl_b2 (plX10_X3_ask g1 nr w st x1) fun r2 g3 =>
    some (r2 * w, g3)
def plX10_X3_tell (g : dl_Sg) (nr w st x1 : Int32) : Option (Int32 × dl_Sg) :=
    dl_bi (cl5_ran g (13 : Int32)) fun g1 =>
    dl_b2 (plX10_X3_cost g1 nr w st x1) fun r2 g3 =>
    dl_b2 (plX10_X10_ask g3 nr w st x1) fun r4 g5 =>
    some (r2 ^^^ r4, g5)
def plX10_X10_kind : Option Int32 := some (2 : Int32)
def plX0_X3_join (g : dl_Sg) (nr w st x1 : Int32) : Option (Int32 × dl_Sg) :=
    dl_bi (cl5_ran g (10 : Int32)) fun g1 =>
    some (x1 + st, g1)
def plX0_X3_cost (g : dl_Sg) (nr w st x1 : Int32) : Option (Int32 × dl_Sg) :=
    dl_bi (cl5_ran g (11 : Int32)) fun g1 =>
    dl_b2 (plX0_X3_join g1 nr w st x1) fun r2 g3 =>
    some (r2 * (2 : Int32), g3)
def plX0_X0_cost (g : dl_Sg) (nr w st x1 : Int32) : Option (Int32 × dl_Sg) :=
    dl_bi (cl5_ran g (50 : Int32)) fun g1 =>
    dl_b2 (plX0_X3_cost g1 nr w st x1) fun r2 g3 =>
    some (r2 + w, g3)
def plX0_X3_ask (g : dl_Sg) (nr w st x1 : Int32) : Option (Int32 × dl_Sg) :=
    dl_bi (cl5_ran g (12 : Int32)) fun g1 =>
    some (x1 - nr, g1)
def plX0_X3_tell (g : dl_Sg) (nr w st x1 : Int32) : Option (Int32 × dl_Sg) :=
    dl_bi (cl5_ran g (13 : Int32)) fun g1 =>
    dl_b2 (plX0_X0_cost g1 nr w st x1) fun r2 g3 =>
    dl_b2 (plX0_X3_ask g3 nr w st x1) fun r4 g5 =>
    some (r2 ^^^ r4, g5)
def plX0_X0_tell (g : dl_Sg) (nr w st x1 : Int32) : Option (Int32 × dl_Sg) :=
    dl_bi (cl5_ran g (51 : Int32)) fun g1 =>
    dl_b2 (plX0_X3_ask g1 nr w st x1) fun r2 g3 =>
    dl_b2 (plX0_X3_tell g3 nr w st x1) fun r4 g5 =>
    some (r2 + r4, g5)
def plX0_X0_kind : Option Int32 := some (4 : Int32)
set_option maxHeartbeats 4000000 in
set_option maxRecDepth 100000 in
theorem cplX3_X3_join (l : Launch) (D : va_G) (cI cP cII : ClassId) (TY : dl_TY) (hTY : TY[0]? = some (cI, .int)) (ad : Nat → Nat) (pr : Nat → Option Nat) (R : va_W) (q a : Nat) (nr w st : Int32) (hq : R[q]? = some (a, .inr (3, [.int nr, .int w, .ref (ad 6), .int st]))) (g : dl_Sg) (x1 : Int32) {r0 : Int32} {g0 : dl_Sg} (h : plX3_X3_join g nr w st x1 = some (r0, g0)) : dl_CtI l D TY cc_nw yX3_join wsX3_join { frames := 1, cells := 0, slots := 0, locals := 21 } 0 0 [.ref a, .int x1] (cc_w cI cP cII ad pr g ++ R) (fun r u => r = r0 ∧ u = cc_w cI cP cII ad pr g0 ++ R) := by
  refine dl_metI (ty := .int) [(0, .ref a), (1, .int x1)] (by decide) rfl (Nat.le_of_ble_eq_true rfl) rfl ?_
  intro p e s m args below meth c Q A C hQ
  unfold plX3_X3_join at h
  refine dl_aload_n (pc := 0) C 0 dX3_join_0 rfl rfl ?_
  refine dl_get (pc := 1) C hin_X3_join_X3 (33 + q) (cc_q hq) rfl 2 (by decide) lkp_X3_join_18_X3 rfl rfl dX3_join_1 ?_
  refine dl_bipush (pc := 4) C 10 dX3_join_4 (by decide) ?_
  obtain ⟨g1, h1, h⟩ := dl_bi_some h
  refine dl_vV0 (pc := 6) C (ccl5_ran l D cI cP cII TY hTY ad pr R _ _ h1) (cwV 1 C.2.2.2.2.1 gX3_join_X5_ran rfl rfl rfl (by decide +kernel) ⟨Nat.le_of_ble_eq_true rfl, Nat.le_of_ble_eq_true rfl⟩) 6 5 cc_a6 rfl rfl rfl (Nat.le_of_ble_eq_true rfl) dX3_join_6 ⟨Nat.zero_le _, Nat.zero_le _⟩ (fun u hp => ?_)
  subst hp
  refine dl_iload_n (pc := 9) C 1 dX3_join_9 rfl rfl ?_
  refine dl_aload_n (pc := 10) C 0 dX3_join_10 rfl rfl ?_
  refine dl_get (pc := 11) C hin_X3_join_X3 (33 + q) (cc_q hq) rfl 3 (by decide) lkp_X3_join_28_X3 rfl rfl dX3_join_11 ?_
  refine dl_iadd (pc := 14) C dX3_join_14 ?_
  exact hQ 15 _ _ _ ⟨(dl_r2 h).1, by rw [(dl_r2 h).2]⟩ (vp_nar_int _) dX3_join_15
set_option maxHeartbeats 4000000 in
set_option maxRecDepth 100000 in
theorem cplX3_X3_cost (l : Launch) (D : va_G) (cI cP cII : ClassId) (TY : dl_TY) (hTY : TY[0]? = some (cI, .int)) (ad : Nat → Nat) (pr : Nat → Option Nat) (R : va_W) (q a : Nat) (nr w st : Int32) (hq : R[q]? = some (a, .inr (3, [.int nr, .int w, .ref (ad 6), .int st]))) (g : dl_Sg) (x1 : Int32) {r0 : Int32} {g0 : dl_Sg} (h : plX3_X3_cost g nr w st x1 = some (r0, g0)) : dl_CtI l D TY cc_nw yX3_cost wsX3_cost { frames := 2, cells := 0, slots := 0, locals := 42 } 0 0 [.ref a, .int x1] (cc_w cI cP cII ad pr g ++ R) (fun r u => r = r0 ∧ u = cc_w cI cP cII ad pr g0 ++ R) := by
  refine dl_metI (ty := .int) [(0, .ref a), (1, .int x1)] (by decide) rfl (Nat.le_of_ble_eq_true rfl) rfl ?_
  intro p e s m args below meth c Q A C hQ
  unfold plX3_X3_cost at h
  refine dl_aload_n (pc := 0) C 0 dX3_cost_0 rfl rfl ?_
  refine dl_get (pc := 1) C hin_X3_cost_X3 (33 + q) (cc_q hq) rfl 2 (by decide) lkp_X3_cost_18_X3 rfl rfl dX3_cost_1 ?_
  refine dl_bipush (pc := 4) C 11 dX3_cost_4 (by decide) ?_
  obtain ⟨g1, h1, h⟩ := dl_bi_some h
  refine dl_vV0 (pc := 6) C (ccl5_ran l D cI cP cII TY hTY ad pr R _ _ h1) (cwV 1 C.2.2.2.2.1 gX3_cost_X5_ran rfl rfl rfl (by decide +kernel) ⟨Nat.le_of_ble_eq_true rfl, Nat.le_of_ble_eq_true rfl⟩) 6 5 cc_a6 rfl rfl rfl (Nat.le_of_ble_eq_true rfl) dX3_cost_6 ⟨Nat.zero_le _, Nat.zero_le _⟩ (fun u hp => ?_)
  subst hp
  refine dl_aload_n (pc := 9) C 0 dX3_cost_9 rfl rfl ?_
  refine dl_iload_n (pc := 10) C 1 dX3_cost_10 rfl rfl ?_
  obtain ⟨r2, g3, h1, h⟩ := dl_b2_some h
  refine dl_vI0 (pc := 11) C (cplX3_X3_join l D cI cP cII TY hTY ad pr R q a nr w st hq _ _ h1) (cwV 1 C.2.2.2.2.1 gX3_cost_X3_join rfl rfl rfl (by decide +kernel) ⟨Nat.le_of_ble_eq_true rfl, Nat.le_of_ble_eq_true rfl⟩) (33 + q) 3 (cc_q hq) rfl rfl rfl (Nat.le_of_ble_eq_true rfl) dX3_cost_11 ⟨Nat.zero_le _, Nat.zero_le _⟩ (fun r u hp => ?_)
  obtain ⟨rfl, rfl⟩ := hp
  refine dl_iconst (pc := 14) C 2 dX3_cost_14 (by decide) ?_
  refine dl_imul (pc := 15) C dX3_cost_15 ?_
  exact hQ 16 _ _ _ ⟨(dl_r2 h).1, by rw [(dl_r2 h).2]⟩ (vp_nar_int _) dX3_cost_16
set_option maxHeartbeats 4000000 in
set_option maxRecDepth 100000 in
theorem cplX3_X3_ask (l : Launch) (D : va_G) (cI cP cII : ClassId) (TY : dl_TY) (hTY : TY[0]? = some (cI, .int)) (ad : Nat → Nat) (pr : Nat → Option Nat) (R : va_W) (q a : Nat) (nr w st : Int32) (hq : R[q]? = some (a, .inr (3, [.int nr, .int w, .ref (ad 6), .int st]))) (g : dl_Sg) (x1 : Int32) {r0 : Int32} {g0 : dl_Sg} (h : plX3_X3_ask g nr w st x1 = some (r0, g0)) : dl_CtI l D TY cc_nw yX3_ask wsX3_ask { frames := 1, cells := 0, slots := 0, locals := 21 } 0 0 [.ref a, .int x1] (cc_w cI cP cII ad pr g ++ R) (fun r u => r = r0 ∧ u = cc_w cI cP cII ad pr g0 ++ R) := by
  refine dl_metI (ty := .int) [(0, .ref a), (1, .int x1)] (by decide) rfl (Nat.le_of_ble_eq_true rfl) rfl ?_
  intro p e s m args below meth c Q A C hQ
  unfold plX3_X3_ask at h
  refine dl_aload_n (pc := 0) C 0 dX3_ask_0 rfl rfl ?_
  refine dl_get (pc := 1) C hin_X3_ask_X3 (33 + q) (cc_q hq) rfl 2 (by decide) lkp_X3_ask_18_X3 rfl rfl dX3_ask_1 ?_
  refine dl_bipush (pc := 4) C 12 dX3_ask_4 (by decide) ?_
  obtain ⟨g1, h1, h⟩ := dl_bi_some h
  refine dl_vV0 (pc := 6) C (ccl5_ran l D cI cP cII TY hTY ad pr R _ _ h1) (cwV 1 C.2.2.2.2.1 gX3_ask_X5_ran rfl rfl rfl (by decide +kernel) ⟨Nat.le_of_ble_eq_true rfl, Nat.le_of_ble_eq_true rfl⟩) 6 5 cc_a6 rfl rfl rfl (Nat.le_of_ble_eq_true rfl) dX3_ask_6 ⟨Nat.zero_le _, Nat.zero_le _⟩ (fun u hp => ?_)
  subst hp
  refine dl_iload_n (pc := 9) C 1 dX3_ask_9 rfl rfl ?_
  refine dl_aload_n (pc := 10) C 0 dX3_ask_10 rfl rfl ?_
  refine dl_get (pc := 11) C hin_X3_ask_X3 (33 + q) (cc_q hq) rfl 0 (by decide) lkp_X3_ask_9_X3 rfl rfl dX3_ask_11 ?_
  refine dl_isub (pc := 14) C dX3_ask_14 ?_
  exact hQ 15 _ _ _ ⟨(dl_r2 h).1, by rw [(dl_r2 h).2]⟩ (vp_nar_int _) dX3_ask_15
set_option maxHeartbeats 4000000 in
set_option maxRecDepth 100000 in
theorem cplX3_X3_tell (l : Launch) (D : va_G) (cI cP cII : ClassId) (TY : dl_TY) (hTY : TY[0]? = some (cI, .int)) (ad : Nat → Nat) (pr : Nat → Option Nat) (R : va_W) (q a : Nat) (nr w st : Int32) (hq : R[q]? = some (a, .inr (3, [.int nr, .int w, .ref (ad 6), .int st]))) (g : dl_Sg) (x1 : Int32) {r0 : Int32} {g0 : dl_Sg} (h : plX3_X3_tell g nr w st x1 = some (r0, g0)) : dl_CtI l D TY cc_nw yX3_tell wsX3_tell { frames := 3, cells := 0, slots := 0, locals := 63 } 0 0 [.ref a, .int x1] (cc_w cI cP cII ad pr g ++ R) (fun r u => r = r0 ∧ u = cc_w cI cP cII ad pr g0 ++ R) := by
  refine dl_metI (ty := .int) [(0, .ref a), (1, .int x1)] (by decide) rfl (Nat.le_of_ble_eq_true rfl) rfl ?_
  intro p e s m args below meth c Q A C hQ
  unfold plX3_X3_tell at h
  refine dl_aload_n (pc := 0) C 0 dX3_tell_0 rfl rfl ?_
  refine dl_get (pc := 1) C hin_X3_tell_X3 (33 + q) (cc_q hq) rfl 2 (by decide) lkp_X3_tell_18_X3 rfl rfl dX3_tell_1 ?_
  refine dl_bipush (pc := 4) C 13 dX3_tell_4 (by decide) ?_
  obtain ⟨g1, h1, h⟩ := dl_bi_some h
  refine dl_vV0 (pc := 6) C (ccl5_ran l D cI cP cII TY hTY ad pr R _ _ h1) (cwV 1 C.2.2.2.2.1 gX3_tell_X5_ran rfl rfl rfl (by decide +kernel) ⟨Nat.le_of_ble_eq_true rfl, Nat.le_of_ble_eq_true rfl⟩) 6 5 cc_a6 rfl rfl rfl (Nat.le_of_ble_eq_true rfl) dX3_tell_6 ⟨Nat.zero_le _, Nat.zero_le _⟩ (fun u hp => ?_)
  subst hp
  refine dl_aload_n (pc := 9) C 0 dX3_tell_9 rfl rfl ?_
  refine dl_iload_n (pc := 10) C 1 dX3_tell_10 rfl rfl ?_
  obtain ⟨r2, g3, h1, h⟩ := dl_b2_some h
  refine dl_vI0 (pc := 11) C (cplX3_X3_cost l D cI cP cII TY hTY ad pr R q a nr w st hq _ _ h1) (cwV 1 C.2.2.2.2.1 gX3_tell_X3_cost rfl rfl rfl (by decide +kernel) ⟨Nat.le_of_ble_eq_true rfl, Nat.le_of_ble_eq_true rfl⟩) (33 + q) 3 (cc_q hq) rfl rfl rfl (Nat.le_of_ble_eq_true rfl) dX3_tell_11 ⟨Nat.zero_le _, Nat.zero_le _⟩ (fun r u hp => ?_)
  obtain ⟨rfl, rfl⟩ := hp
  refine dl_aload_n (pc := 14) C 0 dX3_tell_14 rfl rfl ?_
  refine dl_iload_n (pc := 15) C 1 dX3_tell_15 rfl rfl ?_
  obtain ⟨r4, g5, h1, h⟩ := dl_b2_some h
  refine dl_vI0 (pc := 16) C (cplX3_X3_ask l D cI cP cII TY hTY ad pr R q a nr w st hq _ _ h1) (cwV 1 C.2.2.2.2.1 gX3_tell_X3_ask rfl rfl rfl (by decide +kernel) ⟨Nat.le_of_ble_eq_true rfl, Nat.le_of_ble_eq_true rfl⟩) (33 + q) 3 (cc_q hq) rfl rfl rfl (Nat.le_of_ble_eq_true rfl) dX3_tell_16 ⟨Nat.zero_le _, Nat.zero_le _⟩ (fun r u hp => ?_)
  obtain ⟨rfl, rfl⟩ := hp
  refine dl_ixor (pc := 19) C dX3_tell_19 ?_
  exact hQ 20 _ _ _ ⟨(dl_r2 h).1, by rw [(dl_r2 h).2]⟩ (vp_nar_int _) dX3_tell_20
set_option maxHeartbeats 4000000 in
set_option maxRecDepth 100000 in
theorem cplX3_X3_kind (l : Launch) (D : va_G) (cI cP cII : ClassId) (TY : dl_TY) (hTY : TY[0]? = some (cI, .int)) (ad : Nat → Nat) (pr : Nat → Option Nat) (R : va_W) (q a : Nat) (nr w st : Int32) (hq : R[q]? = some (a, .inr (3, [.int nr, .int w, .ref (ad 6), .int st]))) (g : dl_Sg) {r0 : Int32} (h : plX3_X3_kind = some r0) : dl_CtI l D TY cc_nw yX3_kind wsX3_kind { frames := 0, cells := 0, slots := 0, locals := 0 } 0 0 [.ref a] (cc_w cI cP cII ad pr g ++ R) (fun r u => r = r0 ∧ u = cc_w cI cP cII ad pr g ++ R) := by
  refine dl_metI (ty := .int) [(0, .ref a)] (by decide) rfl (Nat.le_of_ble_eq_true rfl) rfl ?_
  intro p e s m args below meth c Q A C hQ
  unfold plX3_X3_kind at h
  refine dl_iconst (pc := 0) C 0 dX3_kind_0 (by decide) ?_
  exact hQ 1 _ _ _ ⟨Option.some.inj h, rfl⟩ (vp_nar_int _) dX3_kind_1
set_option maxHeartbeats 4000000 in
set_option maxRecDepth 100000 in
theorem cplX4_X3_join (l : Launch) (D : va_G) (cI cP cII : ClassId) (TY : dl_TY) (hTY : TY[0]? = some (cI, .int)) (ad : Nat → Nat) (pr : Nat → Option Nat) (R : va_W) (q a : Nat) (nr w st : Int32) (hq : R[q]? = some (a, .inr (4, [.int nr, .int w, .ref (ad 6), .int st]))) (g : dl_Sg) (x1 : Int32) {r0 : Int32} {g0 : dl_Sg} (h : plX4_X3_join g nr w st x1 = some (r0, g0)) : dl_CtI l D TY cc_nw yX3_join wsX3_join { frames := 1, cells := 0, slots := 0, locals := 21 } 0 0 [.ref a, .int x1] (cc_w cI cP cII ad pr g ++ R) (fun r u => r = r0 ∧ u = cc_w cI cP cII ad pr g0 ++ R) := by
  refine dl_metI (ty := .int) [(0, .ref a), (1, .int x1)] (by decide) rfl (Nat.le_of_ble_eq_true rfl) rfl ?_
  intro p e s m args below meth c Q A C hQ
  unfold plX4_X3_join at h
  refine dl_aload_n (pc := 0) C 0 dX3_join_0 rfl rfl ?_
  refine dl_get (pc := 1) C hin_X3_join_X4 (33 + q) (cc_q hq) rfl 2 (by decide) lkp_X3_join_18_X4 rfl rfl dX3_join_1 ?_
  refine dl_bipush (pc := 4) C 10 dX3_join_4 (by decide) ?_
  obtain ⟨g1, h1, h⟩ := dl_bi_some h
  refine dl_vV0 (pc := 6) C (ccl5_ran l D cI cP cII TY hTY ad pr R _ _ h1) (cwV 1 C.2.2.2.2.1 gX3_join_X5_ran rfl rfl rfl (by decide +kernel) ⟨Nat.le_of_ble_eq_true rfl, Nat.le_of_ble_eq_true rfl⟩) 6 5 cc_a6 rfl rfl rfl (Nat.le_of_ble_eq_true rfl) dX3_join_6 ⟨Nat.zero_le _, Nat.zero_le _⟩ (fun u hp => ?_)
  subst hp
  refine dl_iload_n (pc := 9) C 1 dX3_join_9 rfl rfl ?_
  refine dl_aload_n (pc := 10) C 0 dX3_join_10 rfl rfl ?_
  refine dl_get (pc := 11) C hin_X3_join_X4 (33 + q) (cc_q hq) rfl 3 (by decide) lkp_X3_join_28_X4 rfl rfl dX3_join_11 ?_
  refine dl_iadd (pc := 14) C dX3_join_14 ?_
  exact hQ 15 _ _ _ ⟨(dl_r2 h).1, by rw [(dl_r2 h).2]⟩ (vp_nar_int _) dX3_join_15
set_option maxHeartbeats 4000000 in
set_option maxRecDepth 100000 in
theorem cplX4_X3_cost (l : Launch) (D : va_G) (cI cP cII : ClassId) (TY : dl_TY) (hTY : TY[0]? = some (cI, .int)) (ad : Nat → Nat) (pr : Nat → Option Nat) (R : va_W) (q a : Nat) (nr w st : Int32) (hq : R[q]? = some (a, .inr (4, [.int nr, .int w, .ref (ad 6), .int st]))) (g : dl_Sg) (x1 : Int32) {r0 : Int32} {g0 : dl_Sg} (h : plX4_X3_cost g nr w st x1 = some (r0, g0)) : dl_CtI l D TY cc_nw yX3_cost wsX3_cost { frames := 2, cells := 0, slots := 0, locals := 42 } 0 0 [.ref a, .int x1] (cc_w cI cP cII ad pr g ++ R) (fun r u => r = r0 ∧ u = cc_w cI cP cII ad pr g0 ++ R) := by
  refine dl_metI (ty := .int) [(0, .ref a), (1, .int x1)] (by decide) rfl (Nat.le_of_ble_eq_true rfl) rfl ?_
  intro p e s m args below meth c Q A C hQ
  unfold plX4_X3_cost at h
  refine dl_aload_n (pc := 0) C 0 dX3_cost_0 rfl rfl ?_
  refine dl_get (pc := 1) C hin_X3_cost_X4 (33 + q) (cc_q hq) rfl 2 (by decide) lkp_X3_cost_18_X4 rfl rfl dX3_cost_1 ?_
  refine dl_bipush (pc := 4) C 11 dX3_cost_4 (by decide) ?_
  obtain ⟨g1, h1, h⟩ := dl_bi_some h
  refine dl_vV0 (pc := 6) C (ccl5_ran l D cI cP cII TY hTY ad pr R _ _ h1) (cwV 1 C.2.2.2.2.1 gX3_cost_X5_ran rfl rfl rfl (by decide +kernel) ⟨Nat.le_of_ble_eq_true rfl, Nat.le_of_ble_eq_true rfl⟩) 6 5 cc_a6 rfl rfl rfl (Nat.le_of_ble_eq_true rfl) dX3_cost_6 ⟨Nat.zero_le _, Nat.zero_le _⟩ (fun u hp => ?_)
  subst hp
  refine dl_aload_n (pc := 9) C 0 dX3_cost_9 rfl rfl ?_
  refine dl_iload_n (pc := 10) C 1 dX3_cost_10 rfl rfl ?_
  obtain ⟨r2, g3, h1, h⟩ := dl_b2_some h
  refine dl_vIU0 (pc := 11) C (cplX4_X3_join l D cI cP cII TY hTY ad pr R q a nr w st hq _ _ h1) (va_cwU 1 C.2.2.2.2.1 gX3_cost_X3_join_u31X4 rfl rfl rfl rfl (by decide +kernel) ⟨Nat.le_of_ble_eq_true rfl, Nat.le_of_ble_eq_true rfl⟩) (33 + q) 4 (cc_q hq) rfl rfl rfl (Nat.le_of_ble_eq_true rfl) dX3_cost_11 ⟨Nat.zero_le _, Nat.zero_le _⟩ (fun r u hp => ?_)
  obtain ⟨rfl, rfl⟩ := hp
  refine dl_iconst (pc := 14) C 2 dX3_cost_14 (by decide) ?_
  refine dl_imul (pc := 15) C dX3_cost_15 ?_
  exact hQ 16 _ _ _ ⟨(dl_r2 h).1, by rw [(dl_r2 h).2]⟩ (vp_nar_int _) dX3_cost_16
set_option maxHeartbeats 4000000 in
set_option maxRecDepth 100000 in
theorem cplX4_X4_cost (l : Launch) (D : va_G) (cI cP cII : ClassId) (TY : dl_TY) (hTY : TY[0]? = some (cI, .int)) (ad : Nat → Nat) (pr : Nat → Option Nat) (R : va_W) (q a : Nat) (nr w st : Int32) (hq : R[q]? = some (a, .inr (4, [.int nr, .int w, .ref (ad 6), .int st]))) (g : dl_Sg) (x1 : Int32) {r0 : Int32} {g0 : dl_Sg} (h : plX4_X4_cost g nr w st x1 = some (r0, g0)) : dl_CtI l D TY cc_nw yX4_cost wsX4_cost { frames := 3, cells := 0, slots := 0, locals := 63 } 0 0 [.ref a, .int x1] (cc_w cI cP cII ad pr g ++ R) (fun r u => r = r0 ∧ u = cc_w cI cP cII ad pr g0 ++ R) := by
  refine dl_metI (ty := .int) [(0, .ref a), (1, .int x1)] (by decide) rfl (Nat.le_of_ble_eq_true rfl) rfl ?_
  intro p e s m args below meth c Q A C hQ
  unfold plX4_X4_cost at h
  refine dl_aload_n (pc := 0) C 0 dX4_cost_0 rfl rfl ?_
  refine dl_getS (pc := 1) C hin_X4_cost_X4 (33 + q) (cc_q hq) rfl 2 (by decide) lkp_X4_cost_9_X4 (by decide +kernel) rfl dX4_cost_1 ?_
  refine dl_bipush (pc := 4) C 20 dX4_cost_4 (by decide) ?_
  obtain ⟨g1, h1, h⟩ := dl_bi_some h
  refine dl_vV0 (pc := 6) C (ccl5_ran l D cI cP cII TY hTY ad pr R _ _ h1) (cwV 1 C.2.2.2.2.1 gX4_cost_X5_ran rfl rfl rfl (by decide +kernel) ⟨Nat.le_of_ble_eq_true rfl, Nat.le_of_ble_eq_true rfl⟩) 6 5 cc_a6 rfl rfl rfl (Nat.le_of_ble_eq_true rfl) dX4_cost_6 ⟨Nat.zero_le _, Nat.zero_le _⟩ (fun u hp => ?_)
  subst hp
  refine dl_aload_n (pc := 9) C 0 dX4_cost_9 rfl rfl ?_
  refine dl_iload_n (pc := 10) C 1 dX4_cost_10 rfl rfl ?_
  obtain ⟨r2, g3, h1, h⟩ := dl_b2_some h
  refine dl_vIS0 (pc := 11) C (cplX4_X3_cost l D cI cP cII TY hTY ad pr R q a nr w st hq _ _ h1) (va_cwSU 1 C.2.2.2.2.1 gX4_cost_X3_cost_s21 rfl rfl rfl (by decide +kernel) ⟨Nat.le_of_ble_eq_true rfl, Nat.le_of_ble_eq_true rfl⟩) (33 + q) 4 (cc_q hq) rfl rfl rfl (Nat.le_of_ble_eq_true rfl) dX4_cost_11 ⟨Nat.zero_le _, Nat.zero_le _⟩ (fun r u hp => ?_)
  obtain ⟨rfl, rfl⟩ := hp
  refine dl_iconst (pc := 14) C 1 dX4_cost_14 (by decide) ?_
  refine dl_iadd (pc := 15) C dX4_cost_15 ?_
  exact hQ 16 _ _ _ ⟨(dl_r2 h).1, by rw [(dl_r2 h).2]⟩ (vp_nar_int _) dX4_cost_16
set_option maxHeartbeats 4000000 in
set_option maxRecDepth 100000 in
theorem cplX4_X3_ask (l : Launch) (D : va_G) (cI cP cII : ClassId) (TY : dl_TY) (hTY : TY[0]? = some (cI, .int)) (ad : Nat → Nat) (pr : Nat → Option Nat) (R : va_W) (q a : Nat) (nr w st : Int32) (hq : R[q]? = some (a, .inr (4, [.int nr, .int w, .ref (ad 6), .int st]))) (g : dl_Sg) (x1 : Int32) {r0 : Int32} {g0 : dl_Sg} (h : plX4_X3_ask g nr w st x1 = some (r0, g0)) : dl_CtI l D TY cc_nw yX3_ask wsX3_ask { frames := 1, cells := 0, slots := 0, locals := 21 } 0 0 [.ref a, .int x1] (cc_w cI cP cII ad pr g ++ R) (fun r u => r = r0 ∧ u = cc_w cI cP cII ad pr g0 ++ R) := by
  refine dl_metI (ty := .int) [(0, .ref a), (1, .int x1)] (by decide) rfl (Nat.le_of_ble_eq_true rfl) rfl ?_
  intro p e s m args below meth c Q A C hQ
  unfold plX4_X3_ask at h
  refine dl_aload_n (pc := 0) C 0 dX3_ask_0 rfl rfl ?_
  refine dl_get (pc := 1) C hin_X3_ask_X4 (33 + q) (cc_q hq) rfl 2 (by decide) lkp_X3_ask_18_X4 rfl rfl dX3_ask_1 ?_
  refine dl_bipush (pc := 4) C 12 dX3_ask_4 (by decide) ?_
  obtain ⟨g1, h1, h⟩ := dl_bi_some h
  refine dl_vV0 (pc := 6) C (ccl5_ran l D cI cP cII TY hTY ad pr R _ _ h1) (cwV 1 C.2.2.2.2.1 gX3_ask_X5_ran rfl rfl rfl (by decide +kernel) ⟨Nat.le_of_ble_eq_true rfl, Nat.le_of_ble_eq_true rfl⟩) 6 5 cc_a6 rfl rfl rfl (Nat.le_of_ble_eq_true rfl) dX3_ask_6 ⟨Nat.zero_le _, Nat.zero_le _⟩ (fun u hp => ?_)
  subst hp
  refine dl_iload_n (pc := 9) C 1 dX3_ask_9 rfl rfl ?_
  refine dl_aload_n (pc := 10) C 0 dX3_ask_10 rfl rfl ?_
  refine dl_get (pc := 11) C hin_X3_ask_X4 (33 + q) (cc_q hq) rfl 0 (by decide) lkp_X3_ask_9_X4 rfl rfl dX3_ask_11 ?_
  refine dl_isub (pc := 14) C dX3_ask_14 ?_
  exact hQ 15 _ _ _ ⟨(dl_r2 h).1, by rw [(dl_r2 h).2]⟩ (vp_nar_int _) dX3_ask_15
set_option maxHeartbeats 4000000 in
set_option maxRecDepth 100000 in
theorem cplX4_X3_tell (l : Launch) (D : va_G) (cI cP cII : ClassId) (TY : dl_TY) (hTY : TY[0]? = some (cI, .int)) (ad : Nat → Nat) (pr : Nat → Option Nat) (R : va_W) (q a : Nat) (nr w st : Int32) (hq : R[q]? = some (a, .inr (4, [.int nr, .int w, .ref (ad 6), .int st]))) (g : dl_Sg) (x1 : Int32) {r0 : Int32} {g0 : dl_Sg} (h : plX4_X3_tell g nr w st x1 = some (r0, g0)) : dl_CtI l D TY cc_nw yX3_tell wsX3_tell { frames := 4, cells := 0, slots := 0, locals := 84 } 0 0 [.ref a, .int x1] (cc_w cI cP cII ad pr g ++ R) (fun r u => r = r0 ∧ u = cc_w cI cP cII ad pr g0 ++ R) := by
  refine dl_metI (ty := .int) [(0, .ref a), (1, .int x1)] (by decide) rfl (Nat.le_of_ble_eq_true rfl) rfl ?_
  intro p e s m args below meth c Q A C hQ
  unfold plX4_X3_tell at h
  refine dl_aload_n (pc := 0) C 0 dX3_tell_0 rfl rfl ?_
  refine dl_get (pc := 1) C hin_X3_tell_X4 (33 + q) (cc_q hq) rfl 2 (by decide) lkp_X3_tell_18_X4 rfl rfl dX3_tell_1 ?_
  refine dl_bipush (pc := 4) C 13 dX3_tell_4 (by decide) ?_
  obtain ⟨g1, h1, h⟩ := dl_bi_some h
  refine dl_vV0 (pc := 6) C (ccl5_ran l D cI cP cII TY hTY ad pr R _ _ h1) (cwV 1 C.2.2.2.2.1 gX3_tell_X5_ran rfl rfl rfl (by decide +kernel) ⟨Nat.le_of_ble_eq_true rfl, Nat.le_of_ble_eq_true rfl⟩) 6 5 cc_a6 rfl rfl rfl (Nat.le_of_ble_eq_true rfl) dX3_tell_6 ⟨Nat.zero_le _, Nat.zero_le _⟩ (fun u hp => ?_)
  subst hp
  refine dl_aload_n (pc := 9) C 0 dX3_tell_9 rfl rfl ?_
  refine dl_iload_n (pc := 10) C 1 dX3_tell_10 rfl rfl ?_
  obtain ⟨r2, g3, h1, h⟩ := dl_b2_some h
  refine dl_vIU0 (pc := 11) C (cplX4_X4_cost l D cI cP cII TY hTY ad pr R q a nr w st hq _ _ h1) (va_cwO 1 C.2.2.2.2.1 gX3_tell_X4_cost_u35X4 rfl rfl rfl (b0 := cX3_cost) (m0 := 2) (r0 := some .int) (by decide +kernel) (by decide +kernel) ⟨Nat.le_of_ble_eq_true rfl, Nat.le_of_ble_eq_true rfl⟩) (33 + q) 4 (cc_q hq) rfl rfl rfl (Nat.le_of_ble_eq_true rfl) dX3_tell_11 ⟨Nat.zero_le _, Nat.zero_le _⟩ (fun r u hp => ?_)
  obtain ⟨rfl, rfl⟩ := hp
  refine dl_aload_n (pc := 14) C 0 dX3_tell_14 rfl rfl ?_
  refine dl_iload_n (pc := 15) C 1 dX3_tell_15 rfl rfl ?_
  obtain ⟨r4, g5, h1, h⟩ := dl_b2_some h
  refine dl_vIU0 (pc := 16) C (cplX4_X3_ask l D cI cP cII TY hTY ad pr R q a nr w st hq _ _ h1) (va_cwU 1 C.2.2.2.2.1 gX3_tell_X3_ask_u38X4 rfl rfl rfl rfl (by decide +kernel) ⟨Nat.le_of_ble_eq_true rfl, Nat.le_of_ble_eq_true rfl⟩) (33 + q) 4 (cc_q hq) rfl rfl rfl (Nat.le_of_ble_eq_true rfl) dX3_tell_16 ⟨Nat.zero_le _, Nat.zero_le _⟩ (fun r u hp => ?_)
  obtain ⟨rfl, rfl⟩ := hp
  refine dl_ixor (pc := 19) C dX3_tell_19 ?_
  exact hQ 20 _ _ _ ⟨(dl_r2 h).1, by rw [(dl_r2 h).2]⟩ (vp_nar_int _) dX3_tell_20
set_option maxHeartbeats 4000000 in
set_option maxRecDepth 100000 in
theorem cplX4_X4_tell (l : Launch) (D : va_G) (cI cP cII : ClassId) (TY : dl_TY) (hTY : TY[0]? = some (cI, .int)) (ad : Nat → Nat) (pr : Nat → Option Nat) (R : va_W) (q a : Nat) (nr w st : Int32) (hq : R[q]? = some (a, .inr (4, [.int nr, .int w, .ref (ad 6), .int st]))) (g : dl_Sg) (x1 : Int32) {r0 : Int32} {g0 : dl_Sg} (h : plX4_X4_tell g nr w st x1 = some (r0, g0)) : dl_CtI l D TY cc_nw yX4_tell wsX4_tell { frames := 5, cells := 0, slots := 0, locals := 105 } 0 0 [.ref a, .int x1] (cc_w cI cP cII ad pr g ++ R) (fun r u => r = r0 ∧ u = cc_w cI cP cII ad pr g0 ++ R) := by
  refine dl_metI (ty := .int) [(0, .ref a), (1, .int x1)] (by decide) rfl (Nat.le_of_ble_eq_true rfl) rfl ?_
  intro p e s m args below meth c Q A C hQ
  unfold plX4_X4_tell at h
  refine dl_aload_n (pc := 0) C 0 dX4_tell_0 rfl rfl ?_
  refine dl_getS (pc := 1) C hin_X4_tell_X4 (33 + q) (cc_q hq) rfl 2 (by decide) lkp_X4_tell_9_X4 (by decide +kernel) rfl dX4_tell_1 ?_
  refine dl_bipush (pc := 4) C 21 dX4_tell_4 (by decide) ?_
  obtain ⟨g1, h1, h⟩ := dl_bi_some h
  refine dl_vV0 (pc := 6) C (ccl5_ran l D cI cP cII TY hTY ad pr R _ _ h1) (cwV 1 C.2.2.2.2.1 gX4_tell_X5_ran rfl rfl rfl (by decide +kernel) ⟨Nat.le_of_ble_eq_true rfl, Nat.le_of_ble_eq_true rfl⟩) 6 5 cc_a6 rfl rfl rfl (Nat.le_of_ble_eq_true rfl) dX4_tell_6 ⟨Nat.zero_le _, Nat.zero_le _⟩ (fun u hp => ?_)
  subst hp
  refine dl_aload_n (pc := 9) C 0 dX4_tell_9 rfl rfl ?_
  refine dl_iload_n (pc := 10) C 1 dX4_tell_10 rfl rfl ?_
  refine dl_iconst (pc := 11) C 1 dX4_tell_11 (by decide) ?_
  refine dl_isub (pc := 12) C dX4_tell_12 ?_
  obtain ⟨r2, g3, h1, h⟩ := dl_b2_some h
  refine dl_vIS0 (pc := 13) C (cplX4_X3_tell l D cI cP cII TY hTY ad pr R q a nr w st hq _ _ h1) (va_cwSU 1 C.2.2.2.2.1 gX4_tell_X3_tell_s25 rfl rfl rfl (by decide +kernel) ⟨Nat.le_of_ble_eq_true rfl, Nat.le_of_ble_eq_true rfl⟩) (33 + q) 4 (cc_q hq) rfl rfl rfl (Nat.le_of_ble_eq_true rfl) dX4_tell_13 ⟨Nat.zero_le _, Nat.zero_le _⟩ (fun r u hp => ?_)
  obtain ⟨rfl, rfl⟩ := hp
  exact hQ 16 _ _ _ ⟨(dl_r2 h).1, by rw [(dl_r2 h).2]⟩ (vp_nar_int _) dX4_tell_16
set_option maxHeartbeats 4000000 in
set_option maxRecDepth 100000 in
theorem cplX4_X4_kind (l : Launch) (D : va_G) (cI cP cII : ClassId) (TY : dl_TY) (hTY : TY[0]? = some (cI, .int)) (ad : Nat → Nat) (pr : Nat → Option Nat) (R : va_W) (q a : Nat) (nr w st : Int32) (hq : R[q]? = some (a, .inr (4, [.int nr, .int w, .ref (ad 6), .int st]))) (g : dl_Sg) {r0 : Int32} (h : plX4_X4_kind = some r0) : dl_CtI l D TY cc_nw yX4_kind wsX4_kind { frames := 0, cells := 0, slots := 0, locals := 0 } 0 0 [.ref a] (cc_w cI cP cII ad pr g ++ R) (fun r u => r = r0 ∧ u = cc_w cI cP cII ad pr g ++ R) := by
  refine dl_metI (ty := .int) [(0, .ref a)] (by decide) rfl (Nat.le_of_ble_eq_true rfl) rfl ?_
  intro p e s m args below meth c Q A C hQ
  unfold plX4_X4_kind at h
  refine dl_iconst (pc := 0) C 1 dX4_kind_0 (by decide) ?_
  exact hQ 1 _ _ _ ⟨Option.some.inj h, rfl⟩ (vp_nar_int _) dX4_kind_1
set_option maxHeartbeats 4000000 in
set_option maxRecDepth 100000 in
theorem cplX9_X3_join (l : Launch) (D : va_G) (cI cP cII : ClassId) (TY : dl_TY) (hTY : TY[0]? = some (cI, .int)) (ad : Nat → Nat) (pr : Nat → Option Nat) (R : va_W) (q a : Nat) (nr w st : Int32) (hq : R[q]? = some (a, .inr (9, [.int nr, .int w, .ref (ad 6), .int st]))) (g : dl_Sg) (x1 : Int32) {r0 : Int32} {g0 : dl_Sg} (h : plX9_X3_join g nr w st x1 = some (r0, g0)) : dl_CtI l D TY cc_nw yX3_join wsX3_join { frames := 1, cells := 0, slots := 0, locals := 21 } 0 0 [.ref a, .int x1] (cc_w cI cP cII ad pr g ++ R) (fun r u => r = r0 ∧ u = cc_w cI cP cII ad pr g0 ++ R) := by
  refine dl_metI (ty := .int) [(0, .ref a), (1, .int x1)] (by decide) rfl (Nat.le_of_ble_eq_true rfl) rfl ?_
  intro p e s m args below meth c Q A C hQ
  unfold plX9_X3_join at h
  refine dl_aload_n (pc := 0) C 0 dX3_join_0 rfl rfl ?_
  refine dl_get (pc := 1) C hin_X3_join_X9 (33 + q) (cc_q hq) rfl 2 (by decide) lkp_X3_join_18_X9 rfl rfl dX3_join_1 ?_
  refine dl_bipush (pc := 4) C 10 dX3_join_4 (by decide) ?_
  obtain ⟨g1, h1, h⟩ := dl_bi_some h
  refine dl_vV0 (pc := 6) C (ccl5_ran l D cI cP cII TY hTY ad pr R _ _ h1) (cwV 1 C.2.2.2.2.1 gX3_join_X5_ran rfl rfl rfl (by decide +kernel) ⟨Nat.le_of_ble_eq_true rfl, Nat.le_of_ble_eq_true rfl⟩) 6 5 cc_a6 rfl rfl rfl (Nat.le_of_ble_eq_true rfl) dX3_join_6 ⟨Nat.zero_le _, Nat.zero_le _⟩ (fun u hp => ?_)
  subst hp
  refine dl_iload_n (pc := 9) C 1 dX3_join_9 rfl rfl ?_
  refine dl_aload_n (pc := 10) C 0 dX3_join_10 rfl rfl ?_
  refine dl_get (pc := 11) C hin_X3_join_X9 (33 + q) (cc_q hq) rfl 3 (by decide) lkp_X3_join_28_X9 rfl rfl dX3_join_11 ?_
  refine dl_iadd (pc := 14) C dX3_join_14 ?_
  exact hQ 15 _ _ _ ⟨(dl_r2 h).1, by rw [(dl_r2 h).2]⟩ (vp_nar_int _) dX3_join_15
set_option maxHeartbeats 4000000 in
set_option maxRecDepth 100000 in
theorem cplX9_X9_join (l : Launch) (D : va_G) (cI cP cII : ClassId) (TY : dl_TY) (hTY : TY[0]? = some (cI, .int)) (ad : Nat → Nat) (pr : Nat → Option Nat) (R : va_W) (q a : Nat) (nr w st : Int32) (hq : R[q]? = some (a, .inr (9, [.int nr, .int w, .ref (ad 6), .int st]))) (g : dl_Sg) (x1 : Int32) {r0 : Int32} {g0 : dl_Sg} (h : plX9_X9_join g nr w st x1 = some (r0, g0)) : dl_CtI l D TY cc_nw yX9_join wsX9_join { frames := 2, cells := 0, slots := 0, locals := 42 } 0 0 [.ref a, .int x1] (cc_w cI cP cII ad pr g ++ R) (fun r u => r = r0 ∧ u = cc_w cI cP cII ad pr g0 ++ R) := by
  refine dl_metI (ty := .int) [(0, .ref a), (1, .int x1)] (by decide) rfl (Nat.le_of_ble_eq_true rfl) rfl ?_
  intro p e s m args below meth c Q A C hQ
  unfold plX9_X9_join at h
  refine dl_aload_n (pc := 0) C 0 dX9_join_0 rfl rfl ?_
  refine dl_getS (pc := 1) C hin_X9_join_X9 (33 + q) (cc_q hq) rfl 2 (by decide) lkp_X9_join_9_X9 (by decide +kernel) rfl dX9_join_1 ?_
  refine dl_bipush (pc := 4) C 40 dX9_join_4 (by decide) ?_
  obtain ⟨g1, h1, h⟩ := dl_bi_some h
  refine dl_vV0 (pc := 6) C (ccl5_ran l D cI cP cII TY hTY ad pr R _ _ h1) (cwV 1 C.2.2.2.2.1 gX9_join_X5_ran rfl rfl rfl (by decide +kernel) ⟨Nat.le_of_ble_eq_true rfl, Nat.le_of_ble_eq_true rfl⟩) 6 5 cc_a6 rfl rfl rfl (Nat.le_of_ble_eq_true rfl) dX9_join_6 ⟨Nat.zero_le _, Nat.zero_le _⟩ (fun u hp => ?_)
  subst hp
  refine dl_aload_n (pc := 9) C 0 dX9_join_9 rfl rfl ?_
  refine dl_iload_n (pc := 10) C 1 dX9_join_10 rfl rfl ?_
  obtain ⟨r2, g3, h1, h⟩ := dl_b2_some h
  refine dl_spI0 (mid := "DripLines$Tap") (n := 1) (pc := 11) C (cplX9_X3_join l D cI cP cII TY hTY ad pr R q a nr w st hq _ _ h1) rfl (hnw_join) (by decide +kernel) (by decide +kernel) (by decide +kernel) (by decide +kernel) (by decide +kernel) (by decide +kernel) (by decide +kernel) rfl rfl ⟨Nat.le_of_ble_eq_true rfl, Nat.le_of_ble_eq_true rfl⟩ (33 + q) 9 (cc_q hq) rfl rfl rfl (Nat.le_of_ble_eq_true rfl) dX9_join_11 ⟨Nat.zero_le _, Nat.zero_le _⟩ (fun r u hp => ?_)
  obtain ⟨rfl, rfl⟩ := hp
  refine dl_bipush (pc := 14) C 9 dX9_join_14 (by decide) ?_
  refine dl_iadd (pc := 16) C dX9_join_16 ?_
  exact hQ 17 _ _ _ ⟨(dl_r2 h).1, by rw [(dl_r2 h).2]⟩ (vp_nar_int _) dX9_join_17
set_option maxHeartbeats 4000000 in
set_option maxRecDepth 100000 in
theorem cplX9_X3_cost (l : Launch) (D : va_G) (cI cP cII : ClassId) (TY : dl_TY) (hTY : TY[0]? = some (cI, .int)) (ad : Nat → Nat) (pr : Nat → Option Nat) (R : va_W) (q a : Nat) (nr w st : Int32) (hq : R[q]? = some (a, .inr (9, [.int nr, .int w, .ref (ad 6), .int st]))) (g : dl_Sg) (x1 : Int32) {r0 : Int32} {g0 : dl_Sg} (h : plX9_X3_cost g nr w st x1 = some (r0, g0)) : dl_CtI l D TY cc_nw yX3_cost wsX3_cost { frames := 3, cells := 0, slots := 0, locals := 63 } 0 0 [.ref a, .int x1] (cc_w cI cP cII ad pr g ++ R) (fun r u => r = r0 ∧ u = cc_w cI cP cII ad pr g0 ++ R) := by
  refine dl_metI (ty := .int) [(0, .ref a), (1, .int x1)] (by decide) rfl (Nat.le_of_ble_eq_true rfl) rfl ?_
  intro p e s m args below meth c Q A C hQ
  unfold plX9_X3_cost at h
  refine dl_aload_n (pc := 0) C 0 dX3_cost_0 rfl rfl ?_
  refine dl_get (pc := 1) C hin_X3_cost_X9 (33 + q) (cc_q hq) rfl 2 (by decide) lkp_X3_cost_18_X9 rfl rfl dX3_cost_1 ?_
  refine dl_bipush (pc := 4) C 11 dX3_cost_4 (by decide) ?_
  obtain ⟨g1, h1, h⟩ := dl_bi_some h
  refine dl_vV0 (pc := 6) C (ccl5_ran l D cI cP cII TY hTY ad pr R _ _ h1) (cwV 1 C.2.2.2.2.1 gX3_cost_X5_ran rfl rfl rfl (by decide +kernel) ⟨Nat.le_of_ble_eq_true rfl, Nat.le_of_ble_eq_true rfl⟩) 6 5 cc_a6 rfl rfl rfl (Nat.le_of_ble_eq_true rfl) dX3_cost_6 ⟨Nat.zero_le _, Nat.zero_le _⟩ (fun u hp => ?_)
  subst hp
  refine dl_aload_n (pc := 9) C 0 dX3_cost_9 rfl rfl ?_
  refine dl_iload_n (pc := 10) C 1 dX3_cost_10 rfl rfl ?_
  obtain ⟨r2, g3, h1, h⟩ := dl_b2_some h
  refine dl_vIU0 (pc := 11) C (cplX9_X9_join l D cI cP cII TY hTY ad pr R q a nr w st hq _ _ h1) (va_cwO 1 C.2.2.2.2.1 gX3_cost_X9_join_u31X9 rfl rfl rfl (b0 := cX3_join) (m0 := 2) (r0 := some .int) (by decide +kernel) (by decide +kernel) ⟨Nat.le_of_ble_eq_true rfl, Nat.le_of_ble_eq_true rfl⟩) (33 + q) 9 (cc_q hq) rfl rfl rfl (Nat.le_of_ble_eq_true rfl) dX3_cost_11 ⟨Nat.zero_le _, Nat.zero_le _⟩ (fun r u hp => ?_)
  obtain ⟨rfl, rfl⟩ := hp
  refine dl_iconst (pc := 14) C 2 dX3_cost_14 (by decide) ?_
  refine dl_imul (pc := 15) C dX3_cost_15 ?_
  exact hQ 16 _ _ _ ⟨(dl_r2 h).1, by rw [(dl_r2 h).2]⟩ (vp_nar_int _) dX3_cost_16
set_option maxHeartbeats 4000000 in
set_option maxRecDepth 100000 in
theorem cplX9_X4_cost (l : Launch) (D : va_G) (cI cP cII : ClassId) (TY : dl_TY) (hTY : TY[0]? = some (cI, .int)) (ad : Nat → Nat) (pr : Nat → Option Nat) (R : va_W) (q a : Nat) (nr w st : Int32) (hq : R[q]? = some (a, .inr (9, [.int nr, .int w, .ref (ad 6), .int st]))) (g : dl_Sg) (x1 : Int32) {r0 : Int32} {g0 : dl_Sg} (h : plX9_X4_cost g nr w st x1 = some (r0, g0)) : dl_CtI l D TY cc_nw yX4_cost wsX4_cost { frames := 4, cells := 0, slots := 0, locals := 84 } 0 0 [.ref a, .int x1] (cc_w cI cP cII ad pr g ++ R) (fun r u => r = r0 ∧ u = cc_w cI cP cII ad pr g0 ++ R) := by
  refine dl_metI (ty := .int) [(0, .ref a), (1, .int x1)] (by decide) rfl (Nat.le_of_ble_eq_true rfl) rfl ?_
  intro p e s m args below meth c Q A C hQ
  unfold plX9_X4_cost at h
  refine dl_aload_n (pc := 0) C 0 dX4_cost_0 rfl rfl ?_
  refine dl_getS (pc := 1) C hin_X4_cost_X9 (33 + q) (cc_q hq) rfl 2 (by decide) lkp_X4_cost_9_X9 (by decide +kernel) rfl dX4_cost_1 ?_
  refine dl_bipush (pc := 4) C 20 dX4_cost_4 (by decide) ?_
  obtain ⟨g1, h1, h⟩ := dl_bi_some h
  refine dl_vV0 (pc := 6) C (ccl5_ran l D cI cP cII TY hTY ad pr R _ _ h1) (cwV 1 C.2.2.2.2.1 gX4_cost_X5_ran rfl rfl rfl (by decide +kernel) ⟨Nat.le_of_ble_eq_true rfl, Nat.le_of_ble_eq_true rfl⟩) 6 5 cc_a6 rfl rfl rfl (Nat.le_of_ble_eq_true rfl) dX4_cost_6 ⟨Nat.zero_le _, Nat.zero_le _⟩ (fun u hp => ?_)
  subst hp
  refine dl_aload_n (pc := 9) C 0 dX4_cost_9 rfl rfl ?_
  refine dl_iload_n (pc := 10) C 1 dX4_cost_10 rfl rfl ?_
  obtain ⟨r2, g3, h1, h⟩ := dl_b2_some h
  refine dl_vIS0 (pc := 11) C (cplX9_X3_cost l D cI cP cII TY hTY ad pr R q a nr w st hq _ _ h1) (va_cwSU 1 C.2.2.2.2.1 gX4_cost_X3_cost_s21 rfl rfl rfl (by decide +kernel) ⟨Nat.le_of_ble_eq_true rfl, Nat.le_of_ble_eq_true rfl⟩) (33 + q) 9 (cc_q hq) rfl rfl rfl (Nat.le_of_ble_eq_true rfl) dX4_cost_11 ⟨Nat.zero_le _, Nat.zero_le _⟩ (fun r u hp => ?_)
  obtain ⟨rfl, rfl⟩ := hp
  refine dl_iconst (pc := 14) C 1 dX4_cost_14 (by decide) ?_
  refine dl_iadd (pc := 15) C dX4_cost_15 ?_
  exact hQ 16 _ _ _ ⟨(dl_r2 h).1, by rw [(dl_r2 h).2]⟩ (vp_nar_int _) dX4_cost_16
set_option maxHeartbeats 4000000 in
set_option maxRecDepth 100000 in
theorem cplX9_X3_ask (l : Launch) (D : va_G) (cI cP cII : ClassId) (TY : dl_TY) (hTY : TY[0]? = some (cI, .int)) (ad : Nat → Nat) (pr : Nat → Option Nat) (R : va_W) (q a : Nat) (nr w st : Int32) (hq : R[q]? = some (a, .inr (9, [.int nr, .int w, .ref (ad 6), .int st]))) (g : dl_Sg) (x1 : Int32) {r0 : Int32} {g0 : dl_Sg} (h : plX9_X3_ask g nr w st x1 = some (r0, g0)) : dl_CtI l D TY cc_nw yX3_ask wsX3_ask { frames := 1, cells := 0, slots := 0, locals := 21 } 0 0 [.ref a, .int x1] (cc_w cI cP cII ad pr g ++ R) (fun r u => r = r0 ∧ u = cc_w cI cP cII ad pr g0 ++ R) := by
  refine dl_metI (ty := .int) [(0, .ref a), (1, .int x1)] (by decide) rfl (Nat.le_of_ble_eq_true rfl) rfl ?_
  intro p e s m args below meth c Q A C hQ
  unfold plX9_X3_ask at h
  refine dl_aload_n (pc := 0) C 0 dX3_ask_0 rfl rfl ?_
  refine dl_get (pc := 1) C hin_X3_ask_X9 (33 + q) (cc_q hq) rfl 2 (by decide) lkp_X3_ask_18_X9 rfl rfl dX3_ask_1 ?_
  refine dl_bipush (pc := 4) C 12 dX3_ask_4 (by decide) ?_
  obtain ⟨g1, h1, h⟩ := dl_bi_some h
  refine dl_vV0 (pc := 6) C (ccl5_ran l D cI cP cII TY hTY ad pr R _ _ h1) (cwV 1 C.2.2.2.2.1 gX3_ask_X5_ran rfl rfl rfl (by decide +kernel) ⟨Nat.le_of_ble_eq_true rfl, Nat.le_of_ble_eq_true rfl⟩) 6 5 cc_a6 rfl rfl rfl (Nat.le_of_ble_eq_true rfl) dX3_ask_6 ⟨Nat.zero_le _, Nat.zero_le _⟩ (fun u hp => ?_)
  subst hp
  refine dl_iload_n (pc := 9) C 1 dX3_ask_9 rfl rfl ?_
  refine dl_aload_n (pc := 10) C 0 dX3_ask_10 rfl rfl ?_
  refine dl_get (pc := 11) C hin_X3_ask_X9 (33 + q) (cc_q hq) rfl 0 (by decide) lkp_X3_ask_9_X9 rfl rfl dX3_ask_11 ?_
  refine dl_isub (pc := 14) C dX3_ask_14 ?_
  exact hQ 15 _ _ _ ⟨(dl_r2 h).1, by rw [(dl_r2 h).2]⟩ (vp_nar_int _) dX3_ask_15
set_option maxHeartbeats 4000000 in
set_option maxRecDepth 100000 in
theorem cplX9_X9_ask (l : Launch) (D : va_G) (cI cP cII : ClassId) (TY : dl_TY) (hTY : TY[0]? = some (cI, .int)) (ad : Nat → Nat) (pr : Nat → Option Nat) (R : va_W) (q a : Nat) (nr w st : Int32) (hq : R[q]? = some (a, .inr (9, [.int nr, .int w, .ref (ad 6), .int st]))) (g : dl_Sg) (x1 : Int32) {r0 : Int32} {g0 : dl_Sg} (h : plX9_X9_ask g nr w st x1 = some (r0, g0)) : dl_CtI l D TY cc_nw yX9_ask wsX9_ask { frames := 2, cells := 0, slots := 0, locals := 42 } 0 0 [.ref a, .int x1] (cc_w cI cP cII ad pr g ++ R) (fun r u => r = r0 ∧ u = cc_w cI cP cII ad pr g0 ++ R) := by
  refine dl_metI (ty := .int) [(0, .ref a), (1, .int x1)] (by decide) rfl (Nat.le_of_ble_eq_true rfl) rfl ?_
  intro p e s m args below meth c Q A C hQ
  unfold plX9_X9_ask at h
  refine dl_aload_n (pc := 0) C 0 dX9_ask_0 rfl rfl ?_
  refine dl_getS (pc := 1) C hin_X9_ask_X9 (33 + q) (cc_q hq) rfl 2 (by decide) lkp_X9_ask_9_X9 (by decide +kernel) rfl dX9_ask_1 ?_
  refine dl_bipush (pc := 4) C 41 dX9_ask_4 (by decide) ?_
  obtain ⟨g1, h1, h⟩ := dl_bi_some h
  refine dl_vV0 (pc := 6) C (ccl5_ran l D cI cP cII TY hTY ad pr R _ _ h1) (cwV 1 C.2.2.2.2.1 gX9_ask_X5_ran rfl rfl rfl (by decide +kernel) ⟨Nat.le_of_ble_eq_true rfl, Nat.le_of_ble_eq_true rfl⟩) 6 5 cc_a6 rfl rfl rfl (Nat.le_of_ble_eq_true rfl) dX9_ask_6 ⟨Nat.zero_le _, Nat.zero_le _⟩ (fun u hp => ?_)
  subst hp
  refine dl_aload_n (pc := 9) C 0 dX9_ask_9 rfl rfl ?_
  refine dl_iload_n (pc := 10) C 1 dX9_ask_10 rfl rfl ?_
  refine dl_iconst (pc := 11) C 3 dX9_ask_11 (by decide) ?_
  refine dl_imul (pc := 12) C dX9_ask_12 ?_
  obtain ⟨r2, g3, h1, h⟩ := dl_b2_some h
  refine dl_spI0 (mid := "DripLines$Tap") (n := 1) (pc := 13) C (cplX9_X3_ask l D cI cP cII TY hTY ad pr R q a nr w st hq _ _ h1) rfl (hnw_ask) (by decide +kernel) (by decide +kernel) (by decide +kernel) (by decide +kernel) (by decide +kernel) (by decide +kernel) (by decide +kernel) rfl rfl ⟨Nat.le_of_ble_eq_true rfl, Nat.le_of_ble_eq_true rfl⟩ (33 + q) 9 (cc_q hq) rfl rfl rfl (Nat.le_of_ble_eq_true rfl) dX9_ask_13 ⟨Nat.zero_le _, Nat.zero_le _⟩ (fun r u hp => ?_)
  obtain ⟨rfl, rfl⟩ := hp
  exact hQ 16 _ _ _ ⟨(dl_r2 h).1, by rw [(dl_r2 h).2]⟩ (vp_nar_int _) dX9_ask_16
set_option maxHeartbeats 4000000 in
set_option maxRecDepth 100000 in
theorem cplX9_X3_tell (l : Launch) (D : va_G) (cI cP cII : ClassId) (TY : dl_TY) (hTY : TY[0]? = some (cI, .int)) (ad : Nat → Nat) (pr : Nat → Option Nat) (R : va_W) (q a : Nat) (nr w st : Int32) (hq : R[q]? = some (a, .inr (9, [.int nr, .int w, .ref (ad 6), .int st]))) (g : dl_Sg) (x1 : Int32) {r0 : Int32} {g0 : dl_Sg} (h : plX9_X3_tell g nr w st x1 = some (r0, g0)) : dl_CtI l D TY cc_nw yX3_tell wsX3_tell { frames := 5, cells := 0, slots := 0, locals := 105 } 0 0 [.ref a, .int x1] (cc_w cI cP cII ad pr g ++ R) (fun r u => r = r0 ∧ u = cc_w cI cP cII ad pr g0 ++ R) := by
  refine dl_metI (ty := .int) [(0, .ref a), (1, .int x1)] (by decide) rfl (Nat.le_of_ble_eq_true rfl) rfl ?_
  intro p e s m args below meth c Q A C hQ
  unfold plX9_X3_tell at h
  refine dl_aload_n (pc := 0) C 0 dX3_tell_0 rfl rfl ?_
  refine dl_get (pc := 1) C hin_X3_tell_X9 (33 + q) (cc_q hq) rfl 2 (by decide) lkp_X3_tell_18_X9 rfl rfl dX3_tell_1 ?_
  refine dl_bipush (pc := 4) C 13 dX3_tell_4 (by decide) ?_
  obtain ⟨g1, h1, h⟩ := dl_bi_some h
  refine dl_vV0 (pc := 6) C (ccl5_ran l D cI cP cII TY hTY ad pr R _ _ h1) (cwV 1 C.2.2.2.2.1 gX3_tell_X5_ran rfl rfl rfl (by decide +kernel) ⟨Nat.le_of_ble_eq_true rfl, Nat.le_of_ble_eq_true rfl⟩) 6 5 cc_a6 rfl rfl rfl (Nat.le_of_ble_eq_true rfl) dX3_tell_6 ⟨Nat.zero_le _, Nat.zero_le _⟩ (fun u hp => ?_)
  subst hp
  refine dl_aload_n (pc := 9) C 0 dX3_tell_9 rfl rfl ?_
  refine dl_iload_n (pc := 10) C 1 dX3_tell_10 rfl rfl ?_
  obtain ⟨r2, g3, h1, h⟩ := dl_b2_some h
  refine dl_vIU0 (pc := 11) C (cplX9_X4_cost l D cI cP cII TY hTY ad pr R q a nr w st hq _ _ h1) (va_cwO 1 C.2.2.2.2.1 gX3_tell_X4_cost_u35X9 rfl rfl rfl (b0 := cX3_cost) (m0 := 2) (r0 := some .int) (by decide +kernel) (by decide +kernel) ⟨Nat.le_of_ble_eq_true rfl, Nat.le_of_ble_eq_true rfl⟩) (33 + q) 9 (cc_q hq) rfl rfl rfl (Nat.le_of_ble_eq_true rfl) dX3_tell_11 ⟨Nat.zero_le _, Nat.zero_le _⟩ (fun r u hp => ?_)
  obtain ⟨rfl, rfl⟩ := hp
  refine dl_aload_n (pc := 14) C 0 dX3_tell_14 rfl rfl ?_
  refine dl_iload_n (pc := 15) C 1 dX3_tell_15 rfl rfl ?_
  obtain ⟨r4, g5, h1, h⟩ := dl_b2_some h
  refine dl_vIU0 (pc := 16) C (cplX9_X9_ask l D cI cP cII TY hTY ad pr R q a nr w st hq _ _ h1) (va_cwO 1 C.2.2.2.2.1 gX3_tell_X9_ask_u38X9 rfl rfl rfl (b0 := cX3_ask) (m0 := 2) (r0 := some .int) (by decide +kernel) (by decide +kernel) ⟨Nat.le_of_ble_eq_true rfl, Nat.le_of_ble_eq_true rfl⟩) (33 + q) 9 (cc_q hq) rfl rfl rfl (Nat.le_of_ble_eq_true rfl) dX3_tell_16 ⟨Nat.zero_le _, Nat.zero_le _⟩ (fun r u hp => ?_)
  obtain ⟨rfl, rfl⟩ := hp
  refine dl_ixor (pc := 19) C dX3_tell_19 ?_
  exact hQ 20 _ _ _ ⟨(dl_r2 h).1, by rw [(dl_r2 h).2]⟩ (vp_nar_int _) dX3_tell_20
set_option maxHeartbeats 4000000 in
set_option maxRecDepth 100000 in
theorem cplX9_X4_tell (l : Launch) (D : va_G) (cI cP cII : ClassId) (TY : dl_TY) (hTY : TY[0]? = some (cI, .int)) (ad : Nat → Nat) (pr : Nat → Option Nat) (R : va_W) (q a : Nat) (nr w st : Int32) (hq : R[q]? = some (a, .inr (9, [.int nr, .int w, .ref (ad 6), .int st]))) (g : dl_Sg) (x1 : Int32) {r0 : Int32} {g0 : dl_Sg} (h : plX9_X4_tell g nr w st x1 = some (r0, g0)) : dl_CtI l D TY cc_nw yX4_tell wsX4_tell { frames := 6, cells := 0, slots := 0, locals := 126 } 0 0 [.ref a, .int x1] (cc_w cI cP cII ad pr g ++ R) (fun r u => r = r0 ∧ u = cc_w cI cP cII ad pr g0 ++ R) := by
  refine dl_metI (ty := .int) [(0, .ref a), (1, .int x1)] (by decide) rfl (Nat.le_of_ble_eq_true rfl) rfl ?_
  intro p e s m args below meth c Q A C hQ
  unfold plX9_X4_tell at h
  refine dl_aload_n (pc := 0) C 0 dX4_tell_0 rfl rfl ?_
  refine dl_getS (pc := 1) C hin_X4_tell_X9 (33 + q) (cc_q hq) rfl 2 (by decide) lkp_X4_tell_9_X9 (by decide +kernel) rfl dX4_tell_1 ?_
  refine dl_bipush (pc := 4) C 21 dX4_tell_4 (by decide) ?_
  obtain ⟨g1, h1, h⟩ := dl_bi_some h
  refine dl_vV0 (pc := 6) C (ccl5_ran l D cI cP cII TY hTY ad pr R _ _ h1) (cwV 1 C.2.2.2.2.1 gX4_tell_X5_ran rfl rfl rfl (by decide +kernel) ⟨Nat.le_of_ble_eq_true rfl, Nat.le_of_ble_eq_true rfl⟩) 6 5 cc_a6 rfl rfl rfl (Nat.le_of_ble_eq_true rfl) dX4_tell_6 ⟨Nat.zero_le _, Nat.zero_le _⟩ (fun u hp => ?_)
  subst hp
  refine dl_aload_n (pc := 9) C 0 dX4_tell_9 rfl rfl ?_
  refine dl_iload_n (pc := 10) C 1 dX4_tell_10 rfl rfl ?_
  refine dl_iconst (pc := 11) C 1 dX4_tell_11 (by decide) ?_
  refine dl_isub (pc := 12) C dX4_tell_12 ?_
  obtain ⟨r2, g3, h1, h⟩ := dl_b2_some h
  refine dl_vIS0 (pc := 13) C (cplX9_X3_tell l D cI cP cII TY hTY ad pr R q a nr w st hq _ _ h1) (va_cwSU 1 C.2.2.2.2.1 gX4_tell_X3_tell_s25 rfl rfl rfl (by decide +kernel) ⟨Nat.le_of_ble_eq_true rfl, Nat.le_of_ble_eq_true rfl⟩) (33 + q) 9 (cc_q hq) rfl rfl rfl (Nat.le_of_ble_eq_true rfl) dX4_tell_13 ⟨Nat.zero_le _, Nat.zero_le _⟩ (fun r u hp => ?_)
  obtain ⟨rfl, rfl⟩ := hp
  exact hQ 16 _ _ _ ⟨(dl_r2 h).1, by rw [(dl_r2 h).2]⟩ (vp_nar_int _) dX4_tell_16
set_option maxHeartbeats 4000000 in
set_option maxRecDepth 100000 in
theorem cplX9_X9_kind (l : Launch) (D : va_G) (cI cP cII : ClassId) (TY : dl_TY) (hTY : TY[0]? = some (cI, .int)) (ad : Nat → Nat) (pr : Nat → Option Nat) (R : va_W) (q a : Nat) (nr w st : Int32) (hq : R[q]? = some (a, .inr (9, [.int nr, .int w, .ref (ad 6), .int st]))) (g : dl_Sg) {r0 : Int32} (h : plX9_X9_kind = some r0) : dl_CtI l D TY cc_nw yX9_kind wsX9_kind { frames := 0, cells := 0, slots := 0, locals := 0 } 0 0 [.ref a] (cc_w cI cP cII ad pr g ++ R) (fun r u => r = r0 ∧ u = cc_w cI cP cII ad pr g ++ R) := by
  refine dl_metI (ty := .int) [(0, .ref a)] (by decide) rfl (Nat.le_of_ble_eq_true rfl) rfl ?_
  intro p e s m args below meth c Q A C hQ
  unfold plX9_X9_kind at h
  refine dl_iconst (pc := 0) C 3 dX9_kind_0 (by decide) ?_
  exact hQ 1 _ _ _ ⟨Option.some.inj h, rfl⟩ (vp_nar_int _) dX9_kind_1
set_option maxHeartbeats 4000000 in
set_option maxRecDepth 100000 in
theorem cplX10_X3_join (l : Launch) (D : va_G) (cI cP cII : ClassId) (TY : dl_TY) (hTY : TY[0]? = some (cI, .int)) (ad : Nat → Nat) (pr : Nat → Option Nat) (R : va_W) (q a : Nat) (nr w st : Int32) (hq : R[q]? = some (a, .inr (10, [.int nr, .int w, .ref (ad 6), .int st]))) (g : dl_Sg) (x1 : Int32) {r0 : Int32} {g0 : dl_Sg} (h : plX10_X3_join g nr w st x1 = some (r0, g0)) : dl_CtI l D TY cc_nw yX3_join wsX3_join { frames := 1, cells := 0, slots := 0, locals := 21 } 0 0 [.ref a, .int x1] (cc_w cI cP cII ad pr g ++ R) (fun r u => r = r0 ∧ u = cc_w cI cP cII ad pr g0 ++ R) := by
  refine dl_metI (ty := .int) [(0, .ref a), (1, .int x1)] (by decide) rfl (Nat.le_of_ble_eq_true rfl) rfl ?_
  intro p e s m args below meth c Q A C hQ
  unfold plX10_X3_join at h
  refine dl_aload_n (pc := 0) C 0 dX3_join_0 rfl rfl ?_
  refine dl_get (pc := 1) C hin_X3_join_X10 (33 + q) (cc_q hq) rfl 2 (by decide) lkp_X3_join_18_X10 rfl rfl dX3_join_1 ?_
  refine dl_bipush (pc := 4) C 10 dX3_join_4 (by decide) ?_
  obtain ⟨g1, h1, h⟩ := dl_bi_some h
  refine dl_vV0 (pc := 6) C (ccl5_ran l D cI cP cII TY hTY ad pr R _ _ h1) (cwV 1 C.2.2.2.2.1 gX3_join_X5_ran rfl rfl rfl (by decide +kernel) ⟨Nat.le_of_ble_eq_true rfl, Nat.le_of_ble_eq_true rfl⟩) 6 5 cc_a6 rfl rfl rfl (Nat.le_of_ble_eq_true rfl) dX3_join_6 ⟨Nat.zero_le _, Nat.zero_le _⟩ (fun u hp => ?_)
  subst hp
  refine dl_iload_n (pc := 9) C 1 dX3_join_9 rfl rfl ?_
  refine dl_aload_n (pc := 10) C 0 dX3_join_10 rfl rfl ?_
  refine dl_get (pc := 11) C hin_X3_join_X10 (33 + q) (cc_q hq) rfl 3 (by decide) lkp_X3_join_28_X10 rfl rfl dX3_join_11 ?_
  refine dl_iadd (pc := 14) C dX3_join_14 ?_
  exact hQ 15 _ _ _ ⟨(dl_r2 h).1, by rw [(dl_r2 h).2]⟩ (vp_nar_int _) dX3_join_15
set_option maxHeartbeats 4000000 in
set_option maxRecDepth 100000 in
theorem cplX10_X3_cost (l : Launch) (D : va_G) (cI cP cII : ClassId) (TY : dl_TY) (hTY : TY[0]? = some (cI, .int)) (ad : Nat → Nat) (pr : Nat → Option Nat) (R : va_W) (q a : Nat) (nr w st : Int32) (hq : R[q]? = some (a, .inr (10, [.int nr, .int w, .ref (ad 6), .int st]))) (g : dl_Sg) (x1 : Int32) {r0 : Int32} {g0 : dl_Sg} (h : plX10_X3_cost g nr w st x1 = some (r0, g0)) : dl_CtI l D TY cc_nw yX3_cost wsX3_cost { frames := 2, cells := 0, slots := 0, locals := 42 } 0 0 [.ref a, .int x1] (cc_w cI cP cII ad pr g ++ R) (fun r u => r = r0 ∧ u = cc_w cI cP cII ad pr g0 ++ R) := by
  refine dl_metI (ty := .int) [(0, .ref a), (1, .int x1)] (by decide) rfl (Nat.le_of_ble_eq_true rfl) rfl ?_
  intro p e s m args below meth c Q A C hQ
  unfold plX10_X3_cost at h
  refine dl_aload_n (pc := 0) C 0 dX3_cost_0 rfl rfl ?_
  refine dl_get (pc := 1) C hin_X3_cost_X10 (33 + q) (cc_q hq) rfl 2 (by decide) lkp_X3_cost_18_X10 rfl rfl dX3_cost_1 ?_
  refine dl_bipush (pc := 4) C 11 dX3_cost_4 (by decide) ?_
  obtain ⟨g1, h1, h⟩ := dl_bi_some h
  refine dl_vV0 (pc := 6) C (ccl5_ran l D cI cP cII TY hTY ad pr R _ _ h1) (cwV 1 C.2.2.2.2.1 gX3_cost_X5_ran rfl rfl rfl (by decide +kernel) ⟨Nat.le_of_ble_eq_true rfl, Nat.le_of_ble_eq_true rfl⟩) 6 5 cc_a6 rfl rfl rfl (Nat.le_of_ble_eq_true rfl) dX3_cost_6 ⟨Nat.zero_le _, Nat.zero_le _⟩ (fun u hp => ?_)
  subst hp
  refine dl_aload_n (pc := 9) C 0 dX3_cost_9 rfl rfl ?_
  refine dl_iload_n (pc := 10) C 1 dX3_cost_10 rfl rfl ?_
  obtain ⟨r2, g3, h1, h⟩ := dl_b2_some h
  refine dl_vIU0 (pc := 11) C (cplX10_X3_join l D cI cP cII TY hTY ad pr R q a nr w st hq _ _ h1) (va_cwU 1 C.2.2.2.2.1 gX3_cost_X3_join_u31X10 rfl rfl rfl rfl (by decide +kernel) ⟨Nat.le_of_ble_eq_true rfl, Nat.le_of_ble_eq_true rfl⟩) (33 + q) 10 (cc_q hq) rfl rfl rfl (Nat.le_of_ble_eq_true rfl) dX3_cost_11 ⟨Nat.zero_le _, Nat.zero_le _⟩ (fun r u hp => ?_)
  obtain ⟨rfl, rfl⟩ := hp
  refine dl_iconst (pc := 14) C 2 dX3_cost_14 (by decide) ?_
  refine dl_imul (pc := 15) C dX3_cost_15 ?_
  exact hQ 16 _ _ _ ⟨(dl_r2 h).1, by rw [(dl_r2 h).2]⟩ (vp_nar_int _) dX3_cost_16
set_option maxHeartbeats 4000000 in
set_option maxRecDepth 100000 in
theorem cplX10_X3_ask (l : Launch) (D : va_G) (cI cP cII : ClassId) (TY : dl_TY) (hTY : TY[0]? = some (cI, .int)) (ad : Nat → Nat) (pr : Nat → Option Nat) (R : va_W) (q a : Nat) (nr w st : Int32) (hq : R[q]? = some (a, .inr (10, [.int nr, .int w, .ref (ad 6), .int st]))) (g : dl_Sg) (x1 : Int32) {r0 : Int32} {g0 : dl_Sg} (h : plX10_X3_ask g nr w st x1 = some (r0, g0)) : dl_CtI l D TY cc_nw yX3_ask wsX3_ask { frames := 1, cells := 0, slots := 0, locals := 21 } 0 0 [.ref a, .int x1] (cc_w cI cP cII ad pr g ++ R) (fun r u => r = r0 ∧ u = cc_w cI cP cII ad pr g0 ++ R) := by
  refine dl_metI (ty := .int) [(0, .ref a), (1, .int x1)] (by decide) rfl (Nat.le_of_ble_eq_true rfl) rfl ?_
  intro p e s m args below meth c Q A C hQ
  unfold plX10_X3_ask at h
  refine dl_aload_n (pc := 0) C 0 dX3_ask_0 rfl rfl ?_
  refine dl_get (pc := 1) C hin_X3_ask_X10 (33 + q) (cc_q hq) rfl 2 (by decide) lkp_X3_ask_18_X10 rfl rfl dX3_ask_1 ?_
  refine dl_bipush (pc := 4) C 12 dX3_ask_4 (by decide) ?_
  obtain ⟨g1, h1, h⟩ := dl_bi_some h
  refine dl_vV0 (pc := 6) C (ccl5_ran l D cI cP cII TY hTY ad pr R _ _ h1) (cwV 1 C.2.2.2.2.1 gX3_ask_X5_ran rfl rfl rfl (by decide +kernel) ⟨Nat.le_of_ble_eq_true rfl, Nat.le_of_ble_eq_true rfl⟩) 6 5 cc_a6 rfl rfl rfl (Nat.le_of_ble_eq_true rfl) dX3_ask_6 ⟨Nat.zero_le _, Nat.zero_le _⟩ (fun u hp => ?_)
  subst hp
  refine dl_iload_n (pc := 9) C 1 dX3_ask_9 rfl rfl ?_
  refine dl_aload_n (pc := 10) C 0 dX3_ask_10 rfl rfl ?_
  refine dl_get (pc := 11) C hin_X3_ask_X10 (33 + q) (cc_q hq) rfl 0 (by decide) lkp_X3_ask_9_X10 rfl rfl dX3_ask_11 ?_
  refine dl_isub (pc := 14) C dX3_ask_14 ?_
  exact hQ 15 _ _ _ ⟨(dl_r2 h).1, by rw [(dl_r2 h).2]⟩ (vp_nar_int _) dX3_ask_15
set_option maxHeartbeats 4000000 in
set_option maxRecDepth 100000 in
theorem cplX10_X10_ask (l : Launch) (D : va_G) (cI cP cII : ClassId) (TY : dl_TY) (hTY : TY[0]? = some (cI, .int)) (ad : Nat → Nat) (pr : Nat → Option Nat) (R : va_W) (q a : Nat) (nr w st : Int32) (hq : R[q]? = some (a, .inr (10, [.int nr, .int w, .ref (ad 6), .int st]))) (g : dl_Sg) (x1 : Int32) {r0 : Int32} {g0 : dl_Sg} (h : plX10_X10_ask g nr w st x1 = some (r0, g0)) : dl_CtI l D TY cc_nw yX10_ask wsX10_ask { frames := 2, cells := 0, slots := 0, locals := 42 } 0 0 [.ref a, .int x1] (cc_w cI cP cII ad pr g ++ R) (fun r u => r = r0 ∧ u = cc_w cI cP cII ad pr g0 ++ R) := by
  refine dl_metI (ty := .int) [(0, .ref a), (1, .int x1)] (by decide) rfl (Nat.le_of_ble_eq_true rfl) rfl ?_
  intro p e s m args below meth c Q A C hQ
  unfold plX10_X10_ask at h
  refine dl_aload_n (pc := 0) C 0 dX10_ask_0 rfl rfl ?_
  refine dl_getS (pc := 1) C hin_X10_ask_X10 (33 + q) (cc_q hq) rfl 2 (by decide) lkp_X10_ask_9_X10 (by decide +kernel) rfl dX10_ask_1 ?_
  refine dl_bipush (pc := 4) C 30 dX10_ask_4 (by decide) ?_
  obtain ⟨g1, h1, h⟩ := dl_bi_some h
  refine dl_vV0 (pc := 6) C (ccl5_ran l D cI cP cII TY hTY ad pr R _ _ h1) (cwV 1 C.2.2.2.2.1 gX10_ask_X5_ran rfl rfl rfl (by decide +kernel) ⟨Nat.le_of_ble_eq_true rfl, Nat.le_of_ble_eq_true rfl⟩) 6 5 cc_a6 rfl rfl rfl (Nat.le_of_ble_eq_true rfl) dX10_ask_6 ⟨Nat.zero_le _, Nat.zero_le _⟩ (fun u hp => ?_)
  subst hp
  refine dl_aload_n (pc := 9) C 0 dX10_ask_9 rfl rfl ?_
  refine dl_iload_n (pc := 10) C 1 dX10_ask_10 rfl rfl ?_
  obtain ⟨r2, g3, h1, h⟩ := dl_b2_some h
  refine dl_vIS0 (pc := 11) C (cplX10_X3_ask l D cI cP cII TY hTY ad pr R q a nr w st hq _ _ h1) (va_cwSU 1 C.2.2.2.2.1 gX10_ask_X3_ask_s21 rfl rfl rfl (by decide +kernel) ⟨Nat.le_of_ble_eq_true rfl, Nat.le_of_ble_eq_true rfl⟩) (33 + q) 10 (cc_q hq) rfl rfl rfl (Nat.le_of_ble_eq_true rfl) dX10_ask_11 ⟨Nat.zero_le _, Nat.zero_le _⟩ (fun r u hp => ?_)
  obtain ⟨rfl, rfl⟩ := hp
  refine dl_aload_n (pc := 14) C 0 dX10_ask_14 rfl rfl ?_
  refine dl_getS (pc := 15) C hin_X10_ask_X10 (33 + q) (cc_q hq) rfl 1 (by decide) lkp_X10_ask_25_X10 (by decide +kernel) rfl dX10_ask_15 ?_
  refine dl_imul (pc := 18) C dX10_ask_18 ?_
  exact hQ 19 _ _ _ ⟨(dl_r2 h).1, by rw [(dl_r2 h).2]⟩ (vp_nar_int _) dX10_ask_19
set_option maxHeartbeats 4000000 in
set_option maxRecDepth 100000 in
theorem cplX10_X3_tell (l : Launch) (D : va_G) (cI cP cII : ClassId) (TY : dl_TY) (hTY : TY[0]? = some (cI, .int)) (ad : Nat → Nat) (pr : Nat → Option Nat) (R : va_W) (q a : Nat) (nr w st : Int32) (hq : R[q]? = some (a, .inr (10, [.int nr, .int w, .ref (ad 6), .int st]))) (g : dl_Sg) (x1 : Int32) {r0 : Int32} {g0 : dl_Sg} (h : plX10_X3_tell g nr w st x1 = some (r0, g0)) : dl_CtI l D TY cc_nw yX3_tell wsX3_tell { frames := 3, cells := 0, slots := 0, locals := 63 } 0 0 [.ref a, .int x1] (cc_w cI cP cII ad pr g ++ R) (fun r u => r = r0 ∧ u = cc_w cI cP cII ad pr g0 ++ R) := by
  refine dl_metI (ty := .int) [(0, .ref a), (1, .int x1)] (by decide) rfl (Nat.le_of_ble_eq_true rfl) rfl ?_
  intro p e s m args below meth c Q A C hQ
  unfold plX10_X3_tell at h
  refine dl_aload_n (pc := 0) C 0 dX3_tell_0 rfl rfl ?_
  refine dl_get (pc := 1) C hin_X3_tell_X10 (33 + q) (cc_q hq) rfl 2 (by decide) lkp_X3_tell_18_X10 rfl rfl dX3_tell_1 ?_
  refine dl_bipush (pc := 4) C 13 dX3_tell_4 (by decide) ?_
  obtain ⟨g1, h1, h⟩ := dl_bi_some h
  refine dl_vV0 (pc := 6) C (ccl5_ran l D cI cP cII TY hTY ad pr R _ _ h1) (cwV 1 C.2.2.2.2.1 gX3_tell_X5_ran rfl rfl rfl (by decide +kernel) ⟨Nat.le_of_ble_eq_true rfl, Nat.le_of_ble_eq_true rfl⟩) 6 5 cc_a6 rfl rfl rfl (Nat.le_of_ble_eq_true rfl) dX3_tell_6 ⟨Nat.zero_le _, Nat.zero_le _⟩ (fun u hp => ?_)
  subst hp
  refine dl_aload_n (pc := 9) C 0 dX3_tell_9 rfl rfl ?_
  refine dl_iload_n (pc := 10) C 1 dX3_tell_10 rfl rfl ?_
  obtain ⟨r2, g3, h1, h⟩ := dl_b2_some h
  refine dl_vIU0 (pc := 11) C (cplX10_X3_cost l D cI cP cII TY hTY ad pr R q a nr w st hq _ _ h1) (va_cwU 1 C.2.2.2.2.1 gX3_tell_X3_cost_u35X10 rfl rfl rfl rfl (by decide +kernel) ⟨Nat.le_of_ble_eq_true rfl, Nat.le_of_ble_eq_true rfl⟩) (33 + q) 10 (cc_q hq) rfl rfl rfl (Nat.le_of_ble_eq_true rfl) dX3_tell_11 ⟨Nat.zero_le _, Nat.zero_le _⟩ (fun r u hp => ?_)
  obtain ⟨rfl, rfl⟩ := hp
  refine dl_aload_n (pc := 14) C 0 dX3_tell_14 rfl rfl ?_
  refine dl_iload_n (pc := 15) C 1 dX3_tell_15 rfl rfl ?_
  obtain ⟨r4, g5, h1, h⟩ := dl_b2_some h
  refine dl_vIU0 (pc := 16) C (cplX10_X10_ask l D cI cP cII TY hTY ad pr R q a nr w st hq _ _ h1) (va_cwO 1 C.2.2.2.2.1 gX3_tell_X10_ask_u38X10 rfl rfl rfl (b0 := cX3_ask) (m0 := 2) (r0 := some .int) (by decide +kernel) (by decide +kernel) ⟨Nat.le_of_ble_eq_true rfl, Nat.le_of_ble_eq_true rfl⟩) (33 + q) 10 (cc_q hq) rfl rfl rfl (Nat.le_of_ble_eq_true rfl) dX3_tell_16 ⟨Nat.zero_le _, Nat.zero_le _⟩ (fun r u hp => ?_)
  obtain ⟨rfl, rfl⟩ := hp
  refine dl_ixor (pc := 19) C dX3_tell_19 ?_
  exact hQ 20 _ _ _ ⟨(dl_r2 h).1, by rw [(dl_r2 h).2]⟩ (vp_nar_int _) dX3_tell_20
set_option maxHeartbeats 4000000 in
set_option maxRecDepth 100000 in
theorem cplX10_X10_kind (l : Launch) (D : va_G) (cI cP cII : ClassId) (TY : dl_TY) (hTY : TY[0]? = some (cI, .int)) (ad : Nat → Nat) (pr : Nat → Option Nat) (R : va_W) (q a : Nat) (nr w st : Int32) (hq : R[q]? = some (a, .inr (10, [.int nr, .int w, .ref (ad 6), .int st]))) (g : dl_Sg) {r0 : Int32} (h : plX10_X10_kind = some r0) : dl_CtI l D TY cc_nw yX10_kind wsX10_kind { frames := 0, cells := 0, slots := 0, locals := 0 } 0 0 [.ref a] (cc_w cI cP cII ad pr g ++ R) (fun r u => r = r0 ∧ u = cc_w cI cP cII ad pr g ++ R) := by
  refine dl_metI (ty := .int) [(0, .ref a)] (by decide) rfl (Nat.le_of_ble_eq_true rfl) rfl ?_
  intro p e s m args below meth c Q A C hQ
  unfold plX10_X10_kind at h
  refine dl_iconst (pc := 0) C 2 dX10_kind_0 (by decide) ?_
  exact hQ 1 _ _ _ ⟨Option.some.inj h, rfl⟩ (vp_nar_int _) dX10_kind_1
set_option maxHeartbeats 4000000 in
set_option maxRecDepth 100000 in
theorem cplX0_X3_join (l : Launch) (D : va_G) (cI cP cII : ClassId) (TY : dl_TY) (hTY : TY[0]? = some (cI, .int)) (ad : Nat → Nat) (pr : Nat → Option Nat) (R : va_W) (q a : Nat) (nr w st : Int32) (hq : R[q]? = some (a, .inr (0, [.int nr, .int w, .ref (ad 6), .int st]))) (g : dl_Sg) (x1 : Int32) {r0 : Int32} {g0 : dl_Sg} (h : plX0_X3_join g nr w st x1 = some (r0, g0)) : dl_CtI l D TY cc_nw yX3_join wsX3_join { frames := 1, cells := 0, slots := 0, locals := 21 } 0 0 [.ref a, .int x1] (cc_w cI cP cII ad pr g ++ R) (fun r u => r = r0 ∧ u = cc_w cI cP cII ad pr g0 ++ R) := by
  refine dl_metI (ty := .int) [(0, .ref a), (1, .int x1)] (by decide) rfl (Nat.le_of_ble_eq_true rfl) rfl ?_
  intro p e s m args below meth c Q A C hQ
  unfold plX0_X3_join at h
  refine dl_aload_n (pc := 0) C 0 dX3_join_0 rfl rfl ?_
  refine dl_get (pc := 1) C hin_X3_join_X0 (33 + q) (cc_q hq) rfl 2 (by decide) lkp_X3_join_18_X0 rfl rfl dX3_join_1 ?_
  refine dl_bipush (pc := 4) C 10 dX3_join_4 (by decide) ?_
  obtain ⟨g1, h1, h⟩ := dl_bi_some h
  refine dl_vV0 (pc := 6) C (ccl5_ran l D cI cP cII TY hTY ad pr R _ _ h1) (cwV 1 C.2.2.2.2.1 gX3_join_X5_ran rfl rfl rfl (by decide +kernel) ⟨Nat.le_of_ble_eq_true rfl, Nat.le_of_ble_eq_true rfl⟩) 6 5 cc_a6 rfl rfl rfl (Nat.le_of_ble_eq_true rfl) dX3_join_6 ⟨Nat.zero_le _, Nat.zero_le _⟩ (fun u hp => ?_)
  subst hp
  refine dl_iload_n (pc := 9) C 1 dX3_join_9 rfl rfl ?_
  refine dl_aload_n (pc := 10) C 0 dX3_join_10 rfl rfl ?_
  refine dl_get (pc := 11) C hin_X3_join_X0 (33 + q) (cc_q hq) rfl 3 (by decide) lkp_X3_join_28_X0 rfl rfl dX3_join_11 ?_
  refine dl_iadd (pc := 14) C dX3_join_14 ?_
  exact hQ 15 _ _ _ ⟨(dl_r2 h).1, by rw [(dl_r2 h).2]⟩ (vp_nar_int _) dX3_join_15
set_option maxHeartbeats 4000000 in
set_option maxRecDepth 100000 in
theorem cplX0_X3_cost (l : Launch) (D : va_G) (cI cP cII : ClassId) (TY : dl_TY) (hTY : TY[0]? = some (cI, .int)) (ad : Nat → Nat) (pr : Nat → Option Nat) (R : va_W) (q a : Nat) (nr w st : Int32) (hq : R[q]? = some (a, .inr (0, [.int nr, .int w, .ref (ad 6), .int st]))) (g : dl_Sg) (x1 : Int32) {r0 : Int32} {g0 : dl_Sg} (h : plX0_X3_cost g nr w st x1 = some (r0, g0)) : dl_CtI l D TY cc_nw yX3_cost wsX3_cost { frames := 2, cells := 0, slots := 0, locals := 42 } 0 0 [.ref a, .int x1] (cc_w cI cP cII ad pr g ++ R) (fun r u => r = r0 ∧ u = cc_w cI cP cII ad pr g0 ++ R) := by
  refine dl_metI (ty := .int) [(0, .ref a), (1, .int x1)] (by decide) rfl (Nat.le_of_ble_eq_true rfl) rfl ?_
  intro p e s m args below meth c Q A C hQ
  unfold plX0_X3_cost at h
  refine dl_aload_n (pc := 0) C 0 dX3_cost_0 rfl rfl ?_
  refine dl_get (pc := 1) C hin_X3_cost_X0 (33 + q) (cc_q hq) rfl 2 (by decide) lkp_X3_cost_18_X0 rfl rfl dX3_cost_1 ?_
  refine dl_bipush (pc := 4) C 11 dX3_cost_4 (by decide) ?_
  obtain ⟨g1, h1, h⟩ := dl_bi_some h
  refine dl_vV0 (pc := 6) C (ccl5_ran l D cI cP cII TY hTY ad pr R _ _ h1) (cwV 1 C.2.2.2.2.1 gX3_cost_X5_ran rfl rfl rfl (by decide +kernel) ⟨Nat.le_of_ble_eq_true rfl, Nat.le_of_ble_eq_true rfl⟩) 6 5 cc_a6 rfl rfl rfl (Nat.le_of_ble_eq_true rfl) dX3_cost_6 ⟨Nat.zero_le _, Nat.zero_le _⟩ (fun u hp => ?_)
  subst hp
  refine dl_aload_n (pc := 9) C 0 dX3_cost_9 rfl rfl ?_
  refine dl_iload_n (pc := 10) C 1 dX3_cost_10 rfl rfl ?_
  obtain ⟨r2, g3, h1, h⟩ := dl_b2_some h
  refine dl_vIU0 (pc := 11) C (cplX0_X3_join l D cI cP cII TY hTY ad pr R q a nr w st hq _ _ h1) (va_cwU 1 C.2.2.2.2.1 gX3_cost_X3_join_u31X0 rfl rfl rfl rfl (by decide +kernel) ⟨Nat.le_of_ble_eq_true rfl, Nat.le_of_ble_eq_true rfl⟩) (33 + q) 0 (cc_q hq) rfl rfl rfl (Nat.le_of_ble_eq_true rfl) dX3_cost_11 ⟨Nat.zero_le _, Nat.zero_le _⟩ (fun r u hp => ?_)
  obtain ⟨rfl, rfl⟩ := hp
  refine dl_iconst (pc := 14) C 2 dX3_cost_14 (by decide) ?_
  refine dl_imul (pc := 15) C dX3_cost_15 ?_
  exact hQ 16 _ _ _ ⟨(dl_r2 h).1, by rw [(dl_r2 h).2]⟩ (vp_nar_int _) dX3_cost_16
set_option maxHeartbeats 4000000 in
set_option maxRecDepth 100000 in
theorem cplX0_X0_cost (l : Launch) (D : va_G) (cI cP cII : ClassId) (TY : dl_TY) (hTY : TY[0]? = some (cI, .int)) (ad : Nat → Nat) (pr : Nat → Option Nat) (R : va_W) (q a : Nat) (nr w st : Int32) (hq : R[q]? = some (a, .inr (0, [.int nr, .int w, .ref (ad 6), .int st]))) (g : dl_Sg) (x1 : Int32) {r0 : Int32} {g0 : dl_Sg} (h : plX0_X0_cost g nr w st x1 = some (r0, g0)) : dl_CtI l D TY cc_nw yX0_cost wsX0_cost { frames := 3, cells := 0, slots := 0, locals := 63 } 0 0 [.ref a, .int x1] (cc_w cI cP cII ad pr g ++ R) (fun r u => r = r0 ∧ u = cc_w cI cP cII ad pr g0 ++ R) := by
  refine dl_metI (ty := .int) [(0, .ref a), (1, .int x1)] (by decide) rfl (Nat.le_of_ble_eq_true rfl) rfl ?_
  intro p e s m args below meth c Q A C hQ
  unfold plX0_X0_cost at h
  refine dl_aload_n (pc := 0) C 0 dX0_cost_0 rfl rfl ?_
  refine dl_getS (pc := 1) C hin_X0_cost_X0 (33 + q) (cc_q hq) rfl 2 (by decide) lkp_X0_cost_9_X0 (by decide +kernel) rfl dX0_cost_1 ?_
  refine dl_bipush (pc := 4) C 50 dX0_cost_4 (by decide) ?_
  obtain ⟨g1, h1, h⟩ := dl_bi_some h
  refine dl_vV0 (pc := 6) C (ccl5_ran l D cI cP cII TY hTY ad pr R _ _ h1) (cwV 1 C.2.2.2.2.1 gX0_cost_X5_ran rfl rfl rfl (by decide +kernel) ⟨Nat.le_of_ble_eq_true rfl, Nat.le_of_ble_eq_true rfl⟩) 6 5 cc_a6 rfl rfl rfl (Nat.le_of_ble_eq_true rfl) dX0_cost_6 ⟨Nat.zero_le _, Nat.zero_le _⟩ (fun u hp => ?_)
  subst hp
  refine dl_aload_n (pc := 9) C 0 dX0_cost_9 rfl rfl ?_
  refine dl_iload_n (pc := 10) C 1 dX0_cost_10 rfl rfl ?_
  obtain ⟨r2, g3, h1, h⟩ := dl_b2_some h
  refine dl_vIS0 (pc := 11) C (cplX0_X3_cost l D cI cP cII TY hTY ad pr R q a nr w st hq _ _ h1) (va_cwSU 1 C.2.2.2.2.1 gX0_cost_X3_cost_s21 rfl rfl rfl (by decide +kernel) ⟨Nat.le_of_ble_eq_true rfl, Nat.le_of_ble_eq_true rfl⟩) (33 + q) 0 (cc_q hq) rfl rfl rfl (Nat.le_of_ble_eq_true rfl) dX0_cost_11 ⟨Nat.zero_le _, Nat.zero_le _⟩ (fun r u hp => ?_)
  obtain ⟨rfl, rfl⟩ := hp
  refine dl_aload_n (pc := 14) C 0 dX0_cost_14 rfl rfl ?_
  refine dl_getS (pc := 15) C hin_X0_cost_X0 (33 + q) (cc_q hq) rfl 1 (by decide) lkp_X0_cost_25_X0 (by decide +kernel) rfl dX0_cost_15 ?_
  refine dl_iadd (pc := 18) C dX0_cost_18 ?_
  exact hQ 19 _ _ _ ⟨(dl_r2 h).1, by rw [(dl_r2 h).2]⟩ (vp_nar_int _) dX0_cost_19
set_option maxHeartbeats 4000000 in
set_option maxRecDepth 100000 in
theorem cplX0_X3_ask (l : Launch) (D : va_G) (cI cP cII : ClassId) (TY : dl_TY) (hTY : TY[0]? = some (cI, .int)) (ad : Nat → Nat) (pr : Nat → Option Nat) (R : va_W) (q a : Nat) (nr w st : Int32) (hq : R[q]? = some (a, .inr (0, [.int nr, .int w, .ref (ad 6), .int st]))) (g : dl_Sg) (x1 : Int32) {r0 : Int32} {g0 : dl_Sg} (h : plX0_X3_ask g nr w st x1 = some (r0, g0)) : dl_CtI l D TY cc_nw yX3_ask wsX3_ask { frames := 1, cells := 0, slots := 0, locals := 21 } 0 0 [.ref a, .int x1] (cc_w cI cP cII ad pr g ++ R) (fun r u => r = r0 ∧ u = cc_w cI cP cII ad pr g0 ++ R) := by
  refine dl_metI (ty := .int) [(0, .ref a), (1, .int x1)] (by decide) rfl (Nat.le_of_ble_eq_true rfl) rfl ?_
  intro p e s m args below meth c Q A C hQ
  unfold plX0_X3_ask at h
  refine dl_aload_n (pc := 0) C 0 dX3_ask_0 rfl rfl ?_
  refine dl_get (pc := 1) C hin_X3_ask_X0 (33 + q) (cc_q hq) rfl 2 (by decide) lkp_X3_ask_18_X0 rfl rfl dX3_ask_1 ?_
  refine dl_bipush (pc := 4) C 12 dX3_ask_4 (by decide) ?_
  obtain ⟨g1, h1, h⟩ := dl_bi_some h
  refine dl_vV0 (pc := 6) C (ccl5_ran l D cI cP cII TY hTY ad pr R _ _ h1) (cwV 1 C.2.2.2.2.1 gX3_ask_X5_ran rfl rfl rfl (by decide +kernel) ⟨Nat.le_of_ble_eq_true rfl, Nat.le_of_ble_eq_true rfl⟩) 6 5 cc_a6 rfl rfl rfl (Nat.le_of_ble_eq_true rfl) dX3_ask_6 ⟨Nat.zero_le _, Nat.zero_le _⟩ (fun u hp => ?_)
  subst hp
  refine dl_iload_n (pc := 9) C 1 dX3_ask_9 rfl rfl ?_
  refine dl_aload_n (pc := 10) C 0 dX3_ask_10 rfl rfl ?_
  refine dl_get (pc := 11) C hin_X3_ask_X0 (33 + q) (cc_q hq) rfl 0 (by decide) lkp_X3_ask_9_X0 rfl rfl dX3_ask_11 ?_
  refine dl_isub (pc := 14) C dX3_ask_14 ?_
  exact hQ 15 _ _ _ ⟨(dl_r2 h).1, by rw [(dl_r2 h).2]⟩ (vp_nar_int _) dX3_ask_15
set_option maxHeartbeats 4000000 in
set_option maxRecDepth 100000 in
theorem cplX0_X3_tell (l : Launch) (D : va_G) (cI cP cII : ClassId) (TY : dl_TY) (hTY : TY[0]? = some (cI, .int)) (ad : Nat → Nat) (pr : Nat → Option Nat) (R : va_W) (q a : Nat) (nr w st : Int32) (hq : R[q]? = some (a, .inr (0, [.int nr, .int w, .ref (ad 6), .int st]))) (g : dl_Sg) (x1 : Int32) {r0 : Int32} {g0 : dl_Sg} (h : plX0_X3_tell g nr w st x1 = some (r0, g0)) : dl_CtI l D TY cc_nw yX3_tell wsX3_tell { frames := 4, cells := 0, slots := 0, locals := 84 } 0 0 [.ref a, .int x1] (cc_w cI cP cII ad pr g ++ R) (fun r u => r = r0 ∧ u = cc_w cI cP cII ad pr g0 ++ R) := by
  refine dl_metI (ty := .int) [(0, .ref a), (1, .int x1)] (by decide) rfl (Nat.le_of_ble_eq_true rfl) rfl ?_
  intro p e s m args below meth c Q A C hQ
  unfold plX0_X3_tell at h
  refine dl_aload_n (pc := 0) C 0 dX3_tell_0 rfl rfl ?_
  refine dl_get (pc := 1) C hin_X3_tell_X0 (33 + q) (cc_q hq) rfl 2 (by decide) lkp_X3_tell_18_X0 rfl rfl dX3_tell_1 ?_
  refine dl_bipush (pc := 4) C 13 dX3_tell_4 (by decide) ?_
  obtain ⟨g1, h1, h⟩ := dl_bi_some h
  refine dl_vV0 (pc := 6) C (ccl5_ran l D cI cP cII TY hTY ad pr R _ _ h1) (cwV 1 C.2.2.2.2.1 gX3_tell_X5_ran rfl rfl rfl (by decide +kernel) ⟨Nat.le_of_ble_eq_true rfl, Nat.le_of_ble_eq_true rfl⟩) 6 5 cc_a6 rfl rfl rfl (Nat.le_of_ble_eq_true rfl) dX3_tell_6 ⟨Nat.zero_le _, Nat.zero_le _⟩ (fun u hp => ?_)
  subst hp
  refine dl_aload_n (pc := 9) C 0 dX3_tell_9 rfl rfl ?_
  refine dl_iload_n (pc := 10) C 1 dX3_tell_10 rfl rfl ?_
  obtain ⟨r2, g3, h1, h⟩ := dl_b2_some h
  refine dl_vIU0 (pc := 11) C (cplX0_X0_cost l D cI cP cII TY hTY ad pr R q a nr w st hq _ _ h1) (va_cwO 1 C.2.2.2.2.1 gX3_tell_X0_cost_u35X0 rfl rfl rfl (b0 := cX3_cost) (m0 := 2) (r0 := some .int) (by decide +kernel) (by decide +kernel) ⟨Nat.le_of_ble_eq_true rfl, Nat.le_of_ble_eq_true rfl⟩) (33 + q) 0 (cc_q hq) rfl rfl rfl (Nat.le_of_ble_eq_true rfl) dX3_tell_11 ⟨Nat.zero_le _, Nat.zero_le _⟩ (fun r u hp => ?_)
  obtain ⟨rfl, rfl⟩ := hp
  refine dl_aload_n (pc := 14) C 0 dX3_tell_14 rfl rfl ?_
  refine dl_iload_n (pc := 15) C 1 dX3_tell_15 rfl rfl ?_
  obtain ⟨r4, g5, h1, h⟩ := dl_b2_some h
  refine dl_vIU0 (pc := 16) C (cplX0_X3_ask l D cI cP cII TY hTY ad pr R q a nr w st hq _ _ h1) (va_cwU 1 C.2.2.2.2.1 gX3_tell_X3_ask_u38X0 rfl rfl rfl rfl (by decide +kernel) ⟨Nat.le_of_ble_eq_true rfl, Nat.le_of_ble_eq_true rfl⟩) (33 + q) 0 (cc_q hq) rfl rfl rfl (Nat.le_of_ble_eq_true rfl) dX3_tell_16 ⟨Nat.zero_le _, Nat.zero_le _⟩ (fun r u hp => ?_)
  obtain ⟨rfl, rfl⟩ := hp
  refine dl_ixor (pc := 19) C dX3_tell_19 ?_
  exact hQ 20 _ _ _ ⟨(dl_r2 h).1, by rw [(dl_r2 h).2]⟩ (vp_nar_int _) dX3_tell_20
set_option maxHeartbeats 4000000 in
set_option maxRecDepth 100000 in
theorem cplX0_X0_tell (l : Launch) (D : va_G) (cI cP cII : ClassId) (TY : dl_TY) (hTY : TY[0]? = some (cI, .int)) (ad : Nat → Nat) (pr : Nat → Option Nat) (R : va_W) (q a : Nat) (nr w st : Int32) (hq : R[q]? = some (a, .inr (0, [.int nr, .int w, .ref (ad 6), .int st]))) (g : dl_Sg) (x1 : Int32) {r0 : Int32} {g0 : dl_Sg} (h : plX0_X0_tell g nr w st x1 = some (r0, g0)) : dl_CtI l D TY cc_nw yX0_tell wsX0_tell { frames := 5, cells := 0, slots := 0, locals := 105 } 0 0 [.ref a, .int x1] (cc_w cI cP cII ad pr g ++ R) (fun r u => r = r0 ∧ u = cc_w cI cP cII ad pr g0 ++ R) := by
  refine dl_metI (ty := .int) [(0, .ref a), (1, .int x1)] (by decide) rfl (Nat.le_of_ble_eq_true rfl) rfl ?_
  intro p e s m args below meth c Q A C hQ
  unfold plX0_X0_tell at h
  refine dl_aload_n (pc := 0) C 0 dX0_tell_0 rfl rfl ?_
  refine dl_getS (pc := 1) C hin_X0_tell_X0 (33 + q) (cc_q hq) rfl 2 (by decide) lkp_X0_tell_9_X0 (by decide +kernel) rfl dX0_tell_1 ?_
  refine dl_bipush (pc := 4) C 51 dX0_tell_4 (by decide) ?_
  obtain ⟨g1, h1, h⟩ := dl_bi_some h
  refine dl_vV0 (pc := 6) C (ccl5_ran l D cI cP cII TY hTY ad pr R _ _ h1) (cwV 1 C.2.2.2.2.1 gX0_tell_X5_ran rfl rfl rfl (by decide +kernel) ⟨Nat.le_of_ble_eq_true rfl, Nat.le_of_ble_eq_true rfl⟩) 6 5 cc_a6 rfl rfl rfl (Nat.le_of_ble_eq_true rfl) dX0_tell_6 ⟨Nat.zero_le _, Nat.zero_le _⟩ (fun u hp => ?_)
  subst hp
  refine dl_aload_n (pc := 9) C 0 dX0_tell_9 rfl rfl ?_
  refine dl_iload_n (pc := 10) C 1 dX0_tell_10 rfl rfl ?_
  obtain ⟨r2, g3, h1, h⟩ := dl_b2_some h
  refine dl_vIU0 (pc := 11) C (cplX0_X3_ask l D cI cP cII TY hTY ad pr R q a nr w st hq _ _ h1) (va_cwU 1 C.2.2.2.2.1 gX0_tell_X3_ask_u29X0 rfl rfl rfl rfl (by decide +kernel) ⟨Nat.le_of_ble_eq_true rfl, Nat.le_of_ble_eq_true rfl⟩) (33 + q) 0 (cc_q hq) rfl rfl rfl (Nat.le_of_ble_eq_true rfl) dX0_tell_11 ⟨Nat.zero_le _, Nat.zero_le _⟩ (fun r u hp => ?_)
  obtain ⟨rfl, rfl⟩ := hp
  refine dl_aload_n (pc := 14) C 0 dX0_tell_14 rfl rfl ?_
  refine dl_iload_n (pc := 15) C 1 dX0_tell_15 rfl rfl ?_
  obtain ⟨r4, g5, h1, h⟩ := dl_b2_some h
  refine dl_vIS0 (pc := 16) C (cplX0_X3_tell l D cI cP cII TY hTY ad pr R q a nr w st hq _ _ h1) (va_cwSU 1 C.2.2.2.2.1 gX0_tell_X3_tell_s32 rfl rfl rfl (by decide +kernel) ⟨Nat.le_of_ble_eq_true rfl, Nat.le_of_ble_eq_true rfl⟩) (33 + q) 0 (cc_q hq) rfl rfl rfl (Nat.le_of_ble_eq_true rfl) dX0_tell_16 ⟨Nat.zero_le _, Nat.zero_le _⟩ (fun r u hp => ?_)
  obtain ⟨rfl, rfl⟩ := hp
  refine dl_iadd (pc := 19) C dX0_tell_19 ?_
  exact hQ 20 _ _ _ ⟨(dl_r2 h).1, by rw [(dl_r2 h).2]⟩ (vp_nar_int _) dX0_tell_20
set_option maxHeartbeats 4000000 in
set_option maxRecDepth 100000 in
theorem cplX0_X0_kind (l : Launch) (D : va_G) (cI cP cII : ClassId) (TY : dl_TY) (hTY : TY[0]? = some (cI, .int)) (ad : Nat → Nat) (pr : Nat → Option Nat) (R : va_W) (q a : Nat) (nr w st : Int32) (hq : R[q]? = some (a, .inr (0, [.int nr, .int w, .ref (ad 6), .int st]))) (g : dl_Sg) {r0 : Int32} (h : plX0_X0_kind = some r0) : dl_CtI l D TY cc_nw yX0_kind wsX0_kind { frames := 0, cells := 0, slots := 0, locals := 0 } 0 0 [.ref a] (cc_w cI cP cII ad pr g ++ R) (fun r u => r = r0 ∧ u = cc_w cI cP cII ad pr g ++ R) := by
  refine dl_metI (ty := .int) [(0, .ref a)] (by decide) rfl (Nat.le_of_ble_eq_true rfl) rfl ?_
  intro p e s m args below meth c Q A C hQ
  unfold plX0_X0_kind at h
  refine dl_iconst (pc := 0) C 4 dX0_kind_0 (by decide) ?_
  exact hQ 1 _ _ _ ⟨Option.some.inj h, rfl⟩ (vp_nar_int _) dX0_kind_1
