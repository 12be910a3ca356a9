/-! The law's own body: its rules -/
section
variable {p : Program} {l : Launch} {e : Env} {R : Room} {s : State} {m : MethodId} {args : Array Value} {below : List Frame} {meth : Method} {c : Code} {Q : State → Prop} {A : Nat → Prop} {D : va_G} {TY : dl_TY} {nw : List Cond} {cc : ByteArray} {nL cells slots pc : Nat} {lv : List (Nat × Value)} {st : List Value} {ws : va_W} {own : String} {Ts : List Cond}
theorem dl_perm {ws' : va_W} (hs : ws.Perm ws') (k : dl_At p l e R s m args below meth c Q A D nL cells slots pc lv st ws') : dl_At p l e R s m args below meth c Q A D nL cells slots pc lv st ws :=
  fun H locs ls hP hD hS hl => k H locs ls (dl_P_sub hP (fun _ hq => hs.mem_iff.mpr hq)) (dl_D_perm hD hs) hS hl
theorem dl_sld (C : dl_Cx p s m args c A D TY nw cc nL own Ts) {b L : Nat} {xs : Nat → Int32} (hX : va_X b L xs s s.heap) (hbl : b < s.heap.size) (hbA : ¬ A b) {i : Int32} {j : Nat} (hi : i = nI j) (hj : j < L) (hL : L < 2 ^ 31) (hd : decode cc pc = .ok (.iaload, 1)) (k : dl_At p l e R s m args below meth c Q A D nL cells slots (pc + 1) lv (.int (xs j) :: st) ws) : dl_At p l e R s m args below meth c Q A D nL cells slots pc lv (.int i :: .ref b :: st) ws := by
  subst hi
  intro H locs ls hP hD hS hl
  refine va_sld C.1 C.2.1 hX hbl hbA hS (dl_in_t (ma_in_t hj hL)) hd ?_
  rw [nI_clamp (by omega)]
  exact k H locs ls hP hD hS hl
theorem dl_slen (C : dl_Cx p s m args c A D TY nw cc nL own Ts) {b L : Nat} {xs : Nat → Int32} (hX : va_X b L xs s s.heap) (hbl : b < s.heap.size) (hbA : ¬ A b) (hd : decode cc pc = .ok (.arraylength, 1)) (k : dl_At p l e R s m args below meth c Q A D nL cells slots (pc + 1) lv (.int (nI L) :: st) ws) : dl_At p l e R s m args below meth c Q A D nL cells slots pc lv (.ref b :: st) ws :=
  fun H locs ls hP hD hS hl => va_slen C.1 C.2.1 hX hbl hbA hS hd (k H locs ls hP hD hS hl)
theorem dl_eqj (C : dl_Cx p s m args c A D TY nw cc nL own Ts) {x : Int32} {off : Int} (tgt : Nat) (hd : decode cc pc = .ok (.if_icmp .eq off, 3)) (ht : (pc : Int) + off = (tgt : Int)) (k : dl_At p l e R s m args below meth c Q A D nL cells slots tgt lv st ws) : dl_At p l e R s m args below meth c Q A D nL cells slots pc lv (.int x :: .int x :: st) ws :=
  dl_icmp_eq C tgt (z := ()) (F1 := some ()) (F2 := none) hd ht (if_pos rfl) (fun _ _ => k) (fun q _ => absurd rfl q)
theorem lw_arg (C : dl_Cx p s m args c A D TY nw cc nL own Ts) {b L x1 x2 n : Nat} {xs : Nat → Int32} (hX : va_X b L xs s s.heap) (hbl : b < s.heap.size) (hbA : ¬ A b) (hL : L < 2 ^ 31) (j : Nat) (hj : n + j < L) {ij : Int} (hij : Int32.ofInt ij = nI j) (d0 : decode cc pc = .ok (.aload_n 0, 1)) (d1 : decode cc (pc + 1) = .ok (.iload_n 3, 1)) (d2 : decode cc (pc + 2) = .ok (.iconst ij, 1)) (d3 : decode cc (pc + 3) = .ok (.iadd, 1)) (d4 : decode cc (pc + 4) = .ok (.iaload, 1)) (k : dl_At p l e R s m args below meth c Q A D nL cells slots (pc + 5) [(0, .ref b), (1, .ref x1), (2, .ref x2), (3, .int (nI n))] (.int (xs (n + j)) :: st) ws) : dl_At p l e R s m args below meth c Q A D nL cells slots pc [(0, .ref b), (1, .ref x1), (2, .ref x2), (3, .int (nI n))] st ws := by
  refine dl_aload_n C 0 d0 rfl rfl ?_
  refine dl_iload_n C 3 d1 rfl rfl ?_
  refine dl_iconst C (nI j) d2 hij ?_
  refine dl_iadd C d3 ?_
  exact dl_sld C hX hbl hbA (nI_add n j) hj hL d4 k
end
theorem va_up_id {α : Type} (f : Nat → α) (k : Nat) : va_up f k (f k) = f := by
  funext j
  unfold va_up
  by_cases q : j = k
  · rw [if_pos q, q]
  · rw [if_neg q]
theorem iv.ax {al : Nat} {E : ma_E} {c : Nat} {gc gm : dl_Sg} (h : iv al E c gc gm) : al ≤ dl_al gc := h.2.2.2.2.2.2.2.2.2.2.1.2
/-- what stays fixed in the law -/
def lw_X (p : Program) (s : State) (m : MethodId) (c : Code) (A : Nat → Prop) (D : va_G) (TY : dl_TY) (cI cP cII : ClassId) (b L : Nat) (xs : Nat → Int32) : Prop := dl_Cx p s m #[Value.ref b] c A D TY cc_nw cL_law 4 RL wsL_law ∧ va_X b L xs s s.heap ∧ b < s.heap.size ∧ ¬ A b ∧ TY[0]? = some (cI, .int) ∧ TY[1]? = some (cP, .object "DripLines$Place") ∧ TY[2]? = some (cII, .array .int) ∧ L ≤ 2048
/-- what holds between two calls: k calls are done -/
def lw_I (k : Nat) (ac : Nat → Nat) (pr : Nat → Option Nat) (gc gm : dl_Sg) (R : va_W) (cells slots : Nat) : Prop := ∃ E, iv (dl_al gc) E k gc gm ∧ cc_ok ac pr gc R ∧ cells + 64 ≤ 52 + k + dl_al gc ∧ slots + 128 ≤ 198500 + 4 * k + 2 * dl_al gc
def lw_K (p : Program) (l : Launch) (e : Env) (s : State) (m : MethodId) (below : List Frame) (meth : Method) (c : Code) (Q : State → Prop) (A : Nat → Prop) (D : va_G) (cI cP cII : ClassId) (b : Nat) (am : Nat → Nat) (x1 pc k n : Nat) : Prop := ∀ (ac : Nat → Nat) (pr : Nat → Option Nat) (gc gm : dl_Sg) (R : va_W) (cells slots : Nat), ac 0 = x1 → lw_I k ac pr gc gm R cells slots → dl_At p l e room_1 s m #[Value.ref b] below meth c Q A D 4 cells slots pc [(0, .ref b), (1, .ref x1), (2, .ref (am 0)), (3, .int (nI n))] [] (cc_w cI cP cII ac pr gc ++ (mm_w cI am gm ++ R))
/-- the room is read off the Statement: no row of ours has its numbers -/
theorem lw_roC : 550000 ≤ room_1.cells := Nat.le_of_ble_eq_true rfl
theorem lw_roS : 5000000 ≤ room_1.slots := Nat.le_of_ble_eq_true rfl
theorem lw_room {k cells slots : Nat} {g : dl_Sg} (hal : ac_al g) (hce : cells + 64 ≤ 52 + k + dl_al g) (hsl : slots + 128 ≤ 198500 + 4 * k + 2 * dl_al g) (hk : k < 600) : cells + 1 ≤ room_1.cells ∧ slots + 4 ≤ room_1.slots := by
  have := hal.2.2
  have h1 := lw_roC
  have h2 := lw_roS
  omega
theorem lw_rm {k cells slots : Nat} {g : dl_Sg} (hal : ac_al g) (hce : cells + 64 ≤ 52 + k + dl_al g) (hsl : slots + 128 ≤ 198500 + 4 * k + 2 * dl_al g) (hk : k < 600) : cells ≤ room_1.cells ∧ slots ≤ room_1.slots := by
  have := lw_room hal hce hsl hk
  omega
