/-! Base: worlds kept whole, code judged at a place ('dl_At'), contracts over whole worlds ('dl_CtI', 'dl_CtV'). -/
abbrev dl_Sg : Type := Nat → Nat → Int32
def dl_s2 (g : dl_Sg) (a i : Nat) (v : Int32) : dl_Sg := fun b => if b = a then upd (g a) i v else g b
abbrev dl_rd (g : dl_Sg) (k : Nat) (i : Int32) : Int32 := g k i.toNatClampNeg
abbrev dl_wr (g : dl_Sg) (k : Nat) (i v : Int32) : dl_Sg := dl_s2 g k i.toNatClampNeg v
def dl_in (i : Int32) (n : Nat) : Bool := decide (¬ (i < 0 ∨ n ≤ i.toNatClampNeg))
theorem dl_in_t {i : Int32} {n : Nat} (h : dl_in i n = true) : vp_in i n := of_decide_eq_true (p := ¬ (i < 0 ∨ n ≤ i.toNatClampNeg)) h
def dl_bo (i : Int32) : Bool := decide (i = 0 ∨ i = 1)
theorem dl_bo_n {i : Int32} (h : dl_bo i = true) : narrow .boolean (.int i) = .int i := by
  rcases of_decide_eq_true h with h | h <;> subst h <;> rfl
def dl_gd {α : Type} (b : Bool) (x : Option α) : Option α := match b with
  | true => x
  | false => none
theorem dl_gd_t {α : Type} (x : Option α) : dl_gd true x = x := rfl
theorem dl_gd_some {α : Type} {b : Bool} {x : Option α} {y : α} (h : dl_gd b x = some y) : b = true ∧ x = some y := by
  cases b
  · exact absurd h (by intro q; cases q)
  · exact ⟨rfl, h⟩
def dl_bi {α β : Type} (x : Option α) (f : α → Option β) : Option β := match x with
  | some a => f a
  | none => none
theorem dl_bi_some {α β : Type} {x : Option α} {f : α → Option β} {z : β} (h : dl_bi x f = some z) : ∃ a, x = some a ∧ f a = some z := by
  cases x with
  | none => exact absurd h (by intro q; cases q)
  | some a => exact ⟨a, rfl, h⟩
theorem dl_bi_e {α β : Type} {x : Option α} {a : α} {f : α → Option β} (h : x = some a) : dl_bi x f = f a := by rw [h]; rfl
def dl_b2 {α γ β : Type} (x : Option (α × γ)) (f : α → γ → Option β) : Option β := match x with
  | some (a, b) => f a b
  | none => none
theorem dl_b2_some {α γ β : Type} {x : Option (α × γ)} {f : α → γ → Option β} {z : β} (h : dl_b2 x f = some z) : ∃ a b, x = some (a, b) ∧ f a b = some z := by
  cases x with
  | none => exact absurd h (by intro q; cases q)
  | some a => exact ⟨a.1, a.2, rfl, h⟩
theorem dl_b2_e {α γ β : Type} {x : Option (α × γ)} {a : α} {b : γ} {f : α → γ → Option β} (h : x = some (a, b)) : dl_b2 x f = f a b := by rw [h]; rfl
def dl_nm {α β : Type} (x : α) (f : α → β) : β := f x
/-- which of the places the words of the nest stand in: a word that the tables give and that stays -/
def dl_okw (w : Cond) : Prop := w.onTables = true ∧ ∀ (s U : State), s.WarmedH U.vm → va_Nw w s → va_Nw w U
def dl_neg : List (String × String) := [("DripLines$Place", "DripLines$Tap"), ("DripLines$Place", "DripLines$Wish"), ("DripLines$Place", "DripLines$Well"), ("DripLines$Place", "DripLines$Gate"), ("DripLines$Tap", "DripLines$Wish"), ("DripLines$Tap", "DripLines$Well"), ("DripLines$Tap", "DripLines$Gate"), ("DripLines$Wish", "DripLines$Tap"), ("DripLines$Wish", "DripLines$Well"), ("DripLines$Wish", "DripLines$Gate"), ("DripLines$Well", "DripLines$Wish"), ("DripLines$Well", "DripLines$Gate"), ("DripLines$Gate", "DripLines$Tap"), ("DripLines$Gate", "DripLines$Wish"), ("DripLines$Gate", "DripLines$Well")]
def dl_N (nw : List Cond) (U : State) : Prop := (∀ w ∈ nw, dl_okw w ∧ va_Nw w U) ∧ ∀ q ∈ dl_neg, va_Nc q.1 q.2 U
theorem dl_N.warm {nw : List Cond} {s U : State} (h : dl_N nw s) (hW : s.WarmedH U.vm) : dl_N nw U := ⟨fun w hw => ⟨(h.1 w hw).1, (h.1 w hw).1.2 s U hW (h.1 w hw).2⟩, fun q hq => (h.2 q hq).moved hW.alike⟩
theorem dl_N.same {nw : List Cond} {s U : State} (h : dl_N nw s) (hW : s.vm = U.vm) : dl_N nw U := ⟨fun w hw => ⟨(h.1 w hw).1, va_Nw.same (h.1 w hw).1.1 hW (h.1 w hw).2⟩, fun q hq => (h.2 q hq).moved (by rw [hW]; exact Vm.Alike.refl U.vm)⟩
abbrev dl_TY : Type := List (ClassId × FieldType)
/-- what stays fixed while a method runs -/
def dl_Cx (p : Program) (s : State) (m : MethodId) (args : Array Value) (c : Code) (A : Nat → Prop) (D : va_G) (TY : dl_TY) (nw : List Cond) (cc : ByteArray) (nL : Nat) (own : String) (Ts : List Cond) : Prop :=
  p.tables.exec = Jvm.exec ∧ c.code = cc ∧ c.maxLocals = nL ∧ s.vm.findClass own = some m.cls ∧ (∀ w ∈ Ts, w.before args s = true) ∧ va_K D vwCl TY s ∧ (∀ q : Nat, s.heap.size ≤ q → A q) ∧ dl_N nw s
/-- the machine at a place: whatever the heap that holds the world ws -/
def dl_At (p : Program) (l : Launch) (e : Env) (R : Room) (s : State) (m : MethodId) (args : Array Value) (below : List Frame) (meth : Method) (c : Code) (Q : State → Prop) (A : Nat → Prop) (D : va_G) (nL cells slots pc : Nat) (lv : List (Nat × Value)) (st : List Value) (ws : va_W) : Prop :=
  ∀ (H : Heap) (locs : List Loc) (ls : Array Slot), va_P D vwCl ws H → va_D A ws → va_S A s.heap H locs → lv_has ls nL lv → W p l e R s m args below meth c H locs cells slots Q (F0 m pc ls st)
/-- a contract over whole worlds: what comes behind is told by 'post' of the answer and the new world -/
def dl_Pre (D : va_G) (TY : dl_TY) (nw : List Cond) (avs : List Value) (ws : va_W) (sz : Nat) : Array Value → State → Prop :=
  va_Pc avs (fun U => U.heap.size = sz ∧ va_P D vwCl ws U.heap ∧ va_K D vwCl TY U ∧ dl_N nw U ∧ va_D (fun _ => True) ws)
def dl_B (D : va_G) (ws : va_W) (sz : Nat) (u : va_W) (t : State) : Prop := va_P D vwCl u t.heap ∧ va_D (va_A ws sz) u
def dl_CtI (l : Launch) (D : va_G) (TY : dl_TY) (nw : List Cond) (y : MethodName) (wl : List Cond) (rm : Room) (mc ms : Nat) (avs : List Value) (ws : va_W) (post : Int32 → va_W → Prop) : Prop :=
  ∀ sz : Nat, Met l y wl rm (dl_Pre D TY nw avs ws sz) (va_Qi post (dl_B D ws sz) (va_A ws sz)) mc ms (va_A ws sz)
def dl_CtV (l : Launch) (D : va_G) (TY : dl_TY) (nw : List Cond) (y : MethodName) (wl : List Cond) (rm : Room) (mc ms : Nat) (avs : List Value) (ws : va_W) (post : va_W → Prop) : Prop :=
  ∀ sz : Nat, Met l y wl rm (dl_Pre D TY nw avs ws sz) (va_Qv post (dl_B D ws sz) (va_A ws sz)) mc ms (va_A ws sz)
theorem dl_blind {D : va_G} {TY : dl_TY} {nw : List Cond} {avs : List Value} {ws : va_W} {sz : Nat} : FrameBlind (dl_Pre D TY nw avs ws sz) := fun a U g mk q => by
  obtain ⟨q0, q1, qP, qK, qN, qD⟩ := q
  exact ⟨q0, q1, qP, va_K.moved (u := U) (U := U.calling g mk a) (Vm.Alike.refl U.vm) qK, qN.same rfl, qD⟩
section
variable {p : Program} {l : Launch} {e : Env} {R : Room} {s : State} {m : MethodId} {args : Array Value} {below : List Frame} {meth : Method} {c : Code} {Q : State → Prop} {A : Nat → Prop} {D : va_G} {TY : dl_TY} {nw : List Cond} {cc : ByteArray} {nL cells slots pc : Nat} {lv lv' : List (Nat × Value)} {st : List Value} {ws : va_W} {own : String} {Ts : List Cond}
theorem dl_free {H0 H : Heap} {locs : List Loc} (hD : va_D A ws) (hS : va_S A H0 H locs) (hA : ∀ q : Nat, H0.size ≤ q → A q) : ∀ q, va_A ws H.size q → A q := by
  intro q h
  rcases h with ⟨k, e, h⟩ | h
  · exact hD.2 k _ h
  · exact hA q (Nat.le_trans hS.1 h)
theorem dl_sub (ks : List Nat) (hs : lv_pick lv ks = lv') (k : dl_At p l e R s m args below meth c Q A D nL cells slots pc lv' st ws) : dl_At p l e R s m args below meth c Q A D nL cells slots pc lv st ws :=
  fun H locs ls hP hD hS hl => k H locs ls hP hD hS (lv_sub hl ks hs)
theorem dl_wid {mc ms : Nat} (h1 : cells ≤ mc) (h2 : slots ≤ ms) (k : dl_At p l e R s m args below meth c Q A D nL mc ms pc lv st ws) : dl_At p l e R s m args below meth c Q A D nL cells slots pc lv st ws :=
  fun H locs ls hP hD hS hl => W.widen h1 h2 (k H locs ls hP hD hS hl)
theorem dl_iconst (C : dl_Cx p s m args c A D TY nw cc nL own Ts) {n : Int} (v : Int32) (hd : decode cc pc = .ok (.iconst n, 1)) (hv : Int32.ofInt n = v) (k : dl_At p l e R s m args below meth c Q A D nL cells slots (pc + 1) lv (.int v :: st) ws) : dl_At p l e R s m args below meth c Q A D nL cells slots pc lv st ws :=
  fun H locs ls hP hD hS hl => lv_iconst C.1 C.2.1 hd hv (k H locs ls hP hD hS hl)
theorem dl_bipush (C : dl_Cx p s m args c A D TY nw cc nL own Ts) {n : Int} (v : Int32) (hd : decode cc pc = .ok (.bipush n, 2)) (hv : (Int8.ofInt n).toInt32 = v) (k : dl_At p l e R s m args below meth c Q A D nL cells slots (pc + 2) lv (.int v :: st) ws) : dl_At p l e R s m args below meth c Q A D nL cells slots pc lv st ws :=
  fun H locs ls hP hD hS hl => lv_bipush C.1 C.2.1 hd hv (k H locs ls hP hD hS hl)
theorem dl_sipush (C : dl_Cx p s m args c A D TY nw cc nL own Ts) {n : Int} (v : Int32) (hd : decode cc pc = .ok (.sipush n, 3)) (hv : (Int16.ofInt n).toInt32 = v) (k : dl_At p l e R s m args below meth c Q A D nL cells slots (pc + 3) lv (.int v :: st) ws) : dl_At p l e R s m args below meth c Q A D nL cells slots pc lv st ws :=
  fun H locs ls hP hD hS hl => lv_sipush C.1 C.2.1 hd hv (k H locs ls hP hD hS hl)
theorem dl_ldc (C : dl_Cx p s m args c A D TY nw cc nL own Ts) {index : Nat} (v : Int32) (hw : Jvm.Cond.constant own index v ∈ Ts) (hd : decode cc pc = .ok (.ldc index, 2)) (k : dl_At p l e R s m args below meth c Q A D nL cells slots (pc + 2) lv (.int v :: st) ws) : dl_At p l e R s m args below meth c Q A D nL cells slots pc lv st ws :=
  fun H locs ls hP hD hS hl => lv_ldc C.1 C.2.1 C.2.2.2.1 (C.2.2.2.2.1 _ hw) hd (k H locs ls hP hD hS hl)
theorem dl_ldcw (C : dl_Cx p s m args c A D TY nw cc nL own Ts) {index : Nat} (v : Int32) (hw : Jvm.Cond.constant own index v ∈ Ts) (hd : decode cc pc = .ok (.ldc_w index, 3)) (k : dl_At p l e R s m args below meth c Q A D nL cells slots (pc + 3) lv (.int v :: st) ws) : dl_At p l e R s m args below meth c Q A D nL cells slots pc lv st ws :=
  fun H locs ls hP hD hS hl => lv_ldcw C.1 C.2.1 C.2.2.2.1 (C.2.2.2.2.1 _ hw) hd (k H locs ls hP hD hS hl)
theorem dl_iload_n (C : dl_Cx p s m args c A D TY nw cc nL own Ts) (j : Nat) {k0 : Fin 4} {i : Nat} {x : Int32} (hd : decode cc pc = .ok (.iload_n k0, 1)) (hi : (k0 : Nat) = i) (hj : lv[j]? = some (i, .int x)) (k : dl_At p l e R s m args below meth c Q A D nL cells slots (pc + 1) lv (.int x :: st) ws) : dl_At p l e R s m args below meth c Q A D nL cells slots pc lv st ws :=
  fun H locs ls hP hD hS hl => lv_iload_n C.1 C.2.1 hd hi (lv_at hl j hj) (k H locs ls hP hD hS hl)
theorem dl_iload (C : dl_Cx p s m args c A D TY nw cc nL own Ts) (j : Nat) {i : Nat} {x : Int32} (hd : decode cc pc = .ok (.iload i, 2)) (hj : lv[j]? = some (i, .int x)) (k : dl_At p l e R s m args below meth c Q A D nL cells slots (pc + 2) lv (.int x :: st) ws) : dl_At p l e R s m args below meth c Q A D nL cells slots pc lv st ws :=
  fun H locs ls hP hD hS hl => lv_iload C.1 C.2.1 hd (lv_at hl j hj) (k H locs ls hP hD hS hl)
theorem dl_aload_n (C : dl_Cx p s m args c A D TY nw cc nL own Ts) (j : Nat) {k0 : Fin 4} {i : Nat} {x : Nat} (hd : decode cc pc = .ok (.aload_n k0, 1)) (hi : (k0 : Nat) = i) (hj : lv[j]? = some (i, .ref x)) (k : dl_At p l e R s m args below meth c Q A D nL cells slots (pc + 1) lv (.ref x :: st) ws) : dl_At p l e R s m args below meth c Q A D nL cells slots pc lv st ws :=
  fun H locs ls hP hD hS hl => lv_aload_n C.1 C.2.1 hd hi (lv_at hl j hj) (k H locs ls hP hD hS hl)
theorem dl_aload (C : dl_Cx p s m args c A D TY nw cc nL own Ts) (j : Nat) {i : Nat} {x : Nat} (hd : decode cc pc = .ok (.aload i, 2)) (hj : lv[j]? = some (i, .ref x)) (k : dl_At p l e R s m args below meth c Q A D nL cells slots (pc + 2) lv (.ref x :: st) ws) : dl_At p l e R s m args below meth c Q A D nL cells slots pc lv st ws :=
  fun H locs ls hP hD hS hl => lv_aload C.1 C.2.1 hd (lv_at hl j hj) (k H locs ls hP hD hS hl)
/-- a value is named as it is stored -/
theorem dl_istore_n (C : dl_Cx p s m args c A D TY nw cc nL own Ts) {α : Type} {z : α} {f : Int32 → Option α} {k0 : Fin 4} {i : Nat} {x : Int32} (lv2 : Int32 → List (Nat × Value)) (hd : decode cc pc = .ok (.istore_n k0, 1)) (hi : (k0 : Nat) = i) (hn : i < nL) (hl2 : ∀ y : Int32, (i, Value.int y) :: lv.filter (fun q => !(q.1 == i) && !(q.1 + 1 == i && q.2.category == 2)) = lv2 y) (h : dl_nm x f = some z) (k : ∀ y : Int32, f y = some z → dl_At p l e R s m args below meth c Q A D nL cells slots (pc + 1) (lv2 y) st ws) : dl_At p l e R s m args below meth c Q A D nL cells slots pc lv (.int x :: st) ws :=
  fun H locs ls hP hD hS hl => lv_istore_n C.1 C.2.1 hd hi hl hn (hl2 x) (fun ls' hl' => k x h H locs ls' hP hD hS hl')
theorem dl_istore (C : dl_Cx p s m args c A D TY nw cc nL own Ts) {α : Type} {z : α} {f : Int32 → Option α} {i : Nat} {x : Int32} (lv2 : Int32 → List (Nat × Value)) (hd : decode cc pc = .ok (.istore i, 2)) (hn : i < nL) (hl2 : ∀ y : Int32, (i, Value.int y) :: lv.filter (fun q => !(q.1 == i) && !(q.1 + 1 == i && q.2.category == 2)) = lv2 y) (h : dl_nm x f = some z) (k : ∀ y : Int32, f y = some z → dl_At p l e R s m args below meth c Q A D nL cells slots (pc + 2) (lv2 y) st ws) : dl_At p l e R s m args below meth c Q A D nL cells slots pc lv (.int x :: st) ws :=
  fun H locs ls hP hD hS hl => lv_istore C.1 C.2.1 hd hl hn (hl2 x) (fun ls' hl' => k x h H locs ls' hP hD hS hl')
theorem dl_iinc (C : dl_Cx p s m args c A D TY nw cc nL own Ts) {α : Type} {z : α} {f : Int32 → Option α} (j : Nat) {i : Nat} {n : Int} {x v : Int32} (lv2 : Int32 → List (Nat × Value)) (hd : decode cc pc = .ok (.iinc i n, 3)) (hj : lv[j]? = some (i, .int x)) (hv : x + Int32.ofInt n = v) (hn : i < nL) (hl2 : ∀ y : Int32, (i, Value.int y) :: lv.filter (fun q => !(q.1 == i) && !(q.1 + 1 == i && q.2.category == 2)) = lv2 y) (h : dl_nm v f = some z) (k : ∀ y : Int32, f y = some z → dl_At p l e R s m args below meth c Q A D nL cells slots (pc + 3) (lv2 y) st ws) : dl_At p l e R s m args below meth c Q A D nL cells slots pc lv st ws :=
  fun H locs ls hP hD hS hl => lv_iinc C.1 C.2.1 hd hl hj hv hn (hl2 v) (fun ls' hl' => k v h H locs ls' hP hD hS hl')
theorem dl_iadd (C : dl_Cx p s m args c A D TY nw cc nL own Ts) {x y : Int32} (hd : decode cc pc = .ok (.iadd, 1)) (k : dl_At p l e R s m args below meth c Q A D nL cells slots (pc + 1) lv (.int (x + y) :: st) ws) : dl_At p l e R s m args below meth c Q A D nL cells slots pc lv (.int y :: .int x :: st) ws :=
  fun H locs ls hP hD hS hl => lv_iadd C.1 C.2.1 hd (k H locs ls hP hD hS hl)
theorem dl_isub (C : dl_Cx p s m args c A D TY nw cc nL own Ts) {x y : Int32} (hd : decode cc pc = .ok (.isub, 1)) (k : dl_At p l e R s m args below meth c Q A D nL cells slots (pc + 1) lv (.int (x - y) :: st) ws) : dl_At p l e R s m args below meth c Q A D nL cells slots pc lv (.int y :: .int x :: st) ws :=
  fun H locs ls hP hD hS hl => lv_isub C.1 C.2.1 hd (k H locs ls hP hD hS hl)
theorem dl_imul (C : dl_Cx p s m args c A D TY nw cc nL own Ts) {x y : Int32} (hd : decode cc pc = .ok (.imul, 1)) (k : dl_At p l e R s m args below meth c Q A D nL cells slots (pc + 1) lv (.int (x * y) :: st) ws) : dl_At p l e R s m args below meth c Q A D nL cells slots pc lv (.int y :: .int x :: st) ws :=
  fun H locs ls hP hD hS hl => lv_imul C.1 C.2.1 hd (k H locs ls hP hD hS hl)
theorem dl_iand (C : dl_Cx p s m args c A D TY nw cc nL own Ts) {x y : Int32} (hd : decode cc pc = .ok (.iand, 1)) (k : dl_At p l e R s m args below meth c Q A D nL cells slots (pc + 1) lv (.int (x &&& y) :: st) ws) : dl_At p l e R s m args below meth c Q A D nL cells slots pc lv (.int y :: .int x :: st) ws :=
  fun H locs ls hP hD hS hl => lv_iand C.1 C.2.1 hd (k H locs ls hP hD hS hl)
theorem dl_ior (C : dl_Cx p s m args c A D TY nw cc nL own Ts) {x y : Int32} (hd : decode cc pc = .ok (.ior, 1)) (k : dl_At p l e R s m args below meth c Q A D nL cells slots (pc + 1) lv (.int (x ||| y) :: st) ws) : dl_At p l e R s m args below meth c Q A D nL cells slots pc lv (.int y :: .int x :: st) ws :=
  fun H locs ls hP hD hS hl => lv_ior C.1 C.2.1 hd (k H locs ls hP hD hS hl)
theorem dl_ixor (C : dl_Cx p s m args c A D TY nw cc nL own Ts) {x y : Int32} (hd : decode cc pc = .ok (.ixor, 1)) (k : dl_At p l e R s m args below meth c Q A D nL cells slots (pc + 1) lv (.int (x ^^^ y) :: st) ws) : dl_At p l e R s m args below meth c Q A D nL cells slots pc lv (.int y :: .int x :: st) ws :=
  fun H locs ls hP hD hS hl => lv_ixor C.1 C.2.1 hd (k H locs ls hP hD hS hl)
theorem dl_ishl (C : dl_Cx p s m args c A D TY nw cc nL own Ts) {x y : Int32} (hd : decode cc pc = .ok (.ishl, 1)) (k : dl_At p l e R s m args below meth c Q A D nL cells slots (pc + 1) lv (.int (x <<< (y &&& 31)) :: st) ws) : dl_At p l e R s m args below meth c Q A D nL cells slots pc lv (.int y :: .int x :: st) ws :=
  fun H locs ls hP hD hS hl => lv_ishl C.1 C.2.1 hd (k H locs ls hP hD hS hl)
theorem dl_ishr (C : dl_Cx p s m args c A D TY nw cc nL own Ts) {x y : Int32} (hd : decode cc pc = .ok (.ishr, 1)) (k : dl_At p l e R s m args below meth c Q A D nL cells slots (pc + 1) lv (.int (x >>> (y &&& 31)) :: st) ws) : dl_At p l e R s m args below meth c Q A D nL cells slots pc lv (.int y :: .int x :: st) ws :=
  fun H locs ls hP hD hS hl => lv_ishr C.1 C.2.1 hd (k H locs ls hP hD hS hl)
def dl_ush (x y : Int32) : Int32 := (x.toUInt32 >>> (y.toUInt32 &&& Int32.toUInt32 31)).toInt32
theorem dl_iushr (C : dl_Cx p s m args c A D TY nw cc nL own Ts) {x y : Int32} (hd : decode cc pc = .ok (.iushr, 1)) (k : dl_At p l e R s m args below meth c Q A D nL cells slots (pc + 1) lv (.int (dl_ush x y) :: st) ws) : dl_At p l e R s m args below meth c Q A D nL cells slots pc lv (.int y :: .int x :: st) ws :=
  fun H locs ls hP hD hS hl => lv_iushr C.1 C.2.1 hd rfl (k H locs ls hP hD hS hl)
theorem dl_ineg (C : dl_Cx p s m args c A D TY nw cc nL own Ts) {x : Int32} (hd : decode cc pc = .ok (.ineg, 1)) (k : dl_At p l e R s m args below meth c Q A D nL cells slots (pc + 1) lv (.int (-x) :: st) ws) : dl_At p l e R s m args below meth c Q A D nL cells slots pc lv (.int x :: st) ws :=
  fun H locs ls hP hD hS hl => lv_ineg C.1 C.2.1 hd (k H locs ls hP hD hS hl)
theorem dl_i2b (C : dl_Cx p s m args c A D TY nw cc nL own Ts) {x : Int32} (hd : decode cc pc = .ok (.i2b, 1)) (k : dl_At p l e R s m args below meth c Q A D nL cells slots (pc + 1) lv (.int x.toInt8.toInt32 :: st) ws) : dl_At p l e R s m args below meth c Q A D nL cells slots pc lv (.int x :: st) ws :=
  fun H locs ls hP hD hS hl => lv_i2b C.1 C.2.1 hd rfl (k H locs ls hP hD hS hl)
def dl_ne0 (y : Int32) : Bool := decide (¬ y = 0)
theorem dl_idiv (C : dl_Cx p s m args c A D TY nw cc nL own Ts) {x y : Int32} (hd : decode cc pc = .ok (.idiv, 1)) (hn : dl_ne0 y = true) (k : dl_At p l e R s m args below meth c Q A D nL cells slots (pc + 1) lv (.int (x / y) :: st) ws) : dl_At p l e R s m args below meth c Q A D nL cells slots pc lv (.int y :: .int x :: st) ws :=
  fun H locs ls hP hD hS hl => lv_idiv C.1 C.2.1 hd (of_decide_eq_true hn) (k H locs ls hP hD hS hl)
theorem dl_irem (C : dl_Cx p s m args c A D TY nw cc nL own Ts) {x y : Int32} (hd : decode cc pc = .ok (.irem, 1)) (hn : dl_ne0 y = true) (k : dl_At p l e R s m args below meth c Q A D nL cells slots (pc + 1) lv (.int (x - x / y * y) :: st) ws) : dl_At p l e R s m args below meth c Q A D nL cells slots pc lv (.int y :: .int x :: st) ws :=
  fun H locs ls hP hD hS hl => lv_irem C.1 C.2.1 hd (of_decide_eq_true hn) (k H locs ls hP hD hS hl)
theorem dl_dup (C : dl_Cx p s m args c A D TY nw cc nL own Ts) {va : Value} (hd : decode cc pc = .ok (.dup, 1)) (hv : va.category = 1) (k : dl_At p l e R s m args below meth c Q A D nL cells slots (pc + 1) lv (va :: va :: st) ws) : dl_At p l e R s m args below meth c Q A D nL cells slots pc lv (va :: st) ws :=
  fun H locs ls hP hD hS hl => lv_dup C.1 C.2.1 hd hv (k H locs ls hP hD hS hl)
theorem dl_dup2 (C : dl_Cx p s m args c A D TY nw cc nL own Ts) {va vb : Value} (hd : decode cc pc = .ok (.dup2, 1)) (hv : va.category = 1) (hv2 : vb.category = 1) (k : dl_At p l e R s m args below meth c Q A D nL cells slots (pc + 1) lv (va :: vb :: va :: vb :: st) ws) : dl_At p l e R s m args below meth c Q A D nL cells slots pc lv (va :: vb :: st) ws :=
  fun H locs ls hP hD hS hl => lv_dup2_11 C.1 C.2.1 hd hv hv2 (k H locs ls hP hD hS hl)
theorem dl_goto (C : dl_Cx p s m args c A D TY nw cc nL own Ts) {off : Int} (tgt : Nat) (hd : decode cc pc = .ok (.goto off, 3)) (ht : (pc : Int) + off = (tgt : Int)) (k : dl_At p l e R s m args below meth c Q A D nL cells slots tgt lv st ws) : dl_At p l e R s m args below meth c Q A D nL cells slots pc lv st ws :=
  fun H locs ls hP hD hS hl => lv_goto C.1 C.2.1 hd ht (k H locs ls hP hD hS hl)
theorem dl_icmp_eq (C : dl_Cx p s m args c A D TY nw cc nL own Ts) {x y : Int32} {off : Int} (tgt : Nat) {α : Type} {z : α} {F1 F2 : Option α} (hd : decode cc pc = .ok (.if_icmp .eq off, 3)) (ht : (pc : Int) + off = (tgt : Int)) (h : (if x = y then F1 else F2) = some z) (k1 : x = y → F1 = some z → dl_At p l e R s m args below meth c Q A D nL cells slots tgt lv st ws) (k2 : ¬ x = y → F2 = some z → dl_At p l e R s m args below meth c Q A D nL cells slots (pc + 3) lv st ws) : dl_At p l e R s m args below meth c Q A D nL cells slots pc lv (.int y :: .int x :: st) ws :=
  fun H locs ls hP hD hS hl => lv_icmp_eq C.1 C.2.1 hd ht (fun q => k1 q (by rw [if_pos q] at h; exact h) H locs ls hP hD hS hl) (fun q => k2 q (by rw [if_neg q] at h; exact h) H locs ls hP hD hS hl)
theorem dl_if_eq (C : dl_Cx p s m args c A D TY nw cc nL own Ts) {x : Int32} {off : Int} (tgt : Nat) {α : Type} {z : α} {F1 F2 : Option α} (hd : decode cc pc = .ok (.ifCond .eq off, 3)) (ht : (pc : Int) + off = (tgt : Int)) (h : (if x = 0 then F1 else F2) = some z) (k1 : x = 0 → F1 = some z → dl_At p l e R s m args below meth c Q A D nL cells slots tgt lv st ws) (k2 : ¬ x = 0 → F2 = some z → dl_At p l e R s m args below meth c Q A D nL cells slots (pc + 3) lv st ws) : dl_At p l e R s m args below meth c Q A D nL cells slots pc lv (.int x :: st) ws :=
  fun H locs ls hP hD hS hl => lv_if_eq C.1 C.2.1 hd ht (fun q => k1 q (by rw [if_pos q] at h; exact h) H locs ls hP hD hS hl) (fun q => k2 q (by rw [if_neg q] at h; exact h) H locs ls hP hD hS hl)
theorem dl_icmp_ne (C : dl_Cx p s m args c A D TY nw cc nL own Ts) {x y : Int32} {off : Int} (tgt : Nat) {α : Type} {z : α} {F1 F2 : Option α} (hd : decode cc pc = .ok (.if_icmp .ne off, 3)) (ht : (pc : Int) + off = (tgt : Int)) (h : (if x = y then F1 else F2) = some z) (k1 : x = y → F1 = some z → dl_At p l e R s m args below meth c Q A D nL cells slots (pc + 3) lv st ws) (k2 : ¬ x = y → F2 = some z → dl_At p l e R s m args below meth c Q A D nL cells slots tgt lv st ws) : dl_At p l e R s m args below meth c Q A D nL cells slots pc lv (.int y :: .int x :: st) ws :=
  fun H locs ls hP hD hS hl => lv_icmp_ne C.1 C.2.1 hd ht (fun q => k2 q (by rw [if_neg q] at h; exact h) H locs ls hP hD hS hl) (fun q => k1 q (by rw [if_pos q] at h; exact h) H locs ls hP hD hS hl)
theorem dl_if_ne (C : dl_Cx p s m args c A D TY nw cc nL own Ts) {x : Int32} {off : Int} (tgt : Nat) {α : Type} {z : α} {F1 F2 : Option α} (hd : decode cc pc = .ok (.ifCond .ne off, 3)) (ht : (pc : Int) + off = (tgt : Int)) (h : (if x = 0 then F1 else F2) = some z) (k1 : x = 0 → F1 = some z → dl_At p l e R s m args below meth c Q A D nL cells slots (pc + 3) lv st ws) (k2 : ¬ x = 0 → F2 = some z → dl_At p l e R s m args below meth c Q A D nL cells slots tgt lv st ws) : dl_At p l e R s m args below meth c Q A D nL cells slots pc lv (.int x :: st) ws :=
  fun H locs ls hP hD hS hl => lv_if_ne C.1 C.2.1 hd ht (fun q => k2 q (by rw [if_neg q] at h; exact h) H locs ls hP hD hS hl) (fun q => k1 q (by rw [if_pos q] at h; exact h) H locs ls hP hD hS hl)
theorem dl_icmp_lt (C : dl_Cx p s m args c A D TY nw cc nL own Ts) {x y : Int32} {off : Int} (tgt : Nat) {α : Type} {z : α} {F1 F2 : Option α} (hd : decode cc pc = .ok (.if_icmp .lt off, 3)) (ht : (pc : Int) + off = (tgt : Int)) (h : (if x < y then F1 else F2) = some z) (k1 : x < y → F1 = some z → dl_At p l e R s m args below meth c Q A D nL cells slots tgt lv st ws) (k2 : ¬ x < y → F2 = some z → dl_At p l e R s m args below meth c Q A D nL cells slots (pc + 3) lv st ws) : dl_At p l e R s m args below meth c Q A D nL cells slots pc lv (.int y :: .int x :: st) ws :=
  fun H locs ls hP hD hS hl => lv_icmp_lt C.1 C.2.1 hd ht (fun q => k1 q (by rw [if_pos q] at h; exact h) H locs ls hP hD hS hl) (fun q => k2 q (by rw [if_neg q] at h; exact h) H locs ls hP hD hS hl)
theorem dl_if_lt (C : dl_Cx p s m args c A D TY nw cc nL own Ts) {x : Int32} {off : Int} (tgt : Nat) {α : Type} {z : α} {F1 F2 : Option α} (hd : decode cc pc = .ok (.ifCond .lt off, 3)) (ht : (pc : Int) + off = (tgt : Int)) (h : (if x < 0 then F1 else F2) = some z) (k1 : x < 0 → F1 = some z → dl_At p l e R s m args below meth c Q A D nL cells slots tgt lv st ws) (k2 : ¬ x < 0 → F2 = some z → dl_At p l e R s m args below meth c Q A D nL cells slots (pc + 3) lv st ws) : dl_At p l e R s m args below meth c Q A D nL cells slots pc lv (.int x :: st) ws :=
  fun H locs ls hP hD hS hl => lv_if_lt C.1 C.2.1 hd ht (fun q => k1 q (by rw [if_pos q] at h; exact h) H locs ls hP hD hS hl) (fun q => k2 q (by rw [if_neg q] at h; exact h) H locs ls hP hD hS hl)
theorem dl_icmp_ge (C : dl_Cx p s m args c A D TY nw cc nL own Ts) {x y : Int32} {off : Int} (tgt : Nat) {α : Type} {z : α} {F1 F2 : Option α} (hd : decode cc pc = .ok (.if_icmp .ge off, 3)) (ht : (pc : Int) + off = (tgt : Int)) (h : (if y ≤ x then F1 else F2) = some z) (k1 : y ≤ x → F1 = some z → dl_At p l e R s m args below meth c Q A D nL cells slots tgt lv st ws) (k2 : ¬ y ≤ x → F2 = some z → dl_At p l e R s m args below meth c Q A D nL cells slots (pc + 3) lv st ws) : dl_At p l e R s m args below meth c Q A D nL cells slots pc lv (.int y :: .int x :: st) ws :=
  fun H locs ls hP hD hS hl => lv_icmp_ge C.1 C.2.1 hd ht (fun q => k1 q (by rw [if_pos q] at h; exact h) H locs ls hP hD hS hl) (fun q => k2 q (by rw [if_neg q] at h; exact h) H locs ls hP hD hS hl)
theorem dl_if_ge (C : dl_Cx p s m args c A D TY nw cc nL own Ts) {x : Int32} {off : Int} (tgt : Nat) {α : Type} {z : α} {F1 F2 : Option α} (hd : decode cc pc = .ok (.ifCond .ge off, 3)) (ht : (pc : Int) + off = (tgt : Int)) (h : (if 0 ≤ x then F1 else F2) = some z) (k1 : 0 ≤ x → F1 = some z → dl_At p l e R s m args below meth c Q A D nL cells slots tgt lv st ws) (k2 : ¬ 0 ≤ x → F2 = some z → dl_At p l e R s m args below meth c Q A D nL cells slots (pc + 3) lv st ws) : dl_At p l e R s m args below meth c Q A D nL cells slots pc lv (.int x :: st) ws :=
  fun H locs ls hP hD hS hl => lv_if_ge C.1 C.2.1 hd ht (fun q => k1 q (by rw [if_pos q] at h; exact h) H locs ls hP hD hS hl) (fun q => k2 q (by rw [if_neg q] at h; exact h) H locs ls hP hD hS hl)
theorem dl_icmp_gt (C : dl_Cx p s m args c A D TY nw cc nL own Ts) {x y : Int32} {off : Int} (tgt : Nat) {α : Type} {z : α} {F1 F2 : Option α} (hd : decode cc pc = .ok (.if_icmp .gt off, 3)) (ht : (pc : Int) + off = (tgt : Int)) (h : (if y < x then F1 else F2) = some z) (k1 : y < x → F1 = some z → dl_At p l e R s m args below meth c Q A D nL cells slots tgt lv st ws) (k2 : ¬ y < x → F2 = some z → dl_At p l e R s m args below meth c Q A D nL cells slots (pc + 3) lv st ws) : dl_At p l e R s m args below meth c Q A D nL cells slots pc lv (.int y :: .int x :: st) ws :=
  fun H locs ls hP hD hS hl => lv_icmp_gt C.1 C.2.1 hd ht (fun q => k1 q (by rw [if_pos q] at h; exact h) H locs ls hP hD hS hl) (fun q => k2 q (by rw [if_neg q] at h; exact h) H locs ls hP hD hS hl)
theorem dl_if_gt (C : dl_Cx p s m args c A D TY nw cc nL own Ts) {x : Int32} {off : Int} (tgt : Nat) {α : Type} {z : α} {F1 F2 : Option α} (hd : decode cc pc = .ok (.ifCond .gt off, 3)) (ht : (pc : Int) + off = (tgt : Int)) (h : (if 0 < x then F1 else F2) = some z) (k1 : 0 < x → F1 = some z → dl_At p l e R s m args below meth c Q A D nL cells slots tgt lv st ws) (k2 : ¬ 0 < x → F2 = some z → dl_At p l e R s m args below meth c Q A D nL cells slots (pc + 3) lv st ws) : dl_At p l e R s m args below meth c Q A D nL cells slots pc lv (.int x :: st) ws :=
  fun H locs ls hP hD hS hl => lv_if_gt C.1 C.2.1 hd ht (fun q => k1 q (by rw [if_pos q] at h; exact h) H locs ls hP hD hS hl) (fun q => k2 q (by rw [if_neg q] at h; exact h) H locs ls hP hD hS hl)
theorem dl_icmp_le (C : dl_Cx p s m args c A D TY nw cc nL own Ts) {x y : Int32} {off : Int} (tgt : Nat) {α : Type} {z : α} {F1 F2 : Option α} (hd : decode cc pc = .ok (.if_icmp .le off, 3)) (ht : (pc : Int) + off = (tgt : Int)) (h : (if x ≤ y then F1 else F2) = some z) (k1 : x ≤ y → F1 = some z → dl_At p l e R s m args below meth c Q A D nL cells slots tgt lv st ws) (k2 : ¬ x ≤ y → F2 = some z → dl_At p l e R s m args below meth c Q A D nL cells slots (pc + 3) lv st ws) : dl_At p l e R s m args below meth c Q A D nL cells slots pc lv (.int y :: .int x :: st) ws :=
  fun H locs ls hP hD hS hl => lv_icmp_le C.1 C.2.1 hd ht (fun q => k1 q (by rw [if_pos q] at h; exact h) H locs ls hP hD hS hl) (fun q => k2 q (by rw [if_neg q] at h; exact h) H locs ls hP hD hS hl)
theorem dl_if_le (C : dl_Cx p s m args c A D TY nw cc nL own Ts) {x : Int32} {off : Int} (tgt : Nat) {α : Type} {z : α} {F1 F2 : Option α} (hd : decode cc pc = .ok (.ifCond .le off, 3)) (ht : (pc : Int) + off = (tgt : Int)) (h : (if x ≤ 0 then F1 else F2) = some z) (k1 : x ≤ 0 → F1 = some z → dl_At p l e R s m args below meth c Q A D nL cells slots tgt lv st ws) (k2 : ¬ x ≤ 0 → F2 = some z → dl_At p l e R s m args below meth c Q A D nL cells slots (pc + 3) lv st ws) : dl_At p l e R s m args below meth c Q A D nL cells slots pc lv (.int x :: st) ws :=
  fun H locs ls hP hD hS hl => lv_if_le C.1 C.2.1 hd ht (fun q => k1 q (by rw [if_pos q] at h; exact h) H locs ls hP hD hS hl) (fun q => k2 q (by rw [if_neg q] at h; exact h) H locs ls hP hD hS hl)
theorem dl_get (C : dl_Cx p s m args c A D TY nw cc nL own Ts) {ref Cn : String} {T : u_T} {N ci index a : Nat} {v : Value} {fs : List Value} (hin : ∀ w ∈ u_ws Cn T N, w ∈ Ts) (q0 : Nat) (he : ws[q0]? = some (a, .inr (ci, fs))) (hc : vwCl[ci]? = some (Cn, T, N)) (kf : Nat) (hk : kf < N) (hlink : Cond.fieldLink own index ref (T kf).2.1 (T kf).2.2.1 ∈ Ts) (hsame : ref = (T kf).1) (hv : fs[kf]? = some v) (hd : decode cc pc = .ok (.getfield index, 3)) (k : dl_At p l e R s m args below meth c Q A D nL cells slots (pc + 3) lv (v :: st) ws) : dl_At p l e R s m args below meth c Q A D nL cells slots pc lv (.ref a :: st) ws :=
  fun H locs ls hP hD hS hl => va_get C.1 C.2.1 C.2.2.2.2.1 hin C.2.2.2.1 C.2.2.2.2.2.1 hP q0 he hc kf hk (C.2.2.2.2.1 _ hlink) (by subst hsame; exact fun _ h => h) hv hd (k H locs ls hP hD hS hl)
theorem dl_put (C : dl_Cx p s m args c A D TY nw cc nL own Ts) {ref Cn : String} {T : u_T} {N ci index a : Nat} {v : Value} {ty : FieldType} {fs : List Value} {ws' : va_W} (hin : ∀ w ∈ u_ws Cn T N, w ∈ Ts) (ty0 : Nat → FieldType) (hty : ∀ k, k < N → parseFieldDescriptor (T k).2.2.1 = some (ty0 k)) (hnm : ∀ a, a < N → ∀ b, b < N → a ≠ b → (T a).2.1 ≠ (T b).2.1) (q0 : Nat) (he : ws[q0]? = some (a, .inr (ci, fs))) (hc : vwCl[ci]? = some (Cn, T, N)) (kf : Nat) (hk : kf < N) (hlink : Cond.fieldLink own index ref (T kf).2.1 (T kf).2.2.1 ∈ Ts) (hsame : ref = (T kf).1) (hfin : (T kf).2.2.2 = false) (hdsc : ty0 kf = ty) (hn : narrow ty v = v) (hfit : fits ty v = true) (hl0 : kf < fs.length) (hd : decode cc pc = .ok (.putfield index, 3)) (hw : ws.set q0 (a, .inr (ci, fs.set kf v)) = ws') (k : dl_At p l e R s m args below meth c Q A D nL cells slots (pc + 3) lv st ws') : dl_At p l e R s m args below meth c Q A D nL cells slots pc lv (v :: .ref a :: st) ws :=
  fun H locs ls hP hD hS hl => va_put (ty := ty) C.1 C.2.1 C.2.2.2.2.1 hin ty0 hty hnm C.2.2.2.1 C.2.2.2.2.2.1 hP hD hS q0 he hc kf hk (C.2.2.2.2.1 _ hlink) (by subst hsame; exact fun _ h => h) hfin (by rw [← hdsc]; exact hty kf hk) hn hfit hl0 hd (fun H1 locs1 hP1 hD1 hS1 => k H1 locs1 ls (by rw [← hw]; exact hP1) (by rw [← hw]; exact hD1) hS1 hl)
theorem dl_iald (C : dl_Cx p s m args c A D TY nw cc nL own Ts) {a n : Nat} {cA : ClassId} {f : Nat → Int32} {i : Int32} (q0 t0 : Nat) (ha : ws[q0]? = some (a, .inl (cA, n, .inl f))) (ht : TY[t0]? = some (cA, .int)) (hin : dl_in i n = true) (hd : decode cc pc = .ok (.iaload, 1)) (k : dl_At p l e R s m args below meth c Q A D nL cells slots (pc + 1) lv (.int (f i.toNatClampNeg) :: st) ws) : dl_At p l e R s m args below meth c Q A D nL cells slots pc lv (.int i :: .ref a :: st) ws :=
  fun H locs ls hP hD hS hl => va_iald C.1 C.2.1 C.2.2.2.2.2.1 hP q0 t0 ha ht (dl_in_t hin) hd (k H locs ls hP hD hS hl)
theorem dl_iast (C : dl_Cx p s m args c A D TY nw cc nL own Ts) {a n : Nat} {cA : ClassId} {f : Nat → Int32} {i x : Int32} {ws' : va_W} (q0 t0 : Nat) (ha : ws[q0]? = some (a, .inl (cA, n, .inl f))) (ht : TY[t0]? = some (cA, .int)) (hin : dl_in i n = true) (hd : decode cc pc = .ok (.iastore, 1)) (hw : ws.set q0 (a, .inl (cA, n, .inl (upd f i.toNatClampNeg x))) = ws') (k : dl_At p l e R s m args below meth c Q A D nL cells slots (pc + 1) lv st ws') : dl_At p l e R s m args below meth c Q A D nL cells slots pc lv (.int x :: .int i :: .ref a :: st) ws :=
  fun H locs ls hP hD hS hl => va_iast C.1 C.2.1 C.2.2.2.2.2.1 hP hD hS q0 t0 ha ht (dl_in_t hin) hd (fun H1 locs1 hP1 hD1 hS1 => k H1 locs1 ls (by rw [← hw]; exact hP1) (by rw [← hw]; exact hD1) hS1 hl)
theorem dl_alen (C : dl_Cx p s m args c A D TY nw cc nL own Ts) {a : Nat} {cA : ClassId} {x : vp_A} {ty : FieldType} {v : Int32} (q0 t0 : Nat) (ha : ws[q0]? = some (a, .inl (cA, x))) (ht : TY[t0]? = some (cA, ty)) (hv : Int32.ofNat x.1 = v) (hd : decode cc pc = .ok (.arraylength, 1)) (k : dl_At p l e R s m args below meth c Q A D nL cells slots (pc + 1) lv (.int v :: st) ws) : dl_At p l e R s m args below meth c Q A D nL cells slots pc lv (.ref a :: st) ws :=
  fun H locs ls hP hD hS hl => va_alen C.1 C.2.1 C.2.2.2.2.2.1 hP q0 t0 ha ht hv hd (k H locs ls hP hD hS hl)
section
variable {y : MethodName} {wl : List Cond} {rm : Room} {mc ms n index : Nat} {bytes : ByteArray} {maxL : Nat} {ret : Option FieldType} {b : Nat} {As : List Value} {Cn : String} {st0 : List Value}
theorem dl_pre (C : dl_Cx p s m args c A D TY nw cc nL own Ts) {H : Heap} {avs : List Value} (hP : va_P D vwCl ws H) (hD : va_D A ws) : ∀ U : State, U.heap = H → s.WarmedH U.vm → dl_Pre D TY nw avs ws H.size avs.toArray U :=
  fun U hU hW => ⟨rfl, by rw [hU], by rw [hU]; exact hP, va_K.moved hW.alike C.2.2.2.2.2.1, C.2.2.2.2.2.2.2.warm hW, hD.weaken (fun _ _ _ _ => trivial)⟩
theorem dl_vI (C : dl_Cx p s m args c A D TY nw cc nL own Ts) {post : Int32 → va_W → Prop} (hM : dl_CtI l D TY nw y wl rm mc ms (.ref b :: As) ws post) (cw : CallW R s args own Cn index y bytes maxL ret wl rm mc ms n) (q0 ci : Nat) {fs : List Value} {T : u_T} {N : Nat} (he : ws[q0]? = some (b, .inr (ci, fs))) (hc : vwCl[ci]? = some (Cn, T, N)) (hn : As.length = n) (hst : st0 = As.reverse ++ .ref b :: st) (hroom : (st.map fun v => v.category).sum ≤ 8) (hd : decode cc pc = .ok (.invokevirtual index, 3)) (hf : cells + mc ≤ R.cells ∧ slots + ms ≤ R.slots) (k : ∀ (r : Int32) (u : va_W), post r u → dl_At p l e R s m args below meth c Q A D nL (cells + mc) (slots + ms) (pc + 3) lv (.int r :: st) u) : dl_At p l e R s m args below meth c Q A D nL cells slots pc lv st0 ws := by
  intro H locs ls hP hD hS hl
  have hFc := dl_free hD hS C.2.2.2.2.2.2.1
  subst hst
  refine va_calli (va_runV (As := As) (rest := st) ⟨C.1, C.2.1, C.2.2.1, C.2.2.2.1, C.2.2.2.2.1⟩ (hM H.size) cw ⟨dl_blind, va_recv C.2.2.2.2.2.1 hP hc he, dl_pre C hP hD⟩ rfl hn hl.1 rfl (lv_room hroom) hd hf) hS (fun q _ h => hFc q h) hFc (fun r u t H1 locs1 ht hvm hw hB hz1 hk1 hS1 => ?_)
  obtain ⟨hP1, hD1⟩ := hB
  rw [ht] at hP1
  exact k r u hw H1 locs1 ls hP1 (hD1.weaken (fun _ _ _ h => hFc _ h)) hS1 hl
theorem dl_vV (C : dl_Cx p s m args c A D TY nw cc nL own Ts) {post : va_W → Prop} (hM : dl_CtV l D TY nw y wl rm mc ms (.ref b :: As) ws post) (cw : CallW R s args own Cn index y bytes maxL ret wl rm mc ms n) (q0 ci : Nat) {fs : List Value} {T : u_T} {N : Nat} (he : ws[q0]? = some (b, .inr (ci, fs))) (hc : vwCl[ci]? = some (Cn, T, N)) (hn : As.length = n) (hst : st0 = As.reverse ++ .ref b :: st) (hroom : (st.map fun v => v.category).sum ≤ 8) (hd : decode cc pc = .ok (.invokevirtual index, 3)) (hf : cells + mc ≤ R.cells ∧ slots + ms ≤ R.slots) (k : ∀ (u : va_W), post u → dl_At p l e R s m args below meth c Q A D nL (cells + mc) (slots + ms) (pc + 3) lv st u) : dl_At p l e R s m args below meth c Q A D nL cells slots pc lv st0 ws := by
  intro H locs ls hP hD hS hl
  have hFc := dl_free hD hS C.2.2.2.2.2.2.1
  subst hst
  refine va_callv (va_runV (As := As) (rest := st) ⟨C.1, C.2.1, C.2.2.1, C.2.2.2.1, C.2.2.2.2.1⟩ (hM H.size) cw ⟨dl_blind, va_recv C.2.2.2.2.2.1 hP hc he, dl_pre C hP hD⟩ rfl hn hl.1 rfl (lv_room hroom) hd hf) hS (fun q _ h => hFc q h) hFc (fun u t H1 locs1 ht hvm hw hB hz1 hk1 hS1 => ?_)
  obtain ⟨hP1, hD1⟩ := hB
  rw [ht] at hP1
  exact k u hw H1 locs1 ls hP1 (hD1.weaken (fun _ _ _ h => hFc _ h)) hS1 hl
theorem dl_sI (C : dl_Cx p s m args c A D TY nw cc nL own Ts) {post : Int32 → va_W → Prop} (hM : dl_CtI l D TY nw y wl rm mc ms As ws post) (cw : CallB R s args own index y bytes maxL ret wl rm mc ms n ∧ (Cond.static y).before args s = true) (hn : As.length = n) (hst : st0 = As.reverse ++ st) (hroom : (st.map fun v => v.category).sum ≤ 8) (hd : decode cc pc = .ok (.invokestatic index, 3)) (hf : cells + mc ≤ R.cells ∧ slots + ms ≤ R.slots) (k : ∀ (r : Int32) (u : va_W), post r u → dl_At p l e R s m args below meth c Q A D nL (cells + mc) (slots + ms) (pc + 3) lv (.int r :: st) u) : dl_At p l e R s m args below meth c Q A D nL cells slots pc lv st0 ws := by
  intro H locs ls hP hD hS hl
  have hFc := dl_free hD hS C.2.2.2.2.2.2.1
  subst hst
  refine va_calli (va_runS (As := As) (rest := st) ⟨C.1, C.2.1, C.2.2.1, C.2.2.2.1, C.2.2.2.2.1⟩ (hM H.size) cw ⟨dl_blind, dl_pre C hP hD⟩ rfl hn hl.1 rfl (lv_room hroom) hd hf) hS (fun q _ h => hFc q h) hFc (fun r u t H1 locs1 ht hvm hw hB hz1 hk1 hS1 => ?_)
  obtain ⟨hP1, hD1⟩ := hB
  rw [ht] at hP1
  exact k r u hw H1 locs1 ls hP1 (hD1.weaken (fun _ _ _ h => hFc _ h)) hS1 hl
end
/-- a method's end, by its world's post -/
def dl_RtI (p : Program) (l : Launch) (e : Env) (R : Room) (s : State) (m : MethodId) (args : Array Value) (below : List Frame) (meth : Method) (c : Code) (Q : State → Prop) (A : Nat → Prop) (D : va_G) (cc : ByteArray) (nL mc ms : Nat) (ty : FieldType) (post : Int32 → va_W → Prop) : Prop :=
  ∀ (pc : Nat) (lv : List (Nat × Value)) (r : Int32) (u : va_W), post r u → narrow ty (.int r) = .int r → decode cc pc = .ok (.ireturn, 1) → dl_At p l e R s m args below meth c Q A D nL mc ms pc lv [.int r] u
def dl_RtV (p : Program) (l : Launch) (e : Env) (R : Room) (s : State) (m : MethodId) (args : Array Value) (below : List Frame) (meth : Method) (c : Code) (Q : State → Prop) (A : Nat → Prop) (D : va_G) (cc : ByteArray) (nL mc ms : Nat) (post : va_W → Prop) : Prop :=
  ∀ (pc : Nat) (lv : List (Nat × Value)) (u : va_W), post u → decode cc pc = .ok (.return_, 1) → dl_At p l e R s m args below meth c Q A D nL mc ms pc lv [] u
end
section
variable {l : Launch} {D : va_G} {TY : dl_TY} {nw : List Cond} {y : MethodName} {wl wl' : List Cond} {rm : Room} {mc ms : Nat} {avs : List Value} {ws : va_W} {cc : ByteArray} {nL : Nat}
/-- a contract out of a walk from the first instruction -/
theorem dl_metI {post : Int32 → va_W → Prop} {ty : FieldType} (lv : List (Nat × Value)) (hy : plainName y.cls = true) (hw : wl = Cond.code y cc nL (some ty) :: wl') (hsl : (lg_sl avs).length ≤ nL) (hlv : lv_args 0 avs = lv)
    (body : ∀ (p : Program) (e : Env) (s : State) (m : MethodId) (args : Array Value) (below : List Frame) (meth : Method) (c : Code) (Q : State → Prop) (A : Nat → Prop), dl_Cx p s m args c A D TY nw cc nL y.cls wl → dl_RtI p l e (headSpec wl rm).room s m args below meth c Q A D cc nL mc ms ty post → dl_At p l e (headSpec wl rm).room s m args below meth c Q A D nL 0 0 0 lv [] ws) : dl_CtI l D TY nw y wl rm mc ms avs ws post := by
  intro sz
  refine Met.ofW (cc := cc) (maxL := nL) (ret := some ty) hy hw ?_
  intro p e s m args below meth c s₁ B hml hv
  obtain ⟨rfl, hsz, hP, hK, hN, hD0⟩ := hv
  have hx := B.exec
  have hb := B.bytes
  have hr := B.returns
  have hts := atoms_spec (ws := wl) B.pre
  have hown : s.vm.findClass y.cls = some m.cls := findClass_of_methodNamed B.named
  have hlocks := B.notSynchronized
  subst hsz
  have hD := hD0.self (sz := s.heap.size)
  have hA : ∀ q : Nat, s.heap.size ≤ q → va_A ws s.heap.size q := fun q h => Or.inr h
  have hl := lv_entry avs (n := nL) hsl
  rw [lg_entry_eq]
  rw [hlv] at hl
  refine body p e s m _ below meth c _ (va_A ws s.heap.size) ⟨hx, hb, hml, hown, hts, hK, hA, hN⟩ ?_ s.heap [] _ hP hD va_S.rf hl
  intro pc lv2 r u hp hn hd H locs ls hP1 hD1 hS hl1
  exact W.zret (ty := ty) hx hb hr hn (fun t ht hW => ⟨⟨r, u, rfl, hp, by rw [ht]; exact hP1, hD1⟩, hS.F ht⟩) hS.2.2 hd
theorem dl_metV {post : va_W → Prop} (lv : List (Nat × Value)) (hy : plainName y.cls = true) (hw : wl = Cond.code y cc nL none :: wl') (hsl : (lg_sl avs).length ≤ nL) (hlv : lv_args 0 avs = lv)
    (body : ∀ (p : Program) (e : Env) (s : State) (m : MethodId) (args : Array Value) (below : List Frame) (meth : Method) (c : Code) (Q : State → Prop) (A : Nat → Prop), dl_Cx p s m args c A D TY nw cc nL y.cls wl → dl_RtV p l e (headSpec wl rm).room s m args below meth c Q A D cc nL mc ms post → dl_At p l e (headSpec wl rm).room s m args below meth c Q A D nL 0 0 0 lv [] ws) : dl_CtV l D TY nw y wl rm mc ms avs ws post := by
  intro sz
  refine Met.ofW (cc := cc) (maxL := nL) (ret := none) hy hw ?_
  intro p e s m args below meth c s₁ B hml hv
  obtain ⟨rfl, hsz, hP, hK, hN, hD0⟩ := hv
  have hx := B.exec
  have hb := B.bytes
  have hr := B.returns
  have hts := atoms_spec (ws := wl) B.pre
  have hown : s.vm.findClass y.cls = some m.cls := findClass_of_methodNamed B.named
  have hlocks := B.notSynchronized
  subst hsz
  have hD := hD0.self (sz := s.heap.size)
  have hA : ∀ q : Nat, s.heap.size ≤ q → va_A ws s.heap.size q := fun q h => Or.inr h
  have hl := lv_entry avs (n := nL) hsl
  rw [lg_entry_eq]
  rw [hlv] at hl
  refine body p e s m _ below meth c _ (va_A ws s.heap.size) ⟨hx, hb, hml, hown, hts, hK, hA, hN⟩ ?_ s.heap [] _ hP hD va_S.rf hl
  intro pc lv2 u hp hd H locs ls hP1 hD1 hS hl1
  exact W.vret hx hb hr (fun t ht hW => ⟨⟨u, rfl, hp, by rw [ht]; exact hP1, hD1⟩, hS.F ht⟩) hS.2.2 hd
end
theorem dl_nm_some {α β : Type} {x : α} {f : α → Option β} {z : β} (h : dl_nm x f = some z) : ∃ y, f y = some z ∧ y = x := ⟨x, h, rfl⟩
theorem dl_r2 {α β : Type} {a b : α} {u v : β} (h : some (a, u) = some (b, v)) : a = b ∧ u = v := by
  have h2 := Option.some.inj h
  exact ⟨congrArg Prod.fst h2, congrArg Prod.snd h2⟩
theorem dl_bo_f {i : Int32} (h : dl_bo i = true) : fits .boolean (.int i) = true := by
  rcases of_decide_eq_true h with h | h <;> subst h <;> rfl
section
variable {p : Program} {l : Launch} {e : Env} {R : Room} {s : State} {m : MethodId} {args : Array Value} {below : List Frame} {meth : Method} {c : Code} {Q : State → Prop} {A : Nat → Prop} {D : va_G} {TY : dl_TY} {nw : List Cond} {cc : ByteArray} {nL cells slots pc : Nat} {lv lv' : List (Nat × Value)} {st : List Value} {ws : va_W} {own : String} {Ts : List Cond}
theorem dl_tabIn (C : dl_Cx p s m args c A D TY nw cc nL own Ts) {dflt lo hi : Int} {offs : Array Int} {len : Nat} {x : Int32} (off : Int) (tgt : Nat) (hd : decode cc pc = .ok (.tableswitch dflt lo hi offs, len)) (h1 : ¬ x.toInt < lo) (h2 : ¬ hi < x.toInt) (ho : offs[(x.toInt - lo).toNat]? = some off) (ht : (pc : Int) + off = (tgt : Int)) (k : dl_At p l e R s m args below meth c Q A D nL cells slots tgt lv st ws) : dl_At p l e R s m args below meth c Q A D nL cells slots pc lv (.int x :: st) ws :=
  fun H locs ls hP hD hS hl => lv_tableIn C.1 C.2.1 hd h1 h2 ho ht (k H locs ls hP hD hS hl)
theorem dl_tabOut (C : dl_Cx p s m args c A D TY nw cc nL own Ts) {dflt lo hi : Int} {offs : Array Int} {len : Nat} {x : Int32} (tgt : Nat) (hd : decode cc pc = .ok (.tableswitch dflt lo hi offs, len)) (h : x.toInt < lo ∨ hi < x.toInt) (ht : (pc : Int) + dflt = (tgt : Int)) (k : dl_At p l e R s m args below meth c Q A D nL cells slots tgt lv st ws) : dl_At p l e R s m args below meth c Q A D nL cells slots pc lv (.int x :: st) ws :=
  fun H locs ls hP hD hS hl => lv_tableOut C.1 C.2.1 hd h ht (k H locs ls hP hD hS hl)
variable {y : MethodName} {wl : List Cond} {rm : Room} {mc ms n index : Nat} {bytes : ByteArray} {maxL : Nat} {ret : Option FieldType} {b : Nat} {As : List Value} {Cn : String} {st0 : List Value}
theorem dl_vI0 (C : dl_Cx p s m args c A D TY nw cc nL own Ts) {post : Int32 → va_W → Prop} (hM : dl_CtI l D TY nw y wl rm 0 0 (.ref b :: As) ws post) (cw : CallW R s args own Cn index y bytes maxL ret wl rm 0 0 n) (q0 ci : Nat) {fs : List Value} {T : u_T} {N : Nat} (he : ws[q0]? = some (b, .inr (ci, fs))) (hc : vwCl[ci]? = some (Cn, T, N)) (hn : As.length = n) (hst : st0 = As.reverse ++ .ref b :: st) (hroom : (st.map fun v => v.category).sum ≤ 8) (hd : decode cc pc = .ok (.invokevirtual index, 3)) (hf : cells ≤ R.cells ∧ slots ≤ R.slots) (k : ∀ (r : Int32) (u : va_W), post r u → dl_At p l e R s m args below meth c Q A D nL cells slots (pc + 3) lv (.int r :: st) u) : dl_At p l e R s m args below meth c Q A D nL cells slots pc lv st0 ws :=
  dl_vI C hM cw q0 ci he hc hn hst hroom hd hf k
theorem dl_vV0 (C : dl_Cx p s m args c A D TY nw cc nL own Ts) {post : va_W → Prop} (hM : dl_CtV l D TY nw y wl rm 0 0 (.ref b :: As) ws post) (cw : CallW R s args own Cn index y bytes maxL ret wl rm 0 0 n) (q0 ci : Nat) {fs : List Value} {T : u_T} {N : Nat} (he : ws[q0]? = some (b, .inr (ci, fs))) (hc : vwCl[ci]? = some (Cn, T, N)) (hn : As.length = n) (hst : st0 = As.reverse ++ .ref b :: st) (hroom : (st.map fun v => v.category).sum ≤ 8) (hd : decode cc pc = .ok (.invokevirtual index, 3)) (hf : cells ≤ R.cells ∧ slots ≤ R.slots) (k : ∀ (u : va_W), post u → dl_At p l e R s m args below meth c Q A D nL cells slots (pc + 3) lv st u) : dl_At p l e R s m args below meth c Q A D nL cells slots pc lv st0 ws :=
  dl_vV C hM cw q0 ci he hc hn hst hroom hd hf k
theorem dl_sI0 (C : dl_Cx p s m args c A D TY nw cc nL own Ts) {post : Int32 → va_W → Prop} (hM : dl_CtI l D TY nw y wl rm 0 0 As ws post) (cw : CallB R s args own index y bytes maxL ret wl rm 0 0 n ∧ (Cond.static y).before args s = true) (hn : As.length = n) (hst : st0 = As.reverse ++ st) (hroom : (st.map fun v => v.category).sum ≤ 8) (hd : decode cc pc = .ok (.invokestatic index, 3)) (hf : cells ≤ R.cells ∧ slots ≤ R.slots) (k : ∀ (r : Int32) (u : va_W), post r u → dl_At p l e R s m args below meth c Q A D nL cells slots (pc + 3) lv (.int r :: st) u) : dl_At p l e R s m args below meth c Q A D nL cells slots pc lv st0 ws :=
  dl_sI C hM cw hn hst hroom hd hf k
end
