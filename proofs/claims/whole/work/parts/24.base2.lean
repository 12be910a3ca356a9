/-! Rules for the class: words of the nest, the library's own methods, rows filled and copied -/
section
variable {p : Program} {l : Launch} {e : Env} {R : Room} {s : State} {m : MethodId} {args : Array Value} {below : List Frame} {meth : Method} {c : Code} {Q : State → Prop} {A : Nat → Prop} {D : va_G} {TY : dl_TY} {nw : List Cond} {cc : ByteArray} {nL cells slots pc : Nat} {lv lv' : List (Nat × Value)} {st : List Value} {ws : va_W} {own : String} {Ts : List Cond}
theorem dl_nw (C : dl_Cx p s m args c A D TY nw cc nL own Ts) {w : Cond} (h : w ∈ nw) : w.before args s = true := va_Nw.use (C.2.2.2.2.2.2.2.1 w h).1.1 (C.2.2.2.2.2.2.2.1 w h).2
theorem dl_getN (C : dl_Cx p s m args c A D TY nw cc nL own Ts) {ref Cn host : String} {T : u_T} {N ci index a : Nat} {v : Value} {fs : List Value} (hin : ∀ w ∈ u_ws Cn T N, w ∈ Ts) (q0 : Nat) (he : ws[q0]? = some (a, .inr (ci, fs))) (hc : vwCl[ci]? = some (Cn, T, N)) (kf : Nat) (hk : kf < N) (hlink : Cond.fieldLinkNest own index ref (T kf).2.1 (T kf).2.2.1 host ∈ nw) (hsame : ref = (T kf).1) (hv : fs[kf]? = some v) (hd : decode cc pc = .ok (.getfield index, 3)) (k : dl_At p l e R s m args below meth c Q A D nL cells slots (pc + 3) lv (v :: st) ws) : dl_At p l e R s m args below meth c Q A D nL cells slots pc lv (.ref a :: st) ws :=
  fun H locs ls hP hD hS hl => va_getN C.1 C.2.1 C.2.2.2.2.1 hin C.2.2.2.1 C.2.2.2.2.2.1 hP q0 he hc kf hk (dl_nw C hlink) (by subst hsame; exact fun _ h => h) hv hd (k H locs ls hP hD hS hl)
theorem dl_putN (C : dl_Cx p s m args c A D TY nw cc nL own Ts) {ref Cn host : String} {T : u_T} {N ci index a : Nat} {v : Value} {ty : FieldType} {fs : List Value} {ws' : va_W} (hin : ∀ w ∈ u_ws Cn T N, w ∈ Ts) (ty0 : Nat → FieldType) (hty : ∀ k, k < N → parseFieldDescriptor (T k).2.2.1 = some (ty0 k)) (hnm : ∀ a, a < N → ∀ b, b < N → a ≠ b → (T a).2.1 ≠ (T b).2.1) (q0 : Nat) (he : ws[q0]? = some (a, .inr (ci, fs))) (hc : vwCl[ci]? = some (Cn, T, N)) (kf : Nat) (hk : kf < N) (hlink : Cond.fieldLinkNest own index ref (T kf).2.1 (T kf).2.2.1 host ∈ nw) (hsame : ref = (T kf).1) (hfin : (T kf).2.2.2 = false) (hdsc : ty0 kf = ty) (hn : narrow ty v = v) (hfit : fits ty v = true) (hl0 : kf < fs.length) (hd : decode cc pc = .ok (.putfield index, 3)) (hw : ws.set q0 (a, .inr (ci, fs.set kf v)) = ws') (k : dl_At p l e R s m args below meth c Q A D nL cells slots (pc + 3) lv st ws') : dl_At p l e R s m args below meth c Q A D nL cells slots pc lv (v :: .ref a :: st) ws :=
  fun H locs ls hP hD hS hl => va_putN (ty := ty) C.1 C.2.1 C.2.2.2.2.1 hin ty0 hty hnm C.2.2.2.1 C.2.2.2.2.2.1 hP hD hS q0 he hc kf hk (dl_nw C hlink) (by subst hsame; exact fun _ h => h) hfin (by rw [← hdsc]; exact hty kf hk) hn hfit hl0 hd (fun H1 locs1 hP1 hD1 hS1 => k H1 locs1 ls (by rw [← hw]; exact hP1) (by rw [← hw]; exact hD1) hS1 hl)
theorem dl_mmin (C : dl_Cx p s m args c A D TY nw cc nL own Ts) {index : Nat} {x y : Int32} (h1 : Cond.methodLink own index Lib.Math.min.name ∈ Ts) (h2 : Cond.static Lib.Math.min.name ∈ Ts) (h3 : Cond.initialized "java/lang/Math" ∈ Ts) (h4 : Cond.code Lib.Math.min.name Lib.Math.min.code 2 (some .int) ∈ Ts) (hf : 1 ≤ R.frames) (hlo : (st.map fun v => v.category).sum + 13 ≤ R.locals) (hc : cells ≤ R.cells ∧ slots ≤ R.slots) (hd : decode cc pc = .ok (.invokestatic index, 3)) (k : dl_At p l e R s m args below meth c Q A D nL cells slots (pc + 3) lv (.int (if y < x then y else x) :: st) ws) : dl_At p l e R s m args below meth c Q A D nL cells slots pc lv (.int y :: .int x :: st) ws :=
  fun H locs ls hP hD hS hl => va_mmin C.1 C.2.1 (by rw [C.2.2.1, hl.1]) C.2.2.2.1 (C.2.2.2.2.1 _ h1) (C.2.2.2.2.1 _ h2) (C.2.2.2.2.1 _ h3) (C.2.2.2.2.1 _ h4) hf hlo hc.1 hc.2 hd (k H locs ls hP hD hS hl)
def dl_cok (sp dp n : Int32) (n0 n1 : Nat) : Bool := decide (¬ sp < 0 ∧ ¬ dp < 0 ∧ ¬ n < 0 ∧ sp.toNatClampNeg + n.toNatClampNeg ≤ n0 ∧ dp.toNatClampNeg + n.toNatClampNeg ≤ n1)
theorem dl_copyi (C : dl_Cx p s m args c A D TY nw cc nL own Ts) {index : Nat} {sp dp n : Int32} {ws' : va_W} (q0 q1 t0 : Nat) {a a0 n0 n1 : Nat} {cA : ClassId} {f g : Nat → Int32} (h1 : Cond.methodLink own index arraycopyName ∈ Ts) (h2 : Cond.native arraycopyName ∈ Ts) (h3 : Cond.static arraycopyName ∈ Ts) (h4 : Cond.initialized "java/lang/System" ∈ Ts) (ha0 : ws[q0]? = some (a0, .inl (cA, n0, .inl f))) (ha1 : ws[q1]? = some (a, .inl (cA, n1, .inl g))) (ht : TY[t0]? = some (cA, .int)) (hok : dl_cok sp dp n n0 n1 = true) (hf : 1 ≤ R.frames) (hlo : (st.map fun v => v.category).sum + (nativeFrameWords "java/lang/System" "arraycopy" 5 + 11) ≤ R.locals) (hd : decode cc pc = .ok (.invokestatic index, 3)) (hw : ws.set q1 (a, .inl (cA, n1, .inl (va_cpy f g sp.toNatClampNeg dp.toNatClampNeg n.toNatClampNeg))) = ws') (k : dl_At p l e R s m args below meth c Q A D nL cells slots (pc + 3) lv st ws') : dl_At p l e R s m args below meth c Q A D nL cells slots pc lv (.int n :: .int dp :: .ref a :: .int sp :: .ref a0 :: st) ws := by
  intro H locs ls hP hD hS hl
  obtain ⟨g1, g2, g3, g4, g5⟩ := of_decide_eq_true hok
  exact va_copyi C.1 C.2.1 (by rw [C.2.2.1, hl.1]) C.2.2.2.1 (C.2.2.2.2.1 _ h1) (C.2.2.2.2.1 _ h2) (C.2.2.2.2.1 _ h3) (C.2.2.2.2.1 _ h4) C.2.2.2.2.2.1 hP hD hS q0 q1 t0 t0 ha0 ha1 ht ht rfl g1 g2 g3 g4 g5 (fun _ _ => rfl) hf hlo hd (fun H1 locs1 hP1 hD1 hS1 => k H1 locs1 ls (by rw [← hw]; exact hP1) (by rw [← hw]; exact hD1) hS1 hl)
section
variable {y : MethodName} {wl wl' : List Cond} {rm : Room} {n index : Nat} {bytes : ByteArray} {maxL : Nat} {ret : Option FieldType} {b : Nat} {As : List Value} {Cn host : String} {st0 : List Value}
theorem dl_sV0 (C : dl_Cx p s m args c A D TY nw cc nL own Ts) {post : va_W → Prop} (hM : dl_CtV l D TY nw y wl rm 0 0 As ws post) (cw : CallB R s args own index y bytes maxL ret wl rm 0 0 n ∧ (Cond.static y).before args s = true) (hn : As.length = n) (hst : st0 = As.reverse ++ st) (hroom : (st.map fun v => v.category).sum ≤ 8) (hd : decode cc pc = .ok (.invokestatic index, 3)) (hf : cells ≤ R.cells ∧ slots ≤ R.slots) (k : ∀ (u : va_W), post u → dl_At p l e R s m args below meth c Q A D nL cells slots (pc + 3) lv st u) : dl_At p l e R s m args below meth c Q A D nL cells slots pc lv st0 ws := by
  intro H locs ls hP hD hS hl
  have hFc := dl_free hD hS C.2.2.2.2.2.2.1
  subst hst
  refine va_callv (va_runS (As := As) (rest := st) ⟨C.1, C.2.1, C.2.2.1, C.2.2.2.1, C.2.2.2.2.1⟩ (hM H.size) cw ⟨dl_blind, dl_pre C hP hD⟩ rfl hn hl.1 rfl (lv_room hroom) hd hf) hS (fun q _ h => hFc q h) hFc (fun u t H1 locs1 ht hvm hw hB hz1 hk1 hS1 => ?_)
  obtain ⟨hP1, hD1⟩ := hB
  rw [ht] at hP1
  exact k u hw H1 locs1 ls hP1 (hD1.weaken (fun _ _ _ h => hFc _ h)) hS1 hl
theorem dl_sIN0 (C : dl_Cx p s m args c A D TY nw cc nL own Ts) {post : Int32 → va_W → Prop} (hM : dl_CtI l D TY nw y wl rm 0 0 As ws post) (hG : GoodIn Ts wl) (hwl : wl = Cond.code y bytes maxL ret :: wl') (hrc : rm.cells = 0) (hrs : rm.slots = 0) (hl0 : Cond.methodLinkNest own index y host ∈ nw) (hini : Cond.initialized y.cls ∈ Ts) (hstat : Cond.static y ∈ Ts) (hd0 : y.cls ≠ "java/lang/invoke/MethodHandle" ∧ y.cls ≠ "java/lang/invoke/VarHandle" ∧ (parseMethodDescriptor y.desc).map (fun d => d.parameters.length) = some n) (hR : rm.frames + 1 ≤ R.frames ∧ 8 + (maxL + 11) + rm.locals ≤ R.locals) (hn : As.length = n) (hst : st0 = As.reverse ++ st) (hroom : (st.map fun v => v.category).sum ≤ 8) (hd : decode cc pc = .ok (.invokestatic index, 3)) (hf : cells ≤ R.cells ∧ slots ≤ R.slots) (k : ∀ (r : Int32) (u : va_W), post r u → dl_At p l e R s m args below meth c Q A D nL cells slots (pc + 3) lv (.int r :: st) u) : dl_At p l e R s m args below meth c Q A D nL cells slots pc lv st0 ws := by
  intro H locs ls hP hD hS hl
  have hFc := dl_free hD hS C.2.2.2.2.2.2.1
  subst hst
  refine va_calli (va_runSN (As := As) (rest := st) ⟨C.1, C.2.1, C.2.2.1, C.2.2.2.1, C.2.2.2.2.1⟩ (hM H.size) ⟨va_cnB n C.2.2.2.2.1 hG hwl hrc hrs (C.2.2.2.2.2.2.2.1 _ hl0).2 (C.2.2.2.2.1 _ hini) hd0 hR, C.2.2.2.2.1 _ hstat, trivial⟩ ⟨dl_blind, dl_pre C hP hD⟩ rfl hn hl.1 rfl (lv_room hroom) hd hf) hS (fun q _ h => hFc q h) hFc (fun r u t H1 locs1 ht hvm hw hB hz1 hk1 hS1 => ?_)
  obtain ⟨hP1, hD1⟩ := hB
  rw [ht] at hP1
  exact k r u hw H1 locs1 ls hP1 (hD1.weaken (fun _ _ _ h => hFc _ h)) hS1 hl
end
end
/-- a row of n filled with v -/
def dl_fill (f : Nat → Int32) (n : Nat) (v : Int32) : Nat → Int32 := fun j => if j < n then v else f j
theorem dl_fill_0 (f : Nat → Int32) (v : Int32) : dl_fill f 0 v = f := by funext j; simp [dl_fill]
theorem dl_fill_s (f : Nat → Int32) (i : Nat) (v : Int32) : upd (dl_fill f i v) i v = dl_fill f (i + 1) v := by
  funext j
  unfold upd dl_fill
  by_cases h : j = i
  · subst h; simp
  · by_cases h2 : j < i
    · simp [h, h2, Nat.lt_succ_of_lt h2]
    · simp [h, h2, show ¬ j < i + 1 by omega]
def dl_fi (g : dl_Sg) (k n : Nat) (v : Int32) : dl_Sg := fun b => if b = k then dl_fill (g k) n v else g b
def dl_cp (g : dl_Sg) (k sp dp n : Nat) : dl_Sg := fun b => if b = k then va_cpy (g k) (g k) sp dp n else g b
set_option maxHeartbeats 4000000 in
theorem dl_fill_loop {p : Program} {e : Env} {s : State} {m : MethodId} {args : Array Value} {below : List Frame} {meth : Method} {c : Code} {Q : State → Prop} {A : Nat → Prop} (l : Launch) (D : va_G) (cI : ClassId) (TY : dl_TY) (hTY : TY[0]? = some (cI, .int)) (nw : List Cond) (ws : va_W) (q a n : Nat) (f : Nat → Int32) (hq : ws[q]? = some (a, .inl (cI, n, .inl f))) (hn : n < 2 ^ 31) (v : Int32) (C : dl_Cx p s m args c A D TY nw cJ7_fill_53178 4 yJ7_fill_53178.cls wsJ7_fill_53178) (hQ : dl_RtV p l e (headSpec wsJ7_fill_53178 { frames := 0, cells := 0, slots := 0, locals := 0 }).room s m args below meth c Q A D cJ7_fill_53178 4 0 0 (fun u => u = ws.set q (a, .inl (cI, n, .inl (dl_fill f n v))))) : ∀ (k i : Nat), k + i = n → dl_At p l e (headSpec wsJ7_fill_53178 { frames := 0, cells := 0, slots := 0, locals := 0 }).room s m args below meth c Q A D 4 0 0 5 [(0, .ref a), (1, .int v), (2, .int (nI i)), (3, .int (nI n))] [] (ws.set q (a, .inl (cI, n, .inl (dl_fill f i v)))) := by
  have hqL : q < ws.length := (List.getElem?_eq_some_iff.mp hq).1
  have hat : ∀ g : Nat → Int32, (ws.set q (a, .inl (cI, n, .inl g)))[q]? = some (a, .inl (cI, n, .inl g)) := fun g => by
    rw [List.getElem?_set_self hqL]
  have hss : ∀ g g2 : Nat → Int32, (ws.set q (a, .inl (cI, n, .inl g))).set q (a, .inl (cI, n, .inl g2)) = ws.set q (a, .inl (cI, n, .inl g2)) := fun g g2 => List.set_set _
  intro k
  induction k with
  | zero =>
    intro i hi
    have e : i = n := by omega
    subst e
    refine dl_iload_n (pc := 5) C 2 dJ7_fill_53178_5 rfl rfl ?_
    refine dl_iload_n (pc := 6) C 3 dJ7_fill_53178_6 rfl rfl ?_
    refine dl_icmp_ge (pc := 7) C 20 dJ7_fill_53178_7 (by decide) (F1 := some 0) (F2 := none) (z := 0) (by rw [if_pos (nI_le (Nat.le_refl _) hn)]) (fun _ _ => ?_) (fun _ h => by cases h)
    exact hQ 20 _ _ rfl dJ7_fill_53178_20
  | succ k ih =>
    intro i hi
    have hlt : i < n := by omega
    refine dl_iload_n (pc := 5) C 2 dJ7_fill_53178_5 rfl rfl ?_
    refine dl_iload_n (pc := 6) C 3 dJ7_fill_53178_6 rfl rfl ?_
    refine dl_icmp_ge (pc := 7) C 20 dJ7_fill_53178_7 (by decide) (F1 := none) (F2 := some 0) (z := 0) (by rw [if_neg (nI_ge hlt hn)]) (fun _ h => by cases h) (fun _ _ => ?_)
    refine dl_aload_n (pc := 10) C 0 dJ7_fill_53178_10 rfl rfl ?_
    refine dl_iload_n (pc := 11) C 2 dJ7_fill_53178_11 rfl rfl ?_
    refine dl_iload_n (pc := 12) C 1 dJ7_fill_53178_12 rfl rfl ?_
    refine dl_iast (pc := 13) C q 0 (hat _) hTY (decide_eq_true (p := ¬ (nI i < 0 ∨ n ≤ (nI i).toNatClampNeg)) (nI_in hlt hn)) dJ7_fill_53178_13 (hss _ _) ?_
    rw [nI_clamp (Nat.lt_trans hlt hn), dl_fill_s]
    refine dl_iinc (pc := 14) C 2 (fun v2 => [(2, .int v2), (0, .ref a), (1, .int v), (3, .int (nI n))]) dJ7_fill_53178_14 rfl rfl (by decide) (fun _ => rfl) (show dl_nm (nI i + 1) (fun v2 => if v2 = nI (i + 1) then some 0 else none) = some 0 from if_pos (e := none) (nI_1 i)) (fun v2 h => ?_)
    refine dl_goto (pc := 17) C 5 dJ7_fill_53178_17 (by decide) ?_
    have ev : v2 = nI (i + 1) := by
      by_cases hh : v2 = nI (i + 1)
      · exact hh
      · rw [if_neg hh] at h; cases h
    subst ev
    refine dl_sub [1, 2, 0, 3] rfl ?_
    exact ih (i + 1) (by omega)
set_option maxHeartbeats 4000000 in
/-- Arrays.fill of a row of ints -/
theorem c_fill (l : Launch) (D : va_G) (cI : ClassId) (TY : dl_TY) (hTY : TY[0]? = some (cI, .int)) (nw : List Cond) (ws : va_W) (q a n : Nat) (f : Nat → Int32) (hq : ws[q]? = some (a, .inl (cI, n, .inl f))) (hn : n < 2 ^ 31) (v : Int32) : dl_CtV l D TY nw yJ7_fill_53178 wsJ7_fill_53178 { frames := 0, cells := 0, slots := 0, locals := 0 } 0 0 [.ref a, .int v] ws (fun u => u = ws.set q (a, .inl (cI, n, .inl (dl_fill f n v)))) := by
  refine dl_metV [(0, .ref a), (1, .int v)] (by decide) rfl (Nat.le_of_ble_eq_true rfl) rfl ?_
  intro p e s m args below meth c Q A C hQ
  refine dl_iconst (pc := 0) C 0 dJ7_fill_53178_0 (by decide) ?_
  refine dl_istore_n (pc := 1) C (fun v2 => [(2, .int v2), (0, .ref a), (1, .int v)]) dJ7_fill_53178_1 rfl (by decide) (fun _ => rfl) (show dl_nm (0 : Int32) (fun v2 => if v2 = nI 0 then some 0 else none) = some 0 from if_pos (e := none) nI_0.symm) (fun v2 h => ?_)
  have ev : v2 = nI 0 := by
    by_cases hh : v2 = nI 0
    · exact hh
    · rw [if_neg hh] at h; cases h
  subst ev
  refine dl_aload_n (pc := 2) C 1 dJ7_fill_53178_2 rfl rfl ?_
  refine dl_alen (pc := 3) C (v := nI n) q 0 hq hTY rfl dJ7_fill_53178_3 ?_
  refine dl_istore_n (pc := 4) C (fun v3 => [(3, .int v3), (2, .int (nI 0)), (0, .ref a), (1, .int v)]) dJ7_fill_53178_4 rfl (by decide) (fun _ => rfl) (show dl_nm (nI n) (fun v2 => if v2 = nI n then some 0 else none) = some 0 from if_pos (e := none) rfl) (fun v3 h => ?_)
  have ev : v3 = nI n := by
    by_cases hh : v3 = nI n
    · exact hh
    · rw [if_neg hh] at h; cases h
  subst ev
  refine dl_sub [2, 3, 1, 0] rfl ?_
  have h5 := dl_fill_loop l D cI TY hTY nw ws q a n f hq hn v C hQ n 0 rfl
  rw [dl_fill_0] at h5
  have e2 : ws.set q (a, .inl (cI, n, .inl f)) = ws := by
    obtain ⟨h1, h2⟩ := List.getElem?_eq_some_iff.mp hq
    rw [← h2]
    exact List.set_getElem_self h1
  rw [e2] at h5
  exact h5

