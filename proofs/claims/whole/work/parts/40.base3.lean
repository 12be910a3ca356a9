/-! Rules for methods of classes with natives (by their own rows), references, new rows -/
theorem dl_ofWF {l : Launch} {y : MethodName} {ws ws' : List Cond} {rm : Room} {Pc : Array Value → State → Prop} {Qc : Array Value → State → Outcome → State → Prop} {mc ms : Nat} {free : Addr → Prop} {cc : ByteArray} {maxL : Nat} {ret : Option FieldType}
    (hy : plainFor y = true) (hw : ws = Cond.code y cc maxL ret :: ws')
    (body : ∀ p e s m args below meth c s₁, BodyLoose p l y (headSpec ws rm) cc maxL ret e s m args below meth c s₁ → c.maxLocals = maxL → Pc args s →
      W p l e (headSpec ws rm).room s m args below meth c s.heap [] 0 0 (MQ below Qc args s mc ms free) (entryFrame m args maxL)) : Met l y ws rm Pc Qc mc ms free := by
  refine MetFree.of_bodySF (code := cc) (maxLocals := maxL) (ret := ret) hy ?_ ?_
  · intro args s m h hn
    obtain ⟨meth, c, h1, h2, h3, h4, h5, h6, -, -⟩ := Cond.code_spec hn (atoms_spec (ws := ws) h _ (by rw [hw]; exact List.mem_cons_self))
    exact ⟨meth, c, h1, h2, h3, h4, h5, h6⟩
  · intro p e s m args below meth c s₁ B hml hP _
    have hh0 : s₁.heap = s.heap := by rw [B.state]; rfl
    obtain ⟨t, a1, o, b1, b2, b3⟩ := body p e s m args below meth c s₁ B hml hP s₁ hh0 (Stand.of_body B)
    exact ⟨t, o, a1, b1, b2, ⟨b3.1, b3.2⟩⟩
theorem dl_metIF {l : Launch} {D : va_G} {TY : dl_TY} {nw : List Cond} {y : MethodName} {wl wl' : List Cond} {rm : Room} {mc ms : Nat} {avs : List Value} {ws : va_W} {cc : ByteArray} {nL : Nat} {post : Int32 → va_W → Prop} {ty : FieldType} (lv : List (Nat × Value)) (hy : plainFor y = true) (hw : wl = Cond.code y cc nL (some ty) :: wl') (hsl : (lg_sl avs).length ≤ nL) (hlv : lv_args 0 avs = lv)
    (body : ∀ (p : Program) (e : Env) (s : State) (m : MethodId) (args : Array Value) (below : List Frame) (meth : Method) (c : Code) (Q : State → Prop) (A : Nat → Prop), dl_Cx p s m args c A D TY nw cc nL y.cls wl → dl_RtI p l e (headSpec wl rm).room s m args below meth c Q A D cc nL mc ms ty post → dl_At p l e (headSpec wl rm).room s m args below meth c Q A D nL 0 0 0 lv [] ws) : dl_CtI l D TY nw y wl rm mc ms avs ws post := by
  intro sz
  refine dl_ofWF (cc := cc) (maxL := nL) (ret := some ty) hy hw ?_
  intro p e s m args below meth c s₁ B hml hv
  obtain ⟨rfl, hsz, hP, hK, hN, hD0⟩ := hv
  have hx := B.exec
  have hb := B.bytes
  have hr := B.returns
  have hts := atoms_spec (ws := wl) B.pre
  have hown : s.vm.findClass y.cls = some m.cls := findClass_of_methodNamed B.named
  have hlocks := B.notSynchronized
  subst hsz
  have hD := hD0.self (sz := s.heap.size)
  have hA : ∀ q : Nat, s.heap.size ≤ q → va_A ws s.heap.size q := fun q h => Or.inr h
  have hl := lv_entry avs (n := nL) hsl
  rw [lg_entry_eq]
  rw [hlv] at hl
  refine body p e s m _ below meth c _ (va_A ws s.heap.size) ⟨hx, hb, hml, hown, hts, hK, hA, hN⟩ ?_ s.heap [] _ hP hD va_S.rf hl
  intro pc lv2 r u hp hn hd H locs ls hP1 hD1 hS hl1
  exact W.zret (ty := ty) hx hb hr hn (fun t ht hW => ⟨⟨r, u, rfl, hp, by rw [ht]; exact hP1, hD1⟩, hS.F ht⟩) hS.2.2 hd
section
variable {p : Program} {l : Launch} {e : Env} {R : Room} {s : State} {m : MethodId} {args : Array Value} {below : List Frame} {meth : Method} {c : Code} {Q : State → Prop} {A : Nat → Prop} {D : va_G} {TY : dl_TY} {nw : List Cond} {cc : ByteArray} {nL cells slots pc : Nat} {lv lv' : List (Nat × Value)} {st : List Value} {ws : va_W} {own : String} {Ts : List Cond}
theorem dl_astore_n (C : dl_Cx p s m args c A D TY nw cc nL own Ts) {k0 : Fin 4} {i x : Nat} (lv2 : List (Nat × Value)) (hd : decode cc pc = .ok (.astore_n k0, 1)) (hi : (k0 : Nat) = i) (hn : i < nL) (hl2 : (i, Value.ref x) :: lv.filter (fun q => !(q.1 == i) && !(q.1 + 1 == i && q.2.category == 2)) = lv2) (k : dl_At p l e R s m args below meth c Q A D nL cells slots (pc + 1) lv2 st ws) : dl_At p l e R s m args below meth c Q A D nL cells slots pc lv (.ref x :: st) ws :=
  fun H locs ls hP hD hS hl => lv_astore_n C.1 C.2.1 hd hi hl hn hl2 (fun ls' hl' => k H locs ls' hP hD hS hl')
theorem dl_astore (C : dl_Cx p s m args c A D TY nw cc nL own Ts) {i x : Nat} (lv2 : List (Nat × Value)) (hd : decode cc pc = .ok (.astore i, 2)) (hn : i < nL) (hl2 : (i, Value.ref x) :: lv.filter (fun q => !(q.1 == i) && !(q.1 + 1 == i && q.2.category == 2)) = lv2) (k : dl_At p l e R s m args below meth c Q A D nL cells slots (pc + 2) lv2 st ws) : dl_At p l e R s m args below meth c Q A D nL cells slots pc lv (.ref x :: st) ws :=
  fun H locs ls hP hD hS hl => lv_astore C.1 C.2.1 hd hl hn hl2 (fun ls' hl' => k H locs ls' hP hD hS hl')
theorem dl_astore_nN (C : dl_Cx p s m args c A D TY nw cc nL own Ts) {k0 : Fin 4} {i : Nat} (lv2 : List (Nat × Value)) (hd : decode cc pc = .ok (.astore_n k0, 1)) (hi : (k0 : Nat) = i) (hn : i < nL) (hl2 : (i, Value.null) :: lv.filter (fun q => !(q.1 == i) && !(q.1 + 1 == i && q.2.category == 2)) = lv2) (k : dl_At p l e R s m args below meth c Q A D nL cells slots (pc + 1) lv2 st ws) : dl_At p l e R s m args below meth c Q A D nL cells slots pc lv (.null :: st) ws :=
  fun H locs ls hP hD hS hl => lv_astore_nN C.1 C.2.1 hd hi hl hn hl2 (fun ls' hl' => k H locs ls' hP hD hS hl')
theorem dl_null (C : dl_Cx p s m args c A D TY nw cc nL own Ts) (hd : decode cc pc = .ok (.aconst_null, 1)) (k : dl_At p l e R s m args below meth c Q A D nL cells slots (pc + 1) lv (.null :: st) ws) : dl_At p l e R s m args below meth c Q A D nL cells slots pc lv st ws :=
  fun H locs ls hP hD hS hl => lv_null C.1 C.2.1 hd (k H locs ls hP hD hS hl)
/-- a reference out of a row of rows of ints -/
theorem dl_aaldA (C : dl_Cx p s m args c A D TY nw cc nL own Ts) {a n : Nat} {cA : ClassId} {t : FieldType} {f : Nat → Option Nat} {i : Int32} {v : Nat} (q0 t0 : Nat) (ha : ws[q0]? = some (a, .inl (cA, n, .inr (.inr (.inr (.inr f)))))) (ht : TY[t0]? = some (cA, .array t)) (hin : dl_in i n = true) (hv : f i.toNatClampNeg = some v) (hd : decode cc pc = .ok (.aaload, 1)) (k : dl_At p l e R s m args below meth c Q A D nL cells slots (pc + 1) lv (.ref v :: st) ws) : dl_At p l e R s m args below meth c Q A D nL cells slots pc lv (.int i :: .ref a :: st) ws := by
  intro H locs ls hP hD hS hl
  have hin' : vp_in i n := dl_in_t hin
  have hlt : i.toNatClampNeg < n := Nat.not_le.mp fun q => hin' (Or.inr q)
  refine W.aald (v := .ref v) (ty := .array t) C.1 C.2.1 (hP q0 _ ha) ((C.2.2.2.2.2.1.2 t0 _ ht).1 n (fun j => va_rf (f j))) rfl (fun q => by cases q) (by show ¬ (i < 0 ∨ (arrV _ _ _).slots.size ≤ _); rw [arrV_size]; exact hin') (by show (arrV _ _ _).slots[_]? = _; rw [arrV_read _ _ hlt, hv]; rfl) rfl rfl hd (k H locs ls hP hD hS hl)
/-- a new row of ints: its class is the one that stands first among the row classes -/
theorem dl_newa (C : dl_Cx p s m args c A D TY nw cc nL own Ts) {cI : ClassId} (hTY : TY[0]? = some (cI, .int)) (harr : Cond.arrayClass .int ∈ Ts) {n : Int32} {N' : Nat} (hn : ¬ n < 0) (hN : n.toNatClampNeg = N') (hby : N' * 4 ≤ 536870912) (hf : cells + 1 ≤ R.cells ∧ slots + N' ≤ R.slots) (hd : decode cc pc = .ok (.newarray .int, 2))
    (k : ∀ q : Nat, dl_At p l e R s m args below meth c Q A D nL (cells + 1) (slots + N') (pc + 2) lv (.ref q :: st) (ws ++ [(q, .inl (cI, N', .inl (fun _ => 0)))])) : dl_At p l e R s m args below meth c Q A D nL cells slots pc lv (.int n :: st) ws := by
  intro H locs ls hP hD hS hl
  refine va_newa (ty := .int) (a0 := (N', .inl (fun _ => 0))) C.1 C.2.1 (atype := .int) (C.2.2.2.2.1 _ harr) rfl C.2.2.2.2.2.1 hP hD hS C.2.2.2.2.2.2.1 (fun cA => rfl) hn hN hby hf.1 hf.2 hd (fun q cA H1 hK1 hP1 hD1 hS1 => ?_)
  have e1 : s.vm.findClass ("[" ++ FieldType.int.toString) = some cA := (hK1.2 TY.length (cA, .int) (by rw [List.getElem?_append_right (Nat.le_refl _), Nat.sub_self]; rfl)).2
  have e2 : s.vm.findClass ("[" ++ FieldType.int.toString) = some cI := (C.2.2.2.2.2.1.2 0 _ hTY).2
  have e3 : cA = cI := Option.some.inj (e1.symm.trans e2)
  subst e3
  exact k q H1 locs ls hP1 hD1 hS1 hl
/-- a new object: its fields stand as they begin -/
theorem dl_new (C : dl_Cx p s m args c A D TY nw cc nL own Ts) {Cn : String} {T : u_T} {N ci index : Nat} (fs : List Value) (hin : ∀ w ∈ u_ws Cn T N, w ∈ Ts) (ty : Nat → FieldType) (hty : ∀ k, k < N → parseFieldDescriptor (T k).2.2.1 = some (ty k)) (hcl : Cond.classLink own index Cn ∈ Ts) (hinst : Cond.instantiable Cn N ∈ Ts) (hini : Cond.initialized Cn ∈ Ts) (hc : vwCl[ci]? = some (Cn, T, N)) (hfs : ∀ j, j < N → defaultValue (ty j) = vp_V fs j) (hf : cells + 1 ≤ R.cells ∧ slots + N ≤ R.slots) (hd : decode cc pc = .ok (.new index, 3))
    (k : ∀ q : Nat, dl_At p l e R s m args below meth c Q A D nL (cells + 1) (slots + N) (pc + 3) lv (.ref q :: st) (ws ++ [(q, .inr (ci, fs))])) : dl_At p l e R s m args below meth c Q A D nL cells slots pc lv st ws := by
  intro H locs ls hP hD hS hl
  exact va_new (fs := fs) C.1 C.2.1 C.2.2.2.2.1 hin ty hty C.2.2.2.1 (C.2.2.2.2.1 _ hcl) (C.2.2.2.2.1 _ hinst) (C.2.2.2.2.1 _ hini) C.2.2.2.2.2.1 hP hD hS C.2.2.2.2.2.2.1 hc hfs hf.1 hf.2 hd (fun q H1 hP1 hD1 hS1 => k q H1 locs ls hP1 hD1 hS1 hl)
/-- Object's constructor -/
theorem dl_objInit (C : dl_Cx p s m args c A D TY nw cc nL own Ts) {a index : Nat} (h1 : Cond.methodLink own index objectInit ∈ Ts) (h2 : Cond.instanceMethod objectInit ∈ Ts) (h3 : Cond.code objectInit ⟨#[0xb1]⟩ 1 none ∈ Ts) (hd : decode cc pc = .ok (.invokespecial index, 3)) (hfr : 1 ≤ R.frames) (hlo : (st.map fun v => v.category).sum + 12 ≤ R.locals) (k : dl_At p l e R s m args below meth c Q A D nL cells slots (pc + 3) lv st ws) : dl_At p l e R s m args below meth c Q A D nL cells slots pc lv (.ref a :: st) ws := by
  intro H locs ls hP hD hS hl
  refine W.objInit C.1 C.2.1 C.2.2.2.1 (C.2.2.2.2.1 _ h1) (C.2.2.2.2.1 _ h2) (C.2.2.2.2.1 _ h3) rfl (by rw [C.2.2.1]; exact hl.1) rfl hd hfr (by show 2 * 0 + _ + 12 ≤ _; omega) ?_
  exact W.eq rfl (k H locs ls hP hD hS hl)
/-- the world told anew: the same cells in another order, or fewer -/
theorem dl_ws {ws' : va_W} (hp : ∀ (D : va_G) (H : Heap), va_P D vwCl ws H → va_P D vwCl ws' H) (hd : ∀ A : Nat → Prop, va_D A ws → va_D A ws') (k : dl_At p l e R s m args below meth c Q A D nL cells slots pc lv st ws') : dl_At p l e R s m args below meth c Q A D nL cells slots pc lv st ws :=
  fun H locs ls hP hD hS hl => k H locs ls (hp D H hP) (hd A hD) hS hl
end
/-- cells apart, by their list of addresses -/
theorem dl_D_iff {A : Nat → Prop} {ws : va_W} : va_D A ws ↔ (ws.map Prod.fst).Nodup ∧ ∀ q ∈ ws, A q.1 := by
  unfold List.Nodup
  rw [List.pairwise_iff_getElem]
  constructor
  · intro h
    refine ⟨fun i j hi hj hij heq => ?_, fun q hq => ?_⟩
    · have hi' : i < ws.length := by rwa [List.length_map] at hi
      have hj' : j < ws.length := by rwa [List.length_map] at hj
      have := h.1 i j ws[i] ws[j] (List.getElem?_eq_getElem hi') (List.getElem?_eq_getElem hj') (by simpa using heq)
      omega
    · obtain ⟨k, hk, rfl⟩ := List.getElem_of_mem hq
      exact h.2 k _ (List.getElem?_eq_getElem hk)
  · intro h
    refine ⟨fun i j x y hi hj hxy => ?_, fun k q hk => h.2 q (List.mem_of_getElem? hk)⟩
    obtain ⟨h1, h2⟩ := List.getElem?_eq_some_iff.mp hi
    obtain ⟨h3, h4⟩ := List.getElem?_eq_some_iff.mp hj
    rcases Nat.lt_trichotomy i j with q | q | q
    · exact absurd (by rw [List.getElem_map, List.getElem_map, h2, h4]; exact hxy) (h.1 i j (by rw [List.length_map]; exact h1) (by rw [List.length_map]; exact h3) q)
    · exact q
    · exact absurd (by rw [List.getElem_map, List.getElem_map, h2, h4]; exact hxy.symm) (h.1 j i (by rw [List.length_map]; exact h3) (by rw [List.length_map]; exact h1) q)
theorem dl_P_iff {D : va_G} {H : Heap} {ws : va_W} : va_P D vwCl ws H ↔ ∀ q ∈ ws, va_at D vwCl q H := by
  constructor
  · intro h q hq
    obtain ⟨k, hk, rfl⟩ := List.getElem_of_mem hq
    exact h k _ (List.getElem?_eq_getElem hk)
  · intro h k q hk
    exact h q (List.mem_of_getElem? hk)
theorem dl_P_sub {D : va_G} {H : Heap} {ws ws' : va_W} (h : va_P D vwCl ws H) (hs : ∀ q ∈ ws', q ∈ ws) : va_P D vwCl ws' H := dl_P_iff.mpr fun q hq => dl_P_iff.mp h q (hs q hq)
theorem dl_D_perm {A : Nat → Prop} {ws ws' : va_W} (h : va_D A ws) (hs : ws.Perm ws') : va_D A ws' := by
  rw [dl_D_iff] at h ⊢
  exact ⟨(hs.map Prod.fst).nodup_iff.mp h.1, fun q hq => h.2 q (hs.mem_iff.mpr hq)⟩
theorem dl_D_subl {A : Nat → Prop} {ws ws' : va_W} (h : va_D A ws) (hs : ws'.Sublist ws) : va_D A ws' := by
  rw [dl_D_iff] at h ⊢
  exact ⟨h.1.sublist (hs.map Prod.fst), fun q hq => h.2 q (hs.subset hq)⟩

