/-! Rules for objects of several classes: fields above, calls by the receiver's class, super, instanceof, rows of references, constructors -/
section
variable {p : Program} {l : Launch} {e : Env} {R : Room} {s : State} {m : MethodId} {args : Array Value} {below : List Frame} {meth : Method} {c : Code} {Q : State → Prop} {A : Nat → Prop} {D : va_G} {TY : dl_TY} {nw : List Cond} {cc : ByteArray} {nL cells slots pc : Nat} {lv lv' : List (Nat × Value)} {st : List Value} {ws : va_W} {own : String} {Ts : List Cond}
theorem dl_getS (C : dl_Cx p s m args c A D TY nw cc nL own Ts) {ref Cn : String} {T : u_T} {N ci index a : Nat} {v : Value} {fs : List Value} (hin : ∀ w ∈ u_ws Cn T N, w ∈ Ts) (q0 : Nat) (he : ws[q0]? = some (a, .inr (ci, fs))) (hc : vwCl[ci]? = some (Cn, T, N)) (kf : Nat) (hk : kf < N) (hlink : Cond.fieldLink own index ref (T kf).2.1 (T kf).2.2.1 ∈ Ts) (hsame : Cond.sameField ref (T kf).1 (T kf).2.1 (T kf).2.2.1 ∈ Ts) (hv : fs[kf]? = some v) (hd : decode cc pc = .ok (.getfield index, 3)) (k : dl_At p l e R s m args below meth c Q A D nL cells slots (pc + 3) lv (v :: st) ws) : dl_At p l e R s m args below meth c Q A D nL cells slots pc lv (.ref a :: st) ws :=
  fun H locs ls hP hD hS hl => va_get C.1 C.2.1 C.2.2.2.2.1 hin C.2.2.2.1 C.2.2.2.2.2.1 hP q0 he hc kf hk (C.2.2.2.2.1 _ hlink) (fun x9 h9 => u_same (C.2.2.2.2.1 _ hsame) x9 h9) hv hd (k H locs ls hP hD hS hl)
variable {y : MethodName} {wl wl' : List Cond} {rm : Room} {mc ms n index : Nat} {bytes : ByteArray} {maxL : Nat} {ret : Option FieldType} {b : Nat} {As : List Value} {Cn host : String} {st0 : List Value}
theorem dl_vIU0 (C : dl_Cx p s m args c A D TY nw cc nL own Ts) {owner : String} {x : MethodName} {post : Int32 → va_W → Prop} (hM : dl_CtI l D TY nw y wl rm 0 0 (.ref b :: As) ws post) (cw : va_CU R s args own Cn owner index x y bytes maxL ret wl rm 0 0 n) (q0 ci : Nat) {fs : List Value} {T : u_T} {N : Nat} (he : ws[q0]? = some (b, .inr (ci, fs))) (hc : vwCl[ci]? = some (Cn, T, N)) (hn : As.length = n) (hst : st0 = As.reverse ++ .ref b :: st) (hroom : (st.map fun v => v.category).sum ≤ 8) (hd : decode cc pc = .ok (.invokevirtual index, 3)) (hf : cells ≤ R.cells ∧ slots ≤ R.slots) (k : ∀ (r : Int32) (u : va_W), post r u → dl_At p l e R s m args below meth c Q A D nL cells slots (pc + 3) lv (.int r :: st) u) : dl_At p l e R s m args below meth c Q A D nL cells slots pc lv st0 ws := by
  intro H locs ls hP hD hS hl
  have hFc := dl_free hD hS C.2.2.2.2.2.2.1
  subst hst
  refine va_calli (va_runU (As := As) (rest := st) ⟨C.1, C.2.1, C.2.2.1, C.2.2.2.1, C.2.2.2.2.1⟩ (hM H.size) cw ⟨dl_blind, va_recv C.2.2.2.2.2.1 hP hc he, dl_pre C hP hD⟩ rfl hn hl.1 rfl (lv_room hroom) hd hf) hS (fun q _ h => hFc q h) hFc (fun r u t H1 locs1 ht hvm hw hB hz1 hk1 hS1 => ?_)
  obtain ⟨hP1, hD1⟩ := hB
  rw [ht] at hP1
  exact k r u hw H1 locs1 ls hP1 (hD1.weaken (fun _ _ _ h => hFc _ h)) hS1 hl
theorem dl_vIS0 (C : dl_Cx p s m args c A D TY nw cc nL own Ts) {post : Int32 → va_W → Prop} (hM : dl_CtI l D TY nw y wl rm 0 0 (.ref b :: As) ws post) (cw : va_CS R s args own index y bytes maxL ret wl rm 0 0 n) (q0 ci : Nat) {fs : List Value} {T : u_T} {N : Nat} (he : ws[q0]? = some (b, .inr (ci, fs))) (hc : vwCl[ci]? = some (Cn, T, N)) (hn : As.length = n) (hst : st0 = As.reverse ++ .ref b :: st) (hroom : (st.map fun v => v.category).sum ≤ 8) (hd : decode cc pc = .ok (.invokespecial index, 3)) (hf : cells ≤ R.cells ∧ slots ≤ R.slots) (k : ∀ (r : Int32) (u : va_W), post r u → dl_At p l e R s m args below meth c Q A D nL cells slots (pc + 3) lv (.int r :: st) u) : dl_At p l e R s m args below meth c Q A D nL cells slots pc lv st0 ws := by
  intro H locs ls hP hD hS hl
  have hFc := dl_free hD hS C.2.2.2.2.2.2.1
  subst hst
  refine va_calli (va_runSU (As := As) (rest := st) (C.2.2.2.2.2.1.1 ci _ hc).2 ⟨C.1, C.2.1, C.2.2.1, C.2.2.2.1, C.2.2.2.2.1⟩ (hM H.size) cw ⟨dl_blind, va_recv C.2.2.2.2.2.1 hP hc he, dl_pre C hP hD⟩ rfl hn hl.1 rfl (lv_room hroom) hd hf) hS (fun q _ h => hFc q h) hFc (fun r u t H1 locs1 ht hvm hw hB hz1 hk1 hS1 => ?_)
  obtain ⟨hP1, hD1⟩ := hB
  rw [ht] at hP1
  exact k r u hw H1 locs1 ls hP1 (hD1.weaken (fun _ _ _ h => hFc _ h)) hS1 hl
end
/-- a call by super of what a class further up declares -/
theorem dl_callSP {p : Program} {l : Launch} {e : Env} {R : Room} {s : State} {m : MethodId} {args : Array Value} {below : List Frame} {meth : Method} {c : Code} {T : State} {locs : List Loc} {cells slots : Nat} (X : Stand p l e R s m args below meth c T locs cells slots) (hexec : p.tables.exec = Jvm.exec) {own mid : String} {index : Nat} {y : MethodName} {bytes : ByteArray} {maxL : Nat} {ret : Option FieldType}
    (hown : s.vm.findClass own = some m.cls) (hlink : (Cond.methodLink own index ⟨mid, y.name, y.desc⟩).before args s = true) (hsame : (Cond.sameMethod mid y.cls y.name y.desc).before args s = true) (hsup : (Cond.superclass own mid).before args s = true) (hsup2 : (Cond.superclass mid y.cls).before args s = true)
    (hinst : (Cond.instanceMethod y).before args s = true) (hcode : (Cond.code y bytes maxL ret).before args s = true) (hno : y.name ≠ "<init>")
    {W : Nat} {Pre : Pt → Array Value → Prop} {Post : Pt → Array Value → Option Value → Pt → Prop} (hK : Back l R p e below s args y 3 W Pre Post)
    {b : Addr} {cellB : Cell} {kB : Class} (hcell : T.heap[b]? = some cellB) (hobj : cellB.vm.isStatics = false) (hkB : s.vm.classes[cellB.cls]? = some kB)
    {g : JFrame} (hg : g.method = m) (hsize : g.locals.size = c.maxLocals) {argsL rest : List Value} (hlen : ∀ sig, parseMethodDescriptor y.desc = some sig → argsL.length = sig.parameters.length)
    (hstack : g.stack = argsL.reverse ++ .ref b :: rest) (hW : 2 * g.monitorRoom + (rest.map fun v => v.category).sum ≤ W) (hdg : decode c.code g.pc = .ok (.invokespecial index, 3))
    (hpre : ∀ vm₁, s.WarmedH vm₁ → Pre ⟨T.setVm vm₁, locs, cells, slots⟩ (Value.ref b :: argsL).toArray) :
    ∃ (v : Option Value) (vm₁ : Vm) (B : Pt), s.WarmedH vm₁ ∧ Stand p l e R s m args below meth c B.U B.locs B.cells B.slots ∧ Post ⟨T.setVm vm₁, locs, cells, slots⟩ (Value.ref b :: argsL).toArray v B ∧
      ∀ target, Steps p.tables e below (B.U.setTop { g with pc := g.pc + 3, stack := v.toList ++ rest }) target → Steps p.tables e below (T.setTop g) target := by
  obtain ⟨mk, methM, hnamed, hmethM, hstM, habM⟩ := Cond.instanceMethod_spec hinst
  obtain ⟨methM', cM, hmethM', -, -, -, -, -, -, hsigM⟩ := Cond.code_spec hnamed hcode
  cases hmethM.symm.trans hmethM'
  obtain ⟨ps, dk, kp, hps, hdk, hkp, hsuper, -, -, hnid⟩ := Cond.superclass_spec hown hsup
  obtain ⟨pp, dk2, kp2, hps2, hdk2, hkp2, hsuper2, -, -, -⟩ := Cond.superclass_spec hps hsup2
  have hpm : pp = mk.cls := Option.some.inj (hps2.symm.trans (findClass_of_methodNamed hnamed))
  have hsz : 0 < s.vm.classes.size := Nat.lt_of_le_of_lt (Nat.zero_le _) (Array.getElem?_eq_some_iff.mp hdk2).1
  have hsub : s.vm.isSubclass ps mk.cls = true := by
    rw [← hpm]
    obtain ⟨z, hz⟩ : ∃ z, s.vm.classes.size = z + 1 := ⟨s.vm.classes.size - 1, by omega⟩
    simp [Vm.isSubclass, hz, Vm.isSubclassAux, hdk2, hsuper2]
  obtain ⟨vm₁, X₁, hstep₁⟩ := X.invokespecialUp hexec (x := ⟨mid, y.name, y.desc⟩) hown hlink hsame (show s.methodNamed? ⟨y.cls, y.name, y.desc⟩ = some mk from hnamed) hmethM hstM habM hno hdk hnid hps hsuper hsub (a := b) (cell := cellB) hcell
    (fun z h => by rw [h] at hobj; cases hobj) hkB (g := g) hg (argsL := argsL) (rest := rest) (hlen _ hsigM) hstack hdg
  obtain ⟨v, B, X', hpost, hsteps⟩ := hK m meth c ⟨T.setVm vm₁, locs, cells, slots⟩ { g with stack := rest } (.invokespecial index) mk (Value.ref b :: argsL).toArray X₁ hg hsize hdg hW (X₁.named hnamed) (hpre vm₁ X₁.warmed)
  exact ⟨v, vm₁, B, X₁.warmed, X', hpost, fun target h => hstep₁ _ (by rw [doInvoke_state]; exact hsteps.trans h)⟩
section
variable {p : Program} {l : Launch} {e : Env} {R : Room} {s : State} {m : MethodId} {args : Array Value} {below : List Frame} {meth : Method} {c : Code} {Q : State → Prop} {A : Nat → Prop} {D : va_G} {TY : dl_TY} {nw : List Cond} {cc : ByteArray} {nL cells slots pc : Nat} {lv lv' : List (Nat × Value)} {st : List Value} {ws : va_W} {own : String} {Ts : List Cond}
variable {y : MethodName} {wl wl' : List Cond} {rm : Room} {mc ms n index : Nat} {bytes : ByteArray} {maxL : Nat} {ret : Option FieldType} {b : Nat} {As : List Value} {Cn host : String} {st0 : List Value}
theorem dl_spI0 (C : dl_Cx p s m args c A D TY nw cc nL own Ts) {mid : String} {post : Int32 → va_W → Prop} (hM : dl_CtI l D TY nw y wl rm 0 0 (.ref b :: As) ws post) (hwl : wl = Cond.code y bytes maxL ret :: wl') (hwn : ∀ w ∈ wl, w ∈ nw) (h1 : Cond.methodLink own index ⟨mid, y.name, y.desc⟩ ∈ nw) (h2 : Cond.sameMethod mid y.cls y.name y.desc ∈ nw) (h3 : Cond.superclass own mid ∈ nw) (h4 : Cond.superclass mid y.cls ∈ nw) (h5 : Cond.instanceMethod y ∈ nw) (h6 : Cond.initialized y.cls ∈ nw) (hd0 : y.name ≠ "<init>" ∧ (parseMethodDescriptor y.desc).map (fun d => d.parameters.length) = some n) (hrc : rm.cells = 0) (hrs : rm.slots = 0) (hR : rm.frames + 1 ≤ R.frames ∧ 8 + (maxL + 11) + rm.locals ≤ R.locals) (q0 ci : Nat) {fs : List Value} {T : u_T} {N : Nat} (he : ws[q0]? = some (b, .inr (ci, fs))) (hc : vwCl[ci]? = some (Cn, T, N)) (hn : As.length = n) (hst : st0 = As.reverse ++ .ref b :: st) (hroom : (st.map fun v => v.category).sum ≤ 8) (hd : decode cc pc = .ok (.invokespecial index, 3)) (hf : cells ≤ R.cells ∧ slots ≤ R.slots) (k : ∀ (r : Int32) (u : va_W), post r u → dl_At p l e R s m args below meth c Q A D nL cells slots (pc + 3) lv (.int r :: st) u) : dl_At p l e R s m args below meth c Q A D nL cells slots pc lv st0 ws := by
  intro H locs ls hP hD hS hl
  have hFc := dl_free hD hS C.2.2.2.2.2.2.1
  subst hst
  have hcw : Cond.code y bytes maxL ret ∈ wl := by rw [hwl]; exact List.mem_cons_self
  have hws : ∀ w ∈ wl, ∀ (a' : Array Value) (U : State), s.WarmedH U.vm → w.before a' U = true := fun w hw a' U hW => va_Nw.use ((C.2.2.2.2.2.2.2.1 w (hwn w hw)).1.1) ((C.2.2.2.2.2.2.2.1 w (hwn w hw)).1.2 s U hW (C.2.2.2.2.2.2.2.1 w (hwn w hw)).2)
  have hK : Back l R p e below s args y 3 8 (PreOf R 0 0 (dl_Pre D TY nw (.ref b :: As) ws H.size)) (PostOf (va_Qi post (dl_B D ws H.size) (va_A ws H.size)) 0 0 (va_A ws H.size)) := back_of (bytes := bytes) (maxL := maxL) (ret := ret) (hM H.size) dl_blind hrc hrs hR.1 hR.2 hws hcw (fun a' U hW => word_at hW (Or.inl (by first | rfl | simp [Cond.onTables, Cond.keeps, Cond.steady])) (dl_nw C h6))
  obtain ⟨cellB, hcB, hoB, hclB⟩ := va_recv C.2.2.2.2.2.1 hP hc he
  obtain ⟨hfc, kB, hkB, -⟩ := (C.2.2.2.2.2.1.1 ci _ hc).2
  have hce : D.1 ci = cellB.cls := Option.some.inj (hfc.symm.trans hclB)
  rw [hce] at hkB
  have hlen : ∀ sig, parseMethodDescriptor y.desc = some sig → As.length = sig.parameters.length := fun sig h => by
    have h9 := hd0.2
    rw [h] at h9
    exact hn.trans (Option.some.inj h9).symm
  have hrun : va_Run p l e R s m args below meth c H locs cells slots 0 0 (F0 m pc ls (As.reverse ++ .ref b :: st)) st (va_Qi post (dl_B D ws H.size) (va_A ws H.size) (Value.ref b :: As).toArray) (va_A ws H.size) := by
    intro T hT X
    obtain ⟨v, vm₁, ⟨U', l2, c2, s2⟩, hW₁, X', ⟨g', mk, t, L, e1, e2, hq, h1, hL, h2, h3⟩, st⟩ := dl_callSP X C.1 (bytes := bytes) (maxL := maxL) (ret := ret) C.2.2.2.1 (dl_nw C h1) (dl_nw C h2) (dl_nw C h3) (dl_nw C h4) (dl_nw C h5) (dl_nw C (hwn _ hcw)) hd0.1 hK (by rw [hT]; exact hcB) hoB hkB (g := F0 m pc ls (As.reverse ++ .ref b :: st)) rfl (hl.1.trans C.2.2.1.symm) (argsL := As) (rest := st) hlen rfl (lv_room hroom) (by rw [C.2.1]; exact hd)
      (fun vm₁ hW₁ => ⟨hf.1, hf.2, dl_pre C hP hD (T.setVm vm₁) hT hW₁⟩)
    dsimp only [Pt.U, Pt.locs, Pt.cells, Pt.slots] at X' e1 e2 h1 h2 h3 st
    subst h1; subst h2; subst h3
    exact ⟨v, (T.setVm vm₁).calling g' mk (Value.ref b :: As).toArray, t, U', L, hT, X', hL, e1, e2, hq, st⟩
  refine va_calli hrun hS (fun q _ h => hFc q h) hFc (fun r u t H1 locs1 ht hvm hw hB hz1 hk1 hS1 => ?_)
  obtain ⟨hP1, hD1⟩ := hB
  rw [ht] at hP1
  exact k r u hw H1 locs1 ls hP1 (hD1.weaken (fun _ _ _ h => hFc _ h)) hS1 hl
theorem dl_instY (C : dl_Cx p s m args c A D TY nw cc nL own Ts) {nm : String} {a : Nat} (hlink : Cond.classLink own index nm ∈ Ts) (hc9 : Cond.castable Cn nm ∈ nw) (q0 ci : Nat) {fs : List Value} {T : u_T} {N : Nat} (he : ws[q0]? = some (a, .inr (ci, fs))) (hc : vwCl[ci]? = some (Cn, T, N)) (hd : decode cc pc = .ok (.instanceof index, 3)) (k : dl_At p l e R s m args below meth c Q A D nL cells slots (pc + 3) lv (.int 1 :: st) ws) : dl_At p l e R s m args below meth c Q A D nL cells slots pc lv (.ref a :: st) ws :=
  fun H locs ls hP hD hS hl => va_instY C.1 C.2.1 C.2.2.2.1 (C.2.2.2.2.1 _ hlink) (C.2.2.2.2.2.2.2.1 _ hc9).2 (va_recv C.2.2.2.2.2.1 hP hc he) hd (k H locs ls hP hD hS hl)
theorem dl_instS (C : dl_Cx p s m args c A D TY nw cc nL own Ts) {a : Nat} (hlink : Cond.classLink own index Cn ∈ Ts) (q0 ci : Nat) {fs : List Value} {T : u_T} {N : Nat} (he : ws[q0]? = some (a, .inr (ci, fs))) (hc : vwCl[ci]? = some (Cn, T, N)) (hd : decode cc pc = .ok (.instanceof index, 3)) (k : dl_At p l e R s m args below meth c Q A D nL cells slots (pc + 3) lv (.int 1 :: st) ws) : dl_At p l e R s m args below meth c Q A D nL cells slots pc lv (.ref a :: st) ws :=
  fun H locs ls hP hD hS hl => va_instS C.1 C.2.1 C.2.2.2.1 (C.2.2.2.2.1 _ hlink) (C.2.2.2.2.2.1.1 ci _ hc).2 (va_recv C.2.2.2.2.2.1 hP hc he) hd (k H locs ls hP hD hS hl)
theorem dl_instN (C : dl_Cx p s m args c A D TY nw cc nL own Ts) {nm : String} {a : Nat} (hlink : Cond.classLink own index nm ∈ Ts) (hc9 : (Cn, nm) ∈ dl_neg) (q0 ci : Nat) {fs : List Value} {T : u_T} {N : Nat} (he : ws[q0]? = some (a, .inr (ci, fs))) (hc : vwCl[ci]? = some (Cn, T, N)) (hd : decode cc pc = .ok (.instanceof index, 3)) (k : dl_At p l e R s m args below meth c Q A D nL cells slots (pc + 3) lv (.int 0 :: st) ws) : dl_At p l e R s m args below meth c Q A D nL cells slots pc lv (.ref a :: st) ws :=
  fun H locs ls hP hD hS hl => va_instNo C.1 C.2.1 C.2.2.2.1 (C.2.2.2.2.1 _ hlink) (C.2.2.2.2.2.2.2.2 _ hc9) (va_recv C.2.2.2.2.2.1 hP hc he) hd (k H locs ls hP hD hS hl)
theorem dl_ifnonnull (C : dl_Cx p s m args c A D TY nw cc nL own Ts) {x : Nat} {off : Int} (tgt : Nat) (hd : decode cc pc = .ok (.ifnonnull off, 3)) (ht : (pc : Int) + off = (tgt : Int)) (k : dl_At p l e R s m args below meth c Q A D nL cells slots tgt lv st ws) : dl_At p l e R s m args below meth c Q A D nL cells slots pc lv (.ref x :: st) ws :=
  fun H locs ls hP hD hS hl => lv_ifnonnull C.1 C.2.1 hd ht (k H locs ls hP hD hS hl)
theorem dl_ifnonnullN (C : dl_Cx p s m args c A D TY nw cc nL own Ts) {off : Int} (hd : decode cc pc = .ok (.ifnonnull off, 3)) (k : dl_At p l e R s m args below meth c Q A D nL cells slots (pc + 3) lv st ws) : dl_At p l e R s m args below meth c Q A D nL cells slots pc lv (.null :: st) ws :=
  fun H locs ls hP hD hS hl => lv_ifnonnullN C.1 C.2.1 hd (k H locs ls hP hD hS hl)
theorem dl_ifnull (C : dl_Cx p s m args c A D TY nw cc nL own Ts) {x : Nat} {off : Int} (hd : decode cc pc = .ok (.ifnull off, 3)) (k : dl_At p l e R s m args below meth c Q A D nL cells slots (pc + 3) lv st ws) : dl_At p l e R s m args below meth c Q A D nL cells slots pc lv (.ref x :: st) ws :=
  fun H locs ls hP hD hS hl => lv_ifnull C.1 C.2.1 hd (k H locs ls hP hD hS hl)
theorem dl_aaldO (C : dl_Cx p s m args c A D TY nw cc nL own Ts) {a n v : Nat} {cA : ClassId} {E : String} {f : Nat → Option Nat} {i : Int32} (q0 t0 : Nat) (ha : ws[q0]? = some (a, .inl (cA, n, .inr (.inr (.inr (.inr f)))))) (ht : TY[t0]? = some (cA, .object E)) (hin : dl_in i n = true) (hv : f i.toNatClampNeg = some v) (hd : decode cc pc = .ok (.aaload, 1)) (k : dl_At p l e R s m args below meth c Q A D nL cells slots (pc + 1) lv (.ref v :: st) ws) : dl_At p l e R s m args below meth c Q A D nL cells slots pc lv (.int i :: .ref a :: st) ws :=
  fun H locs ls hP hD hS hl => va_aldq C.1 C.2.1 C.2.2.2.2.2.1 hP q0 t0 ha ht (dl_in_t hin) hd (by rw [hv]; exact k H locs ls hP hD hS hl)
theorem dl_aastN (C : dl_Cx p s m args c A D TY nw cc nL own Ts) {a n : Nat} {cA : ClassId} {E : String} {f : Nat → Option Nat} {i : Int32} {ws' : va_W} (q0 t0 : Nat) (ha : ws[q0]? = some (a, .inl (cA, n, .inr (.inr (.inr (.inr f)))))) (ht : TY[t0]? = some (cA, .object E)) (hin : dl_in i n = true) (hd : decode cc pc = .ok (.aastore, 1)) (hw : ws.set q0 (a, .inl (cA, n, .inr (.inr (.inr (.inr (va_up f i.toNatClampNeg none)))))) = ws') (k : dl_At p l e R s m args below meth c Q A D nL cells slots (pc + 1) lv st ws') : dl_At p l e R s m args below meth c Q A D nL cells slots pc lv (.null :: .int i :: .ref a :: st) ws :=
  fun H locs ls hP hD hS hl => va_astqN C.1 C.2.1 C.2.2.2.2.2.1 hP hD hS q0 t0 ha ht (dl_in_t hin) hd (fun H1 locs1 hP1 hD1 hS1 => k H1 locs1 ls (by rw [← hw]; exact hP1) (by rw [← hw]; exact hD1) hS1 hl)
theorem dl_aastO (C : dl_Cx p s m args c A D TY nw cc nL own Ts) {a n v : Nat} {cA : ClassId} {E : String} {f : Nat → Option Nat} {i : Int32} {ws' : va_W} (q0 t0 qk ci : Nat) {r : vw_C} {vs : List Value} (ha : ws[q0]? = some (a, .inl (cA, n, .inr (.inr (.inr (.inr f)))))) (ht : TY[t0]? = some (cA, .object E)) (hca : Cond.castable r.1 E ∈ nw) (hv : ws[qk]? = some (v, .inr (ci, vs))) (hc : vwCl[ci]? = some r) (hin : dl_in i n = true) (hd : decode cc pc = .ok (.aastore, 1)) (hw : ws.set q0 (a, .inl (cA, n, .inr (.inr (.inr (.inr (va_up f i.toNatClampNeg (some v))))))) = ws') (k : dl_At p l e R s m args below meth c Q A D nL cells slots (pc + 1) lv st ws') : dl_At p l e R s m args below meth c Q A D nL cells slots pc lv (.ref v :: .int i :: .ref a :: st) ws :=
  fun H locs ls hP hD hS hl => va_astqO C.1 C.2.1 C.2.2.2.2.2.1 hP hD hS q0 t0 qk ci ha ht (C.2.2.2.2.2.2.2.1 _ hca).2 hv hc (dl_in_t hin) hd (fun H1 locs1 hP1 hD1 hS1 => k H1 locs1 ls (by rw [← hw]; exact hP1) (by rw [← hw]; exact hD1) hS1 hl)
theorem dl_aastE (C : dl_Cx p s m args c A D TY nw cc nL own Ts) {a n v : Nat} {cA : ClassId} {f : Nat → Option Nat} {i : Int32} {ws' : va_W} (q0 t0 qk ci : Nat) {r : vw_C} {vs : List Value} (ha : ws[q0]? = some (a, .inl (cA, n, .inr (.inr (.inr (.inr f)))))) (ht : TY[t0]? = some (cA, .object r.1)) (hv : ws[qk]? = some (v, .inr (ci, vs))) (hc : vwCl[ci]? = some r) (hin : dl_in i n = true) (hd : decode cc pc = .ok (.aastore, 1)) (hw : ws.set q0 (a, .inl (cA, n, .inr (.inr (.inr (.inr (va_up f i.toNatClampNeg (some v))))))) = ws') (k : dl_At p l e R s m args below meth c Q A D nL cells slots (pc + 1) lv st ws') : dl_At p l e R s m args below meth c Q A D nL cells slots pc lv (.ref v :: .int i :: .ref a :: st) ws :=
  fun H locs ls hP hD hS hl => va_astq C.1 C.2.1 C.2.2.2.2.2.1 hP hD hS q0 t0 qk ci ha ht hv hc (dl_in_t hin) hd (fun H1 locs1 hP1 hD1 hS1 => k H1 locs1 ls (by rw [← hw]; exact hP1) (by rw [← hw]; exact hD1) hS1 hl)
/-- a constructor's call -/
theorem dl_iV (C : dl_Cx p s m args c A D TY nw cc nL own Ts) {post : va_W → Prop} (hM : dl_CtV l D TY nw y wl rm mc ms (.ref b :: As) ws post) (cw : CallB R s args own index y bytes maxL none wl rm mc ms n ∧ y.name = "<init>" ∧ (Cond.instanceMethod y).before args s = true) (hn : As.length = n) (hst : st0 = As.reverse ++ .ref b :: st) (hroom : (st.map fun v => v.category).sum ≤ 8) (hd : decode cc pc = .ok (.invokespecial index, 3)) (hf : cells + mc ≤ R.cells ∧ slots + ms ≤ R.slots) (k : ∀ (u : va_W), post u → dl_At p l e R s m args below meth c Q A D nL (cells + mc) (slots + ms) (pc + 3) lv st u) : dl_At p l e R s m args below meth c Q A D nL cells slots pc lv st0 ws := by
  intro H locs ls hP hD hS hl
  have hFc := dl_free hD hS C.2.2.2.2.2.2.1
  subst hst
  refine va_callv (va_runI (As := As) (rest := st) ⟨C.1, C.2.1, C.2.2.1, C.2.2.2.1, C.2.2.2.2.1⟩ (hM H.size) cw ⟨dl_blind, dl_pre C hP hD⟩ rfl hn hl.1 rfl (lv_room hroom) hd hf) hS (fun q _ h => hFc q h) hFc (fun u t H1 locs1 ht hvm hw hB hz1 hk1 hS1 => ?_)
  obtain ⟨hP1, hD1⟩ := hB
  rw [ht] at hP1
  exact k u hw H1 locs1 ls hP1 (hD1.weaken (fun _ _ _ h => hFc _ h)) hS1 hl
/-- a final field in a constructor -/
theorem dl_putF (C : dl_Cx p s m args c A D TY nw cc nL own Ts) (hi : meth.name = "<init>") {ref Cn : String} {T : u_T} {N ci index a : Nat} {v : Value} {ty : FieldType} {fs : List Value} {ws' : va_W} (hin : ∀ w ∈ u_ws Cn T N, w ∈ Ts) (ty0 : Nat → FieldType) (hty : ∀ k, k < N → parseFieldDescriptor (T k).2.2.1 = some (ty0 k)) (hnm : ∀ a, a < N → ∀ b, b < N → a ≠ b → (T a).2.1 ≠ (T b).2.1) (q0 : Nat) (he : ws[q0]? = some (a, .inr (ci, fs))) (hc : vwCl[ci]? = some (Cn, T, N)) (kf : Nat) (hk : kf < N) (hlink : Cond.fieldLink own index ref (T kf).2.1 (T kf).2.2.1 ∈ Ts) (hsame : ref = (T kf).1) (hfin : (T kf).2.2.2 = true) (hdecl : (T kf).1 = own) (hdsc : ty0 kf = ty) (hn : narrow ty v = v) (hfit : fits ty v = true) (hl0 : kf < fs.length) (hd : decode cc pc = .ok (.putfield index, 3)) (hw : ws.set q0 (a, .inr (ci, fs.set kf v)) = ws') (k : dl_At p l e R s m args below meth c Q A D nL cells slots (pc + 3) lv st ws') : dl_At p l e R s m args below meth c Q A D nL cells slots pc lv (v :: .ref a :: st) ws :=
  fun H locs ls hP hD hS hl => va_putF (ty := ty) C.1 C.2.1 C.2.2.2.2.1 hin ty0 hty hnm C.2.2.2.1 C.2.2.2.2.2.1 hP hD hS q0 he hc kf hk (C.2.2.2.2.1 _ hlink) (by subst hsame; exact fun _ h => h) hfin hi hdecl (by rw [← hdsc]; exact hty kf hk) hn hfit hl0 hd (fun H1 locs1 hP1 hD1 hS1 => k H1 locs1 ls (by rw [← hw]; exact hP1) (by rw [← hw]; exact hD1) hS1 hl)
end
/-- a constructor's contract out of its walk -/
theorem dl_metC {l : Launch} {D : va_G} {TY : dl_TY} {nw : List Cond} {y : MethodName} {wl wl' : List Cond} {rm : Room} {mc ms : Nat} {avs : List Value} {ws : va_W} {cc : ByteArray} {nL : Nat} {post : va_W → Prop} (lv : List (Nat × Value)) (hy : plainName y.cls = true) (hyn : y.name = "<init>") (hw : wl = Cond.code y cc nL none :: wl') (hsl : (lg_sl avs).length ≤ nL) (hlv : lv_args 0 avs = lv)
    (body : ∀ (p : Program) (e : Env) (s : State) (m : MethodId) (args : Array Value) (below : List Frame) (meth : Method) (c : Code) (Q : State → Prop) (A : Nat → Prop), meth.name = "<init>" → dl_Cx p s m args c A D TY nw cc nL y.cls wl → dl_RtV p l e (headSpec wl rm).room s m args below meth c Q A D cc nL mc ms post → dl_At p l e (headSpec wl rm).room s m args below meth c Q A D nL 0 0 0 lv [] ws) : dl_CtV l D TY nw y wl rm mc ms avs ws post := by
  intro sz
  refine Met.ofW (cc := cc) (maxL := nL) (ret := none) hy hw ?_
  intro p e s m args below meth c s₁ B hml hv
  obtain ⟨rfl, hsz, hP, hK, hN, hD0⟩ := hv
  have hx := B.exec
  have hb := B.bytes
  have hr := B.returns
  have hts := atoms_spec (ws := wl) B.pre
  have hown : s.vm.findClass y.cls = some m.cls := findClass_of_methodNamed B.named
  have hlocks := B.notSynchronized
  have hin : meth.name = "<init>" := hyn ▸ (name_of_methodNamed B.named B.method).1
  subst hsz
  have hD := hD0.self (sz := s.heap.size)
  have hA : ∀ q : Nat, s.heap.size ≤ q → va_A ws s.heap.size q := fun q h => Or.inr h
  have hl := lv_entry avs (n := nL) hsl
  rw [lg_entry_eq]
  rw [hlv] at hl
  refine body p e s m _ below meth c _ (va_A ws s.heap.size) hin ⟨hx, hb, hml, hown, hts, hK, hA, hN⟩ ?_ s.heap [] _ hP hD va_S.rf hl
  intro pc lv2 u hp hd H locs ls hP1 hD1 hS hl1
  exact W.vret hx hb hr (fun t ht hW => ⟨⟨u, rfl, hp, by rw [ht]; exact hP1, hD1⟩, hS.F ht⟩) hS.2.2 hd
