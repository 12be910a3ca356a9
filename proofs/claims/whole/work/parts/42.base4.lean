/-! Contracts that answer a reference; Arrays.copyOf; the row of the best trees -/
def dl_CtR (l : Launch) (D : va_G) (TY : dl_TY) (nw : List Cond) (y : MethodName) (wl : List Cond) (rm : Room) (mc ms : Nat) (avs : List Value) (ws : va_W) (post : Nat → va_W → Prop) : Prop :=
  ∀ sz : Nat, Met l y wl rm (dl_Pre D TY nw avs ws sz) (va_Qr (S := Nat × va_W) (fun u => post u.1 u.2) (fun u a t => a = u.1 ∧ dl_B D ws sz u.2 t) (va_A ws sz)) mc ms (va_A ws sz)
def dl_RtR (p : Program) (l : Launch) (e : Env) (R : Room) (s : State) (m : MethodId) (args : Array Value) (below : List Frame) (meth : Method) (c : Code) (Q : State → Prop) (A : Nat → Prop) (D : va_G) (cc : ByteArray) (nL mc ms : Nat) (post : Nat → va_W → Prop) : Prop :=
  ∀ (pc : Nat) (lv : List (Nat × Value)) (a : Nat) (u : va_W), post a u → decode cc pc = .ok (.areturn, 1) → dl_At p l e R s m args below meth c Q A D nL mc ms pc lv [.ref a] u
theorem dl_metR {l : Launch} {D : va_G} {TY : dl_TY} {nw : List Cond} {y : MethodName} {wl wl' : List Cond} {rm : Room} {mc ms : Nat} {avs : List Value} {ws : va_W} {cc : ByteArray} {nL : Nat} {post : Nat → va_W → Prop} {rt : FieldType} (lv : List (Nat × Value)) (hrt : (∃ n, rt = .object n) ∨ ∃ t, rt = .array t) (hy : plainName y.cls = true) (hw : wl = Cond.code y cc nL (some rt) :: wl') (hsl : (lg_sl avs).length ≤ nL) (hlv : lv_args 0 avs = lv)
    (body : ∀ (p : Program) (e : Env) (s : State) (m : MethodId) (args : Array Value) (below : List Frame) (meth : Method) (c : Code) (Q : State → Prop) (A : Nat → Prop), dl_Cx p s m args c A D TY nw cc nL y.cls wl → dl_RtR p l e (headSpec wl rm).room s m args below meth c Q A D cc nL mc ms post → dl_At p l e (headSpec wl rm).room s m args below meth c Q A D nL 0 0 0 lv [] ws) : dl_CtR l D TY nw y wl rm mc ms avs ws post := by
  intro sz
  refine Met.ofW (cc := cc) (maxL := nL) (ret := some rt) hy hw ?_
  intro p e s m args below meth c s₁ B hml hv
  obtain ⟨rfl, hsz, hP, hK, hN, hD0⟩ := hv
  have hx := B.exec
  have hb := B.bytes
  have hr := B.returns
  have hts := atoms_spec (ws := wl) B.pre
  have hown : s.vm.findClass y.cls = some m.cls := findClass_of_methodNamed B.named
  have hlocks := B.notSynchronized
  subst hsz
  have hD := hD0.self (sz := s.heap.size)
  have hA : ∀ q : Nat, s.heap.size ≤ q → va_A ws s.heap.size q := fun q h => Or.inr h
  have hl := lv_entry avs (n := nL) hsl
  rw [lg_entry_eq]
  rw [hlv] at hl
  refine body p e s m _ below meth c _ (va_A ws s.heap.size) ⟨hx, hb, hml, hown, hts, hK, hA, hN⟩ ?_ s.heap [] _ hP hD va_S.rf hl
  intro pc lv2 a u hp hd H locs ls hP1 hD1 hS hl1
  exact W.aret hx hb hr hrt (Or.inr ⟨a, rfl⟩) (fun t ht hW => ⟨⟨(a, u), a, rfl, hp, rfl, by rw [ht]; exact hP1, hD1⟩, hS.F ht⟩) hS.2.2 hd
section
variable {p : Program} {l : Launch} {e : Env} {R : Room} {s : State} {m : MethodId} {args : Array Value} {below : List Frame} {meth : Method} {c : Code} {Q : State → Prop} {A : Nat → Prop} {D : va_G} {TY : dl_TY} {nw : List Cond} {cc : ByteArray} {nL cells slots pc : Nat} {lv lv' : List (Nat × Value)} {st : List Value} {ws : va_W} {own : String} {Ts : List Cond}
variable {y : MethodName} {wl wl' : List Cond} {rm : Room} {mc ms n index : Nat} {bytes : ByteArray} {maxL : Nat} {ret : Option FieldType} {b : Nat} {As : List Value} {Cn host : String} {st0 : List Value}
theorem dl_sR (C : dl_Cx p s m args c A D TY nw cc nL own Ts) {post : Nat → va_W → Prop} (hM : dl_CtR l D TY nw y wl rm mc ms As ws post) (cw : CallB R s args own index y bytes maxL ret wl rm mc ms n ∧ (Cond.static y).before args s = true) (hn : As.length = n) (hst : st0 = As.reverse ++ st) (hroom : (st.map fun v => v.category).sum ≤ 8) (hd : decode cc pc = .ok (.invokestatic index, 3)) (hf : cells + mc ≤ R.cells ∧ slots + ms ≤ R.slots) (k : ∀ (a : Nat) (u : va_W), post a u → dl_At p l e R s m args below meth c Q A D nL (cells + mc) (slots + ms) (pc + 3) lv (.ref a :: st) u) : dl_At p l e R s m args below meth c Q A D nL cells slots pc lv st0 ws := by
  intro H locs ls hP hD hS hl
  have hFc := dl_free hD hS C.2.2.2.2.2.2.1
  subst hst
  refine va_callr (va_runS (As := As) (rest := st) ⟨C.1, C.2.1, C.2.2.1, C.2.2.2.1, C.2.2.2.2.1⟩ (hM H.size) cw ⟨dl_blind, dl_pre C hP hD⟩ rfl hn hl.1 rfl (lv_room hroom) hd hf) hS (fun q _ h => hFc q h) hFc (fun u a t H1 locs1 ht hvm hw hB hz1 hk1 hS1 => ?_)
  obtain ⟨rfl, hP1, hD1⟩ := hB
  rw [ht] at hP1
  exact k u.1 u.2 hw H1 locs1 ls hP1 (hD1.weaken (fun _ _ _ h => hFc _ h)) hS1 hl
theorem dl_vR (C : dl_Cx p s m args c A D TY nw cc nL own Ts) {post : Nat → va_W → Prop} (hM : dl_CtR l D TY nw y wl rm mc ms (.ref b :: As) ws post) (cw : CallW R s args own Cn index y bytes maxL ret wl rm mc ms n) (q0 ci : Nat) {fs : List Value} {T : u_T} {N : Nat} (he : ws[q0]? = some (b, .inr (ci, fs))) (hc : vwCl[ci]? = some (Cn, T, N)) (hn : As.length = n) (hst : st0 = As.reverse ++ .ref b :: st) (hroom : (st.map fun v => v.category).sum ≤ 8) (hd : decode cc pc = .ok (.invokevirtual index, 3)) (hf : cells + mc ≤ R.cells ∧ slots + ms ≤ R.slots) (k : ∀ (a : Nat) (u : va_W), post a u → dl_At p l e R s m args below meth c Q A D nL (cells + mc) (slots + ms) (pc + 3) lv (.ref a :: st) u) : dl_At p l e R s m args below meth c Q A D nL cells slots pc lv st0 ws := by
  intro H locs ls hP hD hS hl
  have hFc := dl_free hD hS C.2.2.2.2.2.2.1
  subst hst
  refine va_callr (va_runV (As := As) (rest := st) ⟨C.1, C.2.1, C.2.2.1, C.2.2.2.1, C.2.2.2.2.1⟩ (hM H.size) cw ⟨dl_blind, va_recv C.2.2.2.2.2.1 hP hc he, dl_pre C hP hD⟩ rfl hn hl.1 rfl (lv_room hroom) hd hf) hS (fun q _ h => hFc q h) hFc (fun u a t H1 locs1 ht hvm hw hB hz1 hk1 hS1 => ?_)
  obtain ⟨rfl, hP1, hD1⟩ := hB
  rw [ht] at hP1
  exact k u.1 u.2 hw H1 locs1 ls hP1 (hD1.weaken (fun _ _ _ h => hFc _ h)) hS1 hl
end
/-- Arrays.copyOf of a row of ints, to a longer one -/
def dl_cof (f : Nat → Int32) (n : Nat) : Nat → Int32 := va_cpy f (fun _ => 0) 0 0 n
set_option maxHeartbeats 4000000 in
theorem c_copyOf (l : Launch) (D : va_G) (cI : ClassId) (TY : dl_TY) (hTY : TY[0]? = some (cI, .int)) (nw : List Cond) (ws : va_W) (q a n N' : Nat) (f : Nat → Int32) (hq : ws[q]? = some (a, .inl (cI, n, .inl f))) (hn : n < N') (hN : N' ≤ 134217728) : dl_CtR l D TY nw yJ7_copyOf_59c91 wsJ7_copyOf_59c91 { frames := 1, cells := 1, slots := N', locals := 60 } 1 N' [.ref a, .int (nI N')] ws (fun r u => u = ws ++ [(r, .inl (cI, N', .inl (dl_cof f n)))]) := by
  have hN31 : N' < 2 ^ 31 := by omega
  have hn31 : n < 2 ^ 31 := by omega
  refine dl_metR (rt := .array .int) [(0, .ref a), (1, .int (nI N'))] (Or.inr ⟨_, rfl⟩) (by decide) rfl (Nat.le_of_ble_eq_true rfl) rfl ?_
  intro p e s m args below meth c Q A C hQ
  refine dl_iload_n (pc := 0) C 1 dJ7_copyOf_59c91_0 rfl rfl ?_
  refine dl_aload_n (pc := 1) C 0 dJ7_copyOf_59c91_1 rfl rfl ?_
  refine dl_alen (pc := 2) C (v := nI n) q 0 hq hTY rfl dJ7_copyOf_59c91_2 ?_
  refine dl_icmp_ne (pc := 3) C 14 dJ7_copyOf_59c91_3 (by decide) (F1 := none) (F2 := some 0) (z := 0) (if_neg (fun h => by have := (nI_eq hN31 hn31).mp h; omega)) (fun _ h => by cases h) (fun _ _ => ?_)
  refine dl_iload_n (pc := 14) C 1 dJ7_copyOf_59c91_14 rfl rfl ?_
  refine dl_newa (pc := 15) C hTY (by decide +kernel) (N' := N') (nI_pos hN31) (nI_clamp hN31) (by omega) ⟨Nat.le_refl _, by show 0 + N' ≤ N'; omega⟩ dJ7_copyOf_59c91_15 (fun r => ?_)
  have hqL : q < ws.length := (List.getElem?_eq_some_iff.mp hq).1
  have hq2 : (ws ++ [(r, .inl (cI, N', .inl (fun _ => 0)))] : va_W)[q]? = some (a, .inl (cI, n, .inl f)) := by rw [List.getElem?_append_left hqL]; exact hq
  have hr2 : (ws ++ [(r, .inl (cI, N', .inl (fun _ => 0)))] : va_W)[ws.length]? = some (r, .inl (cI, N', .inl (fun _ => 0))) := by rw [List.getElem?_append_right (Nat.le_refl _), Nat.sub_self]; rfl
  refine dl_wid (mc := 1) (ms := N') (Nat.le_refl _) (by omega) ?_
  refine dl_astore_n (pc := 17) C [(2, .ref r), (0, .ref a), (1, .int (nI N'))] dJ7_copyOf_59c91_17 rfl (by decide) rfl ?_
  refine dl_aload_n (pc := 18) C 1 dJ7_copyOf_59c91_18 rfl rfl ?_
  refine dl_iconst (pc := 19) C 0 dJ7_copyOf_59c91_19 (by decide) ?_
  refine dl_aload_n (pc := 20) C 0 dJ7_copyOf_59c91_20 rfl rfl ?_
  refine dl_iconst (pc := 21) C 0 dJ7_copyOf_59c91_21 (by decide) ?_
  refine dl_aload_n (pc := 22) C 1 dJ7_copyOf_59c91_22 rfl rfl ?_
  refine dl_alen (pc := 23) C (v := nI n) q 0 hq2 hTY rfl dJ7_copyOf_59c91_23 ?_
  refine dl_iload_n (pc := 24) C 2 dJ7_copyOf_59c91_24 rfl rfl ?_
  refine dl_mmin (pc := 25) C (by decide +kernel) (by decide +kernel) (by decide +kernel) (by decide +kernel) (Nat.le_of_ble_eq_true rfl) (Nat.le_of_ble_eq_true rfl) ⟨Nat.le_refl _, Nat.le_refl _⟩ dJ7_copyOf_59c91_25 ?_
  rw [if_neg (nI_nlt (Nat.le_of_lt hn) hN31)]
  refine dl_copyi (pc := 28) C q ws.length 0 (by decide +kernel) (by decide +kernel) (by decide +kernel) (by decide +kernel) hq2 hr2 hTY (decide_eq_true ⟨by decide, by decide, nI_pos hn31, by rw [nI_clamp hn31]; show 0 + n ≤ n; omega, by rw [nI_clamp hn31]; show 0 + n ≤ N'; omega⟩) (Nat.le_of_ble_eq_true rfl) (Nat.le_of_ble_eq_true rfl) dJ7_copyOf_59c91_28 rfl ?_
  refine dl_aload_n (pc := 31) C 0 dJ7_copyOf_59c91_31 rfl rfl ?_
  refine hQ 32 _ _ _ ?_ dJ7_copyOf_59c91_32
  rw [nI_clamp hn31, List.set_append_right _ _ (Nat.le_refl _), Nat.sub_self]
  rfl

