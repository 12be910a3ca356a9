/-! The law's entry: what the tables give -/
theorem dl_iVE {p : Program} {l : Launch} {e : Env} {R : Room} {s : State} {m : MethodId} {args : Array Value} {below : List Frame} {meth : Method} {c : Code} {Q : State → Prop} {A : Nat → Prop} {D : va_G} {TY : dl_TY} {nw : List Cond} {cc : ByteArray} {nL cells slots pc : Nat} {lv : List (Nat × Value)} {st : List Value} {ws : va_W} {own : String} {Ts : List Cond} (C : dl_Cx p s m args c A D TY nw cc nL own Ts) {y : MethodName} {wl : List Cond} {rm : Room} {mc ms n index : Nat} {bytes : ByteArray} {maxL : Nat} {b : Nat} {As : List Value} {st0 : List Value} {post : va_W → Prop} {E : State → Prop} (hE : dl_okE E) (hEs : E s) (hM : dl_CtVE E l D TY nw y wl rm mc ms (.ref b :: As) ws post) (cw : CallB R s args own index y bytes maxL none wl rm mc ms n ∧ y.name = "<init>" ∧ (Cond.instanceMethod y).before args s = true) (hn : As.length = n) (hst : st0 = As.reverse ++ .ref b :: st) (hroom : (st.map fun v => v.category).sum ≤ 8) (hd : decode cc pc = .ok (.invokespecial index, 3)) (hf : cells + mc ≤ R.cells ∧ slots + ms ≤ R.slots) (k : ∀ (u : va_W), post u → dl_At p l e R s m args below meth c Q A D nL (cells + mc) (slots + ms) (pc + 3) lv st u) : dl_At p l e R s m args below meth c Q A D nL cells slots pc lv st0 ws := by
  intro H locs ls hP hD hS hl
  have hFc := dl_free hD hS C.2.2.2.2.2.2.1
  subst hst
  refine va_callv (va_runI (As := As) (rest := st) ⟨C.1, C.2.1, C.2.2.1, C.2.2.2.1, C.2.2.2.2.1⟩ (hM H.size) cw ⟨dl_blindE hE, fun U hU hW => ⟨dl_pre C hP hD U hU hW, hE.1 s U hW hEs⟩⟩ rfl hn hl.1 rfl (lv_room hroom) hd hf) hS (fun q _ h => hFc q h) hFc (fun u t H1 locs1 ht hvm hw hB hz1 hk1 hS1 => ?_)
  obtain ⟨hP1, hD1⟩ := hB
  rw [ht] at hP1
  exact k u hw H1 locs1 ls hP1 (hD1.weaken (fun _ _ _ h => hFc _ h)) hS1 hl
theorem lw_ty_int {args : Array Value} {s : State} (h : (Cond.arrayClass .int).before args s = true) : ∃ cI : ClassId, ArrOfT s cI .int ∧ va_RA s cI .int := by
  obtain ⟨cI, kA, comp, h1, h2, h3⟩ := Cond.arrayClass_spec h
  exact ⟨cI, fun n z => ⟨fun k q => (by cases q), kA, h2, comp, h3⟩, h1⟩
theorem lw_ty_obj {args : Array Value} {s : State} {C : String} (h : (Cond.arrayOver (.object C)).before args s = true) : ∃ cP : ClassId, ArrOfT s cP (.object C) ∧ va_RA s cP (.object C) := by
  obtain ⟨comp, cP, kA, h1, h2, h3, h4, h5⟩ := Cond.arrayOver_spec h
  exact ⟨cP, fun n z => ⟨fun k q => (by cases q), kA, h3, comp, h4⟩, kA, comp, h3, h4, h1, h5⟩
theorem lw_ty_arr {args : Array Value} {s : State} (h : (Cond.arrayOver (.array .int)).before args s = true) : ∃ cP : ClassId, ArrOfT s cP (.array .int) ∧ va_RA s cP (.array .int) := by
  obtain ⟨comp, cP, kA, h1, h3, h4, h5⟩ := Cond.arrayOver_specA h
  exact ⟨cP, fun n z => ⟨fun k q => (by cases q), kA, h3, comp, h4⟩, h5⟩
def dl_isF : Cond → Bool
  | .fieldLinkNest .. => true
  | _ => false
def dl_isM : Cond → Bool
  | .methodLinkNest .. => true
  | _ => false
def dl_isC : Cond → Bool
  | .castable .. => true
  | _ => false
def dl_okc (w : Cond) : Bool := (goodWord w && w.onTables) || (dl_isF w || (dl_isM w || dl_isC w))
theorem dl_okc_ok {w : Cond} (h : dl_okc w = true) : dl_okw w := by
  unfold dl_okc at h
  rw [Bool.or_eq_true, Bool.or_eq_true, Bool.or_eq_true, Bool.and_eq_true] at h
  rcases h with ⟨h1, h2⟩ | h | h | h
  · exact ⟨h2, fun s U hW hZ => pay_in (big := [w]) (ws := [w]) (args := #[]) (fun x hx => by rw [List.mem_singleton.mp hx]; exact hZ) (fun x hx => ⟨hx, good_of_word (by rw [List.mem_singleton.mp hx]; exact h1)⟩) w List.mem_cons_self #[] U hW⟩
  · cases w <;> first | (exact ⟨rfl, fun s U hW hZ => va_Nw.warmF hW hZ⟩) | (exact absurd (show false = true from h) Bool.false_ne_true)
  · cases w <;> first | (exact ⟨rfl, fun s U hW hZ => va_Nw.warmM hW hZ⟩) | (exact absurd (show false = true from h) Bool.false_ne_true)
  · cases w <;> first | (exact ⟨rfl, fun s U hW hZ => va_Nw.warmC hW hZ⟩) | (exact absurd (show false = true from h) Bool.false_ne_true)
set_option maxRecDepth 20000 in
theorem cc_nw_ok : cc_nw.all dl_okc = true := by decide +kernel
set_option maxRecDepth 20000 in
theorem cc_nw1_in : ∀ w ∈ cc_nw1, w ∈ lw_tbl := by decide +kernel
set_option maxRecDepth 20000 in
theorem cc_nw2_in : ∀ w ∈ cc_nw2, w ∈ lw_tbl := by decide +kernel
set_option maxRecDepth 20000 in
theorem cc_nw3_in : ∀ w ∈ wsX3_join, w ∈ lw_tbl := by decide +kernel
set_option maxRecDepth 20000 in
theorem cc_nw4_in : ∀ w ∈ wsX3_ask, w ∈ lw_tbl := by decide +kernel
theorem cc_nw_in : ∀ w ∈ cc_nw, w ∈ lw_tbl := List.forall_mem_append.mpr ⟨cc_nw1_in, List.forall_mem_append.mpr ⟨cc_nw2_in, List.forall_mem_append.mpr ⟨cc_nw3_in, cc_nw4_in⟩⟩⟩
theorem lw_nw {args : Array Value} {s : State} (hts : ∀ w ∈ lw_tbl, w.before args s = true) (hneg : ∀ q ∈ dl_neg, va_Nc q.1 q.2 s) : dl_N cc_nw s :=
  ⟨fun w h => have ok := dl_okc_ok (List.all_eq_true.mp cc_nw_ok w h); ⟨ok, va_Nw.of ok.1 (hts w (cc_nw_in w h))⟩, hneg⟩
set_option maxRecDepth 20000 in
theorem lw_neg {args : Array Value} {s : State} (h : (Jvm.Cond.and given_1 narrow_1).before args s = true) : ∀ q ∈ dl_neg, va_Nc q.1 q.2 s := fun q hq => va_Nc.of (flat_of_before _ h _ ((by decide +kernel : ∀ q ∈ dl_neg, Cond.not (.castable q.1 q.2) ∈ flatC (Jvm.Cond.and given_1 narrow_1)) q hq))
