/-! The law: its loop -/
section
variable {p : Program} {l : Launch} {e : Env} {s : State} {m : MethodId} {below : List Frame} {meth : Method} {c : Code} {Q : State → Prop} {A : Nat → Prop} {D : va_G} {TY : dl_TY} {cI cP cII : ClassId} {b L : Nat} {xs : Nat → Int32} {am : Nat → Nat} {x1 k n : Nat}
theorem law_end (hx : p.tables.exec = Jvm.exec) (hb : c.code = code) (hr : meth.sig.returnType = ret) (hlocks : meth.locks = false) (hk : k < 590) : lw_K p l e s m below meth c (lw_Z below #[Value.ref b] s) (fun q : Nat => s.heap.size ≤ q) D cI cP cII b am x1 971 k n := by
  intro ac pr gc gm R cells slots hac hI H locs ls hP hD hS hl
  obtain ⟨E, h1, h2, h3, h4⟩ := hI
  have hr2 := lw_rm h1.aw h3 h4 (by omega)
  refine lv_iconst (v := 1) hx hb dL_law_971 (by decide) ?_
  refine va_forget (fun q hq => hS.2.2 q hq) ?_
  refine W.widen (k := room_1.cells) (n := room_1.slots) hr2.1 hr2.2 ?_
  exact lw_ret hx hb hr hlocks dL_law_972
end
