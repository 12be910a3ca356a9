/-! The law: its calls -/
section
variable {p : Program} {l : Launch} {e : Env} {s : State} {m : MethodId} {below : List Frame} {meth : Method} {c : Code} {Q : State → Prop} {A : Nat → Prop} {D : va_G} {TY : dl_TY} {cI cP cII : ClassId} {b L : Nat} {xs : Nat → Int32} {am : Nat → Nat} {x1 k n : Nat}
set_option maxHeartbeats 4000000 in
set_option maxRecDepth 100000 in
theorem law_place (X : lw_X p s m c A D TY cI cP cII b L xs) (hn : n + 3 < L) (hk : k < 590) (K : lw_K p l e s m below meth c Q A D cI cP cII b am x1 965 (k + 1) n) : lw_K p l e s m below meth c Q A D cI cP cII b am x1 172 k n := by
  intro ac pr gc gm R cells slots hac hI
  obtain ⟨E, h, hok, hce, hsl⟩ := hI
  have hal := h.aw
  obtain ⟨C, hX, hbl, hbA, hTY, hT1, hT2, hL⟩ := X
  subst hac
  obtain ⟨r, gc1, gm1, e1, e2, F, h1⟩ := do_place (N := 140000) (by omega) h (by omega) (xs (n + 1)) (xs (n + 2))
  have hal1 := h1.aw
  have hme := h1.ax
  refine dl_aload_n (pc := 172) C 1 dL_law_172 rfl rfl ?_
  refine lw_arg (pc := 173) C hX hbl hbA (by omega) 1 (by omega) rfl dL_law_173 dL_law_174 dL_law_175 dL_law_176 dL_law_177 ?_
  refine lw_arg (pc := 178) C hX hbl hbA (by omega) 2 (by omega) rfl dL_law_178 dL_law_179 dL_law_180 dL_law_181 dL_law_182 ?_
  have rest : ∀ (pr' : Nat → Option Nat) (R' : va_W), cc_ok ac pr' gc1 R' → dl_At p l e room_1 s m #[Value.ref b] below meth c Q A D 4 (cells + 1) (slots + 4) 186 [(0, .ref b), (1, .ref (ac 0)), (2, .ref (am 0)), (3, .int (nI n))] [.int r] (cc_w cI cP cII ac pr' gc1 ++ (mm_w cI am gm ++ R')) := by
    intro pr' R' hok'
    refine dl_aload_n (pc := 186) C 2 dL_law_186 rfl rfl ?_
    refine lw_arg (pc := 187) C hX hbl hbA (by omega) 1 (by omega) rfl dL_law_187 dL_law_188 dL_law_189 dL_law_190 dL_law_191 ?_
    refine lw_arg (pc := 192) C hX hbl hbA (by omega) 2 (by omega) rfl dL_law_192 dL_law_193 dL_law_194 dL_law_195 dL_law_196 ?_
    refine dl_perm (List.perm_append_comm_assoc _ _ _) ?_
    refine dl_vI0 (pc := 197) C (cmo_place l D cI TY hTY cc_nw 140000 am (cc_w cI cP cII ac pr' gc1 ++ R') gm _ _ e2) (cwV 2 C.2.2.2.2.1 gL_law_X12_place rfl rfl rfl (by decide +kernel) ⟨Nat.le_of_ble_eq_true rfl, Nat.le_of_ble_eq_true rfl⟩) 0 12 rfl rfl rfl rfl (Nat.le_of_ble_eq_true rfl) dL_law_197 (lw_room hal hce hsl (by omega)) (fun r' u hp => ?_)
    obtain ⟨hr, rfl⟩ := hp
    subst hr
    refine dl_perm (List.perm_append_comm_assoc _ _ _) ?_
    refine dl_eqj (pc := 200) C 965 dL_law_200 (by decide) ?_
    exact K ac pr' gc1 gm1 R' (cells + 1) (slots + 4) rfl ⟨F, h1.re (Nat.le_refl _), hok', by omega, by omega⟩
  refine dl_vI (pc := 183) C (ccl11_place l D cI cP cII TY hTY hT1 ac pr (mm_w cI am gm ++ R) gc _ _ e1) (cwV 2 C.2.2.2.2.1 gL_law_X11_place rfl rfl rfl (by decide +kernel) ⟨Nat.le_of_ble_eq_true rfl, Nat.le_of_ble_eq_true rfl⟩) 0 11 cc_a0 rfl rfl rfl (Nat.le_of_ble_eq_true rfl) dL_law_183 (lw_room hal hce hsl (by omega)) (fun r' u hp => ?_)
  obtain ⟨hr, hp⟩ := hp
  rw [hr]
  rcases hp with ⟨⟨cv, rv, hr2⟩, rfl⟩ | ⟨a, w, rN, gN, hA, hd, rfl⟩
  · exact rest pr R (cc_ok_refused hok hr2)
  · rw [List.append_assoc (mm_w cI am gm) R]
    exact rest _ _ (cc_ok_place hok h hA hd a)
set_option maxHeartbeats 4000000 in
set_option maxRecDepth 100000 in
theorem law_street (X : lw_X p s m c A D TY cI cP cII b L xs) (hn : n + 3 < L) (hk : k < 590) (K : lw_K p l e s m below meth c Q A D cI cP cII b am x1 965 (k + 1) n) : lw_K p l e s m below meth c Q A D cI cP cII b am x1 205 k n := by
  intro ac pr gc gm R cells slots hac hI
  obtain ⟨E, h, hok, hce, hsl⟩ := hI
  have hal := h.aw
  obtain ⟨C, hX, hbl, hbA, hTY, hT1, hT2, hL⟩ := X
  subst hac
  obtain ⟨r, gc1, gm1, e1, e2, F, kF, h1⟩ := do_street (N := 140000) (by omega) h (by omega) (xs (n + 1)) (xs (n + 2)) (xs (n + 3))
  have hal1 := h1.aw
  have hme := h1.ax
  refine dl_aload_n (pc := 205) C 1 dL_law_205 rfl rfl ?_
  refine lw_arg (pc := 206) C hX hbl hbA (by omega) 1 (by omega) rfl dL_law_206 dL_law_207 dL_law_208 dL_law_209 dL_law_210 ?_
  refine lw_arg (pc := 211) C hX hbl hbA (by omega) 2 (by omega) rfl dL_law_211 dL_law_212 dL_law_213 dL_law_214 dL_law_215 ?_
  refine lw_arg (pc := 216) C hX hbl hbA (by omega) 3 (by omega) rfl dL_law_216 dL_law_217 dL_law_218 dL_law_219 dL_law_220 ?_
  refine dl_vI0 (pc := 221) C (ccl11_street l D cI cP cII TY hTY ac pr (mm_w cI am gm ++ R) gc _ _ _ e1) (cwV 3 C.2.2.2.2.1 gL_law_X11_street rfl rfl rfl (by decide +kernel) ⟨Nat.le_of_ble_eq_true rfl, Nat.le_of_ble_eq_true rfl⟩) 0 11 cc_a0 rfl rfl rfl (Nat.le_of_ble_eq_true rfl) dL_law_221 (lw_rm hal hce hsl (by omega)) (fun r' u hp => ?_)
  obtain ⟨hr, rfl⟩ := hp
  rw [hr]
  refine dl_aload_n (pc := 224) C 2 dL_law_224 rfl rfl ?_
  refine lw_arg (pc := 225) C hX hbl hbA (by omega) 1 (by omega) rfl dL_law_225 dL_law_226 dL_law_227 dL_law_228 dL_law_229 ?_
  refine lw_arg (pc := 230) C hX hbl hbA (by omega) 2 (by omega) rfl dL_law_230 dL_law_231 dL_law_232 dL_law_233 dL_law_234 ?_
  refine lw_arg (pc := 235) C hX hbl hbA (by omega) 3 (by omega) rfl dL_law_235 dL_law_236 dL_law_237 dL_law_238 dL_law_239 ?_
  refine dl_perm (List.perm_append_comm_assoc _ _ _) ?_
  refine dl_vI0 (pc := 240) C (cmo_street l D cI TY hTY cc_nw 140000 am (cc_w cI cP cII ac pr gc1 ++ R) gm _ _ _ e2) (cwV 3 C.2.2.2.2.1 gL_law_X12_street rfl rfl rfl (by decide +kernel) ⟨Nat.le_of_ble_eq_true rfl, Nat.le_of_ble_eq_true rfl⟩) 0 12 rfl rfl rfl rfl (Nat.le_of_ble_eq_true rfl) dL_law_240 (lw_rm hal hce hsl (by omega)) (fun r2 u hp => ?_)
  obtain ⟨hr2, rfl⟩ := hp
  rw [hr2]
  refine dl_perm (List.perm_append_comm_assoc _ _ _) ?_
  refine dl_eqj (pc := 243) C 965 dL_law_243 (by decide) ?_
  exact K ac pr gc1 gm1 R cells slots rfl ⟨F, (h1.re (Nat.le_refl _)), (cc_ok_to hok h h1 kF), by omega, by omega⟩
set_option maxHeartbeats 4000000 in
set_option maxRecDepth 100000 in
theorem law_drop (X : lw_X p s m c A D TY cI cP cII b L xs) (hn : n + 3 < L) (hk : k < 590) (K : lw_K p l e s m below meth c Q A D cI cP cII b am x1 965 (k + 1) n) : lw_K p l e s m below meth c Q A D cI cP cII b am x1 248 k n := by
  intro ac pr gc gm R cells slots hac hI
  obtain ⟨E, h, hok, hce, hsl⟩ := hI
  have hal := h.aw
  obtain ⟨C, hX, hbl, hbA, hTY, hT1, hT2, hL⟩ := X
  subst hac
  obtain ⟨r, gc1, gm1, e1, e2, F, kF, h1⟩ := do_drop (N := 140000) (by omega) h (by omega) (xs (n + 1))
  have hal1 := h1.aw
  have hme := h1.ax
  refine dl_aload_n (pc := 248) C 1 dL_law_248 rfl rfl ?_
  refine lw_arg (pc := 249) C hX hbl hbA (by omega) 1 (by omega) rfl dL_law_249 dL_law_250 dL_law_251 dL_law_252 dL_law_253 ?_
  refine dl_vI0 (pc := 254) C (ccl11_drop l D cI cP cII TY hTY ac pr (mm_w cI am gm ++ R) gc _ e1) (cwV 1 C.2.2.2.2.1 gL_law_X11_drop rfl rfl rfl (by decide +kernel) ⟨Nat.le_of_ble_eq_true rfl, Nat.le_of_ble_eq_true rfl⟩) 0 11 cc_a0 rfl rfl rfl (Nat.le_of_ble_eq_true rfl) dL_law_254 (lw_rm hal hce hsl (by omega)) (fun r' u hp => ?_)
  obtain ⟨hr, rfl⟩ := hp
  rw [hr]
  refine dl_aload_n (pc := 257) C 2 dL_law_257 rfl rfl ?_
  refine lw_arg (pc := 258) C hX hbl hbA (by omega) 1 (by omega) rfl dL_law_258 dL_law_259 dL_law_260 dL_law_261 dL_law_262 ?_
  refine dl_perm (List.perm_append_comm_assoc _ _ _) ?_
  refine dl_vI0 (pc := 263) C (cmo_drop l D cI TY hTY cc_nw 140000 am (cc_w cI cP cII ac pr gc1 ++ R) gm _ e2) (cwV 1 C.2.2.2.2.1 gL_law_X12_drop rfl rfl rfl (by decide +kernel) ⟨Nat.le_of_ble_eq_true rfl, Nat.le_of_ble_eq_true rfl⟩) 0 12 rfl rfl rfl rfl (Nat.le_of_ble_eq_true rfl) dL_law_263 (lw_rm hal hce hsl (by omega)) (fun r2 u hp => ?_)
  obtain ⟨hr2, rfl⟩ := hp
  rw [hr2]
  refine dl_perm (List.perm_append_comm_assoc _ _ _) ?_
  refine dl_eqj (pc := 266) C 965 dL_law_266 (by decide) ?_
  exact K ac pr gc1 gm1 R cells slots rfl ⟨F, (h1.re (Nat.le_refl _)), (cc_ok_to hok h h1 kF), by omega, by omega⟩
set_option maxHeartbeats 4000000 in
set_option maxRecDepth 100000 in
theorem law_undo (X : lw_X p s m c A D TY cI cP cII b L xs) (hn : n + 3 < L) (hk : k < 590) (K : lw_K p l e s m below meth c Q A D cI cP cII b am x1 965 (k + 1) n) : lw_K p l e s m below meth c Q A D cI cP cII b am x1 271 k n := by
  intro ac pr gc gm R cells slots hac hI
  obtain ⟨E, h, hok, hce, hsl⟩ := hI
  have hal := h.aw
  obtain ⟨C, hX, hbl, hbA, hTY, hT1, hT2, hL⟩ := X
  subst hac
  obtain ⟨r, gc1, gm1, e1, e2, F, kF, h1⟩ := do_undo h (by omega)
  have hal1 := h1.aw
  have hme := h1.ax
  refine dl_aload_n (pc := 271) C 1 dL_law_271 rfl rfl ?_
  refine dl_vI0 (pc := 272) C (ccl11_undo l D cI cP cII TY hTY hT1 ac pr (mm_w cI am gm ++ R) gc e1) (cwV 0 C.2.2.2.2.1 gL_law_X11_undo rfl rfl rfl (by decide +kernel) ⟨Nat.le_of_ble_eq_true rfl, Nat.le_of_ble_eq_true rfl⟩) 0 11 cc_a0 rfl rfl rfl (Nat.le_of_ble_eq_true rfl) dL_law_272 (lw_rm hal hce hsl (by omega)) (fun r' u hp => ?_)
  obtain ⟨hr, pr1, hpr, rfl⟩ := hp
  rw [hr]
  refine dl_aload_n (pc := 275) C 2 dL_law_275 rfl rfl ?_
  refine dl_perm (List.perm_append_comm_assoc _ _ _) ?_
  refine dl_vI0 (pc := 276) C (cmo_undo l D cI TY hTY cc_nw am (cc_w cI cP cII ac pr1 gc1 ++ R) gm e2) (cwV 0 C.2.2.2.2.1 gL_law_X12_undo rfl rfl rfl (by decide +kernel) ⟨Nat.le_of_ble_eq_true rfl, Nat.le_of_ble_eq_true rfl⟩) 0 12 rfl rfl rfl rfl (Nat.le_of_ble_eq_true rfl) dL_law_276 (lw_rm hal hce hsl (by omega)) (fun r2 u hp => ?_)
  obtain ⟨hr2, rfl⟩ := hp
  rw [hr2]
  refine dl_perm (List.perm_append_comm_assoc _ _ _) ?_
  refine dl_eqj (pc := 279) C 965 dL_law_279 (by decide) ?_
  exact K ac pr1 gc1 gm1 R cells slots rfl ⟨F, (h1.re (Nat.le_refl _)), (cc_ok_pr (cc_ok_to hok h h1 kF) hpr), by omega, by omega⟩
set_option maxHeartbeats 4000000 in
set_option maxRecDepth 100000 in
theorem law_told (X : lw_X p s m c A D TY cI cP cII b L xs) (hn : n + 3 < L) (hk : k < 590) (K : lw_K p l e s m below meth c Q A D cI cP cII b am x1 965 (k + 1) n) : lw_K p l e s m below meth c Q A D cI cP cII b am x1 284 k n := by
  intro ac pr gc gm R cells slots hac hI
  obtain ⟨E, h, hok, hce, hsl⟩ := hI
  have hal := h.aw
  obtain ⟨C, hX, hbl, hbA, hTY, hT1, hT2, hL⟩ := X
  subst hac
  obtain ⟨r, e1, e2⟩ := ask_told (N := 140000) (by omega) h (xs (n + 1)) (xs (n + 2))
  refine dl_aload_n (pc := 284) C 1 dL_law_284 rfl rfl ?_
  refine lw_arg (pc := 285) C hX hbl hbA (by omega) 1 (by omega) rfl dL_law_285 dL_law_286 dL_law_287 dL_law_288 dL_law_289 ?_
  refine lw_arg (pc := 290) C hX hbl hbA (by omega) 2 (by omega) rfl dL_law_290 dL_law_291 dL_law_292 dL_law_293 dL_law_294 ?_
  refine dl_vI0 (pc := 295) C (ccl11_told l D cI cP cII TY hTY hT1 ac pr (mm_w cI am gm ++ R) gc (cc_ok_app _ hok) _ _ e1) (cwV 2 C.2.2.2.2.1 gL_law_X11_told rfl rfl rfl (by decide +kernel) ⟨Nat.le_of_ble_eq_true rfl, Nat.le_of_ble_eq_true rfl⟩) 0 11 cc_a0 rfl rfl rfl (Nat.le_of_ble_eq_true rfl) dL_law_295 (lw_rm hal hce hsl (by omega)) (fun r' u hp => ?_)
  obtain ⟨hr, rfl⟩ := hp
  rw [hr]
  refine dl_aload_n (pc := 298) C 2 dL_law_298 rfl rfl ?_
  refine lw_arg (pc := 299) C hX hbl hbA (by omega) 1 (by omega) rfl dL_law_299 dL_law_300 dL_law_301 dL_law_302 dL_law_303 ?_
  refine lw_arg (pc := 304) C hX hbl hbA (by omega) 2 (by omega) rfl dL_law_304 dL_law_305 dL_law_306 dL_law_307 dL_law_308 ?_
  refine dl_perm (List.perm_append_comm_assoc _ _ _) ?_
  refine dl_vI0 (pc := 309) C (cmo_told l D cI TY hTY cc_nw 140000 am (cc_w cI cP cII ac pr gc ++ R) gm _ _ e2) (cwV 2 C.2.2.2.2.1 gL_law_X12_told rfl rfl rfl (by decide +kernel) ⟨Nat.le_of_ble_eq_true rfl, Nat.le_of_ble_eq_true rfl⟩) 0 12 rfl rfl rfl rfl (Nat.le_of_ble_eq_true rfl) dL_law_309 (lw_rm hal hce hsl (by omega)) (fun r2 u hp => ?_)
  obtain ⟨hr2, rfl⟩ := hp
  rw [hr2]
  refine dl_perm (List.perm_append_comm_assoc _ _ _) ?_
  refine dl_eqj (pc := 312) C 965 dL_law_312 (by decide) ?_
  exact K ac pr gc gm R cells slots rfl ⟨E, h.up (by omega), hok, by omega, by omega⟩
set_option maxHeartbeats 4000000 in
set_option maxRecDepth 100000 in
theorem law_streetTold (X : lw_X p s m c A D TY cI cP cII b L xs) (hn : n + 3 < L) (hk : k < 590) (K : lw_K p l e s m below meth c Q A D cI cP cII b am x1 965 (k + 1) n) : lw_K p l e s m below meth c Q A D cI cP cII b am x1 317 k n := by
  intro ac pr gc gm R cells slots hac hI
  obtain ⟨E, h, hok, hce, hsl⟩ := hI
  have hal := h.aw
  obtain ⟨C, hX, hbl, hbA, hTY, hT1, hT2, hL⟩ := X
  subst hac
  obtain ⟨r, e1, e2⟩ := ask_streetTold h (xs (n + 1)) (xs (n + 2))
  refine dl_aload_n (pc := 317) C 1 dL_law_317 rfl rfl ?_
  refine lw_arg (pc := 318) C hX hbl hbA (by omega) 1 (by omega) rfl dL_law_318 dL_law_319 dL_law_320 dL_law_321 dL_law_322 ?_
  refine lw_arg (pc := 323) C hX hbl hbA (by omega) 2 (by omega) rfl dL_law_323 dL_law_324 dL_law_325 dL_law_326 dL_law_327 ?_
  refine dl_vI0 (pc := 328) C (ccl11_streetTold l D cI cP cII TY hTY ac pr (mm_w cI am gm ++ R) gc _ _ e1) (cwV 2 C.2.2.2.2.1 gL_law_X11_streetTold rfl rfl rfl (by decide +kernel) ⟨Nat.le_of_ble_eq_true rfl, Nat.le_of_ble_eq_true rfl⟩) 0 11 cc_a0 rfl rfl rfl (Nat.le_of_ble_eq_true rfl) dL_law_328 (lw_rm hal hce hsl (by omega)) (fun r' u hp => ?_)
  obtain ⟨hr, rfl⟩ := hp
  rw [hr]
  refine dl_aload_n (pc := 331) C 2 dL_law_331 rfl rfl ?_
  refine lw_arg (pc := 332) C hX hbl hbA (by omega) 1 (by omega) rfl dL_law_332 dL_law_333 dL_law_334 dL_law_335 dL_law_336 ?_
  refine lw_arg (pc := 337) C hX hbl hbA (by omega) 2 (by omega) rfl dL_law_337 dL_law_338 dL_law_339 dL_law_340 dL_law_341 ?_
  refine dl_perm (List.perm_append_comm_assoc _ _ _) ?_
  refine dl_vI0 (pc := 342) C (cmo_streetTold l D cI TY hTY cc_nw am (cc_w cI cP cII ac pr gc ++ R) gm _ _ e2) (cwV 2 C.2.2.2.2.1 gL_law_X12_streetTold rfl rfl rfl (by decide +kernel) ⟨Nat.le_of_ble_eq_true rfl, Nat.le_of_ble_eq_true rfl⟩) 0 12 rfl rfl rfl rfl (Nat.le_of_ble_eq_true rfl) dL_law_342 (lw_rm hal hce hsl (by omega)) (fun r2 u hp => ?_)
  obtain ⟨hr2, rfl⟩ := hp
  rw [hr2]
  refine dl_perm (List.perm_append_comm_assoc _ _ _) ?_
  refine dl_eqj (pc := 345) C 965 dL_law_345 (by decide) ?_
  exact K ac pr gc gm R cells slots rfl ⟨E, h.up (by omega), hok, by omega, by omega⟩
set_option maxHeartbeats 4000000 in
set_option maxRecDepth 100000 in
theorem law_count (X : lw_X p s m c A D TY cI cP cII b L xs) (hn : n + 3 < L) (hk : k < 590) (K : lw_K p l e s m below meth c Q A D cI cP cII b am x1 965 (k + 1) n) : lw_K p l e s m below meth c Q A D cI cP cII b am x1 350 k n := by
  intro ac pr gc gm R cells slots hac hI
  obtain ⟨E, h, hok, hce, hsl⟩ := hI
  have hal := h.aw
  obtain ⟨C, hX, hbl, hbA, hTY, hT1, hT2, hL⟩ := X
  subst hac
  obtain ⟨r, e1, e2⟩ := ask_count (N := 140000) (by omega) h (xs (n + 1))
  refine dl_aload_n (pc := 350) C 1 dL_law_350 rfl rfl ?_
  refine lw_arg (pc := 351) C hX hbl hbA (by omega) 1 (by omega) rfl dL_law_351 dL_law_352 dL_law_353 dL_law_354 dL_law_355 ?_
  refine dl_vI0 (pc := 356) C (ccl11_count l D cI cP cII TY hTY ac pr (mm_w cI am gm ++ R) gc _ e1) (cwV 1 C.2.2.2.2.1 gL_law_X11_count rfl rfl rfl (by decide +kernel) ⟨Nat.le_of_ble_eq_true rfl, Nat.le_of_ble_eq_true rfl⟩) 0 11 cc_a0 rfl rfl rfl (Nat.le_of_ble_eq_true rfl) dL_law_356 (lw_rm hal hce hsl (by omega)) (fun r' u hp => ?_)
  obtain ⟨hr, rfl⟩ := hp
  rw [hr]
  refine dl_aload_n (pc := 359) C 2 dL_law_359 rfl rfl ?_
  refine lw_arg (pc := 360) C hX hbl hbA (by omega) 1 (by omega) rfl dL_law_360 dL_law_361 dL_law_362 dL_law_363 dL_law_364 ?_
  refine dl_perm (List.perm_append_comm_assoc _ _ _) ?_
  refine dl_vI0 (pc := 365) C (cmo_count l D cI TY hTY cc_nw 140000 am (cc_w cI cP cII ac pr gc ++ R) gm _ e2) (cwV 1 C.2.2.2.2.1 gL_law_X12_count rfl rfl rfl (by decide +kernel) ⟨Nat.le_of_ble_eq_true rfl, Nat.le_of_ble_eq_true rfl⟩) 0 12 rfl rfl rfl rfl (Nat.le_of_ble_eq_true rfl) dL_law_365 (lw_rm hal hce hsl (by omega)) (fun r2 u hp => ?_)
  obtain ⟨hr2, rfl⟩ := hp
  rw [hr2]
  refine dl_perm (List.perm_append_comm_assoc _ _ _) ?_
  refine dl_eqj (pc := 368) C 965 dL_law_368 (by decide) ?_
  exact K ac pr gc gm R cells slots rfl ⟨E, h.up (by omega), hok, by omega, by omega⟩
set_option maxHeartbeats 4000000 in
set_option maxRecDepth 100000 in
theorem law_apart (X : lw_X p s m c A D TY cI cP cII b L xs) (hn : n + 3 < L) (hk : k < 590) (K : lw_K p l e s m below meth c Q A D cI cP cII b am x1 965 (k + 1) n) : lw_K p l e s m below meth c Q A D cI cP cII b am x1 373 k n := by
  intro ac pr gc gm R cells slots hac hI
  obtain ⟨E, h, hok, hce, hsl⟩ := hI
  have hal := h.aw
  obtain ⟨C, hX, hbl, hbA, hTY, hT1, hT2, hL⟩ := X
  subst hac
  obtain ⟨r, gc1, gm1, e1, e2, F, kF, h1⟩ := ask_apart (N := 140000) (by omega) h (xs (n + 1)) (xs (n + 2))
  have hal1 := h1.aw
  have hme := h1.ax
  refine dl_aload_n (pc := 373) C 1 dL_law_373 rfl rfl ?_
  refine lw_arg (pc := 374) C hX hbl hbA (by omega) 1 (by omega) rfl dL_law_374 dL_law_375 dL_law_376 dL_law_377 dL_law_378 ?_
  refine lw_arg (pc := 379) C hX hbl hbA (by omega) 2 (by omega) rfl dL_law_379 dL_law_380 dL_law_381 dL_law_382 dL_law_383 ?_
  refine dl_vI0 (pc := 384) C (ccl11_apart l D cI cP cII TY hTY 140000 ac pr (mm_w cI am gm ++ R) gc _ _ e1) (cwV 2 C.2.2.2.2.1 gL_law_X11_apart rfl rfl rfl (by decide +kernel) ⟨Nat.le_of_ble_eq_true rfl, Nat.le_of_ble_eq_true rfl⟩) 0 11 cc_a0 rfl rfl rfl (Nat.le_of_ble_eq_true rfl) dL_law_384 (lw_rm hal hce hsl (by omega)) (fun r' u hp => ?_)
  obtain ⟨hr, rfl⟩ := hp
  rw [hr]
  refine dl_aload_n (pc := 387) C 2 dL_law_387 rfl rfl ?_
  refine lw_arg (pc := 388) C hX hbl hbA (by omega) 1 (by omega) rfl dL_law_388 dL_law_389 dL_law_390 dL_law_391 dL_law_392 ?_
  refine lw_arg (pc := 393) C hX hbl hbA (by omega) 2 (by omega) rfl dL_law_393 dL_law_394 dL_law_395 dL_law_396 dL_law_397 ?_
  refine dl_perm (List.perm_append_comm_assoc _ _ _) ?_
  refine dl_vI0 (pc := 398) C (cmo_apart l D cI TY hTY cc_nw 140000 am (cc_w cI cP cII ac pr gc1 ++ R) gm _ _ e2) (cwV 2 C.2.2.2.2.1 gL_law_X12_apart rfl rfl rfl (by decide +kernel) ⟨Nat.le_of_ble_eq_true rfl, Nat.le_of_ble_eq_true rfl⟩) 0 12 rfl rfl rfl rfl (Nat.le_of_ble_eq_true rfl) dL_law_398 (lw_rm hal hce hsl (by omega)) (fun r2 u hp => ?_)
  obtain ⟨hr2, rfl⟩ := hp
  rw [hr2]
  refine dl_perm (List.perm_append_comm_assoc _ _ _) ?_
  refine dl_eqj (pc := 401) C 965 dL_law_401 (by decide) ?_
  exact K ac pr gc1 gm1 R cells slots rfl ⟨F, (h1.re (Nat.le_refl _)).up (by omega), (cc_ok_to hok h h1 kF), by omega, by omega⟩
end
