theorem dL_law_272 : decode cL_law 272 = .ok (.aload_n 1, 1) := by decide +kernel
theorem dL_law_273 : decode cL_law 273 = .ok (.aload_n 0, 1) := by decide +kernel
theorem dL_law_274 : decode cL_law 274 = .ok (.iload 5, 2) := by decide +kernel
theorem dL_law_276 : decode cL_law 276 = .ok (.iconst 1, 1) := by decide +kernel
theorem dL_law_277 : decode cL_law 277 = .ok (.iadd, 1) := by decide +kernel
theorem dL_law_278 : decode cL_law 278 = .ok (.iaload, 1) := by decide +kernel
theorem dL_law_279 : decode cL_law 279 = .ok (.aload_n 0, 1) := by decide +kernel
theorem dL_law_280 : decode cL_law 280 = .ok (.iload 5, 2) := by decide +kernel
theorem dL_law_282 : decode cL_law 282 = .ok (.iconst 2, 1) := by decide +kernel
theorem dL_law_283 : decode cL_law 283 = .ok (.iadd, 1) := by decide +kernel
theorem dL_law_284 : decode cL_law 284 = .ok (.iaload, 1) := by decide +kernel
theorem dL_law_285 : decode cL_law 285 = .ok (.aload_n 3, 1) := by decide +kernel
theorem dL_law_286 : decode cL_law 286 = .ok (.invokestatic 193, 3) := by decide +kernel
theorem w4_136 : (Jvm.Cond.methodLink "PolyforgeLaw" (193 : Nat) ({ cls := "PolyforgeLaw", name := "constant", desc := "(LPolyforge;II[J)I" } : Jvm.MethodName)) ∈ lw_tbl := pv_t4 (pv_mg 136 rfl)
theorem w4_138 : (Jvm.Cond.codeWith ({ cls := "PolyforgeLaw", name := "constant", desc := "(LPolyforge;II[J)I" } : Jvm.MethodName) method_3_code (5 : Nat) (Option.some Jvm.ClassFile.FieldType.int) [((0 : Nat), (10 : Nat), (13 : Nat), (13 : Nat)), ((0 : Nat), (10 : Nat), (17 : Nat), (15 : Nat))]) ∈ lw_tbl := pv_t4 (pv_mg 138 rfl)
theorem w4_137 : (Jvm.Cond.static ({ cls := "PolyforgeLaw", name := "constant", desc := "(LPolyforge;II[J)I" } : Jvm.MethodName)) ∈ lw_tbl := pv_t4 (pv_mg 137 rfl)
theorem w1_0 : (Jvm.Cond.initialized "PolyforgeLaw") ∈ lw_tbl := pv_t1 (pv_mg 0 rfl)
theorem dL_law_289 : decode cL_law 289 = .ok (.istore 6, 2) := by decide +kernel
theorem dL_law_291 : decode cL_law 291 = .ok (.aload_n 2, 1) := by decide +kernel
theorem dL_law_292 : decode cL_law 292 = .ok (.aload_n 0, 1) := by decide +kernel
theorem dL_law_293 : decode cL_law 293 = .ok (.iload 5, 2) := by decide +kernel
theorem dL_law_295 : decode cL_law 295 = .ok (.iconst 1, 1) := by decide +kernel
theorem dL_law_296 : decode cL_law 296 = .ok (.iadd, 1) := by decide +kernel
theorem dL_law_297 : decode cL_law 297 = .ok (.iaload, 1) := by decide +kernel
theorem dL_law_298 : decode cL_law 298 = .ok (.aload_n 0, 1) := by decide +kernel
theorem dL_law_299 : decode cL_law 299 = .ok (.iload 5, 2) := by decide +kernel
theorem dL_law_301 : decode cL_law 301 = .ok (.iconst 2, 1) := by decide +kernel
theorem dL_law_302 : decode cL_law 302 = .ok (.iadd, 1) := by decide +kernel
theorem dL_law_303 : decode cL_law 303 = .ok (.iaload, 1) := by decide +kernel
theorem dL_law_304 : decode cL_law 304 = .ok (.invokevirtual 198, 3) := by decide +kernel
theorem w9_106 : (Jvm.Cond.methodLink "PolyforgeLaw" (198 : Nat) ({ cls := "PolyforgeModel", name := "constant", desc := "(II)I" } : Jvm.MethodName)) ∈ lw_tbl := pv_t9 (pv_mg 106 rfl)
theorem w9_109 : (Jvm.Cond.code ({ cls := "PolyforgeModel", name := "constant", desc := "(II)I" } : Jvm.MethodName) prog_14_method_28_code (3 : Nat) (Option.some Jvm.ClassFile.FieldType.int)) ∈ lw_tbl := pv_t9 (pv_mg 109 rfl)
theorem w9_108 : (Jvm.Cond.selects "PolyforgeModel" ({ cls := "PolyforgeModel", name := "constant", desc := "(II)I" } : Jvm.MethodName) ({ cls := "PolyforgeModel", name := "constant", desc := "(II)I" } : Jvm.MethodName)) ∈ lw_tbl := pv_t9 (pv_mg 108 rfl)
theorem w9_107 : (Jvm.Cond.instanceMethod ({ cls := "PolyforgeModel", name := "constant", desc := "(II)I" } : Jvm.MethodName)) ∈ lw_tbl := pv_t9 (pv_mg 107 rfl)
theorem dL_law_307 : decode cL_law 307 = .ok (.istore 7, 2) := by decide +kernel
theorem dL_law_309 : decode cL_law 309 = .ok (.aload_n 2, 1) := by decide +kernel
theorem dL_law_310 : decode cL_law 310 = .ok (.invokevirtual 199, 3) := by decide +kernel
theorem w9_102 : (Jvm.Cond.methodLink "PolyforgeLaw" (199 : Nat) ({ cls := "PolyforgeModel", name := "thrown", desc := "()I" } : Jvm.MethodName)) ∈ lw_tbl := pv_t9 (pv_mg 102 rfl)
theorem w9_105 : (Jvm.Cond.code ({ cls := "PolyforgeModel", name := "thrown", desc := "()I" } : Jvm.MethodName) prog_14_method_2_code (1 : Nat) (Option.some Jvm.ClassFile.FieldType.int)) ∈ lw_tbl := pv_t9 (pv_mg 105 rfl)
theorem w9_104 : (Jvm.Cond.selects "PolyforgeModel" ({ cls := "PolyforgeModel", name := "thrown", desc := "()I" } : Jvm.MethodName) ({ cls := "PolyforgeModel", name := "thrown", desc := "()I" } : Jvm.MethodName)) ∈ lw_tbl := pv_t9 (pv_mg 104 rfl)
theorem w9_103 : (Jvm.Cond.instanceMethod ({ cls := "PolyforgeModel", name := "thrown", desc := "()I" } : Jvm.MethodName)) ∈ lw_tbl := pv_t9 (pv_mg 103 rfl)
theorem dL_law_313 : decode cL_law 313 = .ok (.iload 6, 2) := by decide +kernel
theorem dL_law_315 : decode cL_law 315 = .ok (.if_icmp .eq 5, 3) := by decide +kernel
theorem dL_law_320 : decode cL_law 320 = .ok (.iload 6, 2) := by decide +kernel
theorem dL_law_322 : decode cL_law 322 = .ok (.ifCond .ne 15, 3) := by decide +kernel
theorem dL_law_325 : decode cL_law 325 = .ok (.aload_n 3, 1) := by decide +kernel
theorem dL_law_326 : decode cL_law 326 = .ok (.iconst 0, 1) := by decide +kernel
theorem dL_law_327 : decode cL_law 327 = .ok (.laload, 1) := by decide +kernel
theorem dL_law_328 : decode cL_law 328 = .ok (.iload 7, 2) := by decide +kernel
theorem dL_law_330 : decode cL_law 330 = .ok (.i2l, 1) := by decide +kernel
theorem dL_law_331 : decode cL_law 331 = .ok (.lcmp, 1) := by decide +kernel
theorem dL_law_332 : decode cL_law 332 = .ok (.ifCond .eq 5, 3) := by decide +kernel
theorem dL_law_337 : decode cL_law 337 = .ok (.goto 3384, 3) := by decide +kernel
theorem dL_law_3721 : decode cL_law 3721 = .ok (.iinc 5 7, 3) := by decide +kernel
theorem dL_law_3724 : decode cL_law 3724 = .ok (.goto (-3696), 3) := by decide +kernel
theorem dL_law_28 : decode cL_law 28 = .ok (.iload 5, 2) := by decide +kernel
theorem dL_law_30 : decode cL_law 30 = .ok (.aload_n 0, 1) := by decide +kernel
theorem dL_law_31 : decode cL_law 31 = .ok (.arraylength, 1) := by decide +kernel
theorem dL_law_32 : decode cL_law 32 = .ok (.bipush 7, 2) := by decide +kernel
theorem dL_law_34 : decode cL_law 34 = .ok (.isub, 1) := by decide +kernel
theorem dL_law_35 : decode cL_law 35 = .ok (.if_icmp .gt 3692, 3) := by decide +kernel
theorem dL_law_3727 : decode cL_law 3727 = .ok (.iconst 1, 1) := by decide +kernel
theorem dL_law_3728 : decode cL_law 3728 = .ok (.ireturn, 1) := by decide +kernel
set_option maxHeartbeats 4000000 in
set_option maxRecDepth 100000 in
/-- the law, call 0: constant -/
theorem law_case_0 {p : Program} {e : Env} {s : State} {m : MethodId} {below : List Frame} {meth : Method} {c : Code} (l : Launch) (hfl : l.stackTraces = false) {b : Nat} {xs : Nat → Int32} (C0 : lw_At p s m meth c b 7 xs) {D : va_G} {A : Nat → Prop} (hA : ∀ q : Nat, s.heap.size ≤ q → A q) (hAf : ∀ q : Nat, A q → s.heap.size ≤ q) (hbA : ¬ A b) (hE : pv_E A s s.heap) {x0 m0 o0 d0 : Nat} {xq xw mq : Nat → Nat} {xJ xP xO xC xI mI mI2 mI3 mT mC oL : ClassId} {xsg xsf msg msf : Nat → Int32} (hxsg : ∀ j, j < 3 → xsg j = 63) (hmsg : ∀ j, j < 3 → msg j = 63) {H : Heap} {locs : List Loc} (hK : va_K D pv_cl [(xJ, .long), (xP, .object "Polyforge$Polynomial"), (xO, .object "Polyforge$Ideal"), (xC, .char), (xI, .int), (mI, .int), (mT, .object "PolyforgeModel$Terms"), (mI2, .int), (mC, .char), (mI3, .int), (oL, .long)] s) (hP : va_P D pv_cl [(x0, .inr (0, [.ref (xq 0), .int 0, .int 108, .ref (xq 1), .int 0, .ref (xq 2), .int 0, .ref (xq 3), .ref (xq 4), .int 1, .ref (xq 5), .ref (xq 6), .ref (xq 7), .ref (xq 8), .ref (xq 9)])), ((xq 6), .inr (2, [.ref (xw 0), .ref (xw 1), .ref (xw 2), .ref (xw 3), .int 0, .int 0])), ((xw 2), .inl (xJ, 64, .inr (.inl (fun _ => 0)))), ((xq 0), .inl (xP, 60, .inr (.inr (.inr (.inr (fun _ => none)))))), ((xq 1), .inl (xO, 5, .inr (.inr (.inr (.inr (fun _ => none)))))), ((xq 3), .inl (xC, 3, .inl xsg)), ((xq 4), .inl (xI, 3, .inl xsf)), (m0, .inr (1, pv_m 0 mq)), ((mq 0), .inl (mI, 60, .inl (fun _ => 0))), ((mq 1), .inl (mT, 60, .inr (.inr (.inr (.inr (fun _ => none)))))), ((mq 2), .inl (mI2, 5, .inl (fun _ => 0))), ((mq 9), .inl (mC, 3, .inl msg)), ((mq 10), .inl (mI3, 3, .inl msf)), (o0, .inl (oL, 1, .inr (.inl (fun _ => 0))))] H) (hD : va_D A [(x0, .inr (0, [.ref (xq 0), .int 0, .int 108, .ref (xq 1), .int 0, .ref (xq 2), .int 0, .ref (xq 3), .ref (xq 4), .int 1, .ref (xq 5), .ref (xq 6), .ref (xq 7), .ref (xq 8), .ref (xq 9)])), ((xq 6), .inr (2, [.ref (xw 0), .ref (xw 1), .ref (xw 2), .ref (xw 3), .int 0, .int 0])), ((xw 2), .inl (xJ, 64, .inr (.inl (fun _ => 0)))), ((xq 0), .inl (xP, 60, .inr (.inr (.inr (.inr (fun _ => none)))))), ((xq 1), .inl (xO, 5, .inr (.inr (.inr (.inr (fun _ => none)))))), ((xq 3), .inl (xC, 3, .inl xsg)), ((xq 4), .inl (xI, 3, .inl xsf)), (m0, .inr (1, pv_m 0 mq)), ((mq 0), .inl (mI, 60, .inl (fun _ => 0))), ((mq 1), .inl (mT, 60, .inr (.inr (.inr (.inr (fun _ => none)))))), ((mq 2), .inl (mI2, 5, .inl (fun _ => 0))), ((mq 9), .inl (mC, 3, .inl msg)), ((mq 10), .inl (mI3, 3, .inl msf)), (o0, .inl (oL, 1, .inr (.inl (fun _ => 0))))]) (hS : va_S A s.heap H locs) {ls : Array Slot} (hl : lv_has ls 9 [(0, .ref b), (1, .ref x0), (2, .ref m0), (3, .ref o0), (4, .ref d0), (5, .int 0)]) : W p l e room_1 s m #[Value.ref b] below meth c H locs 397 653821 (lw_Z below #[Value.ref b] s) (F0 m 272 ls []) := by
  obtain ⟨hx, hb, hr, hml, hown, hts0, hX, hbl, hlocks, hgv⟩ := C0
  have hts : ∀ w ∈ pv_W, w.before #[Value.ref b] s = true := fun w h => hts0 w (List.mem_filter.mp h).1
  have hg := fun {w : Cond} (h : w ∈ lw_tbl) (g : goodWord w = true) => hts w (pv_in h g)
  have hP : va_P D pv_cl [(x0, .inr (0, [.ref (xq 0), .int 0, .int 108, .ref (xq 1), .int 0, .ref (xq 2), .int 0, .ref (xq 3), .ref (xq 4), .int 1, .ref (xq 5), .ref (xq 6), .ref (xq 7), .ref (xq 8), .ref (xq 9)])), ((xq 6), .inr (2, [.ref (xw 0), .ref (xw 1), .ref (xw 2), .ref (xw 3), .int 0, .int 0])), ((xw 2), .inl (xJ, 64, .inr (.inl (fun _ => 0)))), ((xq 0), .inl (xP, 60, .inr (.inr (.inr (.inr (fun _ => none)))))), (m0, .inr (1, pv_m 0 mq)), ((mq 0), .inl (mI, 60, .inl (fun _ => 0))), ((mq 1), .inl (mT, 60, .inr (.inr (.inr (.inr (fun _ => none)))))), (o0, .inl (oL, 1, .inr (.inl (fun _ => 0))))] _ := hP.sub [0, 1, 2, 3, 7, 8, 9, 13] rfl
  have hD : va_D A [(x0, .inr (0, [.ref (xq 0), .int 0, .int 108, .ref (xq 1), .int 0, .ref (xq 2), .int 0, .ref (xq 3), .ref (xq 4), .int 1, .ref (xq 5), .ref (xq 6), .ref (xq 7), .ref (xq 8), .ref (xq 9)])), ((xq 6), .inr (2, [.ref (xw 0), .ref (xw 1), .ref (xw 2), .ref (xw 3), .int 0, .int 0])), ((xw 2), .inl (xJ, 64, .inr (.inl (fun _ => 0)))), ((xq 0), .inl (xP, 60, .inr (.inr (.inr (.inr (fun _ => none)))))), (m0, .inr (1, pv_m 0 mq)), ((mq 0), .inl (mI, 60, .inl (fun _ => 0))), ((mq 1), .inl (mT, 60, .inr (.inr (.inr (.inr (fun _ => none)))))), (o0, .inl (oL, 1, .inr (.inl (fun _ => 0))))] := hD.sub [0, 1, 2, 3, 7, 8, 9, 13] (by decide) rfl
  have hK : va_K D pv_cl [(xJ, .long), (xP, .object "Polyforge$Polynomial"), (mI, .int), (mT, .object "PolyforgeModel$Terms"), (oL, .long)] s := hK.sub [0, 1, 5, 6, 10] rfl
  refine lv_aload_n hx hb dL_law_272 rfl (lv_at hl 1 rfl) ?_
  refine lv_aload_n hx hb dL_law_273 rfl (lv_at hl 0 rfl) ?_
  refine lv_iload hx hb dL_law_274 (lv_at hl 5 rfl) ?_
  refine lv_iconst (v := 1) hx hb dL_law_276 (by decide) ?_
  refine lv_iadd hx hb dL_law_277 ?_
  refine pv_setI 1 (by decide) ?_
  refine va_sld hx hb hX hbl hbA hS (by unfold vp_in; decide) dL_law_278 ?_
  refine pv_setI (xs 1) rfl ?_
  refine lv_aload_n hx hb dL_law_279 rfl (lv_at hl 0 rfl) ?_
  refine lv_iload hx hb dL_law_280 (lv_at hl 5 rfl) ?_
  refine lv_iconst (v := 2) hx hb dL_law_282 (by decide) ?_
  refine lv_iadd hx hb dL_law_283 ?_
  refine pv_setI 2 (by decide) ?_
  refine va_sld hx hb hX hbl hbA hS (by unfold vp_in; decide) dL_law_284 ?_
  refine pv_setI (xs 2) rfl ?_
  refine pv_pc 285 rfl ?_
  refine lv_aload_n hx hb dL_law_285 rfl (lv_at hl 3 rfl) ?_
  have hF := va_free (wc := [(x0, .inr (0, [.ref (xq 0), .int 0, .int 108, .ref (xq 1), .int 0, .ref (xq 2), .int 0, .ref (xq 3), .ref (xq 4), .int 1, .ref (xq 5), .ref (xq 6), .ref (xq 7), .ref (xq 8), .ref (xq 9)])), ((xq 6), .inr (2, [.ref (xw 0), .ref (xw 1), .ref (xw 2), .ref (xw 3), .int 0, .int 0])), ((xw 2), .inl (xJ, 64, .inr (.inl (fun _ => 0)))), ((xq 0), .inl (xP, 60, .inr (.inr (.inr (.inr (fun _ => none)))))), (o0, .inl (oL, 1, .inr (.inl (fun _ => 0))))]) hD hS hA [0, 1, 2, 3, 7] rfl
  refine va_calli (vx_runSW (As := [.ref x0, .int (xs 1), .int (xs 2), .ref o0]) (rest := []) ⟨hx, hb, hml, hown, hts⟩ (c_L_constant l hfl D _ x0 xq xw xJ xP (fun _ => 0) oL (xs 1) (xs 2) o0 (fun _ => 0)) (vx_cwSW 4 hts (pv_gSW w4_136 w4_137 w1_0 w4_138) rfl rfl rfl (by decide +kernel) ⟨Nat.le_of_ble_eq_true rfl, Nat.le_of_ble_eq_true rfl⟩) (pv_ps hE hS hF (hP.sub [0, 1, 2, 3, 7] rfl) (hK.sub [0, 1, 4] rfl) (hD.sub [0, 1, 2, 3, 7] (by decide) rfl)) rfl rfl hl.1 rfl (lv_room (Nat.le_of_ble_eq_true rfl)) dL_law_286 ⟨Nat.le_of_ble_eq_true rfl, Nat.le_of_ble_eq_true rfl⟩) hS (fun q _ h => hF q h) hF (fun r_0 u t H1 locs1 ht hvm hw hB hz1 hk1 hS => ?_)
  refine W.widen (k := 400) (n := 653830) (Nat.le_of_ble_eq_true rfl) (Nat.le_of_ble_eq_true rfl) ?_
  obtain ⟨f_2, hf_3, hP1, hK1, hD1⟩ := hB
  rw [ht] at hP1
  have hK1 := va_K.moved hvm.symm hK1
  obtain ⟨hP, hD⟩ := va_join (wr := [(m0, .inr (1, pv_m 0 mq)), ((mq 0), .inl (mI, 60, .inl (fun _ => 0))), ((mq 1), .inl (mT, 60, .inr (.inr (.inr (.inr (fun _ => none))))))]) (w1 := [(o0, .inl (oL, 1, .inr (.inl f_2)))]) hP hD [0, 1, 2, 3, 7] [4, 5, 6] rfl rfl (by decide) (by decide) hk1 hF hP1 hD1
  have hP : va_P D pv_cl [(m0, .inr (1, pv_m 0 mq)), ((mq 0), .inl (mI, 60, .inl (fun _ => 0))), ((mq 1), .inl (mT, 60, .inr (.inr (.inr (.inr (fun _ => none)))))), (o0, .inl (oL, 1, .inr (.inl f_2)))] _ := hP
  have hD : va_D A [(m0, .inr (1, pv_m 0 mq)), ((mq 0), .inl (mI, 60, .inl (fun _ => 0))), ((mq 1), .inl (mT, 60, .inr (.inr (.inr (.inr (fun _ => none)))))), (o0, .inl (oL, 1, .inr (.inl f_2)))] := hD
  rcases hw with ⟨rfl, hu, hc⟩ | ⟨rfl, hn⟩
  · refine lv_istore (lv' := [(6, .int 0), (0, .ref b), (1, .ref x0), (2, .ref m0), (3, .ref o0), (4, .ref d0), (5, .int 0)]) hx hb dL_law_289 hl (by decide) rfl (fun ls hl => ?_)
    refine lv_aload_n hx hb dL_law_291 rfl (lv_at hl 3 rfl) ?_
    refine lv_aload_n hx hb dL_law_292 rfl (lv_at hl 1 rfl) ?_
    refine lv_iload hx hb dL_law_293 (lv_at hl 6 rfl) ?_
    refine lv_iconst (v := 1) hx hb dL_law_295 (by decide) ?_
    refine lv_iadd hx hb dL_law_296 ?_
    refine pv_setI 1 (by decide) ?_
    refine va_sld hx hb hX hbl hbA hS (by unfold vp_in; decide) dL_law_297 ?_
    refine pv_setI (xs 1) rfl ?_
    refine lv_aload_n hx hb dL_law_298 rfl (lv_at hl 1 rfl) ?_
    refine lv_iload hx hb dL_law_299 (lv_at hl 6 rfl) ?_
    refine lv_iconst (v := 2) hx hb dL_law_301 (by decide) ?_
    refine pv_pc 302 rfl ?_
    refine lv_iadd hx hb dL_law_302 ?_
    refine pv_setI 2 (by decide) ?_
    refine va_sld hx hb hX hbl hbA hS (by unfold vp_in; decide) dL_law_303 ?_
    refine pv_setI (xs 2) rfl ?_
    have hF := va_free (wc := [(m0, .inr (1, pv_m 0 mq)), ((mq 0), .inl (mI, 60, .inl (fun _ => 0))), ((mq 1), .inl (mT, 60, .inr (.inr (.inr (.inr (fun _ => none))))))]) hD hS hA [0, 1, 2] rfl
    refine va_calli (va_runV (As := [.int (xs 1), .int (xs 2)]) (rest := []) ⟨hx, hb, hml, hown, hts⟩ (c_X13_constant l hfl D _ m0 mq mI mT (xs 1) (xs 2)) (cwV 2 hts (pv_gV w9_106 w9_107 w9_108 w1_10 w9_109) rfl rfl rfl (by decide +kernel) ⟨Nat.le_of_ble_eq_true rfl, Nat.le_of_ble_eq_true rfl⟩) (pv_pV hE hS hF (hP.sub [0, 1, 2] rfl) (hK.sub [2, 3] rfl) (hD.sub [0, 1, 2] (by decide) rfl) (va_recv (ci := 1) (q0 := 0) hK hP rfl rfl)) rfl rfl hl.1 rfl (lv_room (Nat.le_of_ble_eq_true rfl)) dL_law_304 ⟨Nat.le_of_ble_eq_true rfl, Nat.le_of_ble_eq_true rfl⟩) hS (fun q _ h => hF q h) hF (fun r_3 u t H1 locs1 ht hvm hw hB hz1 hk1 hS => ?_)
    refine W.widen (k := 403) (n := 653834) (Nat.le_of_ble_eq_true rfl) (Nat.le_of_ble_eq_true rfl) ?_
    obtain ⟨fs_5, hf_6, hP1, hK1, hD1⟩ := hB
    rw [ht] at hP1
    have hK1 := va_K.moved hvm.symm hK1
    obtain ⟨hP, hD⟩ := va_join (wr := [(o0, .inl (oL, 1, .inr (.inl f_2)))]) (w1 := [(m0, .inr (1, fs_5))]) hP hD [0, 1, 2] [3] rfl rfl (by decide) (by decide) hk1 hF hP1 hD1
    have hP : va_P D pv_cl [(o0, .inl (oL, 1, .inr (.inl f_2))), (m0, .inr (1, fs_5))] _ := hP
    have hD : va_D A [(o0, .inl (oL, 1, .inr (.inl f_2))), (m0, .inr (1, fs_5))] := hD
    rcases hw with ⟨rfl, rfl, a_7⟩ | ⟨rfl, a_7⟩
    · have hP : va_P D pv_cl [(o0, .inl (oL, 1, .inr (.inl f_2))), (m0, .inr (1, fs_5))] _ := hP
      have hD : va_D A [(o0, .inl (oL, 1, .inr (.inl f_2))), (m0, .inr (1, fs_5))] := hD
      refine lv_istore (lv' := [(7, .int 0), (6, .int 0), (0, .ref b), (1, .ref x0), (2, .ref m0), (3, .ref o0), (4, .ref d0), (5, .int 0)]) hx hb dL_law_307 hl (by decide) rfl (fun ls hl => ?_)
      refine lv_aload_n hx hb dL_law_309 rfl (lv_at hl 4 rfl) ?_
      have hF := pv_new hA hS.1
      refine va_calli (va_runV (As := []) (rest := []) ⟨hx, hb, hml, hown, hts⟩ (c_X13_thrown l hfl D _ m0 fs_5 0 hf_6) (cwV 0 hts (pv_gV w9_102 w9_103 w9_104 w1_10 w9_105) rfl rfl rfl (by decide +kernel) ⟨Nat.le_of_ble_eq_true rfl, Nat.le_of_ble_eq_true rfl⟩) (pv_pV hE hS hF (hP.sub [1] rfl) (hK.sub [] rfl) (hD.sub [1] (by decide) rfl) (va_recv (ci := 1) (q0 := 1) hK hP rfl rfl)) rfl rfl hl.1 rfl (lv_room (Nat.le_of_ble_eq_true rfl)) dL_law_310 ⟨Nat.le_of_ble_eq_true rfl, Nat.le_of_ble_eq_true rfl⟩) hS (fun q _ h => hF q h) hF (fun r_7 u t H1 locs1 ht hvm hw hB hz1 hk1 hS => ?_)
      refine W.widen (k := 403) (n := 653834) (Nat.le_of_ble_eq_true rfl) (Nat.le_of_ble_eq_true rfl) ?_
      have hP := pv_keep hP rfl hk1
      subst hw
      refine lv_iload hx hb dL_law_313 (lv_at hl 1 rfl) ?_
      refine lv_icmp_eq (tgt := 320) hx hb dL_law_315 (by decide) (fun _ => ?_) (fun c_9 => absurd (by decide) c_9)
      refine lv_iload hx hb dL_law_320 (lv_at hl 1 rfl) ?_
      refine lv_if_ne (tgt := 337) hx hb dL_law_322 (by decide) (fun c_10 => absurd (by decide) c_10) (fun _ => ?_)
      refine lv_aload_n hx hb dL_law_325 rfl (lv_at hl 5 rfl) ?_
      refine lv_iconst (v := 0) hx hb dL_law_326 (by decide) ?_
      refine pv_pc 327 rfl ?_
      refine va_lald hx hb hK hP 0 4 rfl rfl (by unfold vp_in; decide) dL_law_327 ?_
      refine pv_setL 0 (hf_3.trans hu) ?_
      refine lv_iload hx hb dL_law_328 (lv_at hl 0 rfl) ?_
      refine lv_i2l (v := 0) hx hb dL_law_330 (by decide) ?_
      refine W.lcmp hx hb dL_law_331 ?_
      refine pv_setI 0 (by decide) ?_
      refine lv_if_eq (tgt := 337) hx hb dL_law_332 (by decide) (fun _ => ?_) (fun c_11 => absurd (by decide) c_11)
      refine lv_goto (tgt := 3721) hx hb dL_law_337 (by decide) ?_
      refine lv_iinc (v := 7) (lv' := [(5, .int 7), (7, .int 0), (6, .int 0), (0, .ref b), (1, .ref x0), (2, .ref m0), (3, .ref o0), (4, .ref d0)]) hx hb dL_law_3721 hl (k := 7) rfl (by decide) (by decide) rfl (fun ls hl => ?_)
      refine lv_goto (tgt := 28) hx hb dL_law_3724 (by decide) ?_
      refine lv_iload hx hb dL_law_28 (lv_at hl 0 rfl) ?_
      refine lv_aload_n hx hb dL_law_30 rfl (lv_at hl 3 rfl) ?_
      refine va_slen hx hb hX hbl hbA hS dL_law_31 ?_
      refine pv_setI 7 rfl ?_
      refine lv_bipush (v := 7) hx hb dL_law_32 (by decide) ?_
      refine pv_pc 34 rfl ?_
      refine lv_isub hx hb dL_law_34 ?_
      refine pv_setI 0 (by decide) ?_
      refine lv_icmp_gt (tgt := 3727) hx hb dL_law_35 (by decide) (fun _ => ?_) (fun c_12 => absurd (by decide) c_12)
      refine lv_iconst (v := 1) hx hb dL_law_3727 (by decide) ?_
      refine va_forget (fun q hq => hAf _ (hS.2.2 q hq)) ?_
      refine W.widen (k := 600006) (n := 7302064) (Nat.le_of_ble_eq_true rfl) (Nat.le_of_ble_eq_true rfl) ?_
      exact lw_ret (d0 := s.drawn) (Drawn.sameBut.refl s.drawn lw_cs) hx hb hr hlocks dL_law_3728
    · exact absurd hc a_7
  · refine lv_istore (lv' := [(6, .int 1), (0, .ref b), (1, .ref x0), (2, .ref m0), (3, .ref o0), (4, .ref d0), (5, .int 0)]) hx hb dL_law_289 hl (by decide) rfl (fun ls hl => ?_)
    refine lv_aload_n hx hb dL_law_291 rfl (lv_at hl 3 rfl) ?_
    refine lv_aload_n hx hb dL_law_292 rfl (lv_at hl 1 rfl) ?_
    refine lv_iload hx hb dL_law_293 (lv_at hl 6 rfl) ?_
    refine lv_iconst (v := 1) hx hb dL_law_295 (by decide) ?_
    refine lv_iadd hx hb dL_law_296 ?_
    refine pv_setI 1 (by decide) ?_
    refine va_sld hx hb hX hbl hbA hS (by unfold vp_in; decide) dL_law_297 ?_
    refine pv_setI (xs 1) rfl ?_
    refine lv_aload_n hx hb dL_law_298 rfl (lv_at hl 1 rfl) ?_
    refine lv_iload hx hb dL_law_299 (lv_at hl 6 rfl) ?_
    refine lv_iconst (v := 2) hx hb dL_law_301 (by decide) ?_
    refine pv_pc 302 rfl ?_
    refine lv_iadd hx hb dL_law_302 ?_
    refine pv_setI 2 (by decide) ?_
    refine va_sld hx hb hX hbl hbA hS (by unfold vp_in; decide) dL_law_303 ?_
    refine pv_setI (xs 2) rfl ?_
    have hF := va_free (wc := [(m0, .inr (1, pv_m 0 mq)), ((mq 0), .inl (mI, 60, .inl (fun _ => 0))), ((mq 1), .inl (mT, 60, .inr (.inr (.inr (.inr (fun _ => none))))))]) hD hS hA [0, 1, 2] rfl
    refine va_calli (va_runV (As := [.int (xs 1), .int (xs 2)]) (rest := []) ⟨hx, hb, hml, hown, hts⟩ (c_X13_constant l hfl D _ m0 mq mI mT (xs 1) (xs 2)) (cwV 2 hts (pv_gV w9_106 w9_107 w9_108 w1_10 w9_109) rfl rfl rfl (by decide +kernel) ⟨Nat.le_of_ble_eq_true rfl, Nat.le_of_ble_eq_true rfl⟩) (pv_pV hE hS hF (hP.sub [0, 1, 2] rfl) (hK.sub [2, 3] rfl) (hD.sub [0, 1, 2] (by decide) rfl) (va_recv (ci := 1) (q0 := 0) hK hP rfl rfl)) rfl rfl hl.1 rfl (lv_room (Nat.le_of_ble_eq_true rfl)) dL_law_304 ⟨Nat.le_of_ble_eq_true rfl, Nat.le_of_ble_eq_true rfl⟩) hS (fun q _ h => hF q h) hF (fun r_12 u t H1 locs1 ht hvm hw hB hz1 hk1 hS => ?_)
    refine W.widen (k := 403) (n := 653834) (Nat.le_of_ble_eq_true rfl) (Nat.le_of_ble_eq_true rfl) ?_
    obtain ⟨fs_14, hf_15, hP1, hK1, hD1⟩ := hB
    rw [ht] at hP1
    have hK1 := va_K.moved hvm.symm hK1
    obtain ⟨hP, hD⟩ := va_join (wr := [(o0, .inl (oL, 1, .inr (.inl f_2)))]) (w1 := [(m0, .inr (1, fs_14))]) hP hD [0, 1, 2] [3] rfl rfl (by decide) (by decide) hk1 hF hP1 hD1
    have hP : va_P D pv_cl [(o0, .inl (oL, 1, .inr (.inl f_2))), (m0, .inr (1, fs_14))] _ := hP
    have hD : va_D A [(o0, .inl (oL, 1, .inr (.inl f_2))), (m0, .inr (1, fs_14))] := hD
    rcases hw with ⟨rfl, rfl, a_16⟩ | ⟨rfl, a_16⟩
    · exact absurd a_16 hn
    · have hP : va_P D pv_cl [(o0, .inl (oL, 1, .inr (.inl f_2))), (m0, .inr (1, fs_14))] _ := hP
      have hD : va_D A [(o0, .inl (oL, 1, .inr (.inl f_2))), (m0, .inr (1, fs_14))] := hD
      refine lv_istore (lv' := [(7, .int r_12), (6, .int 1), (0, .ref b), (1, .ref x0), (2, .ref m0), (3, .ref o0), (4, .ref d0), (5, .int 0)]) hx hb dL_law_307 hl (by decide) rfl (fun ls hl => ?_)
      refine lv_aload_n hx hb dL_law_309 rfl (lv_at hl 4 rfl) ?_
      have hF := pv_new hA hS.1
      refine va_calli (va_runV (As := []) (rest := []) ⟨hx, hb, hml, hown, hts⟩ (c_X13_thrown l hfl D _ m0 fs_14 1 hf_15) (cwV 0 hts (pv_gV w9_102 w9_103 w9_104 w1_10 w9_105) rfl rfl rfl (by decide +kernel) ⟨Nat.le_of_ble_eq_true rfl, Nat.le_of_ble_eq_true rfl⟩) (pv_pV hE hS hF (hP.sub [1] rfl) (hK.sub [] rfl) (hD.sub [1] (by decide) rfl) (va_recv (ci := 1) (q0 := 1) hK hP rfl rfl)) rfl rfl hl.1 rfl (lv_room (Nat.le_of_ble_eq_true rfl)) dL_law_310 ⟨Nat.le_of_ble_eq_true rfl, Nat.le_of_ble_eq_true rfl⟩) hS (fun q _ h => hF q h) hF (fun r_16 u t H1 locs1 ht hvm hw hB hz1 hk1 hS => ?_)
      refine W.widen (k := 403) (n := 653834) (Nat.le_of_ble_eq_true rfl) (Nat.le_of_ble_eq_true rfl) ?_
      have hP := pv_keep hP rfl hk1
      subst hw
      refine lv_iload hx hb dL_law_313 (lv_at hl 1 rfl) ?_
      refine lv_icmp_eq (tgt := 320) hx hb dL_law_315 (by decide) (fun _ => ?_) (fun c_18 => absurd (by decide) c_18)
      refine lv_iload hx hb dL_law_320 (lv_at hl 1 rfl) ?_
      refine lv_if_ne (tgt := 337) hx hb dL_law_322 (by decide) (fun _ => ?_) (fun c_19 => absurd c_19 (by decide))
      refine lv_goto (tgt := 3721) hx hb dL_law_337 (by decide) ?_
      refine lv_iinc (v := 7) (lv' := [(5, .int 7), (7, .int r_12), (6, .int 1), (0, .ref b), (1, .ref x0), (2, .ref m0), (3, .ref o0), (4, .ref d0)]) hx hb dL_law_3721 hl (k := 7) rfl (by decide) (by decide) rfl (fun ls hl => ?_)
      refine pv_pc 3724 rfl ?_
      refine lv_goto (tgt := 28) hx hb dL_law_3724 (by decide) ?_
      refine lv_iload hx hb dL_law_28 (lv_at hl 0 rfl) ?_
      refine lv_aload_n hx hb dL_law_30 rfl (lv_at hl 3 rfl) ?_
      refine va_slen hx hb hX hbl hbA hS dL_law_31 ?_
      refine pv_setI 7 rfl ?_
      refine lv_bipush (v := 7) hx hb dL_law_32 (by decide) ?_
      refine lv_isub hx hb dL_law_34 ?_
      refine pv_setI 0 (by decide) ?_
      refine lv_icmp_gt (tgt := 3727) hx hb dL_law_35 (by decide) (fun _ => ?_) (fun c_20 => absurd (by decide) c_20)
      refine lv_iconst (v := 1) hx hb dL_law_3727 (by decide) ?_
      refine va_forget (fun q hq => hAf _ (hS.2.2 q hq)) ?_
      refine W.widen (k := 600006) (n := 7302064) (Nat.le_of_ble_eq_true rfl) (Nat.le_of_ble_eq_true rfl) ?_
      exact lw_ret (d0 := s.drawn) (Drawn.sameBut.refl s.drawn lw_cs) hx hb hr hlocks dL_law_3728

theorem dL_law_340 : decode cL_law 340 = .ok (.aload_n 1, 1) := by decide +kernel
theorem dL_law_341 : decode cL_law 341 = .ok (.aload_n 0, 1) := by decide +kernel
theorem dL_law_342 : decode cL_law 342 = .ok (.iload 5, 2) := by decide +kernel
theorem dL_law_344 : decode cL_law 344 = .ok (.iconst 1, 1) := by decide +kernel
theorem dL_law_345 : decode cL_law 345 = .ok (.iadd, 1) := by decide +kernel
theorem dL_law_346 : decode cL_law 346 = .ok (.iaload, 1) := by decide +kernel
theorem dL_law_347 : decode cL_law 347 = .ok (.aload_n 0, 1) := by decide +kernel
theorem dL_law_348 : decode cL_law 348 = .ok (.iload 5, 2) := by decide +kernel
theorem dL_law_350 : decode cL_law 350 = .ok (.iconst 2, 1) := by decide +kernel
theorem dL_law_351 : decode cL_law 351 = .ok (.iadd, 1) := by decide +kernel
theorem dL_law_352 : decode cL_law 352 = .ok (.iaload, 1) := by decide +kernel
theorem dL_law_353 : decode cL_law 353 = .ok (.aload_n 3, 1) := by decide +kernel
theorem dL_law_354 : decode cL_law 354 = .ok (.invokestatic 202, 3) := by decide +kernel
theorem w5_49 : (Jvm.Cond.methodLink "PolyforgeLaw" (202 : Nat) ({ cls := "PolyforgeLaw", name := "variable", desc := "(LPolyforge;II[J)I" } : Jvm.MethodName)) ∈ lw_tbl := pv_t5 (pv_mg 49 rfl)
theorem w5_51 : (Jvm.Cond.codeWith ({ cls := "PolyforgeLaw", name := "variable", desc := "(LPolyforge;II[J)I" } : Jvm.MethodName) method_4_code (5 : Nat) (Option.some Jvm.ClassFile.FieldType.int) [((0 : Nat), (10 : Nat), (13 : Nat), (13 : Nat)), ((0 : Nat), (10 : Nat), (17 : Nat), (15 : Nat))]) ∈ lw_tbl := pv_t5 (pv_mg 51 rfl)
theorem w5_50 : (Jvm.Cond.static ({ cls := "PolyforgeLaw", name := "variable", desc := "(LPolyforge;II[J)I" } : Jvm.MethodName)) ∈ lw_tbl := pv_t5 (pv_mg 50 rfl)
theorem dL_law_357 : decode cL_law 357 = .ok (.istore 6, 2) := by decide +kernel
theorem dL_law_359 : decode cL_law 359 = .ok (.aload_n 2, 1) := by decide +kernel
theorem dL_law_360 : decode cL_law 360 = .ok (.aload_n 0, 1) := by decide +kernel
theorem dL_law_361 : decode cL_law 361 = .ok (.iload 5, 2) := by decide +kernel
theorem dL_law_363 : decode cL_law 363 = .ok (.iconst 1, 1) := by decide +kernel
theorem dL_law_364 : decode cL_law 364 = .ok (.iadd, 1) := by decide +kernel
theorem dL_law_365 : decode cL_law 365 = .ok (.iaload, 1) := by decide +kernel
theorem dL_law_366 : decode cL_law 366 = .ok (.aload_n 0, 1) := by decide +kernel
theorem dL_law_367 : decode cL_law 367 = .ok (.iload 5, 2) := by decide +kernel
theorem dL_law_369 : decode cL_law 369 = .ok (.iconst 2, 1) := by decide +kernel
theorem dL_law_370 : decode cL_law 370 = .ok (.iadd, 1) := by decide +kernel
theorem dL_law_371 : decode cL_law 371 = .ok (.iaload, 1) := by decide +kernel
theorem dL_law_372 : decode cL_law 372 = .ok (.invokevirtual 204, 3) := by decide +kernel
theorem w9_148 : (Jvm.Cond.methodLink "PolyforgeLaw" (204 : Nat) ({ cls := "PolyforgeModel", name := "variable", desc := "(II)I" } : Jvm.MethodName)) ∈ lw_tbl := pv_t9 (pv_mg 148 rfl)
theorem w9_151 : (Jvm.Cond.code ({ cls := "PolyforgeModel", name := "variable", desc := "(II)I" } : Jvm.MethodName) prog_14_method_29_code (3 : Nat) (Option.some Jvm.ClassFile.FieldType.int)) ∈ lw_tbl := pv_t9 (pv_mg 151 rfl)
theorem w9_150 : (Jvm.Cond.selects "PolyforgeModel" ({ cls := "PolyforgeModel", name := "variable", desc := "(II)I" } : Jvm.MethodName) ({ cls := "PolyforgeModel", name := "variable", desc := "(II)I" } : Jvm.MethodName)) ∈ lw_tbl := pv_t9 (pv_mg 150 rfl)
theorem w9_149 : (Jvm.Cond.instanceMethod ({ cls := "PolyforgeModel", name := "variable", desc := "(II)I" } : Jvm.MethodName)) ∈ lw_tbl := pv_t9 (pv_mg 149 rfl)
theorem dL_law_375 : decode cL_law 375 = .ok (.istore 7, 2) := by decide +kernel
theorem dL_law_377 : decode cL_law 377 = .ok (.aload_n 2, 1) := by decide +kernel
theorem dL_law_378 : decode cL_law 378 = .ok (.invokevirtual 199, 3) := by decide +kernel
theorem dL_law_381 : decode cL_law 381 = .ok (.iload 6, 2) := by decide +kernel
theorem dL_law_383 : decode cL_law 383 = .ok (.if_icmp .eq 5, 3) := by decide +kernel
theorem dL_law_388 : decode cL_law 388 = .ok (.iload 6, 2) := by decide +kernel
theorem dL_law_390 : decode cL_law 390 = .ok (.ifCond .ne 15, 3) := by decide +kernel
theorem dL_law_393 : decode cL_law 393 = .ok (.aload_n 3, 1) := by decide +kernel
theorem dL_law_394 : decode cL_law 394 = .ok (.iconst 0, 1) := by decide +kernel
theorem dL_law_395 : decode cL_law 395 = .ok (.laload, 1) := by decide +kernel
theorem dL_law_396 : decode cL_law 396 = .ok (.iload 7, 2) := by decide +kernel
theorem dL_law_398 : decode cL_law 398 = .ok (.i2l, 1) := by decide +kernel
theorem dL_law_399 : decode cL_law 399 = .ok (.lcmp, 1) := by decide +kernel
theorem dL_law_400 : decode cL_law 400 = .ok (.ifCond .eq 5, 3) := by decide +kernel
theorem dL_law_405 : decode cL_law 405 = .ok (.goto 3316, 3) := by decide +kernel
set_option maxHeartbeats 4000000 in
set_option maxRecDepth 100000 in
/-- the law, call 1: variable -/
theorem law_case_1 {p : Program} {e : Env} {s : State} {m : MethodId} {below : List Frame} {meth : Method} {c : Code} (l : Launch) (hfl : l.stackTraces = false) {b : Nat} {xs : Nat → Int32} (C0 : lw_At p s m meth c b 7 xs) {D : va_G} {A : Nat → Prop} (hA : ∀ q : Nat, s.heap.size ≤ q → A q) (hAf : ∀ q : Nat, A q → s.heap.size ≤ q) (hbA : ¬ A b) (hE : pv_E A s s.heap) {x0 m0 o0 d0 : Nat} {xq xw mq : Nat → Nat} {xJ xP xO xC xI mI mI2 mI3 mT mC oL : ClassId} {xsg xsf msg msf : Nat → Int32} (hxsg : ∀ j, j < 3 → xsg j = 63) (hmsg : ∀ j, j < 3 → msg j = 63) {H : Heap} {locs : List Loc} (hK : va_K D pv_cl [(xJ, .long), (xP, .object "Polyforge$Polynomial"), (xO, .object "Polyforge$Ideal"), (xC, .char), (xI, .int), (mI, .int), (mT, .object "PolyforgeModel$Terms"), (mI2, .int), (mC, .char), (mI3, .int), (oL, .long)] s) (hP : va_P D pv_cl [(x0, .inr (0, [.ref (xq 0), .int 0, .int 108, .ref (xq 1), .int 0, .ref (xq 2), .int 0, .ref (xq 3), .ref (xq 4), .int 1, .ref (xq 5), .ref (xq 6), .ref (xq 7), .ref (xq 8), .ref (xq 9)])), ((xq 6), .inr (2, [.ref (xw 0), .ref (xw 1), .ref (xw 2), .ref (xw 3), .int 0, .int 0])), ((xw 2), .inl (xJ, 64, .inr (.inl (fun _ => 0)))), ((xq 0), .inl (xP, 60, .inr (.inr (.inr (.inr (fun _ => none)))))), ((xq 1), .inl (xO, 5, .inr (.inr (.inr (.inr (fun _ => none)))))), ((xq 3), .inl (xC, 3, .inl xsg)), ((xq 4), .inl (xI, 3, .inl xsf)), (m0, .inr (1, pv_m 0 mq)), ((mq 0), .inl (mI, 60, .inl (fun _ => 0))), ((mq 1), .inl (mT, 60, .inr (.inr (.inr (.inr (fun _ => none)))))), ((mq 2), .inl (mI2, 5, .inl (fun _ => 0))), ((mq 9), .inl (mC, 3, .inl msg)), ((mq 10), .inl (mI3, 3, .inl msf)), (o0, .inl (oL, 1, .inr (.inl (fun _ => 0))))] H) (hD : va_D A [(x0, .inr (0, [.ref (xq 0), .int 0, .int 108, .ref (xq 1), .int 0, .ref (xq 2), .int 0, .ref (xq 3), .ref (xq 4), .int 1, .ref (xq 5), .ref (xq 6), .ref (xq 7), .ref (xq 8), .ref (xq 9)])), ((xq 6), .inr (2, [.ref (xw 0), .ref (xw 1), .ref (xw 2), .ref (xw 3), .int 0, .int 0])), ((xw 2), .inl (xJ, 64, .inr (.inl (fun _ => 0)))), ((xq 0), .inl (xP, 60, .inr (.inr (.inr (.inr (fun _ => none)))))), ((xq 1), .inl (xO, 5, .inr (.inr (.inr (.inr (fun _ => none)))))), ((xq 3), .inl (xC, 3, .inl xsg)), ((xq 4), .inl (xI, 3, .inl xsf)), (m0, .inr (1, pv_m 0 mq)), ((mq 0), .inl (mI, 60, .inl (fun _ => 0))), ((mq 1), .inl (mT, 60, .inr (.inr (.inr (.inr (fun _ => none)))))), ((mq 2), .inl (mI2, 5, .inl (fun _ => 0))), ((mq 9), .inl (mC, 3, .inl msg)), ((mq 10), .inl (mI3, 3, .inl msf)), (o0, .inl (oL, 1, .inr (.inl (fun _ => 0))))]) (hS : va_S A s.heap H locs) {ls : Array Slot} (hl : lv_has ls 9 [(0, .ref b), (1, .ref x0), (2, .ref m0), (3, .ref o0), (4, .ref d0), (5, .int 0)]) : W p l e room_1 s m #[Value.ref b] below meth c H locs 397 653821 (lw_Z below #[Value.ref b] s) (F0 m 340 ls []) := by
  obtain ⟨hx, hb, hr, hml, hown, hts0, hX, hbl, hlocks, hgv⟩ := C0
  have hts : ∀ w ∈ pv_W, w.before #[Value.ref b] s = true := fun w h => hts0 w (List.mem_filter.mp h).1
  have hg := fun {w : Cond} (h : w ∈ lw_tbl) (g : goodWord w = true) => hts w (pv_in h g)
  have hP : va_P D pv_cl [(x0, .inr (0, [.ref (xq 0), .int 0, .int 108, .ref (xq 1), .int 0, .ref (xq 2), .int 0, .ref (xq 3), .ref (xq 4), .int 1, .ref (xq 5), .ref (xq 6), .ref (xq 7), .ref (xq 8), .ref (xq 9)])), ((xq 6), .inr (2, [.ref (xw 0), .ref (xw 1), .ref (xw 2), .ref (xw 3), .int 0, .int 0])), ((xw 2), .inl (xJ, 64, .inr (.inl (fun _ => 0)))), ((xq 0), .inl (xP, 60, .inr (.inr (.inr (.inr (fun _ => none)))))), (m0, .inr (1, pv_m 0 mq)), ((mq 0), .inl (mI, 60, .inl (fun _ => 0))), ((mq 1), .inl (mT, 60, .inr (.inr (.inr (.inr (fun _ => none)))))), (o0, .inl (oL, 1, .inr (.inl (fun _ => 0))))] _ := hP.sub [0, 1, 2, 3, 7, 8, 9, 13] rfl
  have hD : va_D A [(x0, .inr (0, [.ref (xq 0), .int 0, .int 108, .ref (xq 1), .int 0, .ref (xq 2), .int 0, .ref (xq 3), .ref (xq 4), .int 1, .ref (xq 5), .ref (xq 6), .ref (xq 7), .ref (xq 8), .ref (xq 9)])), ((xq 6), .inr (2, [.ref (xw 0), .ref (xw 1), .ref (xw 2), .ref (xw 3), .int 0, .int 0])), ((xw 2), .inl (xJ, 64, .inr (.inl (fun _ => 0)))), ((xq 0), .inl (xP, 60, .inr (.inr (.inr (.inr (fun _ => none)))))), (m0, .inr (1, pv_m 0 mq)), ((mq 0), .inl (mI, 60, .inl (fun _ => 0))), ((mq 1), .inl (mT, 60, .inr (.inr (.inr (.inr (fun _ => none)))))), (o0, .inl (oL, 1, .inr (.inl (fun _ => 0))))] := hD.sub [0, 1, 2, 3, 7, 8, 9, 13] (by decide) rfl
  have hK : va_K D pv_cl [(xJ, .long), (xP, .object "Polyforge$Polynomial"), (mI, .int), (mT, .object "PolyforgeModel$Terms"), (oL, .long)] s := hK.sub [0, 1, 5, 6, 10] rfl
  refine lv_aload_n hx hb dL_law_340 rfl (lv_at hl 1 rfl) ?_
  refine lv_aload_n hx hb dL_law_341 rfl (lv_at hl 0 rfl) ?_
  refine lv_iload hx hb dL_law_342 (lv_at hl 5 rfl) ?_
  refine lv_iconst (v := 1) hx hb dL_law_344 (by decide) ?_
  refine lv_iadd hx hb dL_law_345 ?_
  refine pv_setI 1 (by decide) ?_
  refine va_sld hx hb hX hbl hbA hS (by unfold vp_in; decide) dL_law_346 ?_
  refine pv_setI (xs 1) rfl ?_
  refine lv_aload_n hx hb dL_law_347 rfl (lv_at hl 0 rfl) ?_
  refine lv_iload hx hb dL_law_348 (lv_at hl 5 rfl) ?_
  refine lv_iconst (v := 2) hx hb dL_law_350 (by decide) ?_
  refine lv_iadd hx hb dL_law_351 ?_
  refine pv_setI 2 (by decide) ?_
  refine va_sld hx hb hX hbl hbA hS (by unfold vp_in; decide) dL_law_352 ?_
  refine pv_setI (xs 2) rfl ?_
  refine pv_pc 353 rfl ?_
  refine lv_aload_n hx hb dL_law_353 rfl (lv_at hl 3 rfl) ?_
  have hF := va_free (wc := [(x0, .inr (0, [.ref (xq 0), .int 0, .int 108, .ref (xq 1), .int 0, .ref (xq 2), .int 0, .ref (xq 3), .ref (xq 4), .int 1, .ref (xq 5), .ref (xq 6), .ref (xq 7), .ref (xq 8), .ref (xq 9)])), ((xq 6), .inr (2, [.ref (xw 0), .ref (xw 1), .ref (xw 2), .ref (xw 3), .int 0, .int 0])), ((xw 2), .inl (xJ, 64, .inr (.inl (fun _ => 0)))), ((xq 0), .inl (xP, 60, .inr (.inr (.inr (.inr (fun _ => none)))))), (o0, .inl (oL, 1, .inr (.inl (fun _ => 0))))]) hD hS hA [0, 1, 2, 3, 7] rfl
  refine va_calli (vx_runSW (As := [.ref x0, .int (xs 1), .int (xs 2), .ref o0]) (rest := []) ⟨hx, hb, hml, hown, hts⟩ (c_L_variable l hfl D _ x0 xq xw xJ xP (fun _ => 0) oL (xs 1) (xs 2) o0 (fun _ => 0)) (vx_cwSW 4 hts (pv_gSW w5_49 w5_50 w1_0 w5_51) rfl rfl rfl (by decide +kernel) ⟨Nat.le_of_ble_eq_true rfl, Nat.le_of_ble_eq_true rfl⟩) (pv_ps hE hS hF (hP.sub [0, 1, 2, 3, 7] rfl) (hK.sub [0, 1, 4] rfl) (hD.sub [0, 1, 2, 3, 7] (by decide) rfl)) rfl rfl hl.1 rfl (lv_room (Nat.le_of_ble_eq_true rfl)) dL_law_354 ⟨Nat.le_of_ble_eq_true rfl, Nat.le_of_ble_eq_true rfl⟩) hS (fun q _ h => hF q h) hF (fun r_0 u t H1 locs1 ht hvm hw hB hz1 hk1 hS => ?_)
  refine W.widen (k := 401) (n := 653836) (Nat.le_of_ble_eq_true rfl) (Nat.le_of_ble_eq_true rfl) ?_
  obtain ⟨f_2, hf_3, hP1, hK1, hD1⟩ := hB
  rw [ht] at hP1
  have hK1 := va_K.moved hvm.symm hK1
  obtain ⟨hP, hD⟩ := va_join (wr := [(m0, .inr (1, pv_m 0 mq)), ((mq 0), .inl (mI, 60, .inl (fun _ => 0))), ((mq 1), .inl (mT, 60, .inr (.inr (.inr (.inr (fun _ => none))))))]) (w1 := [(o0, .inl (oL, 1, .inr (.inl f_2)))]) hP hD [0, 1, 2, 3, 7] [4, 5, 6] rfl rfl (by decide) (by decide) hk1 hF hP1 hD1
  have hP : va_P D pv_cl [(m0, .inr (1, pv_m 0 mq)), ((mq 0), .inl (mI, 60, .inl (fun _ => 0))), ((mq 1), .inl (mT, 60, .inr (.inr (.inr (.inr (fun _ => none)))))), (o0, .inl (oL, 1, .inr (.inl f_2)))] _ := hP
  have hD : va_D A [(m0, .inr (1, pv_m 0 mq)), ((mq 0), .inl (mI, 60, .inl (fun _ => 0))), ((mq 1), .inl (mT, 60, .inr (.inr (.inr (.inr (fun _ => none)))))), (o0, .inl (oL, 1, .inr (.inl f_2)))] := hD
  rcases hw with ⟨rfl, hu, hc⟩ | ⟨rfl, hn⟩
  · refine lv_istore (lv' := [(6, .int 0), (0, .ref b), (1, .ref x0), (2, .ref m0), (3, .ref o0), (4, .ref d0), (5, .int 0)]) hx hb dL_law_357 hl (by decide) rfl (fun ls hl => ?_)
    refine lv_aload_n hx hb dL_law_359 rfl (lv_at hl 3 rfl) ?_
    refine lv_aload_n hx hb dL_law_360 rfl (lv_at hl 1 rfl) ?_
    refine lv_iload hx hb dL_law_361 (lv_at hl 6 rfl) ?_
    refine lv_iconst (v := 1) hx hb dL_law_363 (by decide) ?_
    refine lv_iadd hx hb dL_law_364 ?_
    refine pv_setI 1 (by decide) ?_
    refine va_sld hx hb hX hbl hbA hS (by unfold vp_in; decide) dL_law_365 ?_
    refine pv_setI (xs 1) rfl ?_
    refine lv_aload_n hx hb dL_law_366 rfl (lv_at hl 1 rfl) ?_
    refine lv_iload hx hb dL_law_367 (lv_at hl 6 rfl) ?_
    refine lv_iconst (v := 2) hx hb dL_law_369 (by decide) ?_
    refine pv_pc 370 rfl ?_
    refine lv_iadd hx hb dL_law_370 ?_
    refine pv_setI 2 (by decide) ?_
    refine va_sld hx hb hX hbl hbA hS (by unfold vp_in; decide) dL_law_371 ?_
    refine pv_setI (xs 2) rfl ?_
    have hF := va_free (wc := [(m0, .inr (1, pv_m 0 mq)), ((mq 0), .inl (mI, 60, .inl (fun _ => 0))), ((mq 1), .inl (mT, 60, .inr (.inr (.inr (.inr (fun _ => none))))))]) hD hS hA [0, 1, 2] rfl
    refine va_calli (va_runV (As := [.int (xs 1), .int (xs 2)]) (rest := []) ⟨hx, hb, hml, hown, hts⟩ (c_X13_variable l hfl D _ m0 mq mI mT (xs 1) (xs 2)) (cwV 2 hts (pv_gV w9_148 w9_149 w9_150 w1_10 w9_151) rfl rfl rfl (by decide +kernel) ⟨Nat.le_of_ble_eq_true rfl, Nat.le_of_ble_eq_true rfl⟩) (pv_pV hE hS hF (hP.sub [0, 1, 2] rfl) (hK.sub [2, 3] rfl) (hD.sub [0, 1, 2] (by decide) rfl) (va_recv (ci := 1) (q0 := 0) hK hP rfl rfl)) rfl rfl hl.1 rfl (lv_room (Nat.le_of_ble_eq_true rfl)) dL_law_372 ⟨Nat.le_of_ble_eq_true rfl, Nat.le_of_ble_eq_true rfl⟩) hS (fun q _ h => hF q h) hF (fun r_3 u t H1 locs1 ht hvm hw hB hz1 hk1 hS => ?_)
    refine W.widen (k := 404) (n := 653840) (Nat.le_of_ble_eq_true rfl) (Nat.le_of_ble_eq_true rfl) ?_
    obtain ⟨fs_5, hf_6, hP1, hK1, hD1⟩ := hB
    rw [ht] at hP1
    have hK1 := va_K.moved hvm.symm hK1
    obtain ⟨hP, hD⟩ := va_join (wr := [(o0, .inl (oL, 1, .inr (.inl f_2)))]) (w1 := [(m0, .inr (1, fs_5))]) hP hD [0, 1, 2] [3] rfl rfl (by decide) (by decide) hk1 hF hP1 hD1
    have hP : va_P D pv_cl [(o0, .inl (oL, 1, .inr (.inl f_2))), (m0, .inr (1, fs_5))] _ := hP
    have hD : va_D A [(o0, .inl (oL, 1, .inr (.inl f_2))), (m0, .inr (1, fs_5))] := hD
    rcases hw with ⟨rfl, rfl, a_7⟩ | ⟨rfl, a_7⟩
    · have hP : va_P D pv_cl [(o0, .inl (oL, 1, .inr (.inl f_2))), (m0, .inr (1, fs_5))] _ := hP
      have hD : va_D A [(o0, .inl (oL, 1, .inr (.inl f_2))), (m0, .inr (1, fs_5))] := hD
      refine lv_istore (lv' := [(7, .int 0), (6, .int 0), (0, .ref b), (1, .ref x0), (2, .ref m0), (3, .ref o0), (4, .ref d0), (5, .int 0)]) hx hb dL_law_375 hl (by decide) rfl (fun ls hl => ?_)
      refine lv_aload_n hx hb dL_law_377 rfl (lv_at hl 4 rfl) ?_
      have hF := pv_new hA hS.1
      refine va_calli (va_runV (As := []) (rest := []) ⟨hx, hb, hml, hown, hts⟩ (c_X13_thrown l hfl D _ m0 fs_5 0 hf_6) (cwV 0 hts (pv_gV w9_102 w9_103 w9_104 w1_10 w9_105) rfl rfl rfl (by decide +kernel) ⟨Nat.le_of_ble_eq_true rfl, Nat.le_of_ble_eq_true rfl⟩) (pv_pV hE hS hF (hP.sub [1] rfl) (hK.sub [] rfl) (hD.sub [1] (by decide) rfl) (va_recv (ci := 1) (q0 := 1) hK hP rfl rfl)) rfl rfl hl.1 rfl (lv_room (Nat.le_of_ble_eq_true rfl)) dL_law_378 ⟨Nat.le_of_ble_eq_true rfl, Nat.le_of_ble_eq_true rfl⟩) hS (fun q _ h => hF q h) hF (fun r_7 u t H1 locs1 ht hvm hw hB hz1 hk1 hS => ?_)
      refine W.widen (k := 404) (n := 653840) (Nat.le_of_ble_eq_true rfl) (Nat.le_of_ble_eq_true rfl) ?_
      have hP := pv_keep hP rfl hk1
      subst hw
      refine lv_iload hx hb dL_law_381 (lv_at hl 1 rfl) ?_
      refine lv_icmp_eq (tgt := 388) hx hb dL_law_383 (by decide) (fun _ => ?_) (fun c_9 => absurd (by decide) c_9)
      refine lv_iload hx hb dL_law_388 (lv_at hl 1 rfl) ?_
      refine lv_if_ne (tgt := 405) hx hb dL_law_390 (by decide) (fun c_10 => absurd (by decide) c_10) (fun _ => ?_)
      refine lv_aload_n hx hb dL_law_393 rfl (lv_at hl 5 rfl) ?_
      refine lv_iconst (v := 0) hx hb dL_law_394 (by decide) ?_
      refine pv_pc 395 rfl ?_
      refine va_lald hx hb hK hP 0 4 rfl rfl (by unfold vp_in; decide) dL_law_395 ?_
      refine pv_setL 0 (hf_3.trans hu) ?_
      refine lv_iload hx hb dL_law_396 (lv_at hl 0 rfl) ?_
      refine lv_i2l (v := 0) hx hb dL_law_398 (by decide) ?_
      refine W.lcmp hx hb dL_law_399 ?_
      refine pv_setI 0 (by decide) ?_
      refine lv_if_eq (tgt := 405) hx hb dL_law_400 (by decide) (fun _ => ?_) (fun c_11 => absurd (by decide) c_11)
      refine lv_goto (tgt := 3721) hx hb dL_law_405 (by decide) ?_
      refine lv_iinc (v := 7) (lv' := [(5, .int 7), (7, .int 0), (6, .int 0), (0, .ref b), (1, .ref x0), (2, .ref m0), (3, .ref o0), (4, .ref d0)]) hx hb dL_law_3721 hl (k := 7) rfl (by decide) (by decide) rfl (fun ls hl => ?_)
      refine lv_goto (tgt := 28) hx hb dL_law_3724 (by decide) ?_
      refine lv_iload hx hb dL_law_28 (lv_at hl 0 rfl) ?_
      refine lv_aload_n hx hb dL_law_30 rfl (lv_at hl 3 rfl) ?_
      refine va_slen hx hb hX hbl hbA hS dL_law_31 ?_
      refine pv_setI 7 rfl ?_
      refine lv_bipush (v := 7) hx hb dL_law_32 (by decide) ?_
      refine pv_pc 34 rfl ?_
      refine lv_isub hx hb dL_law_34 ?_
      refine pv_setI 0 (by decide) ?_
      refine lv_icmp_gt (tgt := 3727) hx hb dL_law_35 (by decide) (fun _ => ?_) (fun c_12 => absurd (by decide) c_12)
      refine lv_iconst (v := 1) hx hb dL_law_3727 (by decide) ?_
      refine va_forget (fun q hq => hAf _ (hS.2.2 q hq)) ?_
      refine W.widen (k := 600006) (n := 7302064) (Nat.le_of_ble_eq_true rfl) (Nat.le_of_ble_eq_true rfl) ?_
      exact lw_ret (d0 := s.drawn) (Drawn.sameBut.refl s.drawn lw_cs) hx hb hr hlocks dL_law_3728
    · exact absurd hc a_7
  · refine lv_istore (lv' := [(6, .int 1), (0, .ref b), (1, .ref x0), (2, .ref m0), (3, .ref o0), (4, .ref d0), (5, .int 0)]) hx hb dL_law_357 hl (by decide) rfl (fun ls hl => ?_)
    refine lv_aload_n hx hb dL_law_359 rfl (lv_at hl 3 rfl) ?_
    refine lv_aload_n hx hb dL_law_360 rfl (lv_at hl 1 rfl) ?_
    refine lv_iload hx hb dL_law_361 (lv_at hl 6 rfl) ?_
    refine lv_iconst (v := 1) hx hb dL_law_363 (by decide) ?_
    refine lv_iadd hx hb dL_law_364 ?_
    refine pv_setI 1 (by decide) ?_
    refine va_sld hx hb hX hbl hbA hS (by unfold vp_in; decide) dL_law_365 ?_
    refine pv_setI (xs 1) rfl ?_
    refine lv_aload_n hx hb dL_law_366 rfl (lv_at hl 1 rfl) ?_
    refine lv_iload hx hb dL_law_367 (lv_at hl 6 rfl) ?_
    refine lv_iconst (v := 2) hx hb dL_law_369 (by decide) ?_
    refine pv_pc 370 rfl ?_
    refine lv_iadd hx hb dL_law_370 ?_
    refine pv_setI 2 (by decide) ?_
    refine va_sld hx hb hX hbl hbA hS (by unfold vp_in; decide) dL_law_371 ?_
    refine pv_setI (xs 2) rfl ?_
    have hF := va_free (wc := [(m0, .inr (1, pv_m 0 mq)), ((mq 0), .inl (mI, 60, .inl (fun _ => 0))), ((mq 1), .inl (mT, 60, .inr (.inr (.inr (.inr (fun _ => none))))))]) hD hS hA [0, 1, 2] rfl
    refine va_calli (va_runV (As := [.int (xs 1), .int (xs 2)]) (rest := []) ⟨hx, hb, hml, hown, hts⟩ (c_X13_variable l hfl D _ m0 mq mI mT (xs 1) (xs 2)) (cwV 2 hts (pv_gV w9_148 w9_149 w9_150 w1_10 w9_151) rfl rfl rfl (by decide +kernel) ⟨Nat.le_of_ble_eq_true rfl, Nat.le_of_ble_eq_true rfl⟩) (pv_pV hE hS hF (hP.sub [0, 1, 2] rfl) (hK.sub [2, 3] rfl) (hD.sub [0, 1, 2] (by decide) rfl) (va_recv (ci := 1) (q0 := 0) hK hP rfl rfl)) rfl rfl hl.1 rfl (lv_room (Nat.le_of_ble_eq_true rfl)) dL_law_372 ⟨Nat.le_of_ble_eq_true rfl, Nat.le_of_ble_eq_true rfl⟩) hS (fun q _ h => hF q h) hF (fun r_12 u t H1 locs1 ht hvm hw hB hz1 hk1 hS => ?_)
    refine W.widen (k := 404) (n := 653840) (Nat.le_of_ble_eq_true rfl) (Nat.le_of_ble_eq_true rfl) ?_
    obtain ⟨fs_14, hf_15, hP1, hK1, hD1⟩ := hB
    rw [ht] at hP1
    have hK1 := va_K.moved hvm.symm hK1
    obtain ⟨hP, hD⟩ := va_join (wr := [(o0, .inl (oL, 1, .inr (.inl f_2)))]) (w1 := [(m0, .inr (1, fs_14))]) hP hD [0, 1, 2] [3] rfl rfl (by decide) (by decide) hk1 hF hP1 hD1
    have hP : va_P D pv_cl [(o0, .inl (oL, 1, .inr (.inl f_2))), (m0, .inr (1, fs_14))] _ := hP
    have hD : va_D A [(o0, .inl (oL, 1, .inr (.inl f_2))), (m0, .inr (1, fs_14))] := hD
    rcases hw with ⟨rfl, rfl, a_16⟩ | ⟨rfl, a_16⟩
    · exact absurd a_16 hn
    · have hP : va_P D pv_cl [(o0, .inl (oL, 1, .inr (.inl f_2))), (m0, .inr (1, fs_14))] _ := hP
      have hD : va_D A [(o0, .inl (oL, 1, .inr (.inl f_2))), (m0, .inr (1, fs_14))] := hD
      refine lv_istore (lv' := [(7, .int r_12), (6, .int 1), (0, .ref b), (1, .ref x0), (2, .ref m0), (3, .ref o0), (4, .ref d0), (5, .int 0)]) hx hb dL_law_375 hl (by decide) rfl (fun ls hl => ?_)
      refine lv_aload_n hx hb dL_law_377 rfl (lv_at hl 4 rfl) ?_
      have hF := pv_new hA hS.1
      refine va_calli (va_runV (As := []) (rest := []) ⟨hx, hb, hml, hown, hts⟩ (c_X13_thrown l hfl D _ m0 fs_14 1 hf_15) (cwV 0 hts (pv_gV w9_102 w9_103 w9_104 w1_10 w9_105) rfl rfl rfl (by decide +kernel) ⟨Nat.le_of_ble_eq_true rfl, Nat.le_of_ble_eq_true rfl⟩) (pv_pV hE hS hF (hP.sub [1] rfl) (hK.sub [] rfl) (hD.sub [1] (by decide) rfl) (va_recv (ci := 1) (q0 := 1) hK hP rfl rfl)) rfl rfl hl.1 rfl (lv_room (Nat.le_of_ble_eq_true rfl)) dL_law_378 ⟨Nat.le_of_ble_eq_true rfl, Nat.le_of_ble_eq_true rfl⟩) hS (fun q _ h => hF q h) hF (fun r_16 u t H1 locs1 ht hvm hw hB hz1 hk1 hS => ?_)
      refine W.widen (k := 404) (n := 653840) (Nat.le_of_ble_eq_true rfl) (Nat.le_of_ble_eq_true rfl) ?_
      have hP := pv_keep hP rfl hk1
      subst hw
      refine lv_iload hx hb dL_law_381 (lv_at hl 1 rfl) ?_
      refine lv_icmp_eq (tgt := 388) hx hb dL_law_383 (by decide) (fun _ => ?_) (fun c_18 => absurd (by decide) c_18)
      refine lv_iload hx hb dL_law_388 (lv_at hl 1 rfl) ?_
      refine lv_if_ne (tgt := 405) hx hb dL_law_390 (by decide) (fun _ => ?_) (fun c_19 => absurd c_19 (by decide))
      refine lv_goto (tgt := 3721) hx hb dL_law_405 (by decide) ?_
      refine lv_iinc (v := 7) (lv' := [(5, .int 7), (7, .int r_12), (6, .int 1), (0, .ref b), (1, .ref x0), (2, .ref m0), (3, .ref o0), (4, .ref d0)]) hx hb dL_law_3721 hl (k := 7) rfl (by decide) (by decide) rfl (fun ls hl => ?_)
      refine pv_pc 3724 rfl ?_
      refine lv_goto (tgt := 28) hx hb dL_law_3724 (by decide) ?_
      refine lv_iload hx hb dL_law_28 (lv_at hl 0 rfl) ?_
      refine lv_aload_n hx hb dL_law_30 rfl (lv_at hl 3 rfl) ?_
      refine va_slen hx hb hX hbl hbA hS dL_law_31 ?_
      refine pv_setI 7 rfl ?_
      refine lv_bipush (v := 7) hx hb dL_law_32 (by decide) ?_
      refine lv_isub hx hb dL_law_34 ?_
      refine pv_setI 0 (by decide) ?_
      refine lv_icmp_gt (tgt := 3727) hx hb dL_law_35 (by decide) (fun _ => ?_) (fun c_20 => absurd (by decide) c_20)
      refine lv_iconst (v := 1) hx hb dL_law_3727 (by decide) ?_
      refine va_forget (fun q hq => hAf _ (hS.2.2 q hq)) ?_
      refine W.widen (k := 600006) (n := 7302064) (Nat.le_of_ble_eq_true rfl) (Nat.le_of_ble_eq_true rfl) ?_
      exact lw_ret (d0 := s.drawn) (Drawn.sameBut.refl s.drawn lw_cs) hx hb hr hlocks dL_law_3728

theorem dL_law_680 : decode cL_law 680 = .ok (.aload_n 1, 1) := by decide +kernel
theorem dL_law_681 : decode cL_law 681 = .ok (.invokevirtual 217, 3) := by decide +kernel
theorem w2_83 : (Jvm.Cond.methodLink "PolyforgeLaw" (217 : Nat) ({ cls := "Polyforge", name := "polynomials", desc := "()I" } : Jvm.MethodName)) ∈ lw_tbl := pv_t2 (pv_mg 83 rfl)
theorem w2_86 : (Jvm.Cond.code ({ cls := "Polyforge", name := "polynomials", desc := "()I" } : Jvm.MethodName) prog_1_method_8_code (1 : Nat) (Option.some Jvm.ClassFile.FieldType.int)) ∈ lw_tbl := pv_t2 (pv_mg 86 rfl)
theorem w2_85 : (Jvm.Cond.selects "Polyforge" ({ cls := "Polyforge", name := "polynomials", desc := "()I" } : Jvm.MethodName) ({ cls := "Polyforge", name := "polynomials", desc := "()I" } : Jvm.MethodName)) ∈ lw_tbl := pv_t2 (pv_mg 85 rfl)
theorem w2_84 : (Jvm.Cond.instanceMethod ({ cls := "Polyforge", name := "polynomials", desc := "()I" } : Jvm.MethodName)) ∈ lw_tbl := pv_t2 (pv_mg 84 rfl)
theorem dL_law_684 : decode cL_law 684 = .ok (.aload_n 2, 1) := by decide +kernel
theorem dL_law_685 : decode cL_law 685 = .ok (.invokevirtual 220, 3) := by decide +kernel
theorem w9_222 : (Jvm.Cond.methodLink "PolyforgeLaw" (220 : Nat) ({ cls := "PolyforgeModel", name := "polynomials", desc := "()I" } : Jvm.MethodName)) ∈ lw_tbl := pv_t9 (pv_mg 222 rfl)
theorem w9_225 : (Jvm.Cond.code ({ cls := "PolyforgeModel", name := "polynomials", desc := "()I" } : Jvm.MethodName) prog_14_method_35_code (1 : Nat) (Option.some Jvm.ClassFile.FieldType.int)) ∈ lw_tbl := pv_t9 (pv_mg 225 rfl)
theorem w9_224 : (Jvm.Cond.selects "PolyforgeModel" ({ cls := "PolyforgeModel", name := "polynomials", desc := "()I" } : Jvm.MethodName) ({ cls := "PolyforgeModel", name := "polynomials", desc := "()I" } : Jvm.MethodName)) ∈ lw_tbl := pv_t9 (pv_mg 224 rfl)
theorem w9_223 : (Jvm.Cond.instanceMethod ({ cls := "PolyforgeModel", name := "polynomials", desc := "()I" } : Jvm.MethodName)) ∈ lw_tbl := pv_t9 (pv_mg 223 rfl)
theorem dL_law_688 : decode cL_law 688 = .ok (.if_icmp .eq 3033, 3) := by decide +kernel
set_option maxHeartbeats 4000000 in
set_option maxRecDepth 100000 in
/-- the law, call 6: polynomials -/
theorem law_case_6 {p : Program} {e : Env} {s : State} {m : MethodId} {below : List Frame} {meth : Method} {c : Code} (l : Launch) (hfl : l.stackTraces = false) {b : Nat} {xs : Nat → Int32} (C0 : lw_At p s m meth c b 7 xs) {D : va_G} {A : Nat → Prop} (hA : ∀ q : Nat, s.heap.size ≤ q → A q) (hAf : ∀ q : Nat, A q → s.heap.size ≤ q) (hbA : ¬ A b) (hE : pv_E A s s.heap) {x0 m0 o0 d0 : Nat} {xq xw mq : Nat → Nat} {xJ xP xO xC xI mI mI2 mI3 mT mC oL : ClassId} {xsg xsf msg msf : Nat → Int32} (hxsg : ∀ j, j < 3 → xsg j = 63) (hmsg : ∀ j, j < 3 → msg j = 63) {H : Heap} {locs : List Loc} (hK : va_K D pv_cl [(xJ, .long), (xP, .object "Polyforge$Polynomial"), (xO, .object "Polyforge$Ideal"), (xC, .char), (xI, .int), (mI, .int), (mT, .object "PolyforgeModel$Terms"), (mI2, .int), (mC, .char), (mI3, .int), (oL, .long)] s) (hP : va_P D pv_cl [(x0, .inr (0, [.ref (xq 0), .int 0, .int 108, .ref (xq 1), .int 0, .ref (xq 2), .int 0, .ref (xq 3), .ref (xq 4), .int 1, .ref (xq 5), .ref (xq 6), .ref (xq 7), .ref (xq 8), .ref (xq 9)])), ((xq 6), .inr (2, [.ref (xw 0), .ref (xw 1), .ref (xw 2), .ref (xw 3), .int 0, .int 0])), ((xw 2), .inl (xJ, 64, .inr (.inl (fun _ => 0)))), ((xq 0), .inl (xP, 60, .inr (.inr (.inr (.inr (fun _ => none)))))), ((xq 1), .inl (xO, 5, .inr (.inr (.inr (.inr (fun _ => none)))))), ((xq 3), .inl (xC, 3, .inl xsg)), ((xq 4), .inl (xI, 3, .inl xsf)), (m0, .inr (1, pv_m 0 mq)), ((mq 0), .inl (mI, 60, .inl (fun _ => 0))), ((mq 1), .inl (mT, 60, .inr (.inr (.inr (.inr (fun _ => none)))))), ((mq 2), .inl (mI2, 5, .inl (fun _ => 0))), ((mq 9), .inl (mC, 3, .inl msg)), ((mq 10), .inl (mI3, 3, .inl msf)), (o0, .inl (oL, 1, .inr (.inl (fun _ => 0))))] H) (hD : va_D A [(x0, .inr (0, [.ref (xq 0), .int 0, .int 108, .ref (xq 1), .int 0, .ref (xq 2), .int 0, .ref (xq 3), .ref (xq 4), .int 1, .ref (xq 5), .ref (xq 6), .ref (xq 7), .ref (xq 8), .ref (xq 9)])), ((xq 6), .inr (2, [.ref (xw 0), .ref (xw 1), .ref (xw 2), .ref (xw 3), .int 0, .int 0])), ((xw 2), .inl (xJ, 64, .inr (.inl (fun _ => 0)))), ((xq 0), .inl (xP, 60, .inr (.inr (.inr (.inr (fun _ => none)))))), ((xq 1), .inl (xO, 5, .inr (.inr (.inr (.inr (fun _ => none)))))), ((xq 3), .inl (xC, 3, .inl xsg)), ((xq 4), .inl (xI, 3, .inl xsf)), (m0, .inr (1, pv_m 0 mq)), ((mq 0), .inl (mI, 60, .inl (fun _ => 0))), ((mq 1), .inl (mT, 60, .inr (.inr (.inr (.inr (fun _ => none)))))), ((mq 2), .inl (mI2, 5, .inl (fun _ => 0))), ((mq 9), .inl (mC, 3, .inl msg)), ((mq 10), .inl (mI3, 3, .inl msf)), (o0, .inl (oL, 1, .inr (.inl (fun _ => 0))))]) (hS : va_S A s.heap H locs) {ls : Array Slot} (hl : lv_has ls 9 [(0, .ref b), (1, .ref x0), (2, .ref m0), (3, .ref o0), (4, .ref d0), (5, .int 0)]) : W p l e room_1 s m #[Value.ref b] below meth c H locs 397 653821 (lw_Z below #[Value.ref b] s) (F0 m 680 ls []) := by
  obtain ⟨hx, hb, hr, hml, hown, hts0, hX, hbl, hlocks, hgv⟩ := C0
  have hts : ∀ w ∈ pv_W, w.before #[Value.ref b] s = true := fun w h => hts0 w (List.mem_filter.mp h).1
  have hg := fun {w : Cond} (h : w ∈ lw_tbl) (g : goodWord w = true) => hts w (pv_in h g)
  have hP : va_P D pv_cl [(x0, .inr (0, [.ref (xq 0), .int 0, .int 108, .ref (xq 1), .int 0, .ref (xq 2), .int 0, .ref (xq 3), .ref (xq 4), .int 1, .ref (xq 5), .ref (xq 6), .ref (xq 7), .ref (xq 8), .ref (xq 9)])), (m0, .inr (1, pv_m 0 mq))] _ := hP.sub [0, 7] rfl
  have hD : va_D A [(x0, .inr (0, [.ref (xq 0), .int 0, .int 108, .ref (xq 1), .int 0, .ref (xq 2), .int 0, .ref (xq 3), .ref (xq 4), .int 1, .ref (xq 5), .ref (xq 6), .ref (xq 7), .ref (xq 8), .ref (xq 9)])), (m0, .inr (1, pv_m 0 mq))] := hD.sub [0, 7] (by decide) rfl
  have hK : va_K D pv_cl [] s := hK.sub [] rfl
  refine lv_aload_n hx hb dL_law_680 rfl (lv_at hl 1 rfl) ?_
  have hF := pv_new hA hS.1
  refine va_calli (va_runV (As := []) (rest := []) ⟨hx, hb, hml, hown, hts⟩ (c_X11_polynomials l hfl D _ x0 xq) (cwV 0 hts (pv_gV w2_83 w2_84 w2_85 w1_1 w2_86) rfl rfl rfl (by decide +kernel) ⟨Nat.le_of_ble_eq_true rfl, Nat.le_of_ble_eq_true rfl⟩) (pv_pV hE hS hF (hP.sub [0] rfl) (hK.sub [] rfl) (hD.sub [0] (by decide) rfl) (va_recv (ci := 0) (q0 := 0) hK hP rfl rfl)) rfl rfl hl.1 rfl (lv_room (Nat.le_of_ble_eq_true rfl)) dL_law_681 ⟨Nat.le_of_ble_eq_true rfl, Nat.le_of_ble_eq_true rfl⟩) hS (fun q _ h => hF q h) hF (fun r_0 u t H1 locs1 ht hvm hw hB hz1 hk1 hS => ?_)
  refine W.widen (k := 397) (n := 653821) (Nat.le_of_ble_eq_true rfl) (Nat.le_of_ble_eq_true rfl) ?_
  have hP := pv_keep hP rfl hk1
  obtain rfl := hw
  refine lv_aload_n hx hb dL_law_684 rfl (lv_at hl 2 rfl) ?_
  have hF := va_free (wc := [(m0, .inr (1, pv_m 0 mq))]) hD hS hA [1] rfl
  refine va_calli (va_runV (As := []) (rest := [.int 0]) ⟨hx, hb, hml, hown, hts⟩ (c_X13_polynomials l hfl D _ m0 mq ) (cwV 0 hts (pv_gV w9_222 w9_223 w9_224 w1_10 w9_225) rfl rfl rfl (by decide +kernel) ⟨Nat.le_of_ble_eq_true rfl, Nat.le_of_ble_eq_true rfl⟩) (pv_pV hE hS hF (hP.sub [1] rfl) (hK.sub [] rfl) (hD.sub [1] (by decide) rfl) (va_recv (ci := 1) (q0 := 1) hK hP rfl rfl)) rfl rfl hl.1 rfl (lv_room (Nat.le_of_ble_eq_true rfl)) dL_law_685 ⟨Nat.le_of_ble_eq_true rfl, Nat.le_of_ble_eq_true rfl⟩) hS (fun q _ h => hF q h) hF (fun r_1 u t H1 locs1 ht hvm hw hB hz1 hk1 hS => ?_)
  refine W.widen (k := 397) (n := 653821) (Nat.le_of_ble_eq_true rfl) (Nat.le_of_ble_eq_true rfl) ?_
  obtain ⟨fs_3, hf_4, hP1, hK1, hD1⟩ := hB
  obtain ⟨rfl, rfl⟩ := hw
  rw [ht] at hP1
  have hK1 := va_K.moved hvm.symm hK1
  obtain ⟨hP, hD⟩ := va_join (wr := [(x0, .inr (0, [.ref (xq 0), .int 0, .int 108, .ref (xq 1), .int 0, .ref (xq 2), .int 0, .ref (xq 3), .ref (xq 4), .int 1, .ref (xq 5), .ref (xq 6), .ref (xq 7), .ref (xq 8), .ref (xq 9)]))]) (w1 := [(m0, .inr (1, fs_3))]) hP hD [1] [0] rfl rfl (by decide) (by decide) hk1 hF hP1 hD1
  have hP : va_P D pv_cl [(x0, .inr (0, [.ref (xq 0), .int 0, .int 108, .ref (xq 1), .int 0, .ref (xq 2), .int 0, .ref (xq 3), .ref (xq 4), .int 1, .ref (xq 5), .ref (xq 6), .ref (xq 7), .ref (xq 8), .ref (xq 9)])), (m0, .inr (1, fs_3))] _ := hP
  have hD : va_D A [(x0, .inr (0, [.ref (xq 0), .int 0, .int 108, .ref (xq 1), .int 0, .ref (xq 2), .int 0, .ref (xq 3), .ref (xq 4), .int 1, .ref (xq 5), .ref (xq 6), .ref (xq 7), .ref (xq 8), .ref (xq 9)])), (m0, .inr (1, fs_3))] := hD
  refine lv_icmp_eq (tgt := 3721) hx hb dL_law_688 (by decide) (fun _ => ?_) (fun c_6 => absurd (by decide) c_6)
  refine lv_iinc (v := 7) (lv' := [(5, .int 7), (0, .ref b), (1, .ref x0), (2, .ref m0), (3, .ref o0), (4, .ref d0)]) hx hb dL_law_3721 hl (k := 5) rfl (by decide) (by decide) rfl (fun ls hl => ?_)
  refine lv_goto (tgt := 28) hx hb dL_law_3724 (by decide) ?_
  refine lv_iload hx hb dL_law_28 (lv_at hl 0 rfl) ?_
  refine lv_aload_n hx hb dL_law_30 rfl (lv_at hl 1 rfl) ?_
  refine va_slen hx hb hX hbl hbA hS dL_law_31 ?_
  refine pv_setI 7 rfl ?_
  refine lv_bipush (v := 7) hx hb dL_law_32 (by decide) ?_
  refine pv_pc 34 rfl ?_
  refine lv_isub hx hb dL_law_34 ?_
  refine pv_setI 0 (by decide) ?_
  refine lv_icmp_gt (tgt := 3727) hx hb dL_law_35 (by decide) (fun _ => ?_) (fun c_7 => absurd (by decide) c_7)
  refine lv_iconst (v := 1) hx hb dL_law_3727 (by decide) ?_
  refine va_forget (fun q hq => hAf _ (hS.2.2 q hq)) ?_
  refine W.widen (k := 600006) (n := 7302064) (Nat.le_of_ble_eq_true rfl) (Nat.le_of_ble_eq_true rfl) ?_
  exact lw_ret (d0 := s.drawn) (Drawn.sameBut.refl s.drawn lw_cs) hx hb hr hlocks dL_law_3728

theorem dL_law_1076 : decode cL_law 1076 = .ok (.aload_n 1, 1) := by decide +kernel
theorem dL_law_1077 : decode cL_law 1077 = .ok (.aload_n 0, 1) := by decide +kernel
theorem dL_law_1078 : decode cL_law 1078 = .ok (.iload 5, 2) := by decide +kernel
theorem dL_law_1080 : decode cL_law 1080 = .ok (.iconst 1, 1) := by decide +kernel
theorem dL_law_1081 : decode cL_law 1081 = .ok (.iadd, 1) := by decide +kernel
theorem dL_law_1082 : decode cL_law 1082 = .ok (.iaload, 1) := by decide +kernel
theorem dL_law_1083 : decode cL_law 1083 = .ok (.i2c, 1) := by decide +kernel
theorem dL_law_1084 : decode cL_law 1084 = .ok (.aload_n 3, 1) := by decide +kernel
theorem dL_law_1085 : decode cL_law 1085 = .ok (.invokestatic 241, 3) := by decide +kernel
theorem w6_89 : (Jvm.Cond.methodLink "PolyforgeLaw" (241 : Nat) ({ cls := "PolyforgeLaw", name := "setOrder", desc := "(LPolyforge;C[J)I" } : Jvm.MethodName)) ∈ lw_tbl := pv_t6 (pv_mg 89 rfl)
theorem w6_91 : (Jvm.Cond.codeWith ({ cls := "PolyforgeLaw", name := "setOrder", desc := "(LPolyforge;C[J)I" } : Jvm.MethodName) method_15_code (4 : Nat) (Option.some Jvm.ClassFile.FieldType.int) [((0 : Nat), (9 : Nat), (12 : Nat), (13 : Nat))]) ∈ lw_tbl := pv_t6 (pv_mg 91 rfl)
theorem w6_90 : (Jvm.Cond.static ({ cls := "PolyforgeLaw", name := "setOrder", desc := "(LPolyforge;C[J)I" } : Jvm.MethodName)) ∈ lw_tbl := pv_t6 (pv_mg 90 rfl)
theorem dL_law_1088 : decode cL_law 1088 = .ok (.istore 6, 2) := by decide +kernel
theorem dL_law_1090 : decode cL_law 1090 = .ok (.aload_n 2, 1) := by decide +kernel
theorem dL_law_1091 : decode cL_law 1091 = .ok (.aload_n 0, 1) := by decide +kernel
theorem dL_law_1092 : decode cL_law 1092 = .ok (.iload 5, 2) := by decide +kernel
theorem dL_law_1094 : decode cL_law 1094 = .ok (.iconst 1, 1) := by decide +kernel
theorem dL_law_1095 : decode cL_law 1095 = .ok (.iadd, 1) := by decide +kernel
theorem dL_law_1096 : decode cL_law 1096 = .ok (.iaload, 1) := by decide +kernel
theorem dL_law_1097 : decode cL_law 1097 = .ok (.i2c, 1) := by decide +kernel
theorem dL_law_1098 : decode cL_law 1098 = .ok (.invokevirtual 244, 3) := by decide +kernel
theorem w10_29 : (Jvm.Cond.methodLink "PolyforgeLaw" (244 : Nat) ({ cls := "PolyforgeModel", name := "setOrder", desc := "(C)C" } : Jvm.MethodName)) ∈ lw_tbl := pv_t10 (pv_mg 29 rfl)
theorem w10_32 : (Jvm.Cond.code ({ cls := "PolyforgeModel", name := "setOrder", desc := "(C)C" } : Jvm.MethodName) prog_14_method_46_code (3 : Nat) (Option.some Jvm.ClassFile.FieldType.char)) ∈ lw_tbl := pv_t10 (pv_mg 32 rfl)
theorem w10_31 : (Jvm.Cond.selects "PolyforgeModel" ({ cls := "PolyforgeModel", name := "setOrder", desc := "(C)C" } : Jvm.MethodName) ({ cls := "PolyforgeModel", name := "setOrder", desc := "(C)C" } : Jvm.MethodName)) ∈ lw_tbl := pv_t10 (pv_mg 31 rfl)
theorem w10_30 : (Jvm.Cond.instanceMethod ({ cls := "PolyforgeModel", name := "setOrder", desc := "(C)C" } : Jvm.MethodName)) ∈ lw_tbl := pv_t10 (pv_mg 30 rfl)
theorem dL_law_1101 : decode cL_law 1101 = .ok (.istore 7, 2) := by decide +kernel
theorem dL_law_1103 : decode cL_law 1103 = .ok (.aload_n 2, 1) := by decide +kernel
theorem dL_law_1104 : decode cL_law 1104 = .ok (.invokevirtual 199, 3) := by decide +kernel
theorem dL_law_1107 : decode cL_law 1107 = .ok (.iload 6, 2) := by decide +kernel
theorem dL_law_1109 : decode cL_law 1109 = .ok (.if_icmp .eq 5, 3) := by decide +kernel
theorem dL_law_1114 : decode cL_law 1114 = .ok (.iload 6, 2) := by decide +kernel
theorem dL_law_1116 : decode cL_law 1116 = .ok (.ifCond .ne 15, 3) := by decide +kernel
theorem dL_law_1119 : decode cL_law 1119 = .ok (.aload_n 3, 1) := by decide +kernel
theorem dL_law_1120 : decode cL_law 1120 = .ok (.iconst 0, 1) := by decide +kernel
theorem dL_law_1121 : decode cL_law 1121 = .ok (.laload, 1) := by decide +kernel
theorem dL_law_1122 : decode cL_law 1122 = .ok (.iload 7, 2) := by decide +kernel
theorem dL_law_1124 : decode cL_law 1124 = .ok (.i2l, 1) := by decide +kernel
theorem dL_law_1125 : decode cL_law 1125 = .ok (.lcmp, 1) := by decide +kernel
theorem dL_law_1126 : decode cL_law 1126 = .ok (.ifCond .eq 5, 3) := by decide +kernel
theorem dL_law_1131 : decode cL_law 1131 = .ok (.goto 2590, 3) := by decide +kernel
set_option maxHeartbeats 4000000 in
set_option maxRecDepth 100000 in
/-- the law, call 13: setOrder -/
theorem law_case_13 {p : Program} {e : Env} {s : State} {m : MethodId} {below : List Frame} {meth : Method} {c : Code} (l : Launch) (hfl : l.stackTraces = false) {b : Nat} {xs : Nat → Int32} (C0 : lw_At p s m meth c b 7 xs) {D : va_G} {A : Nat → Prop} (hA : ∀ q : Nat, s.heap.size ≤ q → A q) (hAf : ∀ q : Nat, A q → s.heap.size ≤ q) (hbA : ¬ A b) (hE : pv_E A s s.heap) {x0 m0 o0 d0 : Nat} {xq xw mq : Nat → Nat} {xJ xP xO xC xI mI mI2 mI3 mT mC oL : ClassId} {xsg xsf msg msf : Nat → Int32} (hxsg : ∀ j, j < 3 → xsg j = 63) (hmsg : ∀ j, j < 3 → msg j = 63) {H : Heap} {locs : List Loc} (hK : va_K D pv_cl [(xJ, .long), (xP, .object "Polyforge$Polynomial"), (xO, .object "Polyforge$Ideal"), (xC, .char), (xI, .int), (mI, .int), (mT, .object "PolyforgeModel$Terms"), (mI2, .int), (mC, .char), (mI3, .int), (oL, .long)] s) (hP : va_P D pv_cl [(x0, .inr (0, [.ref (xq 0), .int 0, .int 108, .ref (xq 1), .int 0, .ref (xq 2), .int 0, .ref (xq 3), .ref (xq 4), .int 1, .ref (xq 5), .ref (xq 6), .ref (xq 7), .ref (xq 8), .ref (xq 9)])), ((xq 6), .inr (2, [.ref (xw 0), .ref (xw 1), .ref (xw 2), .ref (xw 3), .int 0, .int 0])), ((xw 2), .inl (xJ, 64, .inr (.inl (fun _ => 0)))), ((xq 0), .inl (xP, 60, .inr (.inr (.inr (.inr (fun _ => none)))))), ((xq 1), .inl (xO, 5, .inr (.inr (.inr (.inr (fun _ => none)))))), ((xq 3), .inl (xC, 3, .inl xsg)), ((xq 4), .inl (xI, 3, .inl xsf)), (m0, .inr (1, pv_m 0 mq)), ((mq 0), .inl (mI, 60, .inl (fun _ => 0))), ((mq 1), .inl (mT, 60, .inr (.inr (.inr (.inr (fun _ => none)))))), ((mq 2), .inl (mI2, 5, .inl (fun _ => 0))), ((mq 9), .inl (mC, 3, .inl msg)), ((mq 10), .inl (mI3, 3, .inl msf)), (o0, .inl (oL, 1, .inr (.inl (fun _ => 0))))] H) (hD : va_D A [(x0, .inr (0, [.ref (xq 0), .int 0, .int 108, .ref (xq 1), .int 0, .ref (xq 2), .int 0, .ref (xq 3), .ref (xq 4), .int 1, .ref (xq 5), .ref (xq 6), .ref (xq 7), .ref (xq 8), .ref (xq 9)])), ((xq 6), .inr (2, [.ref (xw 0), .ref (xw 1), .ref (xw 2), .ref (xw 3), .int 0, .int 0])), ((xw 2), .inl (xJ, 64, .inr (.inl (fun _ => 0)))), ((xq 0), .inl (xP, 60, .inr (.inr (.inr (.inr (fun _ => none)))))), ((xq 1), .inl (xO, 5, .inr (.inr (.inr (.inr (fun _ => none)))))), ((xq 3), .inl (xC, 3, .inl xsg)), ((xq 4), .inl (xI, 3, .inl xsf)), (m0, .inr (1, pv_m 0 mq)), ((mq 0), .inl (mI, 60, .inl (fun _ => 0))), ((mq 1), .inl (mT, 60, .inr (.inr (.inr (.inr (fun _ => none)))))), ((mq 2), .inl (mI2, 5, .inl (fun _ => 0))), ((mq 9), .inl (mC, 3, .inl msg)), ((mq 10), .inl (mI3, 3, .inl msf)), (o0, .inl (oL, 1, .inr (.inl (fun _ => 0))))]) (hS : va_S A s.heap H locs) {ls : Array Slot} (hl : lv_has ls 9 [(0, .ref b), (1, .ref x0), (2, .ref m0), (3, .ref o0), (4, .ref d0), (5, .int 0)]) : W p l e room_1 s m #[Value.ref b] below meth c H locs 397 653821 (lw_Z below #[Value.ref b] s) (F0 m 1076 ls []) := by
  obtain ⟨hx, hb, hr, hml, hown, hts0, hX, hbl, hlocks, hgv⟩ := C0
  have hts : ∀ w ∈ pv_W, w.before #[Value.ref b] s = true := fun w h => hts0 w (List.mem_filter.mp h).1
  have hg := fun {w : Cond} (h : w ∈ lw_tbl) (g : goodWord w = true) => hts w (pv_in h g)
  have hP : va_P D pv_cl [(x0, .inr (0, [.ref (xq 0), .int 0, .int 108, .ref (xq 1), .int 0, .ref (xq 2), .int 0, .ref (xq 3), .ref (xq 4), .int 1, .ref (xq 5), .ref (xq 6), .ref (xq 7), .ref (xq 8), .ref (xq 9)])), (m0, .inr (1, pv_m 0 mq)), (o0, .inl (oL, 1, .inr (.inl (fun _ => 0))))] _ := hP.sub [0, 7, 13] rfl
  have hD : va_D A [(x0, .inr (0, [.ref (xq 0), .int 0, .int 108, .ref (xq 1), .int 0, .ref (xq 2), .int 0, .ref (xq 3), .ref (xq 4), .int 1, .ref (xq 5), .ref (xq 6), .ref (xq 7), .ref (xq 8), .ref (xq 9)])), (m0, .inr (1, pv_m 0 mq)), (o0, .inl (oL, 1, .inr (.inl (fun _ => 0))))] := hD.sub [0, 7, 13] (by decide) rfl
  have hK : va_K D pv_cl [(oL, .long)] s := hK.sub [10] rfl
  refine lv_aload_n hx hb dL_law_1076 rfl (lv_at hl 1 rfl) ?_
  refine lv_aload_n hx hb dL_law_1077 rfl (lv_at hl 0 rfl) ?_
  refine lv_iload hx hb dL_law_1078 (lv_at hl 5 rfl) ?_
  refine lv_iconst (v := 1) hx hb dL_law_1080 (by decide) ?_
  refine lv_iadd hx hb dL_law_1081 ?_
  refine pv_setI 1 (by decide) ?_
  refine va_sld hx hb hX hbl hbA hS (by unfold vp_in; decide) dL_law_1082 ?_
  refine pv_setI (xs 1) rfl ?_
  refine lv_i2c hx hb dL_law_1083 rfl ?_
  refine lv_topi (fun x_1 ex_1 => ?_)
  refine lv_aload_n hx hb dL_law_1084 rfl (lv_at hl 3 rfl) ?_
  have hF := va_free (wc := [(x0, .inr (0, [.ref (xq 0), .int 0, .int 108, .ref (xq 1), .int 0, .ref (xq 2), .int 0, .ref (xq 3), .ref (xq 4), .int 1, .ref (xq 5), .ref (xq 6), .ref (xq 7), .ref (xq 8), .ref (xq 9)])), (o0, .inl (oL, 1, .inr (.inl (fun _ => 0))))]) hD hS hA [0, 2] rfl
  refine va_calli (vx_runSW (As := [.ref x0, .int x_1, .ref o0]) (rest := []) ⟨hx, hb, hml, hown, hts⟩ (c_L_setOrder l hfl D _ x0 xq oL x_1 o0 (fun _ => 0)) (vx_cwSW 3 hts (pv_gSW w6_89 w6_90 w1_0 w6_91) rfl rfl rfl (by decide +kernel) ⟨Nat.le_of_ble_eq_true rfl, Nat.le_of_ble_eq_true rfl⟩) (pv_ps hE hS hF (hP.sub [0, 2] rfl) (hK.sub [0] rfl) (hD.sub [0, 2] (by decide) rfl)) rfl rfl hl.1 rfl (lv_room (Nat.le_of_ble_eq_true rfl)) dL_law_1085 ⟨Nat.le_of_ble_eq_true rfl, Nat.le_of_ble_eq_true rfl⟩) hS (fun q _ h => hF q h) hF (fun r_1 u t H1 locs1 ht hvm hw hB hz1 hk1 hS => ?_)
  refine W.widen (k := 398) (n := 653827) (Nat.le_of_ble_eq_true rfl) (Nat.le_of_ble_eq_true rfl) ?_
  obtain ⟨f_3, hf_4, hP1, hK1, hD1⟩ := hB
  rw [ht] at hP1
  have hK1 := va_K.moved hvm.symm hK1
  obtain ⟨hP, hD⟩ := va_join (wr := [(m0, .inr (1, pv_m 0 mq))]) (w1 := [(o0, .inl (oL, 1, .inr (.inl f_3)))]) hP hD [0, 2] [1] rfl rfl (by decide) (by decide) hk1 hF hP1 hD1
  have hP : va_P D pv_cl [(m0, .inr (1, pv_m 0 mq)), (o0, .inl (oL, 1, .inr (.inl f_3)))] _ := hP
  have hD : va_D A [(m0, .inr (1, pv_m 0 mq)), (o0, .inl (oL, 1, .inr (.inl f_3)))] := hD
  rcases hw with ⟨rfl, hu, hc⟩ | ⟨rfl, hn⟩
  · refine lv_istore (lv' := [(6, .int 0), (0, .ref b), (1, .ref x0), (2, .ref m0), (3, .ref o0), (4, .ref d0), (5, .int 0)]) hx hb dL_law_1088 hl (by decide) rfl (fun ls hl => ?_)
    refine lv_aload_n hx hb dL_law_1090 rfl (lv_at hl 3 rfl) ?_
    refine pv_pc 1091 rfl ?_
    refine lv_aload_n hx hb dL_law_1091 rfl (lv_at hl 1 rfl) ?_
    refine lv_iload hx hb dL_law_1092 (lv_at hl 6 rfl) ?_
    refine lv_iconst (v := 1) hx hb dL_law_1094 (by decide) ?_
    refine lv_iadd hx hb dL_law_1095 ?_
    refine pv_setI 1 (by decide) ?_
    refine va_sld hx hb hX hbl hbA hS (by unfold vp_in; decide) dL_law_1096 ?_
    refine pv_setI (xs 1) rfl ?_
    refine lv_i2c hx hb dL_law_1097 rfl ?_
    refine pv_setI x_1 ex_1.symm ?_
    have hF := va_free (wc := [(m0, .inr (1, pv_m 0 mq))]) hD hS hA [0] rfl
    refine va_calli (va_runV (As := [.int x_1]) (rest := []) ⟨hx, hb, hml, hown, hts⟩ (c_X13_setOrder l hfl D _ m0 mq x_1) (cwV 1 hts (pv_gV w10_29 w10_30 w10_31 w1_10 w10_32) rfl rfl rfl (by decide +kernel) ⟨Nat.le_of_ble_eq_true rfl, Nat.le_of_ble_eq_true rfl⟩) (pv_pV hE hS hF (hP.sub [0] rfl) (hK.sub [] rfl) (hD.sub [0] (by decide) rfl) (va_recv (ci := 1) (q0 := 0) hK hP rfl rfl)) rfl rfl hl.1 rfl (lv_room (Nat.le_of_ble_eq_true rfl)) dL_law_1098 ⟨Nat.le_of_ble_eq_true rfl, Nat.le_of_ble_eq_true rfl⟩) hS (fun q _ h => hF q h) hF (fun r_4 u t H1 locs1 ht hvm hw hB hz1 hk1 hS => ?_)
    refine W.widen (k := 398) (n := 653827) (Nat.le_of_ble_eq_true rfl) (Nat.le_of_ble_eq_true rfl) ?_
    obtain ⟨fs_6, hf_7, hP1, hK1, hD1⟩ := hB
    rw [ht] at hP1
    have hK1 := va_K.moved hvm.symm hK1
    obtain ⟨hP, hD⟩ := va_join (wr := [(o0, .inl (oL, 1, .inr (.inl f_3)))]) (w1 := [(m0, .inr (1, fs_6))]) hP hD [0] [1] rfl rfl (by decide) (by decide) hk1 hF hP1 hD1
    have hP : va_P D pv_cl [(o0, .inl (oL, 1, .inr (.inl f_3))), (m0, .inr (1, fs_6))] _ := hP
    have hD : va_D A [(o0, .inl (oL, 1, .inr (.inl f_3))), (m0, .inr (1, fs_6))] := hD
    rcases hw with ⟨rfl, rfl, a_8⟩ | ⟨rfl, a_8⟩
    · have hP : va_P D pv_cl [(o0, .inl (oL, 1, .inr (.inl f_3))), (m0, .inr (1, fs_6))] _ := hP
      have hD : va_D A [(o0, .inl (oL, 1, .inr (.inl f_3))), (m0, .inr (1, fs_6))] := hD
      refine lv_istore (lv' := [(7, .int 108), (6, .int 0), (0, .ref b), (1, .ref x0), (2, .ref m0), (3, .ref o0), (4, .ref d0), (5, .int 0)]) hx hb dL_law_1101 hl (by decide) rfl (fun ls hl => ?_)
      refine lv_aload_n hx hb dL_law_1103 rfl (lv_at hl 4 rfl) ?_
      have hF := pv_new hA hS.1
      refine va_calli (va_runV (As := []) (rest := []) ⟨hx, hb, hml, hown, hts⟩ (c_X13_thrown l hfl D _ m0 fs_6 0 hf_7) (cwV 0 hts (pv_gV w9_102 w9_103 w9_104 w1_10 w9_105) rfl rfl rfl (by decide +kernel) ⟨Nat.le_of_ble_eq_true rfl, Nat.le_of_ble_eq_true rfl⟩) (pv_pV hE hS hF (hP.sub [1] rfl) (hK.sub [] rfl) (hD.sub [1] (by decide) rfl) (va_recv (ci := 1) (q0 := 1) hK hP rfl rfl)) rfl rfl hl.1 rfl (lv_room (Nat.le_of_ble_eq_true rfl)) dL_law_1104 ⟨Nat.le_of_ble_eq_true rfl, Nat.le_of_ble_eq_true rfl⟩) hS (fun q _ h => hF q h) hF (fun r_8 u t H1 locs1 ht hvm hw hB hz1 hk1 hS => ?_)
      refine W.widen (k := 398) (n := 653827) (Nat.le_of_ble_eq_true rfl) (Nat.le_of_ble_eq_true rfl) ?_
      have hP := pv_keep hP rfl hk1
      subst hw
      refine lv_iload hx hb dL_law_1107 (lv_at hl 1 rfl) ?_
      refine lv_icmp_eq (tgt := 1114) hx hb dL_law_1109 (by decide) (fun _ => ?_) (fun c_10 => absurd (by decide) c_10)
      refine pv_pc 1114 rfl ?_
      refine lv_iload hx hb dL_law_1114 (lv_at hl 1 rfl) ?_
      refine lv_if_ne (tgt := 1131) hx hb dL_law_1116 (by decide) (fun c_11 => absurd (by decide) c_11) (fun _ => ?_)
      refine lv_aload_n hx hb dL_law_1119 rfl (lv_at hl 5 rfl) ?_
      refine lv_iconst (v := 0) hx hb dL_law_1120 (by decide) ?_
      refine va_lald hx hb hK hP 0 0 rfl rfl (by unfold vp_in; decide) dL_law_1121 ?_
      refine pv_setL 108 (hf_4.trans hu) ?_
      refine lv_iload hx hb dL_law_1122 (lv_at hl 0 rfl) ?_
      refine lv_i2l (v := 108) hx hb dL_law_1124 (by decide) ?_
      refine W.lcmp hx hb dL_law_1125 ?_
      refine pv_setI 0 (by decide) ?_
      refine lv_if_eq (tgt := 1131) hx hb dL_law_1126 (by decide) (fun _ => ?_) (fun c_12 => absurd (by decide) c_12)
      refine lv_goto (tgt := 3721) hx hb dL_law_1131 (by decide) ?_
      refine lv_iinc (v := 7) (lv' := [(5, .int 7), (7, .int 108), (6, .int 0), (0, .ref b), (1, .ref x0), (2, .ref m0), (3, .ref o0), (4, .ref d0)]) hx hb dL_law_3721 hl (k := 7) rfl (by decide) (by decide) rfl (fun ls hl => ?_)
      refine lv_goto (tgt := 28) hx hb dL_law_3724 (by decide) ?_
      refine pv_pc 28 rfl ?_
      refine lv_iload hx hb dL_law_28 (lv_at hl 0 rfl) ?_
      refine lv_aload_n hx hb dL_law_30 rfl (lv_at hl 3 rfl) ?_
      refine va_slen hx hb hX hbl hbA hS dL_law_31 ?_
      refine pv_setI 7 rfl ?_
      refine lv_bipush (v := 7) hx hb dL_law_32 (by decide) ?_
      refine lv_isub hx hb dL_law_34 ?_
      refine pv_setI 0 (by decide) ?_
      refine lv_icmp_gt (tgt := 3727) hx hb dL_law_35 (by decide) (fun _ => ?_) (fun c_13 => absurd (by decide) c_13)
      refine lv_iconst (v := 1) hx hb dL_law_3727 (by decide) ?_
      refine va_forget (fun q hq => hAf _ (hS.2.2 q hq)) ?_
      refine W.widen (k := 600006) (n := 7302064) (Nat.le_of_ble_eq_true rfl) (Nat.le_of_ble_eq_true rfl) ?_
      exact lw_ret (d0 := s.drawn) (Drawn.sameBut.refl s.drawn lw_cs) hx hb hr hlocks dL_law_3728
    · exact absurd hc a_8
  · refine lv_istore (lv' := [(6, .int 1), (0, .ref b), (1, .ref x0), (2, .ref m0), (3, .ref o0), (4, .ref d0), (5, .int 0)]) hx hb dL_law_1088 hl (by decide) rfl (fun ls hl => ?_)
    refine lv_aload_n hx hb dL_law_1090 rfl (lv_at hl 3 rfl) ?_
    refine pv_pc 1091 rfl ?_
    refine lv_aload_n hx hb dL_law_1091 rfl (lv_at hl 1 rfl) ?_
    refine lv_iload hx hb dL_law_1092 (lv_at hl 6 rfl) ?_
    refine lv_iconst (v := 1) hx hb dL_law_1094 (by decide) ?_
    refine lv_iadd hx hb dL_law_1095 ?_
    refine pv_setI 1 (by decide) ?_
    refine va_sld hx hb hX hbl hbA hS (by unfold vp_in; decide) dL_law_1096 ?_
    refine pv_setI (xs 1) rfl ?_
    refine lv_i2c hx hb dL_law_1097 rfl ?_
    refine pv_setI x_1 ex_1.symm ?_
    have hF := va_free (wc := [(m0, .inr (1, pv_m 0 mq))]) hD hS hA [0] rfl
    refine va_calli (va_runV (As := [.int x_1]) (rest := []) ⟨hx, hb, hml, hown, hts⟩ (c_X13_setOrder l hfl D _ m0 mq x_1) (cwV 1 hts (pv_gV w10_29 w10_30 w10_31 w1_10 w10_32) rfl rfl rfl (by decide +kernel) ⟨Nat.le_of_ble_eq_true rfl, Nat.le_of_ble_eq_true rfl⟩) (pv_pV hE hS hF (hP.sub [0] rfl) (hK.sub [] rfl) (hD.sub [0] (by decide) rfl) (va_recv (ci := 1) (q0 := 0) hK hP rfl rfl)) rfl rfl hl.1 rfl (lv_room (Nat.le_of_ble_eq_true rfl)) dL_law_1098 ⟨Nat.le_of_ble_eq_true rfl, Nat.le_of_ble_eq_true rfl⟩) hS (fun q _ h => hF q h) hF (fun r_13 u t H1 locs1 ht hvm hw hB hz1 hk1 hS => ?_)
    refine W.widen (k := 398) (n := 653827) (Nat.le_of_ble_eq_true rfl) (Nat.le_of_ble_eq_true rfl) ?_
    obtain ⟨fs_15, hf_16, hP1, hK1, hD1⟩ := hB
    rw [ht] at hP1
    have hK1 := va_K.moved hvm.symm hK1
    obtain ⟨hP, hD⟩ := va_join (wr := [(o0, .inl (oL, 1, .inr (.inl f_3)))]) (w1 := [(m0, .inr (1, fs_15))]) hP hD [0] [1] rfl rfl (by decide) (by decide) hk1 hF hP1 hD1
    have hP : va_P D pv_cl [(o0, .inl (oL, 1, .inr (.inl f_3))), (m0, .inr (1, fs_15))] _ := hP
    have hD : va_D A [(o0, .inl (oL, 1, .inr (.inl f_3))), (m0, .inr (1, fs_15))] := hD
    rcases hw with ⟨rfl, rfl, a_17⟩ | ⟨rfl, a_17⟩
    · exact absurd a_17 hn
    · have hP : va_P D pv_cl [(o0, .inl (oL, 1, .inr (.inl f_3))), (m0, .inr (1, fs_15))] _ := hP
      have hD : va_D A [(o0, .inl (oL, 1, .inr (.inl f_3))), (m0, .inr (1, fs_15))] := hD
      refine lv_istore (lv' := [(7, .int r_13), (6, .int 1), (0, .ref b), (1, .ref x0), (2, .ref m0), (3, .ref o0), (4, .ref d0), (5, .int 0)]) hx hb dL_law_1101 hl (by decide) rfl (fun ls hl => ?_)
      refine lv_aload_n hx hb dL_law_1103 rfl (lv_at hl 4 rfl) ?_
      have hF := pv_new hA hS.1
      refine va_calli (va_runV (As := []) (rest := []) ⟨hx, hb, hml, hown, hts⟩ (c_X13_thrown l hfl D _ m0 fs_15 1 hf_16) (cwV 0 hts (pv_gV w9_102 w9_103 w9_104 w1_10 w9_105) rfl rfl rfl (by decide +kernel) ⟨Nat.le_of_ble_eq_true rfl, Nat.le_of_ble_eq_true rfl⟩) (pv_pV hE hS hF (hP.sub [1] rfl) (hK.sub [] rfl) (hD.sub [1] (by decide) rfl) (va_recv (ci := 1) (q0 := 1) hK hP rfl rfl)) rfl rfl hl.1 rfl (lv_room (Nat.le_of_ble_eq_true rfl)) dL_law_1104 ⟨Nat.le_of_ble_eq_true rfl, Nat.le_of_ble_eq_true rfl⟩) hS (fun q _ h => hF q h) hF (fun r_17 u t H1 locs1 ht hvm hw hB hz1 hk1 hS => ?_)
      refine W.widen (k := 398) (n := 653827) (Nat.le_of_ble_eq_true rfl) (Nat.le_of_ble_eq_true rfl) ?_
      have hP := pv_keep hP rfl hk1
      subst hw
      refine lv_iload hx hb dL_law_1107 (lv_at hl 1 rfl) ?_
      refine lv_icmp_eq (tgt := 1114) hx hb dL_law_1109 (by decide) (fun _ => ?_) (fun c_19 => absurd (by decide) c_19)
      refine pv_pc 1114 rfl ?_
      refine lv_iload hx hb dL_law_1114 (lv_at hl 1 rfl) ?_
      refine lv_if_ne (tgt := 1131) hx hb dL_law_1116 (by decide) (fun _ => ?_) (fun c_20 => absurd c_20 (by decide))
      refine lv_goto (tgt := 3721) hx hb dL_law_1131 (by decide) ?_
      refine lv_iinc (v := 7) (lv' := [(5, .int 7), (7, .int r_13), (6, .int 1), (0, .ref b), (1, .ref x0), (2, .ref m0), (3, .ref o0), (4, .ref d0)]) hx hb dL_law_3721 hl (k := 7) rfl (by decide) (by decide) rfl (fun ls hl => ?_)
      refine lv_goto (tgt := 28) hx hb dL_law_3724 (by decide) ?_
      refine lv_iload hx hb dL_law_28 (lv_at hl 0 rfl) ?_
      refine lv_aload_n hx hb dL_law_30 rfl (lv_at hl 3 rfl) ?_
      refine va_slen hx hb hX hbl hbA hS dL_law_31 ?_
      refine pv_setI 7 rfl ?_
      refine lv_bipush (v := 7) hx hb dL_law_32 (by decide) ?_
      refine lv_isub hx hb dL_law_34 ?_
      refine pv_setI 0 (by decide) ?_
      refine lv_icmp_gt (tgt := 3727) hx hb dL_law_35 (by decide) (fun _ => ?_) (fun c_21 => absurd (by decide) c_21)
      refine lv_iconst (v := 1) hx hb dL_law_3727 (by decide) ?_
      refine pv_pc 3728 rfl ?_
      refine va_forget (fun q hq => hAf _ (hS.2.2 q hq)) ?_
      refine W.widen (k := 600006) (n := 7302064) (Nat.le_of_ble_eq_true rfl) (Nat.le_of_ble_eq_true rfl) ?_
      exact lw_ret (d0 := s.drawn) (Drawn.sameBut.refl s.drawn lw_cs) hx hb hr hlocks dL_law_3728

theorem dL_law_2512 : decode cL_law 2512 = .ok (.aload_n 1, 1) := by decide +kernel
theorem dL_law_2513 : decode cL_law 2513 = .ok (.aload_n 0, 1) := by decide +kernel
theorem dL_law_2514 : decode cL_law 2514 = .ok (.iload 5, 2) := by decide +kernel
theorem dL_law_2516 : decode cL_law 2516 = .ok (.iconst 1, 1) := by decide +kernel
theorem dL_law_2517 : decode cL_law 2517 = .ok (.iadd, 1) := by decide +kernel
theorem dL_law_2518 : decode cL_law 2518 = .ok (.iaload, 1) := by decide +kernel
theorem dL_law_2519 : decode cL_law 2519 = .ok (.aload_n 3, 1) := by decide +kernel
theorem dL_law_2520 : decode cL_law 2520 = .ok (.invokestatic 306, 3) := by decide +kernel
theorem w7_143 : (Jvm.Cond.methodLink "PolyforgeLaw" (306 : Nat) ({ cls := "PolyforgeLaw", name := "addIdeal", desc := "(LPolyforge;I[J)I" } : Jvm.MethodName)) ∈ lw_tbl := pv_t7 (pv_mg 143 rfl)
theorem w7_145 : (Jvm.Cond.codeWith ({ cls := "PolyforgeLaw", name := "addIdeal", desc := "(LPolyforge;I[J)I" } : Jvm.MethodName) method_36_code (4 : Nat) (Option.some Jvm.ClassFile.FieldType.int) [((0 : Nat), (9 : Nat), (12 : Nat), (13 : Nat)), ((0 : Nat), (9 : Nat), (15 : Nat), (15 : Nat))]) ∈ lw_tbl := pv_t7 (pv_mg 145 rfl)
theorem w7_144 : (Jvm.Cond.static ({ cls := "PolyforgeLaw", name := "addIdeal", desc := "(LPolyforge;I[J)I" } : Jvm.MethodName)) ∈ lw_tbl := pv_t7 (pv_mg 144 rfl)
theorem dL_law_2523 : decode cL_law 2523 = .ok (.istore 6, 2) := by decide +kernel
theorem dL_law_2525 : decode cL_law 2525 = .ok (.aload_n 2, 1) := by decide +kernel
theorem dL_law_2526 : decode cL_law 2526 = .ok (.aload_n 0, 1) := by decide +kernel
theorem dL_law_2527 : decode cL_law 2527 = .ok (.iload 5, 2) := by decide +kernel
theorem dL_law_2529 : decode cL_law 2529 = .ok (.iconst 1, 1) := by decide +kernel
theorem dL_law_2530 : decode cL_law 2530 = .ok (.iadd, 1) := by decide +kernel
theorem dL_law_2531 : decode cL_law 2531 = .ok (.iaload, 1) := by decide +kernel
theorem dL_law_2532 : decode cL_law 2532 = .ok (.invokevirtual 308, 3) := by decide +kernel
theorem w10_197 : (Jvm.Cond.methodLink "PolyforgeLaw" (308 : Nat) ({ cls := "PolyforgeModel", name := "addIdeal", desc := "(I)I" } : Jvm.MethodName)) ∈ lw_tbl := pv_t10 (pv_mg 197 rfl)
theorem w10_200 : (Jvm.Cond.code ({ cls := "PolyforgeModel", name := "addIdeal", desc := "(I)I" } : Jvm.MethodName) prog_14_method_98_code (2 : Nat) (Option.some Jvm.ClassFile.FieldType.int)) ∈ lw_tbl := pv_t10 (pv_mg 200 rfl)
theorem w10_199 : (Jvm.Cond.selects "PolyforgeModel" ({ cls := "PolyforgeModel", name := "addIdeal", desc := "(I)I" } : Jvm.MethodName) ({ cls := "PolyforgeModel", name := "addIdeal", desc := "(I)I" } : Jvm.MethodName)) ∈ lw_tbl := pv_t10 (pv_mg 199 rfl)
theorem w10_198 : (Jvm.Cond.instanceMethod ({ cls := "PolyforgeModel", name := "addIdeal", desc := "(I)I" } : Jvm.MethodName)) ∈ lw_tbl := pv_t10 (pv_mg 198 rfl)
theorem dL_law_2535 : decode cL_law 2535 = .ok (.istore 7, 2) := by decide +kernel
theorem dL_law_2537 : decode cL_law 2537 = .ok (.aload_n 2, 1) := by decide +kernel
theorem dL_law_2538 : decode cL_law 2538 = .ok (.invokevirtual 199, 3) := by decide +kernel
theorem dL_law_2541 : decode cL_law 2541 = .ok (.iload 6, 2) := by decide +kernel
theorem dL_law_2543 : decode cL_law 2543 = .ok (.if_icmp .eq 5, 3) := by decide +kernel
theorem dL_law_2548 : decode cL_law 2548 = .ok (.iload 6, 2) := by decide +kernel
theorem dL_law_2550 : decode cL_law 2550 = .ok (.ifCond .ne 15, 3) := by decide +kernel
theorem dL_law_2553 : decode cL_law 2553 = .ok (.aload_n 3, 1) := by decide +kernel
theorem dL_law_2554 : decode cL_law 2554 = .ok (.iconst 0, 1) := by decide +kernel
theorem dL_law_2555 : decode cL_law 2555 = .ok (.laload, 1) := by decide +kernel
theorem dL_law_2556 : decode cL_law 2556 = .ok (.iload 7, 2) := by decide +kernel
theorem dL_law_2558 : decode cL_law 2558 = .ok (.i2l, 1) := by decide +kernel
theorem dL_law_2559 : decode cL_law 2559 = .ok (.lcmp, 1) := by decide +kernel
theorem dL_law_2560 : decode cL_law 2560 = .ok (.ifCond .eq 5, 3) := by decide +kernel
theorem dL_law_2565 : decode cL_law 2565 = .ok (.goto 1156, 3) := by decide +kernel
set_option maxHeartbeats 4000000 in
set_option maxRecDepth 100000 in
/-- the law, call 34: addIdeal -/
theorem law_case_34 {p : Program} {e : Env} {s : State} {m : MethodId} {below : List Frame} {meth : Method} {c : Code} (l : Launch) (hfl : l.stackTraces = false) {b : Nat} {xs : Nat → Int32} (C0 : lw_At p s m meth c b 7 xs) {D : va_G} {A : Nat → Prop} (hA : ∀ q : Nat, s.heap.size ≤ q → A q) (hAf : ∀ q : Nat, A q → s.heap.size ≤ q) (hbA : ¬ A b) (hE : pv_E A s s.heap) {x0 m0 o0 d0 : Nat} {xq xw mq : Nat → Nat} {xJ xP xO xC xI mI mI2 mI3 mT mC oL : ClassId} {xsg xsf msg msf : Nat → Int32} (hxsg : ∀ j, j < 3 → xsg j = 63) (hmsg : ∀ j, j < 3 → msg j = 63) {H : Heap} {locs : List Loc} (hK : va_K D pv_cl [(xJ, .long), (xP, .object "Polyforge$Polynomial"), (xO, .object "Polyforge$Ideal"), (xC, .char), (xI, .int), (mI, .int), (mT, .object "PolyforgeModel$Terms"), (mI2, .int), (mC, .char), (mI3, .int), (oL, .long)] s) (hP : va_P D pv_cl [(x0, .inr (0, [.ref (xq 0), .int 0, .int 108, .ref (xq 1), .int 0, .ref (xq 2), .int 0, .ref (xq 3), .ref (xq 4), .int 1, .ref (xq 5), .ref (xq 6), .ref (xq 7), .ref (xq 8), .ref (xq 9)])), ((xq 6), .inr (2, [.ref (xw 0), .ref (xw 1), .ref (xw 2), .ref (xw 3), .int 0, .int 0])), ((xw 2), .inl (xJ, 64, .inr (.inl (fun _ => 0)))), ((xq 0), .inl (xP, 60, .inr (.inr (.inr (.inr (fun _ => none)))))), ((xq 1), .inl (xO, 5, .inr (.inr (.inr (.inr (fun _ => none)))))), ((xq 3), .inl (xC, 3, .inl xsg)), ((xq 4), .inl (xI, 3, .inl xsf)), (m0, .inr (1, pv_m 0 mq)), ((mq 0), .inl (mI, 60, .inl (fun _ => 0))), ((mq 1), .inl (mT, 60, .inr (.inr (.inr (.inr (fun _ => none)))))), ((mq 2), .inl (mI2, 5, .inl (fun _ => 0))), ((mq 9), .inl (mC, 3, .inl msg)), ((mq 10), .inl (mI3, 3, .inl msf)), (o0, .inl (oL, 1, .inr (.inl (fun _ => 0))))] H) (hD : va_D A [(x0, .inr (0, [.ref (xq 0), .int 0, .int 108, .ref (xq 1), .int 0, .ref (xq 2), .int 0, .ref (xq 3), .ref (xq 4), .int 1, .ref (xq 5), .ref (xq 6), .ref (xq 7), .ref (xq 8), .ref (xq 9)])), ((xq 6), .inr (2, [.ref (xw 0), .ref (xw 1), .ref (xw 2), .ref (xw 3), .int 0, .int 0])), ((xw 2), .inl (xJ, 64, .inr (.inl (fun _ => 0)))), ((xq 0), .inl (xP, 60, .inr (.inr (.inr (.inr (fun _ => none)))))), ((xq 1), .inl (xO, 5, .inr (.inr (.inr (.inr (fun _ => none)))))), ((xq 3), .inl (xC, 3, .inl xsg)), ((xq 4), .inl (xI, 3, .inl xsf)), (m0, .inr (1, pv_m 0 mq)), ((mq 0), .inl (mI, 60, .inl (fun _ => 0))), ((mq 1), .inl (mT, 60, .inr (.inr (.inr (.inr (fun _ => none)))))), ((mq 2), .inl (mI2, 5, .inl (fun _ => 0))), ((mq 9), .inl (mC, 3, .inl msg)), ((mq 10), .inl (mI3, 3, .inl msf)), (o0, .inl (oL, 1, .inr (.inl (fun _ => 0))))]) (hS : va_S A s.heap H locs) {ls : Array Slot} (hl : lv_has ls 9 [(0, .ref b), (1, .ref x0), (2, .ref m0), (3, .ref o0), (4, .ref d0), (5, .int 0)]) : W p l e room_1 s m #[Value.ref b] below meth c H locs 397 653821 (lw_Z below #[Value.ref b] s) (F0 m 2512 ls []) := by
  obtain ⟨hx, hb, hr, hml, hown, hts0, hX, hbl, hlocks, hgv⟩ := C0
  have hts : ∀ w ∈ pv_W, w.before #[Value.ref b] s = true := fun w h => hts0 w (List.mem_filter.mp h).1
  have hg := fun {w : Cond} (h : w ∈ lw_tbl) (g : goodWord w = true) => hts w (pv_in h g)
  have hP : va_P D pv_cl [(x0, .inr (0, [.ref (xq 0), .int 0, .int 108, .ref (xq 1), .int 0, .ref (xq 2), .int 0, .ref (xq 3), .ref (xq 4), .int 1, .ref (xq 5), .ref (xq 6), .ref (xq 7), .ref (xq 8), .ref (xq 9)])), ((xq 1), .inl (xO, 5, .inr (.inr (.inr (.inr (fun _ => none)))))), (m0, .inr (1, pv_m 0 mq)), ((mq 2), .inl (mI2, 5, .inl (fun _ => 0))), (o0, .inl (oL, 1, .inr (.inl (fun _ => 0))))] _ := hP.sub [0, 4, 7, 10, 13] rfl
  have hD : va_D A [(x0, .inr (0, [.ref (xq 0), .int 0, .int 108, .ref (xq 1), .int 0, .ref (xq 2), .int 0, .ref (xq 3), .ref (xq 4), .int 1, .ref (xq 5), .ref (xq 6), .ref (xq 7), .ref (xq 8), .ref (xq 9)])), ((xq 1), .inl (xO, 5, .inr (.inr (.inr (.inr (fun _ => none)))))), (m0, .inr (1, pv_m 0 mq)), ((mq 2), .inl (mI2, 5, .inl (fun _ => 0))), (o0, .inl (oL, 1, .inr (.inl (fun _ => 0))))] := hD.sub [0, 4, 7, 10, 13] (by decide) rfl
  have hK : va_K D pv_cl [(xO, .object "Polyforge$Ideal"), (mI2, .int), (oL, .long)] s := hK.sub [2, 7, 10] rfl
  refine lv_aload_n hx hb dL_law_2512 rfl (lv_at hl 1 rfl) ?_
  refine lv_aload_n hx hb dL_law_2513 rfl (lv_at hl 0 rfl) ?_
  refine lv_iload hx hb dL_law_2514 (lv_at hl 5 rfl) ?_
  refine lv_iconst (v := 1) hx hb dL_law_2516 (by decide) ?_
  refine lv_iadd hx hb dL_law_2517 ?_
  refine pv_setI 1 (by decide) ?_
  refine va_sld hx hb hX hbl hbA hS (by unfold vp_in; decide) dL_law_2518 ?_
  refine pv_setI (xs 1) rfl ?_
  refine lv_aload_n hx hb dL_law_2519 rfl (lv_at hl 3 rfl) ?_
  have hF := va_free (wc := [(x0, .inr (0, [.ref (xq 0), .int 0, .int 108, .ref (xq 1), .int 0, .ref (xq 2), .int 0, .ref (xq 3), .ref (xq 4), .int 1, .ref (xq 5), .ref (xq 6), .ref (xq 7), .ref (xq 8), .ref (xq 9)])), ((xq 1), .inl (xO, 5, .inr (.inr (.inr (.inr (fun _ => none)))))), (o0, .inl (oL, 1, .inr (.inl (fun _ => 0))))]) hD hS hA [0, 1, 4] rfl
  refine va_calli (vx_runSW (As := [.ref x0, .int (xs 1), .ref o0]) (rest := []) ⟨hx, hb, hml, hown, hts⟩ (c_L_addIdeal l hfl D _ x0 xq xO oL (xs 1) o0 (fun _ => 0)) (vx_cwSW 3 hts (pv_gSW w7_143 w7_144 w1_0 w7_145) rfl rfl rfl (by decide +kernel) ⟨Nat.le_of_ble_eq_true rfl, Nat.le_of_ble_eq_true rfl⟩) (pv_ps hE hS hF (hP.sub [0, 1, 4] rfl) (hK.sub [0, 2] rfl) (hD.sub [0, 1, 4] (by decide) rfl)) rfl rfl hl.1 rfl (lv_room (Nat.le_of_ble_eq_true rfl)) dL_law_2520 ⟨Nat.le_of_ble_eq_true rfl, Nat.le_of_ble_eq_true rfl⟩) hS (fun q _ h => hF q h) hF (fun r_0 u t H1 locs1 ht hvm hw hB hz1 hk1 hS => ?_)
  refine W.widen (k := 400) (n := 653836) (Nat.le_of_ble_eq_true rfl) (Nat.le_of_ble_eq_true rfl) ?_
  obtain ⟨f_2, hf_3, hP1, hK1, hD1⟩ := hB
  rw [ht] at hP1
  have hK1 := va_K.moved hvm.symm hK1
  obtain ⟨hP, hD⟩ := va_join (wr := [(m0, .inr (1, pv_m 0 mq)), ((mq 2), .inl (mI2, 5, .inl (fun _ => 0)))]) (w1 := [(o0, .inl (oL, 1, .inr (.inl f_2)))]) hP hD [0, 1, 4] [2, 3] rfl rfl (by decide) (by decide) hk1 hF hP1 hD1
  have hP : va_P D pv_cl [(m0, .inr (1, pv_m 0 mq)), ((mq 2), .inl (mI2, 5, .inl (fun _ => 0))), (o0, .inl (oL, 1, .inr (.inl f_2)))] _ := hP
  have hD : va_D A [(m0, .inr (1, pv_m 0 mq)), ((mq 2), .inl (mI2, 5, .inl (fun _ => 0))), (o0, .inl (oL, 1, .inr (.inl f_2)))] := hD
  rcases hw with ⟨rfl, hu, hc⟩ | ⟨rfl, hn⟩
  · refine lv_istore (lv' := [(6, .int 0), (0, .ref b), (1, .ref x0), (2, .ref m0), (3, .ref o0), (4, .ref d0), (5, .int 0)]) hx hb dL_law_2523 hl (by decide) rfl (fun ls hl => ?_)
    refine lv_aload_n hx hb dL_law_2525 rfl (lv_at hl 3 rfl) ?_
    refine lv_aload_n hx hb dL_law_2526 rfl (lv_at hl 1 rfl) ?_
    refine pv_pc 2527 rfl ?_
    refine lv_iload hx hb dL_law_2527 (lv_at hl 6 rfl) ?_
    refine lv_iconst (v := 1) hx hb dL_law_2529 (by decide) ?_
    refine lv_iadd hx hb dL_law_2530 ?_
    refine pv_setI 1 (by decide) ?_
    refine va_sld hx hb hX hbl hbA hS (by unfold vp_in; decide) dL_law_2531 ?_
    refine pv_setI (xs 1) rfl ?_
    have hF := va_free (wc := [(m0, .inr (1, pv_m 0 mq)), ((mq 2), .inl (mI2, 5, .inl (fun _ => 0)))]) hD hS hA [0, 1] rfl
    refine va_calli (va_runV (As := [.int (xs 1)]) (rest := []) ⟨hx, hb, hml, hown, hts⟩ (c_X13_addIdeal l hfl D _ m0 mq mI2 (xs 1)) (cwV 1 hts (pv_gV w10_197 w10_198 w10_199 w1_10 w10_200) rfl rfl rfl (by decide +kernel) ⟨Nat.le_of_ble_eq_true rfl, Nat.le_of_ble_eq_true rfl⟩) (pv_pV hE hS hF (hP.sub [0, 1] rfl) (hK.sub [1] rfl) (hD.sub [0, 1] (by decide) rfl) (va_recv (ci := 1) (q0 := 0) hK hP rfl rfl)) rfl rfl hl.1 rfl (lv_room (Nat.le_of_ble_eq_true rfl)) dL_law_2532 ⟨Nat.le_of_ble_eq_true rfl, Nat.le_of_ble_eq_true rfl⟩) hS (fun q _ h => hF q h) hF (fun r_3 u t H1 locs1 ht hvm hw hB hz1 hk1 hS => ?_)
    refine W.widen (k := 400) (n := 653836) (Nat.le_of_ble_eq_true rfl) (Nat.le_of_ble_eq_true rfl) ?_
    obtain ⟨fs_5, hf_6, hP1, hK1, hD1⟩ := hB
    rw [ht] at hP1
    have hK1 := va_K.moved hvm.symm hK1
    obtain ⟨hP, hD⟩ := va_join (wr := [(o0, .inl (oL, 1, .inr (.inl f_2)))]) (w1 := [(m0, .inr (1, fs_5))]) hP hD [0, 1] [2] rfl rfl (by decide) (by decide) hk1 hF hP1 hD1
    have hP : va_P D pv_cl [(o0, .inl (oL, 1, .inr (.inl f_2))), (m0, .inr (1, fs_5))] _ := hP
    have hD : va_D A [(o0, .inl (oL, 1, .inr (.inl f_2))), (m0, .inr (1, fs_5))] := hD
    rcases hw with ⟨rfl, rfl, a_7⟩ | ⟨rfl, a_7⟩
    · have hP : va_P D pv_cl [(o0, .inl (oL, 1, .inr (.inl f_2))), (m0, .inr (1, fs_5))] _ := hP
      have hD : va_D A [(o0, .inl (oL, 1, .inr (.inl f_2))), (m0, .inr (1, fs_5))] := hD
      refine lv_istore (lv' := [(7, .int 0), (6, .int 0), (0, .ref b), (1, .ref x0), (2, .ref m0), (3, .ref o0), (4, .ref d0), (5, .int 0)]) hx hb dL_law_2535 hl (by decide) rfl (fun ls hl => ?_)
      refine lv_aload_n hx hb dL_law_2537 rfl (lv_at hl 4 rfl) ?_
      have hF := pv_new hA hS.1
      refine va_calli (va_runV (As := []) (rest := []) ⟨hx, hb, hml, hown, hts⟩ (c_X13_thrown l hfl D _ m0 fs_5 0 hf_6) (cwV 0 hts (pv_gV w9_102 w9_103 w9_104 w1_10 w9_105) rfl rfl rfl (by decide +kernel) ⟨Nat.le_of_ble_eq_true rfl, Nat.le_of_ble_eq_true rfl⟩) (pv_pV hE hS hF (hP.sub [1] rfl) (hK.sub [] rfl) (hD.sub [1] (by decide) rfl) (va_recv (ci := 1) (q0 := 1) hK hP rfl rfl)) rfl rfl hl.1 rfl (lv_room (Nat.le_of_ble_eq_true rfl)) dL_law_2538 ⟨Nat.le_of_ble_eq_true rfl, Nat.le_of_ble_eq_true rfl⟩) hS (fun q _ h => hF q h) hF (fun r_7 u t H1 locs1 ht hvm hw hB hz1 hk1 hS => ?_)
      refine W.widen (k := 400) (n := 653836) (Nat.le_of_ble_eq_true rfl) (Nat.le_of_ble_eq_true rfl) ?_
      have hP := pv_keep hP rfl hk1
      subst hw
      refine lv_iload hx hb dL_law_2541 (lv_at hl 1 rfl) ?_
      refine lv_icmp_eq (tgt := 2548) hx hb dL_law_2543 (by decide) (fun _ => ?_) (fun c_9 => absurd (by decide) c_9)
      refine lv_iload hx hb dL_law_2548 (lv_at hl 1 rfl) ?_
      refine lv_if_ne (tgt := 2565) hx hb dL_law_2550 (by decide) (fun c_10 => absurd (by decide) c_10) (fun _ => ?_)
      refine pv_pc 2553 rfl ?_
      refine lv_aload_n hx hb dL_law_2553 rfl (lv_at hl 5 rfl) ?_
      refine lv_iconst (v := 0) hx hb dL_law_2554 (by decide) ?_
      refine va_lald hx hb hK hP 0 2 rfl rfl (by unfold vp_in; decide) dL_law_2555 ?_
      refine pv_setL 0 (hf_3.trans hu) ?_
      refine lv_iload hx hb dL_law_2556 (lv_at hl 0 rfl) ?_
      refine lv_i2l (v := 0) hx hb dL_law_2558 (by decide) ?_
      refine W.lcmp hx hb dL_law_2559 ?_
      refine pv_setI 0 (by decide) ?_
      refine lv_if_eq (tgt := 2565) hx hb dL_law_2560 (by decide) (fun _ => ?_) (fun c_11 => absurd (by decide) c_11)
      refine lv_goto (tgt := 3721) hx hb dL_law_2565 (by decide) ?_
      refine lv_iinc (v := 7) (lv' := [(5, .int 7), (7, .int 0), (6, .int 0), (0, .ref b), (1, .ref x0), (2, .ref m0), (3, .ref o0), (4, .ref d0)]) hx hb dL_law_3721 hl (k := 7) rfl (by decide) (by decide) rfl (fun ls hl => ?_)
      refine lv_goto (tgt := 28) hx hb dL_law_3724 (by decide) ?_
      refine lv_iload hx hb dL_law_28 (lv_at hl 0 rfl) ?_
      refine lv_aload_n hx hb dL_law_30 rfl (lv_at hl 3 rfl) ?_
      refine pv_pc 31 rfl ?_
      refine va_slen hx hb hX hbl hbA hS dL_law_31 ?_
      refine pv_setI 7 rfl ?_
      refine lv_bipush (v := 7) hx hb dL_law_32 (by decide) ?_
      refine lv_isub hx hb dL_law_34 ?_
      refine pv_setI 0 (by decide) ?_
      refine lv_icmp_gt (tgt := 3727) hx hb dL_law_35 (by decide) (fun _ => ?_) (fun c_12 => absurd (by decide) c_12)
      refine lv_iconst (v := 1) hx hb dL_law_3727 (by decide) ?_
      refine va_forget (fun q hq => hAf _ (hS.2.2 q hq)) ?_
      refine W.widen (k := 600006) (n := 7302064) (Nat.le_of_ble_eq_true rfl) (Nat.le_of_ble_eq_true rfl) ?_
      exact lw_ret (d0 := s.drawn) (Drawn.sameBut.refl s.drawn lw_cs) hx hb hr hlocks dL_law_3728
    · exact absurd hc a_7
  · refine lv_istore (lv' := [(6, .int 1), (0, .ref b), (1, .ref x0), (2, .ref m0), (3, .ref o0), (4, .ref d0), (5, .int 0)]) hx hb dL_law_2523 hl (by decide) rfl (fun ls hl => ?_)
    refine lv_aload_n hx hb dL_law_2525 rfl (lv_at hl 3 rfl) ?_
    refine lv_aload_n hx hb dL_law_2526 rfl (lv_at hl 1 rfl) ?_
    refine pv_pc 2527 rfl ?_
    refine lv_iload hx hb dL_law_2527 (lv_at hl 6 rfl) ?_
    refine lv_iconst (v := 1) hx hb dL_law_2529 (by decide) ?_
    refine lv_iadd hx hb dL_law_2530 ?_
    refine pv_setI 1 (by decide) ?_
    refine va_sld hx hb hX hbl hbA hS (by unfold vp_in; decide) dL_law_2531 ?_
    refine pv_setI (xs 1) rfl ?_
    have hF := va_free (wc := [(m0, .inr (1, pv_m 0 mq)), ((mq 2), .inl (mI2, 5, .inl (fun _ => 0)))]) hD hS hA [0, 1] rfl
    refine va_calli (va_runV (As := [.int (xs 1)]) (rest := []) ⟨hx, hb, hml, hown, hts⟩ (c_X13_addIdeal l hfl D _ m0 mq mI2 (xs 1)) (cwV 1 hts (pv_gV w10_197 w10_198 w10_199 w1_10 w10_200) rfl rfl rfl (by decide +kernel) ⟨Nat.le_of_ble_eq_true rfl, Nat.le_of_ble_eq_true rfl⟩) (pv_pV hE hS hF (hP.sub [0, 1] rfl) (hK.sub [1] rfl) (hD.sub [0, 1] (by decide) rfl) (va_recv (ci := 1) (q0 := 0) hK hP rfl rfl)) rfl rfl hl.1 rfl (lv_room (Nat.le_of_ble_eq_true rfl)) dL_law_2532 ⟨Nat.le_of_ble_eq_true rfl, Nat.le_of_ble_eq_true rfl⟩) hS (fun q _ h => hF q h) hF (fun r_12 u t H1 locs1 ht hvm hw hB hz1 hk1 hS => ?_)
    refine W.widen (k := 400) (n := 653836) (Nat.le_of_ble_eq_true rfl) (Nat.le_of_ble_eq_true rfl) ?_
    obtain ⟨fs_14, hf_15, hP1, hK1, hD1⟩ := hB
    rw [ht] at hP1
    have hK1 := va_K.moved hvm.symm hK1
    obtain ⟨hP, hD⟩ := va_join (wr := [(o0, .inl (oL, 1, .inr (.inl f_2)))]) (w1 := [(m0, .inr (1, fs_14))]) hP hD [0, 1] [2] rfl rfl (by decide) (by decide) hk1 hF hP1 hD1
    have hP : va_P D pv_cl [(o0, .inl (oL, 1, .inr (.inl f_2))), (m0, .inr (1, fs_14))] _ := hP
    have hD : va_D A [(o0, .inl (oL, 1, .inr (.inl f_2))), (m0, .inr (1, fs_14))] := hD
    rcases hw with ⟨rfl, rfl, a_16⟩ | ⟨rfl, a_16⟩
    · exact absurd a_16 hn
    · have hP : va_P D pv_cl [(o0, .inl (oL, 1, .inr (.inl f_2))), (m0, .inr (1, fs_14))] _ := hP
      have hD : va_D A [(o0, .inl (oL, 1, .inr (.inl f_2))), (m0, .inr (1, fs_14))] := hD
      refine lv_istore (lv' := [(7, .int r_12), (6, .int 1), (0, .ref b), (1, .ref x0), (2, .ref m0), (3, .ref o0), (4, .ref d0), (5, .int 0)]) hx hb dL_law_2535 hl (by decide) rfl (fun ls hl => ?_)
      refine lv_aload_n hx hb dL_law_2537 rfl (lv_at hl 4 rfl) ?_
      have hF := pv_new hA hS.1
      refine va_calli (va_runV (As := []) (rest := []) ⟨hx, hb, hml, hown, hts⟩ (c_X13_thrown l hfl D _ m0 fs_14 1 hf_15) (cwV 0 hts (pv_gV w9_102 w9_103 w9_104 w1_10 w9_105) rfl rfl rfl (by decide +kernel) ⟨Nat.le_of_ble_eq_true rfl, Nat.le_of_ble_eq_true rfl⟩) (pv_pV hE hS hF (hP.sub [1] rfl) (hK.sub [] rfl) (hD.sub [1] (by decide) rfl) (va_recv (ci := 1) (q0 := 1) hK hP rfl rfl)) rfl rfl hl.1 rfl (lv_room (Nat.le_of_ble_eq_true rfl)) dL_law_2538 ⟨Nat.le_of_ble_eq_true rfl, Nat.le_of_ble_eq_true rfl⟩) hS (fun q _ h => hF q h) hF (fun r_16 u t H1 locs1 ht hvm hw hB hz1 hk1 hS => ?_)
      refine W.widen (k := 400) (n := 653836) (Nat.le_of_ble_eq_true rfl) (Nat.le_of_ble_eq_true rfl) ?_
      have hP := pv_keep hP rfl hk1
      subst hw
      refine lv_iload hx hb dL_law_2541 (lv_at hl 1 rfl) ?_
      refine lv_icmp_eq (tgt := 2548) hx hb dL_law_2543 (by decide) (fun _ => ?_) (fun c_18 => absurd (by decide) c_18)
      refine lv_iload hx hb dL_law_2548 (lv_at hl 1 rfl) ?_
      refine lv_if_ne (tgt := 2565) hx hb dL_law_2550 (by decide) (fun _ => ?_) (fun c_19 => absurd c_19 (by decide))
      refine pv_pc 2565 rfl ?_
      refine lv_goto (tgt := 3721) hx hb dL_law_2565 (by decide) ?_
      refine lv_iinc (v := 7) (lv' := [(5, .int 7), (7, .int r_12), (6, .int 1), (0, .ref b), (1, .ref x0), (2, .ref m0), (3, .ref o0), (4, .ref d0)]) hx hb dL_law_3721 hl (k := 7) rfl (by decide) (by decide) rfl (fun ls hl => ?_)
      refine lv_goto (tgt := 28) hx hb dL_law_3724 (by decide) ?_
      refine lv_iload hx hb dL_law_28 (lv_at hl 0 rfl) ?_
      refine lv_aload_n hx hb dL_law_30 rfl (lv_at hl 3 rfl) ?_
      refine va_slen hx hb hX hbl hbA hS dL_law_31 ?_
      refine pv_setI 7 rfl ?_
      refine lv_bipush (v := 7) hx hb dL_law_32 (by decide) ?_
      refine lv_isub hx hb dL_law_34 ?_
      refine pv_setI 0 (by decide) ?_
      refine lv_icmp_gt (tgt := 3727) hx hb dL_law_35 (by decide) (fun _ => ?_) (fun c_20 => absurd (by decide) c_20)
      refine lv_iconst (v := 1) hx hb dL_law_3727 (by decide) ?_
      refine va_forget (fun q hq => hAf _ (hS.2.2 q hq)) ?_
      refine W.widen (k := 600006) (n := 7302064) (Nat.le_of_ble_eq_true rfl) (Nat.le_of_ble_eq_true rfl) ?_
      exact lw_ret (d0 := s.drawn) (Drawn.sameBut.refl s.drawn lw_cs) hx hb hr hlocks dL_law_3728

theorem dL_law_3251 : decode cL_law 3251 = .ok (.aload_n 1, 1) := by decide +kernel
theorem dL_law_3252 : decode cL_law 3252 = .ok (.aload_n 0, 1) := by decide +kernel
theorem dL_law_3253 : decode cL_law 3253 = .ok (.iload 5, 2) := by decide +kernel
theorem dL_law_3255 : decode cL_law 3255 = .ok (.iconst 1, 1) := by decide +kernel
theorem dL_law_3256 : decode cL_law 3256 = .ok (.iadd, 1) := by decide +kernel
theorem dL_law_3257 : decode cL_law 3257 = .ok (.iaload, 1) := by decide +kernel
theorem dL_law_3258 : decode cL_law 3258 = .ok (.aload_n 0, 1) := by decide +kernel
theorem dL_law_3259 : decode cL_law 3259 = .ok (.iload 5, 2) := by decide +kernel
theorem dL_law_3261 : decode cL_law 3261 = .ok (.iconst 2, 1) := by decide +kernel
theorem dL_law_3262 : decode cL_law 3262 = .ok (.iadd, 1) := by decide +kernel
theorem dL_law_3263 : decode cL_law 3263 = .ok (.iaload, 1) := by decide +kernel
theorem dL_law_3264 : decode cL_law 3264 = .ok (.i2c, 1) := by decide +kernel
theorem dL_law_3265 : decode cL_law 3265 = .ok (.aload_n 3, 1) := by decide +kernel
theorem dL_law_3266 : decode cL_law 3266 = .ok (.invokestatic 337, 3) := by decide +kernel
theorem w8_90 : (Jvm.Cond.methodLink "PolyforgeLaw" (337 : Nat) ({ cls := "PolyforgeLaw", name := "assume", desc := "(LPolyforge;IC[J)I" } : Jvm.MethodName)) ∈ lw_tbl := pv_t8 (pv_mg 90 rfl)
theorem w8_92 : (Jvm.Cond.codeWith ({ cls := "PolyforgeLaw", name := "assume", desc := "(LPolyforge;IC[J)I" } : Jvm.MethodName) method_46_code (5 : Nat) (Option.some Jvm.ClassFile.FieldType.int) [((0 : Nat), (10 : Nat), (13 : Nat), (13 : Nat)), ((0 : Nat), (10 : Nat), (17 : Nat), (15 : Nat))]) ∈ lw_tbl := pv_t8 (pv_mg 92 rfl)
theorem w8_91 : (Jvm.Cond.static ({ cls := "PolyforgeLaw", name := "assume", desc := "(LPolyforge;IC[J)I" } : Jvm.MethodName)) ∈ lw_tbl := pv_t8 (pv_mg 91 rfl)
theorem dL_law_3269 : decode cL_law 3269 = .ok (.istore 6, 2) := by decide +kernel
theorem dL_law_3271 : decode cL_law 3271 = .ok (.aload_n 2, 1) := by decide +kernel
theorem dL_law_3272 : decode cL_law 3272 = .ok (.aload_n 0, 1) := by decide +kernel
theorem dL_law_3273 : decode cL_law 3273 = .ok (.iload 5, 2) := by decide +kernel
theorem dL_law_3275 : decode cL_law 3275 = .ok (.iconst 1, 1) := by decide +kernel
theorem dL_law_3276 : decode cL_law 3276 = .ok (.iadd, 1) := by decide +kernel
theorem dL_law_3277 : decode cL_law 3277 = .ok (.iaload, 1) := by decide +kernel
theorem dL_law_3278 : decode cL_law 3278 = .ok (.aload_n 0, 1) := by decide +kernel
theorem dL_law_3279 : decode cL_law 3279 = .ok (.iload 5, 2) := by decide +kernel
theorem dL_law_3281 : decode cL_law 3281 = .ok (.iconst 2, 1) := by decide +kernel
theorem dL_law_3282 : decode cL_law 3282 = .ok (.iadd, 1) := by decide +kernel
theorem dL_law_3283 : decode cL_law 3283 = .ok (.iaload, 1) := by decide +kernel
theorem dL_law_3284 : decode cL_law 3284 = .ok (.i2c, 1) := by decide +kernel
theorem dL_law_3285 : decode cL_law 3285 = .ok (.invokevirtual 340, 3) := by decide +kernel
theorem w11_70 : (Jvm.Cond.methodLink "PolyforgeLaw" (340 : Nat) ({ cls := "PolyforgeModel", name := "assume", desc := "(IC)I" } : Jvm.MethodName)) ∈ lw_tbl := pv_t11 (pv_mg 70 rfl)
theorem w11_73 : (Jvm.Cond.code ({ cls := "PolyforgeModel", name := "assume", desc := "(IC)I" } : Jvm.MethodName) prog_14_method_114_code (3 : Nat) (Option.some Jvm.ClassFile.FieldType.int)) ∈ lw_tbl := pv_t11 (pv_mg 73 rfl)
theorem w11_72 : (Jvm.Cond.selects "PolyforgeModel" ({ cls := "PolyforgeModel", name := "assume", desc := "(IC)I" } : Jvm.MethodName) ({ cls := "PolyforgeModel", name := "assume", desc := "(IC)I" } : Jvm.MethodName)) ∈ lw_tbl := pv_t11 (pv_mg 72 rfl)
theorem w11_71 : (Jvm.Cond.instanceMethod ({ cls := "PolyforgeModel", name := "assume", desc := "(IC)I" } : Jvm.MethodName)) ∈ lw_tbl := pv_t11 (pv_mg 71 rfl)
theorem dL_law_3288 : decode cL_law 3288 = .ok (.istore 7, 2) := by decide +kernel
theorem dL_law_3290 : decode cL_law 3290 = .ok (.aload_n 2, 1) := by decide +kernel
theorem dL_law_3291 : decode cL_law 3291 = .ok (.invokevirtual 199, 3) := by decide +kernel
theorem dL_law_3294 : decode cL_law 3294 = .ok (.iload 6, 2) := by decide +kernel
theorem dL_law_3296 : decode cL_law 3296 = .ok (.if_icmp .eq 5, 3) := by decide +kernel
theorem dL_law_3301 : decode cL_law 3301 = .ok (.iload 6, 2) := by decide +kernel
theorem dL_law_3303 : decode cL_law 3303 = .ok (.ifCond .ne 15, 3) := by decide +kernel
theorem dL_law_3306 : decode cL_law 3306 = .ok (.aload_n 3, 1) := by decide +kernel
theorem dL_law_3307 : decode cL_law 3307 = .ok (.iconst 0, 1) := by decide +kernel
theorem dL_law_3308 : decode cL_law 3308 = .ok (.laload, 1) := by decide +kernel
theorem dL_law_3309 : decode cL_law 3309 = .ok (.iload 7, 2) := by decide +kernel
theorem dL_law_3311 : decode cL_law 3311 = .ok (.i2l, 1) := by decide +kernel
theorem dL_law_3312 : decode cL_law 3312 = .ok (.lcmp, 1) := by decide +kernel
theorem dL_law_3313 : decode cL_law 3313 = .ok (.ifCond .eq 5, 3) := by decide +kernel
theorem dL_law_3318 : decode cL_law 3318 = .ok (.goto 403, 3) := by decide +kernel
set_option maxHeartbeats 4000000 in
set_option maxRecDepth 100000 in
/-- the law, call 44: assume -/
theorem law_case_44 {p : Program} {e : Env} {s : State} {m : MethodId} {below : List Frame} {meth : Method} {c : Code} (l : Launch) (hfl : l.stackTraces = false) {b : Nat} {xs : Nat → Int32} (C0 : lw_At p s m meth c b 7 xs) {D : va_G} {A : Nat → Prop} (hA : ∀ q : Nat, s.heap.size ≤ q → A q) (hAf : ∀ q : Nat, A q → s.heap.size ≤ q) (hbA : ¬ A b) (hE : pv_E A s s.heap) {x0 m0 o0 d0 : Nat} {xq xw mq : Nat → Nat} {xJ xP xO xC xI mI mI2 mI3 mT mC oL : ClassId} {xsg xsf msg msf : Nat → Int32} (hxsg : ∀ j, j < 3 → xsg j = 63) (hmsg : ∀ j, j < 3 → msg j = 63) {H : Heap} {locs : List Loc} (hK : va_K D pv_cl [(xJ, .long), (xP, .object "Polyforge$Polynomial"), (xO, .object "Polyforge$Ideal"), (xC, .char), (xI, .int), (mI, .int), (mT, .object "PolyforgeModel$Terms"), (mI2, .int), (mC, .char), (mI3, .int), (oL, .long)] s) (hP : va_P D pv_cl [(x0, .inr (0, [.ref (xq 0), .int 0, .int 108, .ref (xq 1), .int 0, .ref (xq 2), .int 0, .ref (xq 3), .ref (xq 4), .int 1, .ref (xq 5), .ref (xq 6), .ref (xq 7), .ref (xq 8), .ref (xq 9)])), ((xq 6), .inr (2, [.ref (xw 0), .ref (xw 1), .ref (xw 2), .ref (xw 3), .int 0, .int 0])), ((xw 2), .inl (xJ, 64, .inr (.inl (fun _ => 0)))), ((xq 0), .inl (xP, 60, .inr (.inr (.inr (.inr (fun _ => none)))))), ((xq 1), .inl (xO, 5, .inr (.inr (.inr (.inr (fun _ => none)))))), ((xq 3), .inl (xC, 3, .inl xsg)), ((xq 4), .inl (xI, 3, .inl xsf)), (m0, .inr (1, pv_m 0 mq)), ((mq 0), .inl (mI, 60, .inl (fun _ => 0))), ((mq 1), .inl (mT, 60, .inr (.inr (.inr (.inr (fun _ => none)))))), ((mq 2), .inl (mI2, 5, .inl (fun _ => 0))), ((mq 9), .inl (mC, 3, .inl msg)), ((mq 10), .inl (mI3, 3, .inl msf)), (o0, .inl (oL, 1, .inr (.inl (fun _ => 0))))] H) (hD : va_D A [(x0, .inr (0, [.ref (xq 0), .int 0, .int 108, .ref (xq 1), .int 0, .ref (xq 2), .int 0, .ref (xq 3), .ref (xq 4), .int 1, .ref (xq 5), .ref (xq 6), .ref (xq 7), .ref (xq 8), .ref (xq 9)])), ((xq 6), .inr (2, [.ref (xw 0), .ref (xw 1), .ref (xw 2), .ref (xw 3), .int 0, .int 0])), ((xw 2), .inl (xJ, 64, .inr (.inl (fun _ => 0)))), ((xq 0), .inl (xP, 60, .inr (.inr (.inr (.inr (fun _ => none)))))), ((xq 1), .inl (xO, 5, .inr (.inr (.inr (.inr (fun _ => none)))))), ((xq 3), .inl (xC, 3, .inl xsg)), ((xq 4), .inl (xI, 3, .inl xsf)), (m0, .inr (1, pv_m 0 mq)), ((mq 0), .inl (mI, 60, .inl (fun _ => 0))), ((mq 1), .inl (mT, 60, .inr (.inr (.inr (.inr (fun _ => none)))))), ((mq 2), .inl (mI2, 5, .inl (fun _ => 0))), ((mq 9), .inl (mC, 3, .inl msg)), ((mq 10), .inl (mI3, 3, .inl msf)), (o0, .inl (oL, 1, .inr (.inl (fun _ => 0))))]) (hS : va_S A s.heap H locs) {ls : Array Slot} (hl : lv_has ls 9 [(0, .ref b), (1, .ref x0), (2, .ref m0), (3, .ref o0), (4, .ref d0), (5, .int 0)]) : W p l e room_1 s m #[Value.ref b] below meth c H locs 397 653821 (lw_Z below #[Value.ref b] s) (F0 m 3251 ls []) := by
  obtain ⟨hx, hb, hr, hml, hown, hts0, hX, hbl, hlocks, hgv⟩ := C0
  have hts : ∀ w ∈ pv_W, w.before #[Value.ref b] s = true := fun w h => hts0 w (List.mem_filter.mp h).1
  have hg := fun {w : Cond} (h : w ∈ lw_tbl) (g : goodWord w = true) => hts w (pv_in h g)
  have hP : va_P D pv_cl [(x0, .inr (0, [.ref (xq 0), .int 0, .int 108, .ref (xq 1), .int 0, .ref (xq 2), .int 0, .ref (xq 3), .ref (xq 4), .int 1, .ref (xq 5), .ref (xq 6), .ref (xq 7), .ref (xq 8), .ref (xq 9)])), ((xq 3), .inl (xC, 3, .inl xsg)), ((xq 4), .inl (xI, 3, .inl xsf)), (m0, .inr (1, pv_m 0 mq)), ((mq 9), .inl (mC, 3, .inl msg)), ((mq 10), .inl (mI3, 3, .inl msf)), (o0, .inl (oL, 1, .inr (.inl (fun _ => 0))))] _ := hP.sub [0, 5, 6, 7, 11, 12, 13] rfl
  have hD : va_D A [(x0, .inr (0, [.ref (xq 0), .int 0, .int 108, .ref (xq 1), .int 0, .ref (xq 2), .int 0, .ref (xq 3), .ref (xq 4), .int 1, .ref (xq 5), .ref (xq 6), .ref (xq 7), .ref (xq 8), .ref (xq 9)])), ((xq 3), .inl (xC, 3, .inl xsg)), ((xq 4), .inl (xI, 3, .inl xsf)), (m0, .inr (1, pv_m 0 mq)), ((mq 9), .inl (mC, 3, .inl msg)), ((mq 10), .inl (mI3, 3, .inl msf)), (o0, .inl (oL, 1, .inr (.inl (fun _ => 0))))] := hD.sub [0, 5, 6, 7, 11, 12, 13] (by decide) rfl
  have hK : va_K D pv_cl [(xC, .char), (xI, .int), (mC, .char), (mI3, .int), (oL, .long)] s := hK.sub [3, 4, 8, 9, 10] rfl
  refine lv_aload_n hx hb dL_law_3251 rfl (lv_at hl 1 rfl) ?_
  refine lv_aload_n hx hb dL_law_3252 rfl (lv_at hl 0 rfl) ?_
  refine lv_iload hx hb dL_law_3253 (lv_at hl 5 rfl) ?_
  refine lv_iconst (v := 1) hx hb dL_law_3255 (by decide) ?_
  refine lv_iadd hx hb dL_law_3256 ?_
  refine pv_setI 1 (by decide) ?_
  refine va_sld hx hb hX hbl hbA hS (by unfold vp_in; decide) dL_law_3257 ?_
  refine pv_setI (xs 1) rfl ?_
  refine lv_aload_n hx hb dL_law_3258 rfl (lv_at hl 0 rfl) ?_
  refine lv_iload hx hb dL_law_3259 (lv_at hl 5 rfl) ?_
  refine lv_iconst (v := 2) hx hb dL_law_3261 (by decide) ?_
  refine lv_iadd hx hb dL_law_3262 ?_
  refine pv_setI 2 (by decide) ?_
  refine va_sld hx hb hX hbl hbA hS (by unfold vp_in; decide) dL_law_3263 ?_
  refine pv_setI (xs 2) rfl ?_
  refine pv_pc 3264 rfl ?_
  refine lv_i2c hx hb dL_law_3264 rfl ?_
  refine lv_topi (fun x_1 ex_1 => ?_)
  refine lv_aload_n hx hb dL_law_3265 rfl (lv_at hl 3 rfl) ?_
  have hF := va_free (wc := [(x0, .inr (0, [.ref (xq 0), .int 0, .int 108, .ref (xq 1), .int 0, .ref (xq 2), .int 0, .ref (xq 3), .ref (xq 4), .int 1, .ref (xq 5), .ref (xq 6), .ref (xq 7), .ref (xq 8), .ref (xq 9)])), ((xq 3), .inl (xC, 3, .inl xsg)), ((xq 4), .inl (xI, 3, .inl xsf)), (o0, .inl (oL, 1, .inr (.inl (fun _ => 0))))]) hD hS hA [0, 1, 2, 6] rfl
  refine va_calli (vx_runSW (As := [.ref x0, .int (xs 1), .int x_1, .ref o0]) (rest := []) ⟨hx, hb, hml, hown, hts⟩ (c_L_assume l hfl D _ x0 xq xC xI xsg xsf hxsg oL (xs 1) x_1 o0 (fun _ => 0)) (vx_cwSW 4 hts (pv_gSW w8_90 w8_91 w1_0 w8_92) rfl rfl rfl (by decide +kernel) ⟨Nat.le_of_ble_eq_true rfl, Nat.le_of_ble_eq_true rfl⟩) (pv_ps hE hS hF (hP.sub [0, 1, 2, 6] rfl) (hK.sub [0, 1, 4] rfl) (hD.sub [0, 1, 2, 6] (by decide) rfl)) rfl rfl hl.1 rfl (lv_room (Nat.le_of_ble_eq_true rfl)) dL_law_3266 ⟨Nat.le_of_ble_eq_true rfl, Nat.le_of_ble_eq_true rfl⟩) hS (fun q _ h => hF q h) hF (fun r_1 u t H1 locs1 ht hvm hw hB hz1 hk1 hS => ?_)
  refine W.widen (k := 399) (n := 653833) (Nat.le_of_ble_eq_true rfl) (Nat.le_of_ble_eq_true rfl) ?_
  obtain ⟨f_3, hf_4, hP1, hK1, hD1⟩ := hB
  rw [ht] at hP1
  have hK1 := va_K.moved hvm.symm hK1
  obtain ⟨hP, hD⟩ := va_join (wr := [(m0, .inr (1, pv_m 0 mq)), ((mq 9), .inl (mC, 3, .inl msg)), ((mq 10), .inl (mI3, 3, .inl msf))]) (w1 := [(o0, .inl (oL, 1, .inr (.inl f_3)))]) hP hD [0, 1, 2, 6] [3, 4, 5] rfl rfl (by decide) (by decide) hk1 hF hP1 hD1
  have hP : va_P D pv_cl [(m0, .inr (1, pv_m 0 mq)), ((mq 9), .inl (mC, 3, .inl msg)), ((mq 10), .inl (mI3, 3, .inl msf)), (o0, .inl (oL, 1, .inr (.inl f_3)))] _ := hP
  have hD : va_D A [(m0, .inr (1, pv_m 0 mq)), ((mq 9), .inl (mC, 3, .inl msg)), ((mq 10), .inl (mI3, 3, .inl msf)), (o0, .inl (oL, 1, .inr (.inl f_3)))] := hD
  rcases hw with ⟨rfl, hu, hc⟩ | ⟨rfl, hn⟩
  · refine lv_istore (lv' := [(6, .int 0), (0, .ref b), (1, .ref x0), (2, .ref m0), (3, .ref o0), (4, .ref d0), (5, .int 0)]) hx hb dL_law_3269 hl (by decide) rfl (fun ls hl => ?_)
    refine lv_aload_n hx hb dL_law_3271 rfl (lv_at hl 3 rfl) ?_
    refine lv_aload_n hx hb dL_law_3272 rfl (lv_at hl 1 rfl) ?_
    refine lv_iload hx hb dL_law_3273 (lv_at hl 6 rfl) ?_
    refine lv_iconst (v := 1) hx hb dL_law_3275 (by decide) ?_
    refine lv_iadd hx hb dL_law_3276 ?_
    refine pv_setI 1 (by decide) ?_
    refine va_sld hx hb hX hbl hbA hS (by unfold vp_in; decide) dL_law_3277 ?_
    refine pv_setI (xs 1) rfl ?_
    refine lv_aload_n hx hb dL_law_3278 rfl (lv_at hl 1 rfl) ?_
    refine lv_iload hx hb dL_law_3279 (lv_at hl 6 rfl) ?_
    refine pv_pc 3281 rfl ?_
    refine lv_iconst (v := 2) hx hb dL_law_3281 (by decide) ?_
    refine lv_iadd hx hb dL_law_3282 ?_
    refine pv_setI 2 (by decide) ?_
    refine va_sld hx hb hX hbl hbA hS (by unfold vp_in; decide) dL_law_3283 ?_
    refine pv_setI (xs 2) rfl ?_
    refine lv_i2c hx hb dL_law_3284 rfl ?_
    refine pv_setI x_1 ex_1.symm ?_
    have hF := va_free (wc := [(m0, .inr (1, pv_m 0 mq)), ((mq 9), .inl (mC, 3, .inl msg)), ((mq 10), .inl (mI3, 3, .inl msf))]) hD hS hA [0, 1, 2] rfl
    refine va_calli (va_runV (As := [.int (xs 1), .int x_1]) (rest := []) ⟨hx, hb, hml, hown, hts⟩ (c_X13_assume l hfl D _ m0 mq mC mI3 msg hmsg msf (xs 1) x_1) (cwV 2 hts (pv_gV w11_70 w11_71 w11_72 w1_10 w11_73) rfl rfl rfl (by decide +kernel) ⟨Nat.le_of_ble_eq_true rfl, Nat.le_of_ble_eq_true rfl⟩) (pv_pV hE hS hF (hP.sub [0, 1, 2] rfl) (hK.sub [2, 3] rfl) (hD.sub [0, 1, 2] (by decide) rfl) (va_recv (ci := 1) (q0 := 0) hK hP rfl rfl)) rfl rfl hl.1 rfl (lv_room (Nat.le_of_ble_eq_true rfl)) dL_law_3285 ⟨Nat.le_of_ble_eq_true rfl, Nat.le_of_ble_eq_true rfl⟩) hS (fun q _ h => hF q h) hF (fun r_4 u t H1 locs1 ht hvm hw hB hz1 hk1 hS => ?_)
    refine W.widen (k := 399) (n := 653833) (Nat.le_of_ble_eq_true rfl) (Nat.le_of_ble_eq_true rfl) ?_
    obtain ⟨fs_6, hf_7, hP1, hK1, hD1⟩ := hB
    rw [ht] at hP1
    have hK1 := va_K.moved hvm.symm hK1
    obtain ⟨hP, hD⟩ := va_join (wr := [(o0, .inl (oL, 1, .inr (.inl f_3)))]) (w1 := [(m0, .inr (1, fs_6))]) hP hD [0, 1, 2] [3] rfl rfl (by decide) (by decide) hk1 hF hP1 hD1
    have hP : va_P D pv_cl [(o0, .inl (oL, 1, .inr (.inl f_3))), (m0, .inr (1, fs_6))] _ := hP
    have hD : va_D A [(o0, .inl (oL, 1, .inr (.inl f_3))), (m0, .inr (1, fs_6))] := hD
    rcases hw with ⟨rfl, rfl, a_8⟩ | ⟨rfl, a_8⟩
    · have hP : va_P D pv_cl [(o0, .inl (oL, 1, .inr (.inl f_3))), (m0, .inr (1, fs_6))] _ := hP
      have hD : va_D A [(o0, .inl (oL, 1, .inr (.inl f_3))), (m0, .inr (1, fs_6))] := hD
      refine lv_istore (lv' := [(7, .int 1), (6, .int 0), (0, .ref b), (1, .ref x0), (2, .ref m0), (3, .ref o0), (4, .ref d0), (5, .int 0)]) hx hb dL_law_3288 hl (by decide) rfl (fun ls hl => ?_)
      refine lv_aload_n hx hb dL_law_3290 rfl (lv_at hl 4 rfl) ?_
      have hF := pv_new hA hS.1
      refine va_calli (va_runV (As := []) (rest := []) ⟨hx, hb, hml, hown, hts⟩ (c_X13_thrown l hfl D _ m0 fs_6 0 hf_7) (cwV 0 hts (pv_gV w9_102 w9_103 w9_104 w1_10 w9_105) rfl rfl rfl (by decide +kernel) ⟨Nat.le_of_ble_eq_true rfl, Nat.le_of_ble_eq_true rfl⟩) (pv_pV hE hS hF (hP.sub [1] rfl) (hK.sub [] rfl) (hD.sub [1] (by decide) rfl) (va_recv (ci := 1) (q0 := 1) hK hP rfl rfl)) rfl rfl hl.1 rfl (lv_room (Nat.le_of_ble_eq_true rfl)) dL_law_3291 ⟨Nat.le_of_ble_eq_true rfl, Nat.le_of_ble_eq_true rfl⟩) hS (fun q _ h => hF q h) hF (fun r_8 u t H1 locs1 ht hvm hw hB hz1 hk1 hS => ?_)
      refine W.widen (k := 399) (n := 653833) (Nat.le_of_ble_eq_true rfl) (Nat.le_of_ble_eq_true rfl) ?_
      have hP := pv_keep hP rfl hk1
      subst hw
      refine lv_iload hx hb dL_law_3294 (lv_at hl 1 rfl) ?_
      refine lv_icmp_eq (tgt := 3301) hx hb dL_law_3296 (by decide) (fun _ => ?_) (fun c_10 => absurd (by decide) c_10)
      refine lv_iload hx hb dL_law_3301 (lv_at hl 1 rfl) ?_
      refine lv_if_ne (tgt := 3318) hx hb dL_law_3303 (by decide) (fun c_11 => absurd (by decide) c_11) (fun _ => ?_)
      refine pv_pc 3306 rfl ?_
      refine lv_aload_n hx hb dL_law_3306 rfl (lv_at hl 5 rfl) ?_
      refine lv_iconst (v := 0) hx hb dL_law_3307 (by decide) ?_
      refine va_lald hx hb hK hP 0 4 rfl rfl (by unfold vp_in; decide) dL_law_3308 ?_
      refine pv_setL 1 (hf_4.trans hu) ?_
      refine lv_iload hx hb dL_law_3309 (lv_at hl 0 rfl) ?_
      refine lv_i2l (v := 1) hx hb dL_law_3311 (by decide) ?_
      refine W.lcmp hx hb dL_law_3312 ?_
      refine pv_setI 0 (by decide) ?_
      refine lv_if_eq (tgt := 3318) hx hb dL_law_3313 (by decide) (fun _ => ?_) (fun c_12 => absurd (by decide) c_12)
      refine lv_goto (tgt := 3721) hx hb dL_law_3318 (by decide) ?_
      refine lv_iinc (v := 7) (lv' := [(5, .int 7), (7, .int 1), (6, .int 0), (0, .ref b), (1, .ref x0), (2, .ref m0), (3, .ref o0), (4, .ref d0)]) hx hb dL_law_3721 hl (k := 7) rfl (by decide) (by decide) rfl (fun ls hl => ?_)
      refine lv_goto (tgt := 28) hx hb dL_law_3724 (by decide) ?_
      refine lv_iload hx hb dL_law_28 (lv_at hl 0 rfl) ?_
      refine lv_aload_n hx hb dL_law_30 rfl (lv_at hl 3 rfl) ?_
      refine pv_pc 31 rfl ?_
      refine va_slen hx hb hX hbl hbA hS dL_law_31 ?_
      refine pv_setI 7 rfl ?_
      refine lv_bipush (v := 7) hx hb dL_law_32 (by decide) ?_
      refine lv_isub hx hb dL_law_34 ?_
      refine pv_setI 0 (by decide) ?_
      refine lv_icmp_gt (tgt := 3727) hx hb dL_law_35 (by decide) (fun _ => ?_) (fun c_13 => absurd (by decide) c_13)
      refine lv_iconst (v := 1) hx hb dL_law_3727 (by decide) ?_
      refine va_forget (fun q hq => hAf _ (hS.2.2 q hq)) ?_
      refine W.widen (k := 600006) (n := 7302064) (Nat.le_of_ble_eq_true rfl) (Nat.le_of_ble_eq_true rfl) ?_
      exact lw_ret (d0 := s.drawn) (Drawn.sameBut.refl s.drawn lw_cs) hx hb hr hlocks dL_law_3728
    · exact absurd hc a_8
  · refine lv_istore (lv' := [(6, .int 1), (0, .ref b), (1, .ref x0), (2, .ref m0), (3, .ref o0), (4, .ref d0), (5, .int 0)]) hx hb dL_law_3269 hl (by decide) rfl (fun ls hl => ?_)
    refine lv_aload_n hx hb dL_law_3271 rfl (lv_at hl 3 rfl) ?_
    refine lv_aload_n hx hb dL_law_3272 rfl (lv_at hl 1 rfl) ?_
    refine lv_iload hx hb dL_law_3273 (lv_at hl 6 rfl) ?_
    refine lv_iconst (v := 1) hx hb dL_law_3275 (by decide) ?_
    refine lv_iadd hx hb dL_law_3276 ?_
    refine pv_setI 1 (by decide) ?_
    refine va_sld hx hb hX hbl hbA hS (by unfold vp_in; decide) dL_law_3277 ?_
    refine pv_setI (xs 1) rfl ?_
    refine lv_aload_n hx hb dL_law_3278 rfl (lv_at hl 1 rfl) ?_
    refine lv_iload hx hb dL_law_3279 (lv_at hl 6 rfl) ?_
    refine pv_pc 3281 rfl ?_
    refine lv_iconst (v := 2) hx hb dL_law_3281 (by decide) ?_
    refine lv_iadd hx hb dL_law_3282 ?_
    refine pv_setI 2 (by decide) ?_
    refine va_sld hx hb hX hbl hbA hS (by unfold vp_in; decide) dL_law_3283 ?_
    refine pv_setI (xs 2) rfl ?_
    refine lv_i2c hx hb dL_law_3284 rfl ?_
    refine pv_setI x_1 ex_1.symm ?_
    have hF := va_free (wc := [(m0, .inr (1, pv_m 0 mq)), ((mq 9), .inl (mC, 3, .inl msg)), ((mq 10), .inl (mI3, 3, .inl msf))]) hD hS hA [0, 1, 2] rfl
    refine va_calli (va_runV (As := [.int (xs 1), .int x_1]) (rest := []) ⟨hx, hb, hml, hown, hts⟩ (c_X13_assume l hfl D _ m0 mq mC mI3 msg hmsg msf (xs 1) x_1) (cwV 2 hts (pv_gV w11_70 w11_71 w11_72 w1_10 w11_73) rfl rfl rfl (by decide +kernel) ⟨Nat.le_of_ble_eq_true rfl, Nat.le_of_ble_eq_true rfl⟩) (pv_pV hE hS hF (hP.sub [0, 1, 2] rfl) (hK.sub [2, 3] rfl) (hD.sub [0, 1, 2] (by decide) rfl) (va_recv (ci := 1) (q0 := 0) hK hP rfl rfl)) rfl rfl hl.1 rfl (lv_room (Nat.le_of_ble_eq_true rfl)) dL_law_3285 ⟨Nat.le_of_ble_eq_true rfl, Nat.le_of_ble_eq_true rfl⟩) hS (fun q _ h => hF q h) hF (fun r_13 u t H1 locs1 ht hvm hw hB hz1 hk1 hS => ?_)
    refine W.widen (k := 399) (n := 653833) (Nat.le_of_ble_eq_true rfl) (Nat.le_of_ble_eq_true rfl) ?_
    obtain ⟨fs_15, hf_16, hP1, hK1, hD1⟩ := hB
    rw [ht] at hP1
    have hK1 := va_K.moved hvm.symm hK1
    obtain ⟨hP, hD⟩ := va_join (wr := [(o0, .inl (oL, 1, .inr (.inl f_3)))]) (w1 := [(m0, .inr (1, fs_15))]) hP hD [0, 1, 2] [3] rfl rfl (by decide) (by decide) hk1 hF hP1 hD1
    have hP : va_P D pv_cl [(o0, .inl (oL, 1, .inr (.inl f_3))), (m0, .inr (1, fs_15))] _ := hP
    have hD : va_D A [(o0, .inl (oL, 1, .inr (.inl f_3))), (m0, .inr (1, fs_15))] := hD
    rcases hw with ⟨rfl, rfl, a_17⟩ | ⟨rfl, a_17⟩
    · exact absurd a_17 hn
    · have hP : va_P D pv_cl [(o0, .inl (oL, 1, .inr (.inl f_3))), (m0, .inr (1, fs_15))] _ := hP
      have hD : va_D A [(o0, .inl (oL, 1, .inr (.inl f_3))), (m0, .inr (1, fs_15))] := hD
      refine lv_istore (lv' := [(7, .int r_13), (6, .int 1), (0, .ref b), (1, .ref x0), (2, .ref m0), (3, .ref o0), (4, .ref d0), (5, .int 0)]) hx hb dL_law_3288 hl (by decide) rfl (fun ls hl => ?_)
      refine lv_aload_n hx hb dL_law_3290 rfl (lv_at hl 4 rfl) ?_
      have hF := pv_new hA hS.1
      refine va_calli (va_runV (As := []) (rest := []) ⟨hx, hb, hml, hown, hts⟩ (c_X13_thrown l hfl D _ m0 fs_15 1 hf_16) (cwV 0 hts (pv_gV w9_102 w9_103 w9_104 w1_10 w9_105) rfl rfl rfl (by decide +kernel) ⟨Nat.le_of_ble_eq_true rfl, Nat.le_of_ble_eq_true rfl⟩) (pv_pV hE hS hF (hP.sub [1] rfl) (hK.sub [] rfl) (hD.sub [1] (by decide) rfl) (va_recv (ci := 1) (q0 := 1) hK hP rfl rfl)) rfl rfl hl.1 rfl (lv_room (Nat.le_of_ble_eq_true rfl)) dL_law_3291 ⟨Nat.le_of_ble_eq_true rfl, Nat.le_of_ble_eq_true rfl⟩) hS (fun q _ h => hF q h) hF (fun r_17 u t H1 locs1 ht hvm hw hB hz1 hk1 hS => ?_)
      refine W.widen (k := 399) (n := 653833) (Nat.le_of_ble_eq_true rfl) (Nat.le_of_ble_eq_true rfl) ?_
      have hP := pv_keep hP rfl hk1
      subst hw
      refine lv_iload hx hb dL_law_3294 (lv_at hl 1 rfl) ?_
      refine lv_icmp_eq (tgt := 3301) hx hb dL_law_3296 (by decide) (fun _ => ?_) (fun c_19 => absurd (by decide) c_19)
      refine lv_iload hx hb dL_law_3301 (lv_at hl 1 rfl) ?_
      refine lv_if_ne (tgt := 3318) hx hb dL_law_3303 (by decide) (fun _ => ?_) (fun c_20 => absurd c_20 (by decide))
      refine pv_pc 3318 rfl ?_
      refine lv_goto (tgt := 3721) hx hb dL_law_3318 (by decide) ?_
      refine lv_iinc (v := 7) (lv' := [(5, .int 7), (7, .int r_13), (6, .int 1), (0, .ref b), (1, .ref x0), (2, .ref m0), (3, .ref o0), (4, .ref d0)]) hx hb dL_law_3721 hl (k := 7) rfl (by decide) (by decide) rfl (fun ls hl => ?_)
      refine lv_goto (tgt := 28) hx hb dL_law_3724 (by decide) ?_
      refine lv_iload hx hb dL_law_28 (lv_at hl 0 rfl) ?_
      refine lv_aload_n hx hb dL_law_30 rfl (lv_at hl 3 rfl) ?_
      refine va_slen hx hb hX hbl hbA hS dL_law_31 ?_
      refine pv_setI 7 rfl ?_
      refine lv_bipush (v := 7) hx hb dL_law_32 (by decide) ?_
      refine lv_isub hx hb dL_law_34 ?_
      refine pv_setI 0 (by decide) ?_
      refine lv_icmp_gt (tgt := 3727) hx hb dL_law_35 (by decide) (fun _ => ?_) (fun c_21 => absurd (by decide) c_21)
      refine lv_iconst (v := 1) hx hb dL_law_3727 (by decide) ?_
      refine va_forget (fun q hq => hAf _ (hS.2.2 q hq)) ?_
      refine W.widen (k := 600006) (n := 7302064) (Nat.le_of_ble_eq_true rfl) (Nat.le_of_ble_eq_true rfl) ?_
      exact lw_ret (d0 := s.drawn) (Drawn.sameBut.refl s.drawn lw_cs) hx hb hr hlocks dL_law_3728

theorem dL_law_3321 : decode cL_law 3321 = .ok (.aload_n 1, 1) := by decide +kernel
theorem dL_law_3322 : decode cL_law 3322 = .ok (.aload_n 3, 1) := by decide +kernel
theorem dL_law_3323 : decode cL_law 3323 = .ok (.invokestatic 341, 3) := by decide +kernel
theorem w8_102 : (Jvm.Cond.methodLink "PolyforgeLaw" (341 : Nat) ({ cls := "PolyforgeLaw", name := "openFrame", desc := "(LPolyforge;[J)I" } : Jvm.MethodName)) ∈ lw_tbl := pv_t8 (pv_mg 102 rfl)
theorem w8_104 : (Jvm.Cond.codeWith ({ cls := "PolyforgeLaw", name := "openFrame", desc := "(LPolyforge;[J)I" } : Jvm.MethodName) method_47_code (3 : Nat) (Option.some Jvm.ClassFile.FieldType.int) [((0 : Nat), (8 : Nat), (11 : Nat), (15 : Nat))]) ∈ lw_tbl := pv_t8 (pv_mg 104 rfl)
theorem w8_103 : (Jvm.Cond.static ({ cls := "PolyforgeLaw", name := "openFrame", desc := "(LPolyforge;[J)I" } : Jvm.MethodName)) ∈ lw_tbl := pv_t8 (pv_mg 103 rfl)
theorem dL_law_3326 : decode cL_law 3326 = .ok (.istore 6, 2) := by decide +kernel
theorem dL_law_3328 : decode cL_law 3328 = .ok (.aload_n 2, 1) := by decide +kernel
theorem dL_law_3329 : decode cL_law 3329 = .ok (.invokevirtual 344, 3) := by decide +kernel
theorem w11_78 : (Jvm.Cond.methodLink "PolyforgeLaw" (344 : Nat) ({ cls := "PolyforgeModel", name := "openFrame", desc := "()I" } : Jvm.MethodName)) ∈ lw_tbl := pv_t11 (pv_mg 78 rfl)
theorem w11_81 : (Jvm.Cond.code ({ cls := "PolyforgeModel", name := "openFrame", desc := "()I" } : Jvm.MethodName) prog_14_method_115_code (1 : Nat) (Option.some Jvm.ClassFile.FieldType.int)) ∈ lw_tbl := pv_t11 (pv_mg 81 rfl)
theorem w11_80 : (Jvm.Cond.selects "PolyforgeModel" ({ cls := "PolyforgeModel", name := "openFrame", desc := "()I" } : Jvm.MethodName) ({ cls := "PolyforgeModel", name := "openFrame", desc := "()I" } : Jvm.MethodName)) ∈ lw_tbl := pv_t11 (pv_mg 80 rfl)
theorem w11_79 : (Jvm.Cond.instanceMethod ({ cls := "PolyforgeModel", name := "openFrame", desc := "()I" } : Jvm.MethodName)) ∈ lw_tbl := pv_t11 (pv_mg 79 rfl)
theorem dL_law_3332 : decode cL_law 3332 = .ok (.istore 7, 2) := by decide +kernel
theorem dL_law_3334 : decode cL_law 3334 = .ok (.aload_n 2, 1) := by decide +kernel
theorem dL_law_3335 : decode cL_law 3335 = .ok (.invokevirtual 199, 3) := by decide +kernel
theorem dL_law_3338 : decode cL_law 3338 = .ok (.iload 6, 2) := by decide +kernel
theorem dL_law_3340 : decode cL_law 3340 = .ok (.if_icmp .eq 5, 3) := by decide +kernel
theorem dL_law_3345 : decode cL_law 3345 = .ok (.iload 6, 2) := by decide +kernel
theorem dL_law_3347 : decode cL_law 3347 = .ok (.ifCond .ne 15, 3) := by decide +kernel
theorem dL_law_3350 : decode cL_law 3350 = .ok (.aload_n 3, 1) := by decide +kernel
theorem dL_law_3351 : decode cL_law 3351 = .ok (.iconst 0, 1) := by decide +kernel
theorem dL_law_3352 : decode cL_law 3352 = .ok (.laload, 1) := by decide +kernel
theorem dL_law_3353 : decode cL_law 3353 = .ok (.iload 7, 2) := by decide +kernel
theorem dL_law_3355 : decode cL_law 3355 = .ok (.i2l, 1) := by decide +kernel
theorem dL_law_3356 : decode cL_law 3356 = .ok (.lcmp, 1) := by decide +kernel
theorem dL_law_3357 : decode cL_law 3357 = .ok (.ifCond .eq 5, 3) := by decide +kernel
theorem dL_law_3362 : decode cL_law 3362 = .ok (.goto 359, 3) := by decide +kernel
set_option maxHeartbeats 4000000 in
set_option maxRecDepth 100000 in
/-- the law, call 45: openFrame -/
theorem law_case_45 {p : Program} {e : Env} {s : State} {m : MethodId} {below : List Frame} {meth : Method} {c : Code} (l : Launch) (hfl : l.stackTraces = false) {b : Nat} {xs : Nat → Int32} (C0 : lw_At p s m meth c b 7 xs) {D : va_G} {A : Nat → Prop} (hA : ∀ q : Nat, s.heap.size ≤ q → A q) (hAf : ∀ q : Nat, A q → s.heap.size ≤ q) (hbA : ¬ A b) (hE : pv_E A s s.heap) {x0 m0 o0 d0 : Nat} {xq xw mq : Nat → Nat} {xJ xP xO xC xI mI mI2 mI3 mT mC oL : ClassId} {xsg xsf msg msf : Nat → Int32} (hxsg : ∀ j, j < 3 → xsg j = 63) (hmsg : ∀ j, j < 3 → msg j = 63) {H : Heap} {locs : List Loc} (hK : va_K D pv_cl [(xJ, .long), (xP, .object "Polyforge$Polynomial"), (xO, .object "Polyforge$Ideal"), (xC, .char), (xI, .int), (mI, .int), (mT, .object "PolyforgeModel$Terms"), (mI2, .int), (mC, .char), (mI3, .int), (oL, .long)] s) (hP : va_P D pv_cl [(x0, .inr (0, [.ref (xq 0), .int 0, .int 108, .ref (xq 1), .int 0, .ref (xq 2), .int 0, .ref (xq 3), .ref (xq 4), .int 1, .ref (xq 5), .ref (xq 6), .ref (xq 7), .ref (xq 8), .ref (xq 9)])), ((xq 6), .inr (2, [.ref (xw 0), .ref (xw 1), .ref (xw 2), .ref (xw 3), .int 0, .int 0])), ((xw 2), .inl (xJ, 64, .inr (.inl (fun _ => 0)))), ((xq 0), .inl (xP, 60, .inr (.inr (.inr (.inr (fun _ => none)))))), ((xq 1), .inl (xO, 5, .inr (.inr (.inr (.inr (fun _ => none)))))), ((xq 3), .inl (xC, 3, .inl xsg)), ((xq 4), .inl (xI, 3, .inl xsf)), (m0, .inr (1, pv_m 0 mq)), ((mq 0), .inl (mI, 60, .inl (fun _ => 0))), ((mq 1), .inl (mT, 60, .inr (.inr (.inr (.inr (fun _ => none)))))), ((mq 2), .inl (mI2, 5, .inl (fun _ => 0))), ((mq 9), .inl (mC, 3, .inl msg)), ((mq 10), .inl (mI3, 3, .inl msf)), (o0, .inl (oL, 1, .inr (.inl (fun _ => 0))))] H) (hD : va_D A [(x0, .inr (0, [.ref (xq 0), .int 0, .int 108, .ref (xq 1), .int 0, .ref (xq 2), .int 0, .ref (xq 3), .ref (xq 4), .int 1, .ref (xq 5), .ref (xq 6), .ref (xq 7), .ref (xq 8), .ref (xq 9)])), ((xq 6), .inr (2, [.ref (xw 0), .ref (xw 1), .ref (xw 2), .ref (xw 3), .int 0, .int 0])), ((xw 2), .inl (xJ, 64, .inr (.inl (fun _ => 0)))), ((xq 0), .inl (xP, 60, .inr (.inr (.inr (.inr (fun _ => none)))))), ((xq 1), .inl (xO, 5, .inr (.inr (.inr (.inr (fun _ => none)))))), ((xq 3), .inl (xC, 3, .inl xsg)), ((xq 4), .inl (xI, 3, .inl xsf)), (m0, .inr (1, pv_m 0 mq)), ((mq 0), .inl (mI, 60, .inl (fun _ => 0))), ((mq 1), .inl (mT, 60, .inr (.inr (.inr (.inr (fun _ => none)))))), ((mq 2), .inl (mI2, 5, .inl (fun _ => 0))), ((mq 9), .inl (mC, 3, .inl msg)), ((mq 10), .inl (mI3, 3, .inl msf)), (o0, .inl (oL, 1, .inr (.inl (fun _ => 0))))]) (hS : va_S A s.heap H locs) {ls : Array Slot} (hl : lv_has ls 9 [(0, .ref b), (1, .ref x0), (2, .ref m0), (3, .ref o0), (4, .ref d0), (5, .int 0)]) : W p l e room_1 s m #[Value.ref b] below meth c H locs 397 653821 (lw_Z below #[Value.ref b] s) (F0 m 3321 ls []) := by
  obtain ⟨hx, hb, hr, hml, hown, hts0, hX, hbl, hlocks, hgv⟩ := C0
  have hts : ∀ w ∈ pv_W, w.before #[Value.ref b] s = true := fun w h => hts0 w (List.mem_filter.mp h).1
  have hg := fun {w : Cond} (h : w ∈ lw_tbl) (g : goodWord w = true) => hts w (pv_in h g)
  have hP : va_P D pv_cl [(x0, .inr (0, [.ref (xq 0), .int 0, .int 108, .ref (xq 1), .int 0, .ref (xq 2), .int 0, .ref (xq 3), .ref (xq 4), .int 1, .ref (xq 5), .ref (xq 6), .ref (xq 7), .ref (xq 8), .ref (xq 9)])), (m0, .inr (1, pv_m 0 mq)), (o0, .inl (oL, 1, .inr (.inl (fun _ => 0))))] _ := hP.sub [0, 7, 13] rfl
  have hD : va_D A [(x0, .inr (0, [.ref (xq 0), .int 0, .int 108, .ref (xq 1), .int 0, .ref (xq 2), .int 0, .ref (xq 3), .ref (xq 4), .int 1, .ref (xq 5), .ref (xq 6), .ref (xq 7), .ref (xq 8), .ref (xq 9)])), (m0, .inr (1, pv_m 0 mq)), (o0, .inl (oL, 1, .inr (.inl (fun _ => 0))))] := hD.sub [0, 7, 13] (by decide) rfl
  have hK : va_K D pv_cl [(oL, .long)] s := hK.sub [10] rfl
  refine lv_aload_n hx hb dL_law_3321 rfl (lv_at hl 1 rfl) ?_
  refine lv_aload_n hx hb dL_law_3322 rfl (lv_at hl 3 rfl) ?_
  have hF := va_free (wc := [(x0, .inr (0, [.ref (xq 0), .int 0, .int 108, .ref (xq 1), .int 0, .ref (xq 2), .int 0, .ref (xq 3), .ref (xq 4), .int 1, .ref (xq 5), .ref (xq 6), .ref (xq 7), .ref (xq 8), .ref (xq 9)])), (o0, .inl (oL, 1, .inr (.inl (fun _ => 0))))]) hD hS hA [0, 2] rfl
  refine va_calli (vx_runSW (As := [.ref x0, .ref o0]) (rest := []) ⟨hx, hb, hml, hown, hts⟩ (c_L_openFrame l hfl D _ x0 xq oL o0 (fun _ => 0)) (vx_cwSW 2 hts (pv_gSW w8_102 w8_103 w1_0 w8_104) rfl rfl rfl (by decide +kernel) ⟨Nat.le_of_ble_eq_true rfl, Nat.le_of_ble_eq_true rfl⟩) (pv_ps hE hS hF (hP.sub [0, 2] rfl) (hK.sub [0] rfl) (hD.sub [0, 2] (by decide) rfl)) rfl rfl hl.1 rfl (lv_room (Nat.le_of_ble_eq_true rfl)) dL_law_3323 ⟨Nat.le_of_ble_eq_true rfl, Nat.le_of_ble_eq_true rfl⟩) hS (fun q _ h => hF q h) hF (fun r_0 u t H1 locs1 ht hvm hw hB hz1 hk1 hS => ?_)
  refine W.widen (k := 397) (n := 653821) (Nat.le_of_ble_eq_true rfl) (Nat.le_of_ble_eq_true rfl) ?_
  obtain ⟨f_2, hf_3, hP1, hK1, hD1⟩ := hB
  rw [ht] at hP1
  have hK1 := va_K.moved hvm.symm hK1
  obtain ⟨hP, hD⟩ := va_join (wr := [(m0, .inr (1, pv_m 0 mq))]) (w1 := [(o0, .inl (oL, 1, .inr (.inl f_2)))]) hP hD [0, 2] [1] rfl rfl (by decide) (by decide) hk1 hF hP1 hD1
  have hP : va_P D pv_cl [(m0, .inr (1, pv_m 0 mq)), (o0, .inl (oL, 1, .inr (.inl f_2)))] _ := hP
  have hD : va_D A [(m0, .inr (1, pv_m 0 mq)), (o0, .inl (oL, 1, .inr (.inl f_2)))] := hD
  obtain ⟨rfl, hu⟩ := hw
  refine lv_istore (lv' := [(6, .int 0), (0, .ref b), (1, .ref x0), (2, .ref m0), (3, .ref o0), (4, .ref d0), (5, .int 0)]) hx hb dL_law_3326 hl (by decide) rfl (fun ls hl => ?_)
  refine lv_aload_n hx hb dL_law_3328 rfl (lv_at hl 3 rfl) ?_
  have hF := va_free (wc := [(m0, .inr (1, pv_m 0 mq))]) hD hS hA [0] rfl
  refine va_calli (va_runV (As := []) (rest := []) ⟨hx, hb, hml, hown, hts⟩ (c_X13_openFrame l hfl D _ m0 mq ) (cwV 0 hts (pv_gV w11_78 w11_79 w11_80 w1_10 w11_81) rfl rfl rfl (by decide +kernel) ⟨Nat.le_of_ble_eq_true rfl, Nat.le_of_ble_eq_true rfl⟩) (pv_pV hE hS hF (hP.sub [0] rfl) (hK.sub [] rfl) (hD.sub [0] (by decide) rfl) (va_recv (ci := 1) (q0 := 0) hK hP rfl rfl)) rfl rfl hl.1 rfl (lv_room (Nat.le_of_ble_eq_true rfl)) dL_law_3329 ⟨Nat.le_of_ble_eq_true rfl, Nat.le_of_ble_eq_true rfl⟩) hS (fun q _ h => hF q h) hF (fun r_3 u t H1 locs1 ht hvm hw hB hz1 hk1 hS => ?_)
  refine W.widen (k := 397) (n := 653821) (Nat.le_of_ble_eq_true rfl) (Nat.le_of_ble_eq_true rfl) ?_
  obtain ⟨fs_5, hf_6, hP1, hK1, hD1⟩ := hB
  obtain ⟨rfl, rfl⟩ := hw
  rw [ht] at hP1
  have hK1 := va_K.moved hvm.symm hK1
  obtain ⟨hP, hD⟩ := va_join (wr := [(o0, .inl (oL, 1, .inr (.inl f_2)))]) (w1 := [(m0, .inr (1, fs_5))]) hP hD [0] [1] rfl rfl (by decide) (by decide) hk1 hF hP1 hD1
  have hP : va_P D pv_cl [(o0, .inl (oL, 1, .inr (.inl f_2))), (m0, .inr (1, fs_5))] _ := hP
  have hD : va_D A [(o0, .inl (oL, 1, .inr (.inl f_2))), (m0, .inr (1, fs_5))] := hD
  refine lv_istore (lv' := [(7, .int 2), (6, .int 0), (0, .ref b), (1, .ref x0), (2, .ref m0), (3, .ref o0), (4, .ref d0), (5, .int 0)]) hx hb dL_law_3332 hl (by decide) rfl (fun ls hl => ?_)
  refine lv_aload_n hx hb dL_law_3334 rfl (lv_at hl 4 rfl) ?_
  have hF := pv_new hA hS.1
  refine va_calli (va_runV (As := []) (rest := []) ⟨hx, hb, hml, hown, hts⟩ (c_X13_thrown l hfl D _ m0 fs_5 0 hf_6) (cwV 0 hts (pv_gV w9_102 w9_103 w9_104 w1_10 w9_105) rfl rfl rfl (by decide +kernel) ⟨Nat.le_of_ble_eq_true rfl, Nat.le_of_ble_eq_true rfl⟩) (pv_pV hE hS hF (hP.sub [1] rfl) (hK.sub [] rfl) (hD.sub [1] (by decide) rfl) (va_recv (ci := 1) (q0 := 1) hK hP rfl rfl)) rfl rfl hl.1 rfl (lv_room (Nat.le_of_ble_eq_true rfl)) dL_law_3335 ⟨Nat.le_of_ble_eq_true rfl, Nat.le_of_ble_eq_true rfl⟩) hS (fun q _ h => hF q h) hF (fun r_7 u t H1 locs1 ht hvm hw hB hz1 hk1 hS => ?_)
  refine W.widen (k := 397) (n := 653821) (Nat.le_of_ble_eq_true rfl) (Nat.le_of_ble_eq_true rfl) ?_
  have hP := pv_keep hP rfl hk1
  subst hw
  refine lv_iload hx hb dL_law_3338 (lv_at hl 1 rfl) ?_
  refine lv_icmp_eq (tgt := 3345) hx hb dL_law_3340 (by decide) (fun _ => ?_) (fun c_9 => absurd (by decide) c_9)
  refine pv_pc 3345 rfl ?_
  refine lv_iload hx hb dL_law_3345 (lv_at hl 1 rfl) ?_
  refine lv_if_ne (tgt := 3362) hx hb dL_law_3347 (by decide) (fun c_10 => absurd (by decide) c_10) (fun _ => ?_)
  refine lv_aload_n hx hb dL_law_3350 rfl (lv_at hl 5 rfl) ?_
  refine lv_iconst (v := 0) hx hb dL_law_3351 (by decide) ?_
  refine va_lald hx hb hK hP 0 0 rfl rfl (by unfold vp_in; decide) dL_law_3352 ?_
  refine pv_setL 2 (hf_3.trans hu) ?_
  refine lv_iload hx hb dL_law_3353 (lv_at hl 0 rfl) ?_
  refine lv_i2l (v := 2) hx hb dL_law_3355 (by decide) ?_
  refine W.lcmp hx hb dL_law_3356 ?_
  refine pv_setI 0 (by decide) ?_
  refine lv_if_eq (tgt := 3362) hx hb dL_law_3357 (by decide) (fun _ => ?_) (fun c_11 => absurd (by decide) c_11)
  refine lv_goto (tgt := 3721) hx hb dL_law_3362 (by decide) ?_
  refine lv_iinc (v := 7) (lv' := [(5, .int 7), (7, .int 2), (6, .int 0), (0, .ref b), (1, .ref x0), (2, .ref m0), (3, .ref o0), (4, .ref d0)]) hx hb dL_law_3721 hl (k := 7) rfl (by decide) (by decide) rfl (fun ls hl => ?_)
  refine lv_goto (tgt := 28) hx hb dL_law_3724 (by decide) ?_
  refine pv_pc 28 rfl ?_
  refine lv_iload hx hb dL_law_28 (lv_at hl 0 rfl) ?_
  refine lv_aload_n hx hb dL_law_30 rfl (lv_at hl 3 rfl) ?_
  refine va_slen hx hb hX hbl hbA hS dL_law_31 ?_
  refine pv_setI 7 rfl ?_
  refine lv_bipush (v := 7) hx hb dL_law_32 (by decide) ?_
  refine lv_isub hx hb dL_law_34 ?_
  refine pv_setI 0 (by decide) ?_
  refine lv_icmp_gt (tgt := 3727) hx hb dL_law_35 (by decide) (fun _ => ?_) (fun c_12 => absurd (by decide) c_12)
  refine lv_iconst (v := 1) hx hb dL_law_3727 (by decide) ?_
  refine va_forget (fun q hq => hAf _ (hS.2.2 q hq)) ?_
  refine W.widen (k := 600006) (n := 7302064) (Nat.le_of_ble_eq_true rfl) (Nat.le_of_ble_eq_true rfl) ?_
  exact lw_ret (d0 := s.drawn) (Drawn.sameBut.refl s.drawn lw_cs) hx hb hr hlocks dL_law_3728

theorem dL_law_3409 : decode cL_law 3409 = .ok (.aload_n 1, 1) := by decide +kernel
theorem dL_law_3410 : decode cL_law 3410 = .ok (.aload_n 0, 1) := by decide +kernel
theorem dL_law_3411 : decode cL_law 3411 = .ok (.iload 5, 2) := by decide +kernel
theorem dL_law_3413 : decode cL_law 3413 = .ok (.iconst 1, 1) := by decide +kernel
theorem dL_law_3414 : decode cL_law 3414 = .ok (.iadd, 1) := by decide +kernel
theorem dL_law_3415 : decode cL_law 3415 = .ok (.iaload, 1) := by decide +kernel
theorem dL_law_3416 : decode cL_law 3416 = .ok (.aload_n 3, 1) := by decide +kernel
theorem dL_law_3417 : decode cL_law 3417 = .ok (.invokestatic 348, 3) := by decide +kernel
theorem w8_118 : (Jvm.Cond.methodLink "PolyforgeLaw" (348 : Nat) ({ cls := "PolyforgeLaw", name := "sign", desc := "(LPolyforge;I[J)I" } : Jvm.MethodName)) ∈ lw_tbl := pv_t8 (pv_mg 118 rfl)
theorem w8_120 : (Jvm.Cond.codeWith ({ cls := "PolyforgeLaw", name := "sign", desc := "(LPolyforge;I[J)I" } : Jvm.MethodName) method_49_code (4 : Nat) (Option.some Jvm.ClassFile.FieldType.int) [((0 : Nat), (9 : Nat), (12 : Nat), (13 : Nat))]) ∈ lw_tbl := pv_t8 (pv_mg 120 rfl)
theorem w8_119 : (Jvm.Cond.static ({ cls := "PolyforgeLaw", name := "sign", desc := "(LPolyforge;I[J)I" } : Jvm.MethodName)) ∈ lw_tbl := pv_t8 (pv_mg 119 rfl)
theorem dL_law_3420 : decode cL_law 3420 = .ok (.istore 6, 2) := by decide +kernel
theorem dL_law_3422 : decode cL_law 3422 = .ok (.aload_n 2, 1) := by decide +kernel
theorem dL_law_3423 : decode cL_law 3423 = .ok (.aload_n 0, 1) := by decide +kernel
theorem dL_law_3424 : decode cL_law 3424 = .ok (.iload 5, 2) := by decide +kernel
theorem dL_law_3426 : decode cL_law 3426 = .ok (.iconst 1, 1) := by decide +kernel
theorem dL_law_3427 : decode cL_law 3427 = .ok (.iadd, 1) := by decide +kernel
theorem dL_law_3428 : decode cL_law 3428 = .ok (.iaload, 1) := by decide +kernel
theorem dL_law_3429 : decode cL_law 3429 = .ok (.invokevirtual 350, 3) := by decide +kernel
theorem w11_86 : (Jvm.Cond.methodLink "PolyforgeLaw" (350 : Nat) ({ cls := "PolyforgeModel", name := "sign", desc := "(I)C" } : Jvm.MethodName)) ∈ lw_tbl := pv_t11 (pv_mg 86 rfl)
theorem w11_89 : (Jvm.Cond.code ({ cls := "PolyforgeModel", name := "sign", desc := "(I)C" } : Jvm.MethodName) prog_14_method_117_code (2 : Nat) (Option.some Jvm.ClassFile.FieldType.char)) ∈ lw_tbl := pv_t11 (pv_mg 89 rfl)
theorem w11_88 : (Jvm.Cond.selects "PolyforgeModel" ({ cls := "PolyforgeModel", name := "sign", desc := "(I)C" } : Jvm.MethodName) ({ cls := "PolyforgeModel", name := "sign", desc := "(I)C" } : Jvm.MethodName)) ∈ lw_tbl := pv_t11 (pv_mg 88 rfl)
theorem w11_87 : (Jvm.Cond.instanceMethod ({ cls := "PolyforgeModel", name := "sign", desc := "(I)C" } : Jvm.MethodName)) ∈ lw_tbl := pv_t11 (pv_mg 87 rfl)
theorem dL_law_3432 : decode cL_law 3432 = .ok (.istore 7, 2) := by decide +kernel
theorem dL_law_3434 : decode cL_law 3434 = .ok (.aload_n 2, 1) := by decide +kernel
theorem dL_law_3435 : decode cL_law 3435 = .ok (.invokevirtual 199, 3) := by decide +kernel
theorem dL_law_3438 : decode cL_law 3438 = .ok (.iload 6, 2) := by decide +kernel
theorem dL_law_3440 : decode cL_law 3440 = .ok (.if_icmp .eq 5, 3) := by decide +kernel
theorem dL_law_3445 : decode cL_law 3445 = .ok (.iload 6, 2) := by decide +kernel
theorem dL_law_3447 : decode cL_law 3447 = .ok (.ifCond .ne 15, 3) := by decide +kernel
theorem dL_law_3450 : decode cL_law 3450 = .ok (.aload_n 3, 1) := by decide +kernel
theorem dL_law_3451 : decode cL_law 3451 = .ok (.iconst 0, 1) := by decide +kernel
theorem dL_law_3452 : decode cL_law 3452 = .ok (.laload, 1) := by decide +kernel
theorem dL_law_3453 : decode cL_law 3453 = .ok (.iload 7, 2) := by decide +kernel
theorem dL_law_3455 : decode cL_law 3455 = .ok (.i2l, 1) := by decide +kernel
theorem dL_law_3456 : decode cL_law 3456 = .ok (.lcmp, 1) := by decide +kernel
theorem dL_law_3457 : decode cL_law 3457 = .ok (.ifCond .eq 5, 3) := by decide +kernel
theorem dL_law_3462 : decode cL_law 3462 = .ok (.goto 259, 3) := by decide +kernel
set_option maxHeartbeats 4000000 in
set_option maxRecDepth 100000 in
/-- the law, call 47: sign -/
theorem law_case_47 {p : Program} {e : Env} {s : State} {m : MethodId} {below : List Frame} {meth : Method} {c : Code} (l : Launch) (hfl : l.stackTraces = false) {b : Nat} {xs : Nat → Int32} (C0 : lw_At p s m meth c b 7 xs) {D : va_G} {A : Nat → Prop} (hA : ∀ q : Nat, s.heap.size ≤ q → A q) (hAf : ∀ q : Nat, A q → s.heap.size ≤ q) (hbA : ¬ A b) (hE : pv_E A s s.heap) {x0 m0 o0 d0 : Nat} {xq xw mq : Nat → Nat} {xJ xP xO xC xI mI mI2 mI3 mT mC oL : ClassId} {xsg xsf msg msf : Nat → Int32} (hxsg : ∀ j, j < 3 → xsg j = 63) (hmsg : ∀ j, j < 3 → msg j = 63) {H : Heap} {locs : List Loc} (hK : va_K D pv_cl [(xJ, .long), (xP, .object "Polyforge$Polynomial"), (xO, .object "Polyforge$Ideal"), (xC, .char), (xI, .int), (mI, .int), (mT, .object "PolyforgeModel$Terms"), (mI2, .int), (mC, .char), (mI3, .int), (oL, .long)] s) (hP : va_P D pv_cl [(x0, .inr (0, [.ref (xq 0), .int 0, .int 108, .ref (xq 1), .int 0, .ref (xq 2), .int 0, .ref (xq 3), .ref (xq 4), .int 1, .ref (xq 5), .ref (xq 6), .ref (xq 7), .ref (xq 8), .ref (xq 9)])), ((xq 6), .inr (2, [.ref (xw 0), .ref (xw 1), .ref (xw 2), .ref (xw 3), .int 0, .int 0])), ((xw 2), .inl (xJ, 64, .inr (.inl (fun _ => 0)))), ((xq 0), .inl (xP, 60, .inr (.inr (.inr (.inr (fun _ => none)))))), ((xq 1), .inl (xO, 5, .inr (.inr (.inr (.inr (fun _ => none)))))), ((xq 3), .inl (xC, 3, .inl xsg)), ((xq 4), .inl (xI, 3, .inl xsf)), (m0, .inr (1, pv_m 0 mq)), ((mq 0), .inl (mI, 60, .inl (fun _ => 0))), ((mq 1), .inl (mT, 60, .inr (.inr (.inr (.inr (fun _ => none)))))), ((mq 2), .inl (mI2, 5, .inl (fun _ => 0))), ((mq 9), .inl (mC, 3, .inl msg)), ((mq 10), .inl (mI3, 3, .inl msf)), (o0, .inl (oL, 1, .inr (.inl (fun _ => 0))))] H) (hD : va_D A [(x0, .inr (0, [.ref (xq 0), .int 0, .int 108, .ref (xq 1), .int 0, .ref (xq 2), .int 0, .ref (xq 3), .ref (xq 4), .int 1, .ref (xq 5), .ref (xq 6), .ref (xq 7), .ref (xq 8), .ref (xq 9)])), ((xq 6), .inr (2, [.ref (xw 0), .ref (xw 1), .ref (xw 2), .ref (xw 3), .int 0, .int 0])), ((xw 2), .inl (xJ, 64, .inr (.inl (fun _ => 0)))), ((xq 0), .inl (xP, 60, .inr (.inr (.inr (.inr (fun _ => none)))))), ((xq 1), .inl (xO, 5, .inr (.inr (.inr (.inr (fun _ => none)))))), ((xq 3), .inl (xC, 3, .inl xsg)), ((xq 4), .inl (xI, 3, .inl xsf)), (m0, .inr (1, pv_m 0 mq)), ((mq 0), .inl (mI, 60, .inl (fun _ => 0))), ((mq 1), .inl (mT, 60, .inr (.inr (.inr (.inr (fun _ => none)))))), ((mq 2), .inl (mI2, 5, .inl (fun _ => 0))), ((mq 9), .inl (mC, 3, .inl msg)), ((mq 10), .inl (mI3, 3, .inl msf)), (o0, .inl (oL, 1, .inr (.inl (fun _ => 0))))]) (hS : va_S A s.heap H locs) {ls : Array Slot} (hl : lv_has ls 9 [(0, .ref b), (1, .ref x0), (2, .ref m0), (3, .ref o0), (4, .ref d0), (5, .int 0)]) : W p l e room_1 s m #[Value.ref b] below meth c H locs 397 653821 (lw_Z below #[Value.ref b] s) (F0 m 3409 ls []) := by
  obtain ⟨hx, hb, hr, hml, hown, hts0, hX, hbl, hlocks, hgv⟩ := C0
  have hts : ∀ w ∈ pv_W, w.before #[Value.ref b] s = true := fun w h => hts0 w (List.mem_filter.mp h).1
  have hg := fun {w : Cond} (h : w ∈ lw_tbl) (g : goodWord w = true) => hts w (pv_in h g)
  have hP : va_P D pv_cl [(x0, .inr (0, [.ref (xq 0), .int 0, .int 108, .ref (xq 1), .int 0, .ref (xq 2), .int 0, .ref (xq 3), .ref (xq 4), .int 1, .ref (xq 5), .ref (xq 6), .ref (xq 7), .ref (xq 8), .ref (xq 9)])), ((xq 3), .inl (xC, 3, .inl xsg)), (m0, .inr (1, pv_m 0 mq)), ((mq 9), .inl (mC, 3, .inl msg)), (o0, .inl (oL, 1, .inr (.inl (fun _ => 0))))] _ := hP.sub [0, 5, 7, 11, 13] rfl
  have hD : va_D A [(x0, .inr (0, [.ref (xq 0), .int 0, .int 108, .ref (xq 1), .int 0, .ref (xq 2), .int 0, .ref (xq 3), .ref (xq 4), .int 1, .ref (xq 5), .ref (xq 6), .ref (xq 7), .ref (xq 8), .ref (xq 9)])), ((xq 3), .inl (xC, 3, .inl xsg)), (m0, .inr (1, pv_m 0 mq)), ((mq 9), .inl (mC, 3, .inl msg)), (o0, .inl (oL, 1, .inr (.inl (fun _ => 0))))] := hD.sub [0, 5, 7, 11, 13] (by decide) rfl
  have hK : va_K D pv_cl [(xC, .char), (mC, .char), (oL, .long)] s := hK.sub [3, 8, 10] rfl
  refine lv_aload_n hx hb dL_law_3409 rfl (lv_at hl 1 rfl) ?_
  refine lv_aload_n hx hb dL_law_3410 rfl (lv_at hl 0 rfl) ?_
  refine lv_iload hx hb dL_law_3411 (lv_at hl 5 rfl) ?_
  refine lv_iconst (v := 1) hx hb dL_law_3413 (by decide) ?_
  refine lv_iadd hx hb dL_law_3414 ?_
  refine pv_setI 1 (by decide) ?_
  refine va_sld hx hb hX hbl hbA hS (by unfold vp_in; decide) dL_law_3415 ?_
  refine pv_setI (xs 1) rfl ?_
  refine lv_aload_n hx hb dL_law_3416 rfl (lv_at hl 3 rfl) ?_
  have hF := va_free (wc := [(x0, .inr (0, [.ref (xq 0), .int 0, .int 108, .ref (xq 1), .int 0, .ref (xq 2), .int 0, .ref (xq 3), .ref (xq 4), .int 1, .ref (xq 5), .ref (xq 6), .ref (xq 7), .ref (xq 8), .ref (xq 9)])), ((xq 3), .inl (xC, 3, .inl xsg)), (o0, .inl (oL, 1, .inr (.inl (fun _ => 0))))]) hD hS hA [0, 1, 4] rfl
  refine va_calli (vx_runSW (As := [.ref x0, .int (xs 1), .ref o0]) (rest := []) ⟨hx, hb, hml, hown, hts⟩ (c_L_sign l hfl D _ x0 xq xC xsg hxsg oL (xs 1) o0 (fun _ => 0)) (vx_cwSW 3 hts (pv_gSW w8_118 w8_119 w1_0 w8_120) rfl rfl rfl (by decide +kernel) ⟨Nat.le_of_ble_eq_true rfl, Nat.le_of_ble_eq_true rfl⟩) (pv_ps hE hS hF (hP.sub [0, 1, 4] rfl) (hK.sub [0, 2] rfl) (hD.sub [0, 1, 4] (by decide) rfl)) rfl rfl hl.1 rfl (lv_room (Nat.le_of_ble_eq_true rfl)) dL_law_3417 ⟨Nat.le_of_ble_eq_true rfl, Nat.le_of_ble_eq_true rfl⟩) hS (fun q _ h => hF q h) hF (fun r_0 u t H1 locs1 ht hvm hw hB hz1 hk1 hS => ?_)
  refine W.widen (k := 398) (n := 653827) (Nat.le_of_ble_eq_true rfl) (Nat.le_of_ble_eq_true rfl) ?_
  obtain ⟨f_2, hf_3, hP1, hK1, hD1⟩ := hB
  rw [ht] at hP1
  have hK1 := va_K.moved hvm.symm hK1
  obtain ⟨hP, hD⟩ := va_join (wr := [(m0, .inr (1, pv_m 0 mq)), ((mq 9), .inl (mC, 3, .inl msg))]) (w1 := [(o0, .inl (oL, 1, .inr (.inl f_2)))]) hP hD [0, 1, 4] [2, 3] rfl rfl (by decide) (by decide) hk1 hF hP1 hD1
  have hP : va_P D pv_cl [(m0, .inr (1, pv_m 0 mq)), ((mq 9), .inl (mC, 3, .inl msg)), (o0, .inl (oL, 1, .inr (.inl f_2)))] _ := hP
  have hD : va_D A [(m0, .inr (1, pv_m 0 mq)), ((mq 9), .inl (mC, 3, .inl msg)), (o0, .inl (oL, 1, .inr (.inl f_2)))] := hD
  rcases hw with ⟨rfl, hu, hc⟩ | ⟨rfl, hn⟩
  · refine lv_istore (lv' := [(6, .int 0), (0, .ref b), (1, .ref x0), (2, .ref m0), (3, .ref o0), (4, .ref d0), (5, .int 0)]) hx hb dL_law_3420 hl (by decide) rfl (fun ls hl => ?_)
    refine lv_aload_n hx hb dL_law_3422 rfl (lv_at hl 3 rfl) ?_
    refine lv_aload_n hx hb dL_law_3423 rfl (lv_at hl 1 rfl) ?_
    refine pv_pc 3424 rfl ?_
    refine lv_iload hx hb dL_law_3424 (lv_at hl 6 rfl) ?_
    refine lv_iconst (v := 1) hx hb dL_law_3426 (by decide) ?_
    refine lv_iadd hx hb dL_law_3427 ?_
    refine pv_setI 1 (by decide) ?_
    refine va_sld hx hb hX hbl hbA hS (by unfold vp_in; decide) dL_law_3428 ?_
    refine pv_setI (xs 1) rfl ?_
    have hF := va_free (wc := [(m0, .inr (1, pv_m 0 mq)), ((mq 9), .inl (mC, 3, .inl msg))]) hD hS hA [0, 1] rfl
    refine va_calli (va_runV (As := [.int (xs 1)]) (rest := []) ⟨hx, hb, hml, hown, hts⟩ (c_X13_sign l hfl D _ m0 mq mC msg hmsg (xs 1)) (cwV 1 hts (pv_gV w11_86 w11_87 w11_88 w1_10 w11_89) rfl rfl rfl (by decide +kernel) ⟨Nat.le_of_ble_eq_true rfl, Nat.le_of_ble_eq_true rfl⟩) (pv_pV hE hS hF (hP.sub [0, 1] rfl) (hK.sub [1] rfl) (hD.sub [0, 1] (by decide) rfl) (va_recv (ci := 1) (q0 := 0) hK hP rfl rfl)) rfl rfl hl.1 rfl (lv_room (Nat.le_of_ble_eq_true rfl)) dL_law_3429 ⟨Nat.le_of_ble_eq_true rfl, Nat.le_of_ble_eq_true rfl⟩) hS (fun q _ h => hF q h) hF (fun r_3 u t H1 locs1 ht hvm hw hB hz1 hk1 hS => ?_)
    refine W.widen (k := 398) (n := 653827) (Nat.le_of_ble_eq_true rfl) (Nat.le_of_ble_eq_true rfl) ?_
    obtain ⟨fs_5, hf_6, hP1, hK1, hD1⟩ := hB
    rw [ht] at hP1
    have hK1 := va_K.moved hvm.symm hK1
    obtain ⟨hP, hD⟩ := va_join (wr := [(o0, .inl (oL, 1, .inr (.inl f_2)))]) (w1 := [(m0, .inr (1, fs_5))]) hP hD [0, 1] [2] rfl rfl (by decide) (by decide) hk1 hF hP1 hD1
    have hP : va_P D pv_cl [(o0, .inl (oL, 1, .inr (.inl f_2))), (m0, .inr (1, fs_5))] _ := hP
    have hD : va_D A [(o0, .inl (oL, 1, .inr (.inl f_2))), (m0, .inr (1, fs_5))] := hD
    rcases hw with ⟨rfl, rfl, a_7⟩ | ⟨rfl, a_7⟩
    · have hP : va_P D pv_cl [(o0, .inl (oL, 1, .inr (.inl f_2))), (m0, .inr (1, fs_5))] _ := hP
      have hD : va_D A [(o0, .inl (oL, 1, .inr (.inl f_2))), (m0, .inr (1, fs_5))] := hD
      refine lv_istore (lv' := [(7, .int 63), (6, .int 0), (0, .ref b), (1, .ref x0), (2, .ref m0), (3, .ref o0), (4, .ref d0), (5, .int 0)]) hx hb dL_law_3432 hl (by decide) rfl (fun ls hl => ?_)
      refine lv_aload_n hx hb dL_law_3434 rfl (lv_at hl 4 rfl) ?_
      have hF := pv_new hA hS.1
      refine va_calli (va_runV (As := []) (rest := []) ⟨hx, hb, hml, hown, hts⟩ (c_X13_thrown l hfl D _ m0 fs_5 0 hf_6) (cwV 0 hts (pv_gV w9_102 w9_103 w9_104 w1_10 w9_105) rfl rfl rfl (by decide +kernel) ⟨Nat.le_of_ble_eq_true rfl, Nat.le_of_ble_eq_true rfl⟩) (pv_pV hE hS hF (hP.sub [1] rfl) (hK.sub [] rfl) (hD.sub [1] (by decide) rfl) (va_recv (ci := 1) (q0 := 1) hK hP rfl rfl)) rfl rfl hl.1 rfl (lv_room (Nat.le_of_ble_eq_true rfl)) dL_law_3435 ⟨Nat.le_of_ble_eq_true rfl, Nat.le_of_ble_eq_true rfl⟩) hS (fun q _ h => hF q h) hF (fun r_7 u t H1 locs1 ht hvm hw hB hz1 hk1 hS => ?_)
      refine W.widen (k := 398) (n := 653827) (Nat.le_of_ble_eq_true rfl) (Nat.le_of_ble_eq_true rfl) ?_
      have hP := pv_keep hP rfl hk1
      subst hw
      refine lv_iload hx hb dL_law_3438 (lv_at hl 1 rfl) ?_
      refine lv_icmp_eq (tgt := 3445) hx hb dL_law_3440 (by decide) (fun _ => ?_) (fun c_9 => absurd (by decide) c_9)
      refine lv_iload hx hb dL_law_3445 (lv_at hl 1 rfl) ?_
      refine lv_if_ne (tgt := 3462) hx hb dL_law_3447 (by decide) (fun c_10 => absurd (by decide) c_10) (fun _ => ?_)
      refine pv_pc 3450 rfl ?_
      refine lv_aload_n hx hb dL_law_3450 rfl (lv_at hl 5 rfl) ?_
      refine lv_iconst (v := 0) hx hb dL_law_3451 (by decide) ?_
      refine va_lald hx hb hK hP 0 2 rfl rfl (by unfold vp_in; decide) dL_law_3452 ?_
      refine pv_setL 63 (hf_3.trans hu) ?_
      refine lv_iload hx hb dL_law_3453 (lv_at hl 0 rfl) ?_
      refine lv_i2l (v := 63) hx hb dL_law_3455 (by decide) ?_
      refine W.lcmp hx hb dL_law_3456 ?_
      refine pv_setI 0 (by decide) ?_
      refine lv_if_eq (tgt := 3462) hx hb dL_law_3457 (by decide) (fun _ => ?_) (fun c_11 => absurd (by decide) c_11)
      refine lv_goto (tgt := 3721) hx hb dL_law_3462 (by decide) ?_
      refine lv_iinc (v := 7) (lv' := [(5, .int 7), (7, .int 63), (6, .int 0), (0, .ref b), (1, .ref x0), (2, .ref m0), (3, .ref o0), (4, .ref d0)]) hx hb dL_law_3721 hl (k := 7) rfl (by decide) (by decide) rfl (fun ls hl => ?_)
      refine lv_goto (tgt := 28) hx hb dL_law_3724 (by decide) ?_
      refine lv_iload hx hb dL_law_28 (lv_at hl 0 rfl) ?_
      refine lv_aload_n hx hb dL_law_30 rfl (lv_at hl 3 rfl) ?_
      refine pv_pc 31 rfl ?_
      refine va_slen hx hb hX hbl hbA hS dL_law_31 ?_
      refine pv_setI 7 rfl ?_
      refine lv_bipush (v := 7) hx hb dL_law_32 (by decide) ?_
      refine lv_isub hx hb dL_law_34 ?_
      refine pv_setI 0 (by decide) ?_
      refine lv_icmp_gt (tgt := 3727) hx hb dL_law_35 (by decide) (fun _ => ?_) (fun c_12 => absurd (by decide) c_12)
      refine lv_iconst (v := 1) hx hb dL_law_3727 (by decide) ?_
      refine va_forget (fun q hq => hAf _ (hS.2.2 q hq)) ?_
      refine W.widen (k := 600006) (n := 7302064) (Nat.le_of_ble_eq_true rfl) (Nat.le_of_ble_eq_true rfl) ?_
      exact lw_ret (d0 := s.drawn) (Drawn.sameBut.refl s.drawn lw_cs) hx hb hr hlocks dL_law_3728
    · exact absurd hc a_7
  · refine lv_istore (lv' := [(6, .int 1), (0, .ref b), (1, .ref x0), (2, .ref m0), (3, .ref o0), (4, .ref d0), (5, .int 0)]) hx hb dL_law_3420 hl (by decide) rfl (fun ls hl => ?_)
    refine lv_aload_n hx hb dL_law_3422 rfl (lv_at hl 3 rfl) ?_
    refine lv_aload_n hx hb dL_law_3423 rfl (lv_at hl 1 rfl) ?_
    refine pv_pc 3424 rfl ?_
    refine lv_iload hx hb dL_law_3424 (lv_at hl 6 rfl) ?_
    refine lv_iconst (v := 1) hx hb dL_law_3426 (by decide) ?_
    refine lv_iadd hx hb dL_law_3427 ?_
    refine pv_setI 1 (by decide) ?_
    refine va_sld hx hb hX hbl hbA hS (by unfold vp_in; decide) dL_law_3428 ?_
    refine pv_setI (xs 1) rfl ?_
    have hF := va_free (wc := [(m0, .inr (1, pv_m 0 mq)), ((mq 9), .inl (mC, 3, .inl msg))]) hD hS hA [0, 1] rfl
    refine va_calli (va_runV (As := [.int (xs 1)]) (rest := []) ⟨hx, hb, hml, hown, hts⟩ (c_X13_sign l hfl D _ m0 mq mC msg hmsg (xs 1)) (cwV 1 hts (pv_gV w11_86 w11_87 w11_88 w1_10 w11_89) rfl rfl rfl (by decide +kernel) ⟨Nat.le_of_ble_eq_true rfl, Nat.le_of_ble_eq_true rfl⟩) (pv_pV hE hS hF (hP.sub [0, 1] rfl) (hK.sub [1] rfl) (hD.sub [0, 1] (by decide) rfl) (va_recv (ci := 1) (q0 := 0) hK hP rfl rfl)) rfl rfl hl.1 rfl (lv_room (Nat.le_of_ble_eq_true rfl)) dL_law_3429 ⟨Nat.le_of_ble_eq_true rfl, Nat.le_of_ble_eq_true rfl⟩) hS (fun q _ h => hF q h) hF (fun r_12 u t H1 locs1 ht hvm hw hB hz1 hk1 hS => ?_)
    refine W.widen (k := 398) (n := 653827) (Nat.le_of_ble_eq_true rfl) (Nat.le_of_ble_eq_true rfl) ?_
    obtain ⟨fs_14, hf_15, hP1, hK1, hD1⟩ := hB
    rw [ht] at hP1
    have hK1 := va_K.moved hvm.symm hK1
    obtain ⟨hP, hD⟩ := va_join (wr := [(o0, .inl (oL, 1, .inr (.inl f_2)))]) (w1 := [(m0, .inr (1, fs_14))]) hP hD [0, 1] [2] rfl rfl (by decide) (by decide) hk1 hF hP1 hD1
    have hP : va_P D pv_cl [(o0, .inl (oL, 1, .inr (.inl f_2))), (m0, .inr (1, fs_14))] _ := hP
    have hD : va_D A [(o0, .inl (oL, 1, .inr (.inl f_2))), (m0, .inr (1, fs_14))] := hD
    rcases hw with ⟨rfl, rfl, a_16⟩ | ⟨rfl, a_16⟩
    · exact absurd a_16 hn
    · have hP : va_P D pv_cl [(o0, .inl (oL, 1, .inr (.inl f_2))), (m0, .inr (1, fs_14))] _ := hP
      have hD : va_D A [(o0, .inl (oL, 1, .inr (.inl f_2))), (m0, .inr (1, fs_14))] := hD
      refine lv_istore (lv' := [(7, .int r_12), (6, .int 1), (0, .ref b), (1, .ref x0), (2, .ref m0), (3, .ref o0), (4, .ref d0), (5, .int 0)]) hx hb dL_law_3432 hl (by decide) rfl (fun ls hl => ?_)
      refine lv_aload_n hx hb dL_law_3434 rfl (lv_at hl 4 rfl) ?_
      have hF := pv_new hA hS.1
      refine va_calli (va_runV (As := []) (rest := []) ⟨hx, hb, hml, hown, hts⟩ (c_X13_thrown l hfl D _ m0 fs_14 1 hf_15) (cwV 0 hts (pv_gV w9_102 w9_103 w9_104 w1_10 w9_105) rfl rfl rfl (by decide +kernel) ⟨Nat.le_of_ble_eq_true rfl, Nat.le_of_ble_eq_true rfl⟩) (pv_pV hE hS hF (hP.sub [1] rfl) (hK.sub [] rfl) (hD.sub [1] (by decide) rfl) (va_recv (ci := 1) (q0 := 1) hK hP rfl rfl)) rfl rfl hl.1 rfl (lv_room (Nat.le_of_ble_eq_true rfl)) dL_law_3435 ⟨Nat.le_of_ble_eq_true rfl, Nat.le_of_ble_eq_true rfl⟩) hS (fun q _ h => hF q h) hF (fun r_16 u t H1 locs1 ht hvm hw hB hz1 hk1 hS => ?_)
      refine W.widen (k := 398) (n := 653827) (Nat.le_of_ble_eq_true rfl) (Nat.le_of_ble_eq_true rfl) ?_
      have hP := pv_keep hP rfl hk1
      subst hw
      refine lv_iload hx hb dL_law_3438 (lv_at hl 1 rfl) ?_
      refine lv_icmp_eq (tgt := 3445) hx hb dL_law_3440 (by decide) (fun _ => ?_) (fun c_18 => absurd (by decide) c_18)
      refine lv_iload hx hb dL_law_3445 (lv_at hl 1 rfl) ?_
      refine lv_if_ne (tgt := 3462) hx hb dL_law_3447 (by decide) (fun _ => ?_) (fun c_19 => absurd c_19 (by decide))
      refine pv_pc 3462 rfl ?_
      refine lv_goto (tgt := 3721) hx hb dL_law_3462 (by decide) ?_
      refine lv_iinc (v := 7) (lv' := [(5, .int 7), (7, .int r_12), (6, .int 1), (0, .ref b), (1, .ref x0), (2, .ref m0), (3, .ref o0), (4, .ref d0)]) hx hb dL_law_3721 hl (k := 7) rfl (by decide) (by decide) rfl (fun ls hl => ?_)
      refine lv_goto (tgt := 28) hx hb dL_law_3724 (by decide) ?_
      refine lv_iload hx hb dL_law_28 (lv_at hl 0 rfl) ?_
      refine lv_aload_n hx hb dL_law_30 rfl (lv_at hl 3 rfl) ?_
      refine va_slen hx hb hX hbl hbA hS dL_law_31 ?_
      refine pv_setI 7 rfl ?_
      refine lv_bipush (v := 7) hx hb dL_law_32 (by decide) ?_
      refine lv_isub hx hb dL_law_34 ?_
      refine pv_setI 0 (by decide) ?_
      refine lv_icmp_gt (tgt := 3727) hx hb dL_law_35 (by decide) (fun _ => ?_) (fun c_20 => absurd (by decide) c_20)
      refine lv_iconst (v := 1) hx hb dL_law_3727 (by decide) ?_
      refine va_forget (fun q hq => hAf _ (hS.2.2 q hq)) ?_
      refine W.widen (k := 600006) (n := 7302064) (Nat.le_of_ble_eq_true rfl) (Nat.le_of_ble_eq_true rfl) ?_
      exact lw_ret (d0 := s.drawn) (Drawn.sameBut.refl s.drawn lw_cs) hx hb hr hlocks dL_law_3728

theorem dL_law_3708 : decode cL_law 3708 = .ok (.aload_n 1, 1) := by decide +kernel
theorem dL_law_3709 : decode cL_law 3709 = .ok (.invokevirtual 364, 3) := by decide +kernel
theorem w2_87 : (Jvm.Cond.methodLink "PolyforgeLaw" (364 : Nat) ({ cls := "Polyforge", name := "isSound", desc := "()Z" } : Jvm.MethodName)) ∈ lw_tbl := pv_t2 (pv_mg 87 rfl)
theorem w2_90 : (Jvm.Cond.code ({ cls := "Polyforge", name := "isSound", desc := "()Z" } : Jvm.MethodName) prog_1_method_54_code (3 : Nat) (Option.some Jvm.ClassFile.FieldType.boolean)) ∈ lw_tbl := pv_t2 (pv_mg 90 rfl)
theorem w2_89 : (Jvm.Cond.selects "Polyforge" ({ cls := "Polyforge", name := "isSound", desc := "()Z" } : Jvm.MethodName) ({ cls := "Polyforge", name := "isSound", desc := "()Z" } : Jvm.MethodName)) ∈ lw_tbl := pv_t2 (pv_mg 89 rfl)
theorem w2_88 : (Jvm.Cond.instanceMethod ({ cls := "Polyforge", name := "isSound", desc := "()Z" } : Jvm.MethodName)) ∈ lw_tbl := pv_t2 (pv_mg 88 rfl)
theorem dL_law_3712 : decode cL_law 3712 = .ok (.aload_n 2, 1) := by decide +kernel
theorem dL_law_3713 : decode cL_law 3713 = .ok (.invokevirtual 368, 3) := by decide +kernel
theorem w11_122 : (Jvm.Cond.methodLink "PolyforgeLaw" (368 : Nat) ({ cls := "PolyforgeModel", name := "isSound", desc := "()Z" } : Jvm.MethodName)) ∈ lw_tbl := pv_t11 (pv_mg 122 rfl)
theorem w11_125 : (Jvm.Cond.code ({ cls := "PolyforgeModel", name := "isSound", desc := "()Z" } : Jvm.MethodName) prog_14_method_126_code (1 : Nat) (Option.some Jvm.ClassFile.FieldType.boolean)) ∈ lw_tbl := pv_t11 (pv_mg 125 rfl)
theorem w11_124 : (Jvm.Cond.selects "PolyforgeModel" ({ cls := "PolyforgeModel", name := "isSound", desc := "()Z" } : Jvm.MethodName) ({ cls := "PolyforgeModel", name := "isSound", desc := "()Z" } : Jvm.MethodName)) ∈ lw_tbl := pv_t11 (pv_mg 124 rfl)
theorem w11_123 : (Jvm.Cond.instanceMethod ({ cls := "PolyforgeModel", name := "isSound", desc := "()Z" } : Jvm.MethodName)) ∈ lw_tbl := pv_t11 (pv_mg 123 rfl)
theorem dL_law_3716 : decode cL_law 3716 = .ok (.if_icmp .eq 5, 3) := by decide +kernel
set_option maxHeartbeats 4000000 in
set_option maxRecDepth 100000 in
/-- the law, call 52: isSound -/
theorem law_case_52 {p : Program} {e : Env} {s : State} {m : MethodId} {below : List Frame} {meth : Method} {c : Code} (l : Launch) (hfl : l.stackTraces = false) {b : Nat} {xs : Nat → Int32} (C0 : lw_At p s m meth c b 7 xs) {D : va_G} {A : Nat → Prop} (hA : ∀ q : Nat, s.heap.size ≤ q → A q) (hAf : ∀ q : Nat, A q → s.heap.size ≤ q) (hbA : ¬ A b) (hE : pv_E A s s.heap) {x0 m0 o0 d0 : Nat} {xq xw mq : Nat → Nat} {xJ xP xO xC xI mI mI2 mI3 mT mC oL : ClassId} {xsg xsf msg msf : Nat → Int32} (hxsg : ∀ j, j < 3 → xsg j = 63) (hmsg : ∀ j, j < 3 → msg j = 63) {H : Heap} {locs : List Loc} (hK : va_K D pv_cl [(xJ, .long), (xP, .object "Polyforge$Polynomial"), (xO, .object "Polyforge$Ideal"), (xC, .char), (xI, .int), (mI, .int), (mT, .object "PolyforgeModel$Terms"), (mI2, .int), (mC, .char), (mI3, .int), (oL, .long)] s) (hP : va_P D pv_cl [(x0, .inr (0, [.ref (xq 0), .int 0, .int 108, .ref (xq 1), .int 0, .ref (xq 2), .int 0, .ref (xq 3), .ref (xq 4), .int 1, .ref (xq 5), .ref (xq 6), .ref (xq 7), .ref (xq 8), .ref (xq 9)])), ((xq 6), .inr (2, [.ref (xw 0), .ref (xw 1), .ref (xw 2), .ref (xw 3), .int 0, .int 0])), ((xw 2), .inl (xJ, 64, .inr (.inl (fun _ => 0)))), ((xq 0), .inl (xP, 60, .inr (.inr (.inr (.inr (fun _ => none)))))), ((xq 1), .inl (xO, 5, .inr (.inr (.inr (.inr (fun _ => none)))))), ((xq 3), .inl (xC, 3, .inl xsg)), ((xq 4), .inl (xI, 3, .inl xsf)), (m0, .inr (1, pv_m 0 mq)), ((mq 0), .inl (mI, 60, .inl (fun _ => 0))), ((mq 1), .inl (mT, 60, .inr (.inr (.inr (.inr (fun _ => none)))))), ((mq 2), .inl (mI2, 5, .inl (fun _ => 0))), ((mq 9), .inl (mC, 3, .inl msg)), ((mq 10), .inl (mI3, 3, .inl msf)), (o0, .inl (oL, 1, .inr (.inl (fun _ => 0))))] H) (hD : va_D A [(x0, .inr (0, [.ref (xq 0), .int 0, .int 108, .ref (xq 1), .int 0, .ref (xq 2), .int 0, .ref (xq 3), .ref (xq 4), .int 1, .ref (xq 5), .ref (xq 6), .ref (xq 7), .ref (xq 8), .ref (xq 9)])), ((xq 6), .inr (2, [.ref (xw 0), .ref (xw 1), .ref (xw 2), .ref (xw 3), .int 0, .int 0])), ((xw 2), .inl (xJ, 64, .inr (.inl (fun _ => 0)))), ((xq 0), .inl (xP, 60, .inr (.inr (.inr (.inr (fun _ => none)))))), ((xq 1), .inl (xO, 5, .inr (.inr (.inr (.inr (fun _ => none)))))), ((xq 3), .inl (xC, 3, .inl xsg)), ((xq 4), .inl (xI, 3, .inl xsf)), (m0, .inr (1, pv_m 0 mq)), ((mq 0), .inl (mI, 60, .inl (fun _ => 0))), ((mq 1), .inl (mT, 60, .inr (.inr (.inr (.inr (fun _ => none)))))), ((mq 2), .inl (mI2, 5, .inl (fun _ => 0))), ((mq 9), .inl (mC, 3, .inl msg)), ((mq 10), .inl (mI3, 3, .inl msf)), (o0, .inl (oL, 1, .inr (.inl (fun _ => 0))))]) (hS : va_S A s.heap H locs) {ls : Array Slot} (hl : lv_has ls 9 [(0, .ref b), (1, .ref x0), (2, .ref m0), (3, .ref o0), (4, .ref d0), (5, .int 0)]) : W p l e room_1 s m #[Value.ref b] below meth c H locs 397 653821 (lw_Z below #[Value.ref b] s) (F0 m 3708 ls []) := by
  obtain ⟨hx, hb, hr, hml, hown, hts0, hX, hbl, hlocks, hgv⟩ := C0
  have hts : ∀ w ∈ pv_W, w.before #[Value.ref b] s = true := fun w h => hts0 w (List.mem_filter.mp h).1
  have hg := fun {w : Cond} (h : w ∈ lw_tbl) (g : goodWord w = true) => hts w (pv_in h g)
  have hP : va_P D pv_cl [(x0, .inr (0, [.ref (xq 0), .int 0, .int 108, .ref (xq 1), .int 0, .ref (xq 2), .int 0, .ref (xq 3), .ref (xq 4), .int 1, .ref (xq 5), .ref (xq 6), .ref (xq 7), .ref (xq 8), .ref (xq 9)])), (m0, .inr (1, pv_m 0 mq))] _ := hP.sub [0, 7] rfl
  have hD : va_D A [(x0, .inr (0, [.ref (xq 0), .int 0, .int 108, .ref (xq 1), .int 0, .ref (xq 2), .int 0, .ref (xq 3), .ref (xq 4), .int 1, .ref (xq 5), .ref (xq 6), .ref (xq 7), .ref (xq 8), .ref (xq 9)])), (m0, .inr (1, pv_m 0 mq))] := hD.sub [0, 7] (by decide) rfl
  have hK : va_K D pv_cl [] s := hK.sub [] rfl
  refine lv_aload_n hx hb dL_law_3708 rfl (lv_at hl 1 rfl) ?_
  have hF := pv_new hA hS.1
  refine va_calli (va_runV (As := []) (rest := []) ⟨hx, hb, hml, hown, hts⟩ (c_X11_isSound l hfl D _ x0 xq) (cwV 0 hts (pv_gV w2_87 w2_88 w2_89 w1_1 w2_90) rfl rfl rfl (by decide +kernel) ⟨Nat.le_of_ble_eq_true rfl, Nat.le_of_ble_eq_true rfl⟩) (pv_pV hE hS hF (hP.sub [0] rfl) (hK.sub [] rfl) (hD.sub [0] (by decide) rfl) (va_recv (ci := 0) (q0 := 0) hK hP rfl rfl)) rfl rfl hl.1 rfl (lv_room (Nat.le_of_ble_eq_true rfl)) dL_law_3709 ⟨Nat.le_of_ble_eq_true rfl, Nat.le_of_ble_eq_true rfl⟩) hS (fun q _ h => hF q h) hF (fun r_0 u t H1 locs1 ht hvm hw hB hz1 hk1 hS => ?_)
  refine W.widen (k := 397) (n := 653821) (Nat.le_of_ble_eq_true rfl) (Nat.le_of_ble_eq_true rfl) ?_
  have hP := pv_keep hP rfl hk1
  obtain rfl := hw
  refine lv_aload_n hx hb dL_law_3712 rfl (lv_at hl 2 rfl) ?_
  have hF := va_free (wc := [(m0, .inr (1, pv_m 0 mq))]) hD hS hA [1] rfl
  refine va_calli (va_runV (As := []) (rest := [.int 1]) ⟨hx, hb, hml, hown, hts⟩ (c_X13_isSound l hfl D _ m0 mq ) (cwV 0 hts (pv_gV w11_122 w11_123 w11_124 w1_10 w11_125) rfl rfl rfl (by decide +kernel) ⟨Nat.le_of_ble_eq_true rfl, Nat.le_of_ble_eq_true rfl⟩) (pv_pV hE hS hF (hP.sub [1] rfl) (hK.sub [] rfl) (hD.sub [1] (by decide) rfl) (va_recv (ci := 1) (q0 := 1) hK hP rfl rfl)) rfl rfl hl.1 rfl (lv_room (Nat.le_of_ble_eq_true rfl)) dL_law_3713 ⟨Nat.le_of_ble_eq_true rfl, Nat.le_of_ble_eq_true rfl⟩) hS (fun q _ h => hF q h) hF (fun r_1 u t H1 locs1 ht hvm hw hB hz1 hk1 hS => ?_)
  refine W.widen (k := 397) (n := 653821) (Nat.le_of_ble_eq_true rfl) (Nat.le_of_ble_eq_true rfl) ?_
  obtain ⟨fs_3, hf_4, hP1, hK1, hD1⟩ := hB
  obtain ⟨rfl, rfl⟩ := hw
  rw [ht] at hP1
  have hK1 := va_K.moved hvm.symm hK1
  obtain ⟨hP, hD⟩ := va_join (wr := [(x0, .inr (0, [.ref (xq 0), .int 0, .int 108, .ref (xq 1), .int 0, .ref (xq 2), .int 0, .ref (xq 3), .ref (xq 4), .int 1, .ref (xq 5), .ref (xq 6), .ref (xq 7), .ref (xq 8), .ref (xq 9)]))]) (w1 := [(m0, .inr (1, fs_3))]) hP hD [1] [0] rfl rfl (by decide) (by decide) hk1 hF hP1 hD1
  have hP : va_P D pv_cl [(x0, .inr (0, [.ref (xq 0), .int 0, .int 108, .ref (xq 1), .int 0, .ref (xq 2), .int 0, .ref (xq 3), .ref (xq 4), .int 1, .ref (xq 5), .ref (xq 6), .ref (xq 7), .ref (xq 8), .ref (xq 9)])), (m0, .inr (1, fs_3))] _ := hP
  have hD : va_D A [(x0, .inr (0, [.ref (xq 0), .int 0, .int 108, .ref (xq 1), .int 0, .ref (xq 2), .int 0, .ref (xq 3), .ref (xq 4), .int 1, .ref (xq 5), .ref (xq 6), .ref (xq 7), .ref (xq 8), .ref (xq 9)])), (m0, .inr (1, fs_3))] := hD
  refine lv_icmp_eq (tgt := 3721) hx hb dL_law_3716 (by decide) (fun _ => ?_) (fun c_6 => absurd (by decide) c_6)
  refine lv_iinc (v := 7) (lv' := [(5, .int 7), (0, .ref b), (1, .ref x0), (2, .ref m0), (3, .ref o0), (4, .ref d0)]) hx hb dL_law_3721 hl (k := 5) rfl (by decide) (by decide) rfl (fun ls hl => ?_)
  refine lv_goto (tgt := 28) hx hb dL_law_3724 (by decide) ?_
  refine lv_iload hx hb dL_law_28 (lv_at hl 0 rfl) ?_
  refine lv_aload_n hx hb dL_law_30 rfl (lv_at hl 1 rfl) ?_
  refine va_slen hx hb hX hbl hbA hS dL_law_31 ?_
  refine pv_setI 7 rfl ?_
  refine lv_bipush (v := 7) hx hb dL_law_32 (by decide) ?_
  refine pv_pc 34 rfl ?_
  refine lv_isub hx hb dL_law_34 ?_
  refine pv_setI 0 (by decide) ?_
  refine lv_icmp_gt (tgt := 3727) hx hb dL_law_35 (by decide) (fun _ => ?_) (fun c_7 => absurd (by decide) c_7)
  refine lv_iconst (v := 1) hx hb dL_law_3727 (by decide) ?_
  refine va_forget (fun q hq => hAf _ (hS.2.2 q hq)) ?_
  refine W.widen (k := 600006) (n := 7302064) (Nat.le_of_ble_eq_true rfl) (Nat.le_of_ble_eq_true rfl) ?_
  exact lw_ret (d0 := s.drawn) (Drawn.sameBut.refl s.drawn lw_cs) hx hb hr hlocks dL_law_3728

