theorem dL_law_408 : decode cL_law 408 = .ok (.aload_n 1, 1) := by decide +kernel
theorem dL_law_409 : decode cL_law 409 = .ok (.aload_n 0, 1) := by decide +kernel
theorem dL_law_410 : decode cL_law 410 = .ok (.iload 5, 2) := by decide +kernel
theorem dL_law_412 : decode cL_law 412 = .ok (.iconst 1, 1) := by decide +kernel
theorem dL_law_413 : decode cL_law 413 = .ok (.iadd, 1) := by decide +kernel
theorem dL_law_414 : decode cL_law 414 = .ok (.iaload, 1) := by decide +kernel
theorem dL_law_415 : decode cL_law 415 = .ok (.aload_n 0, 1) := by decide +kernel
theorem dL_law_416 : decode cL_law 416 = .ok (.iload 5, 2) := by decide +kernel
theorem dL_law_418 : decode cL_law 418 = .ok (.iconst 2, 1) := by decide +kernel
theorem dL_law_419 : decode cL_law 419 = .ok (.iadd, 1) := by decide +kernel
theorem dL_law_420 : decode cL_law 420 = .ok (.iaload, 1) := by decide +kernel
theorem dL_law_421 : decode cL_law 421 = .ok (.aload_n 3, 1) := by decide +kernel
theorem dL_law_422 : decode cL_law 422 = .ok (.invokestatic 205, 3) := by decide +kernel
theorem w5_66 : (Jvm.Cond.methodLink "PolyforgeLaw" (205 : Nat) ({ cls := "PolyforgeLaw", name := "add", desc := "(LPolyforge;II[J)I" } : Jvm.MethodName)) ∈ lw_tbl := pv_t5 (pv_mg 66 rfl)
theorem w5_68 : (Jvm.Cond.codeWith ({ cls := "PolyforgeLaw", name := "add", desc := "(LPolyforge;II[J)I" } : Jvm.MethodName) method_5_code (5 : Nat) (Option.some Jvm.ClassFile.FieldType.int) [((0 : Nat), (10 : Nat), (13 : Nat), (23 : Nat)), ((0 : Nat), (10 : Nat), (17 : Nat), (25 : Nat)), ((0 : Nat), (10 : Nat), (21 : Nat), (27 : Nat)), ((0 : Nat), (10 : Nat), (25 : Nat), (15 : Nat))]) ∈ lw_tbl := pv_t5 (pv_mg 68 rfl)
theorem w5_67 : (Jvm.Cond.static ({ cls := "PolyforgeLaw", name := "add", desc := "(LPolyforge;II[J)I" } : Jvm.MethodName)) ∈ lw_tbl := pv_t5 (pv_mg 67 rfl)
theorem dL_law_425 : decode cL_law 425 = .ok (.istore 6, 2) := by decide +kernel
theorem dL_law_427 : decode cL_law 427 = .ok (.aload_n 2, 1) := by decide +kernel
theorem dL_law_428 : decode cL_law 428 = .ok (.aload_n 0, 1) := by decide +kernel
theorem dL_law_429 : decode cL_law 429 = .ok (.iload 5, 2) := by decide +kernel
theorem dL_law_431 : decode cL_law 431 = .ok (.iconst 1, 1) := by decide +kernel
theorem dL_law_432 : decode cL_law 432 = .ok (.iadd, 1) := by decide +kernel
theorem dL_law_433 : decode cL_law 433 = .ok (.iaload, 1) := by decide +kernel
theorem dL_law_434 : decode cL_law 434 = .ok (.aload_n 0, 1) := by decide +kernel
theorem dL_law_435 : decode cL_law 435 = .ok (.iload 5, 2) := by decide +kernel
theorem dL_law_437 : decode cL_law 437 = .ok (.iconst 2, 1) := by decide +kernel
theorem dL_law_438 : decode cL_law 438 = .ok (.iadd, 1) := by decide +kernel
theorem dL_law_439 : decode cL_law 439 = .ok (.iaload, 1) := by decide +kernel
theorem dL_law_440 : decode cL_law 440 = .ok (.invokevirtual 207, 3) := by decide +kernel
theorem w9_156 : (Jvm.Cond.methodLink "PolyforgeLaw" (207 : Nat) ({ cls := "PolyforgeModel", name := "add", desc := "(II)I" } : Jvm.MethodName)) ∈ lw_tbl := pv_t9 (pv_mg 156 rfl)
theorem w9_159 : (Jvm.Cond.code ({ cls := "PolyforgeModel", name := "add", desc := "(II)I" } : Jvm.MethodName) prog_14_method_31_code (3 : Nat) (Option.some Jvm.ClassFile.FieldType.int)) ∈ lw_tbl := pv_t9 (pv_mg 159 rfl)
theorem w9_158 : (Jvm.Cond.selects "PolyforgeModel" ({ cls := "PolyforgeModel", name := "add", desc := "(II)I" } : Jvm.MethodName) ({ cls := "PolyforgeModel", name := "add", desc := "(II)I" } : Jvm.MethodName)) ∈ lw_tbl := pv_t9 (pv_mg 158 rfl)
theorem w9_157 : (Jvm.Cond.instanceMethod ({ cls := "PolyforgeModel", name := "add", desc := "(II)I" } : Jvm.MethodName)) ∈ lw_tbl := pv_t9 (pv_mg 157 rfl)
theorem dL_law_443 : decode cL_law 443 = .ok (.istore 7, 2) := by decide +kernel
theorem dL_law_445 : decode cL_law 445 = .ok (.aload_n 2, 1) := by decide +kernel
theorem dL_law_446 : decode cL_law 446 = .ok (.invokevirtual 199, 3) := by decide +kernel
theorem dL_law_449 : decode cL_law 449 = .ok (.iload 6, 2) := by decide +kernel
theorem dL_law_451 : decode cL_law 451 = .ok (.if_icmp .eq 5, 3) := by decide +kernel
theorem dL_law_456 : decode cL_law 456 = .ok (.iload 6, 2) := by decide +kernel
theorem dL_law_458 : decode cL_law 458 = .ok (.ifCond .ne 15, 3) := by decide +kernel
theorem dL_law_473 : decode cL_law 473 = .ok (.goto 3248, 3) := by decide +kernel
set_option maxHeartbeats 4000000 in
set_option maxRecDepth 100000 in
/-- the law, call 2: add -/
theorem law_case_2 {p : Program} {e : Env} {s : State} {m : MethodId} {below : List Frame} {meth : Method} {c : Code} (l : Launch) (hfl : l.stackTraces = false) {b : Nat} {xs : Nat → Int32} (C0 : lw_At p s m meth c b 7 xs) {D : va_G} {A : Nat → Prop} (hA : ∀ q : Nat, s.heap.size ≤ q → A q) (hAf : ∀ q : Nat, A q → s.heap.size ≤ q) (hbA : ¬ A b) (hE : pv_E A s s.heap) {x0 m0 o0 d0 : Nat} {xq xw mq : Nat → Nat} {xJ xP xO xC xI mI mI2 mI3 mT mC oL : ClassId} {xsg xsf msg msf : Nat → Int32} (hxsg : ∀ j, j < 3 → xsg j = 63) (hmsg : ∀ j, j < 3 → msg j = 63) {H : Heap} {locs : List Loc} (hK : va_K D pv_cl [(xJ, .long), (xP, .object "Polyforge$Polynomial"), (xO, .object "Polyforge$Ideal"), (xC, .char), (xI, .int), (mI, .int), (mT, .object "PolyforgeModel$Terms"), (mI2, .int), (mC, .char), (mI3, .int), (oL, .long)] s) (hP : va_P D pv_cl [(x0, .inr (0, [.ref (xq 0), .int 0, .int 108, .ref (xq 1), .int 0, .ref (xq 2), .int 0, .ref (xq 3), .ref (xq 4), .int 1, .ref (xq 5), .ref (xq 6), .ref (xq 7), .ref (xq 8), .ref (xq 9)])), ((xq 6), .inr (2, [.ref (xw 0), .ref (xw 1), .ref (xw 2), .ref (xw 3), .int 0, .int 0])), ((xw 2), .inl (xJ, 64, .inr (.inl (fun _ => 0)))), ((xq 0), .inl (xP, 60, .inr (.inr (.inr (.inr (fun _ => none)))))), ((xq 1), .inl (xO, 5, .inr (.inr (.inr (.inr (fun _ => none)))))), ((xq 3), .inl (xC, 3, .inl xsg)), ((xq 4), .inl (xI, 3, .inl xsf)), (m0, .inr (1, pv_m 0 mq)), ((mq 0), .inl (mI, 60, .inl (fun _ => 0))), ((mq 1), .inl (mT, 60, .inr (.inr (.inr (.inr (fun _ => none)))))), ((mq 2), .inl (mI2, 5, .inl (fun _ => 0))), ((mq 9), .inl (mC, 3, .inl msg)), ((mq 10), .inl (mI3, 3, .inl msf)), (o0, .inl (oL, 1, .inr (.inl (fun _ => 0))))] H) (hD : va_D A [(x0, .inr (0, [.ref (xq 0), .int 0, .int 108, .ref (xq 1), .int 0, .ref (xq 2), .int 0, .ref (xq 3), .ref (xq 4), .int 1, .ref (xq 5), .ref (xq 6), .ref (xq 7), .ref (xq 8), .ref (xq 9)])), ((xq 6), .inr (2, [.ref (xw 0), .ref (xw 1), .ref (xw 2), .ref (xw 3), .int 0, .int 0])), ((xw 2), .inl (xJ, 64, .inr (.inl (fun _ => 0)))), ((xq 0), .inl (xP, 60, .inr (.inr (.inr (.inr (fun _ => none)))))), ((xq 1), .inl (xO, 5, .inr (.inr (.inr (.inr (fun _ => none)))))), ((xq 3), .inl (xC, 3, .inl xsg)), ((xq 4), .inl (xI, 3, .inl xsf)), (m0, .inr (1, pv_m 0 mq)), ((mq 0), .inl (mI, 60, .inl (fun _ => 0))), ((mq 1), .inl (mT, 60, .inr (.inr (.inr (.inr (fun _ => none)))))), ((mq 2), .inl (mI2, 5, .inl (fun _ => 0))), ((mq 9), .inl (mC, 3, .inl msg)), ((mq 10), .inl (mI3, 3, .inl msf)), (o0, .inl (oL, 1, .inr (.inl (fun _ => 0))))]) (hS : va_S A s.heap H locs) {ls : Array Slot} (hl : lv_has ls 9 [(0, .ref b), (1, .ref x0), (2, .ref m0), (3, .ref o0), (4, .ref d0), (5, .int 0)]) : W p l e room_1 s m #[Value.ref b] below meth c H locs 397 653821 (lw_Z below #[Value.ref b] s) (F0 m 408 ls []) := by
  obtain ⟨hx, hb, hr, hml, hown, hts0, hX, hbl, hlocks, hgv⟩ := C0
  have hts : ∀ w ∈ pv_W, w.before #[Value.ref b] s = true := fun w h => hts0 w (List.mem_filter.mp h).1
  have hg := fun {w : Cond} (h : w ∈ lw_tbl) (g : goodWord w = true) => hts w (pv_in h g)
  have hP : va_P D pv_cl [(x0, .inr (0, [.ref (xq 0), .int 0, .int 108, .ref (xq 1), .int 0, .ref (xq 2), .int 0, .ref (xq 3), .ref (xq 4), .int 1, .ref (xq 5), .ref (xq 6), .ref (xq 7), .ref (xq 8), .ref (xq 9)])), (m0, .inr (1, pv_m 0 mq))] _ := hP.sub [0, 7] rfl
  have hD : va_D A [(x0, .inr (0, [.ref (xq 0), .int 0, .int 108, .ref (xq 1), .int 0, .ref (xq 2), .int 0, .ref (xq 3), .ref (xq 4), .int 1, .ref (xq 5), .ref (xq 6), .ref (xq 7), .ref (xq 8), .ref (xq 9)])), (m0, .inr (1, pv_m 0 mq))] := hD.sub [0, 7] (by decide) rfl
  have hK : va_K D pv_cl [] s := hK.sub [] rfl
  refine lv_aload_n hx hb dL_law_408 rfl (lv_at hl 1 rfl) ?_
  refine lv_aload_n hx hb dL_law_409 rfl (lv_at hl 0 rfl) ?_
  refine lv_iload hx hb dL_law_410 (lv_at hl 5 rfl) ?_
  refine lv_iconst (v := 1) hx hb dL_law_412 (by decide) ?_
  refine lv_iadd hx hb dL_law_413 ?_
  refine pv_setI 1 (by decide) ?_
  refine va_sld hx hb hX hbl hbA hS (by unfold vp_in; decide) dL_law_414 ?_
  refine pv_setI (xs 1) rfl ?_
  refine lv_aload_n hx hb dL_law_415 rfl (lv_at hl 0 rfl) ?_
  refine lv_iload hx hb dL_law_416 (lv_at hl 5 rfl) ?_
  refine lv_iconst (v := 2) hx hb dL_law_418 (by decide) ?_
  refine lv_iadd hx hb dL_law_419 ?_
  refine pv_setI 2 (by decide) ?_
  refine va_sld hx hb hX hbl hbA hS (by unfold vp_in; decide) dL_law_420 ?_
  refine pv_setI (xs 2) rfl ?_
  refine pv_pc 421 rfl ?_
  refine lv_aload_n hx hb dL_law_421 rfl (lv_at hl 3 rfl) ?_
  have hF := pv_new hA hS.1
  refine va_calli (vx_runSW (As := [.ref x0, .int (xs 1), .int (xs 2), .ref o0]) (rest := []) ⟨hx, hb, hml, hown, hts⟩ (c_L_add l hfl D _ x0 xq (xs 1) (xs 2) o0) (vx_cwSW 4 hts (pv_gSW w5_66 w5_67 w1_0 w5_68) rfl rfl rfl (by decide +kernel) ⟨Nat.le_of_ble_eq_true rfl, Nat.le_of_ble_eq_true rfl⟩) (pv_ps hE hS hF (hP.sub [0] rfl) (hK.sub [] rfl) (hD.sub [0] (by decide) rfl)) rfl rfl hl.1 rfl (lv_room (Nat.le_of_ble_eq_true rfl)) dL_law_422 ⟨Nat.le_of_ble_eq_true rfl, Nat.le_of_ble_eq_true rfl⟩) hS (fun q _ h => hF q h) hF (fun r_0 u t H1 locs1 ht hvm hw hB hz1 hk1 hS => ?_)
  refine W.widen (k := 398) (n := 653827) (Nat.le_of_ble_eq_true rfl) (Nat.le_of_ble_eq_true rfl) ?_
  have hP := pv_keep hP rfl hk1
  subst hw
  refine lv_istore (lv' := [(6, .int 1), (0, .ref b), (1, .ref x0), (2, .ref m0), (3, .ref o0), (4, .ref d0), (5, .int 0)]) hx hb dL_law_425 hl (by decide) rfl (fun ls hl => ?_)
  refine lv_aload_n hx hb dL_law_427 rfl (lv_at hl 3 rfl) ?_
  refine lv_aload_n hx hb dL_law_428 rfl (lv_at hl 1 rfl) ?_
  refine lv_iload hx hb dL_law_429 (lv_at hl 6 rfl) ?_
  refine lv_iconst (v := 1) hx hb dL_law_431 (by decide) ?_
  refine lv_iadd hx hb dL_law_432 ?_
  refine pv_setI 1 (by decide) ?_
  refine va_sld hx hb hX hbl hbA hS (by unfold vp_in; decide) dL_law_433 ?_
  refine pv_setI (xs 1) rfl ?_
  refine lv_aload_n hx hb dL_law_434 rfl (lv_at hl 1 rfl) ?_
  refine lv_iload hx hb dL_law_435 (lv_at hl 6 rfl) ?_
  refine lv_iconst (v := 2) hx hb dL_law_437 (by decide) ?_
  refine pv_pc 438 rfl ?_
  refine lv_iadd hx hb dL_law_438 ?_
  refine pv_setI 2 (by decide) ?_
  refine va_sld hx hb hX hbl hbA hS (by unfold vp_in; decide) dL_law_439 ?_
  refine pv_setI (xs 2) rfl ?_
  have hF := va_free (wc := [(m0, .inr (1, pv_m 0 mq))]) hD hS hA [1] rfl
  refine va_calli (va_runV (As := [.int (xs 1), .int (xs 2)]) (rest := []) ⟨hx, hb, hml, hown, hts⟩ (c_X13_add l hfl D _ m0 mq (xs 1) (xs 2)) (cwV 2 hts (pv_gV w9_156 w9_157 w9_158 w1_10 w9_159) rfl rfl rfl (by decide +kernel) ⟨Nat.le_of_ble_eq_true rfl, Nat.le_of_ble_eq_true rfl⟩) (pv_pV hE hS hF (hP.sub [1] rfl) (hK.sub [] rfl) (hD.sub [1] (by decide) rfl) (va_recv (ci := 1) (q0 := 1) hK hP rfl rfl)) rfl rfl hl.1 rfl (lv_room (Nat.le_of_ble_eq_true rfl)) dL_law_440 ⟨Nat.le_of_ble_eq_true rfl, Nat.le_of_ble_eq_true rfl⟩) hS (fun q _ h => hF q h) hF (fun r_1 u t H1 locs1 ht hvm hw hB hz1 hk1 hS => ?_)
  refine W.widen (k := 398) (n := 653827) (Nat.le_of_ble_eq_true rfl) (Nat.le_of_ble_eq_true rfl) ?_
  subst hw
  obtain ⟨fs_3, hf_4, hP1, hK1, hD1⟩ := hB
  rw [ht] at hP1
  have hK1 := va_K.moved hvm.symm hK1
  obtain ⟨hP, hD⟩ := va_join (wr := [(x0, .inr (0, [.ref (xq 0), .int 0, .int 108, .ref (xq 1), .int 0, .ref (xq 2), .int 0, .ref (xq 3), .ref (xq 4), .int 1, .ref (xq 5), .ref (xq 6), .ref (xq 7), .ref (xq 8), .ref (xq 9)]))]) (w1 := [(m0, .inr (1, fs_3))]) hP hD [1] [0] rfl rfl (by decide) (by decide) hk1 hF hP1 hD1
  have hP : va_P D pv_cl [(x0, .inr (0, [.ref (xq 0), .int 0, .int 108, .ref (xq 1), .int 0, .ref (xq 2), .int 0, .ref (xq 3), .ref (xq 4), .int 1, .ref (xq 5), .ref (xq 6), .ref (xq 7), .ref (xq 8), .ref (xq 9)])), (m0, .inr (1, fs_3))] _ := hP
  have hD : va_D A [(x0, .inr (0, [.ref (xq 0), .int 0, .int 108, .ref (xq 1), .int 0, .ref (xq 2), .int 0, .ref (xq 3), .ref (xq 4), .int 1, .ref (xq 5), .ref (xq 6), .ref (xq 7), .ref (xq 8), .ref (xq 9)])), (m0, .inr (1, fs_3))] := hD
  refine lv_istore (lv' := [(7, .int r_1), (6, .int 1), (0, .ref b), (1, .ref x0), (2, .ref m0), (3, .ref o0), (4, .ref d0), (5, .int 0)]) hx hb dL_law_443 hl (by decide) rfl (fun ls hl => ?_)
  refine lv_aload_n hx hb dL_law_445 rfl (lv_at hl 4 rfl) ?_
  have hF := pv_new hA hS.1
  refine va_calli (va_runV (As := []) (rest := []) ⟨hx, hb, hml, hown, hts⟩ (c_X13_thrown l hfl D _ m0 fs_3 1 hf_4) (cwV 0 hts (pv_gV w9_102 w9_103 w9_104 w1_10 w9_105) rfl rfl rfl (by decide +kernel) ⟨Nat.le_of_ble_eq_true rfl, Nat.le_of_ble_eq_true rfl⟩) (pv_pV hE hS hF (hP.sub [1] rfl) (hK.sub [] rfl) (hD.sub [1] (by decide) rfl) (va_recv (ci := 1) (q0 := 1) hK hP rfl rfl)) rfl rfl hl.1 rfl (lv_room (Nat.le_of_ble_eq_true rfl)) dL_law_446 ⟨Nat.le_of_ble_eq_true rfl, Nat.le_of_ble_eq_true rfl⟩) hS (fun q _ h => hF q h) hF (fun r_4 u t H1 locs1 ht hvm hw hB hz1 hk1 hS => ?_)
  refine W.widen (k := 398) (n := 653827) (Nat.le_of_ble_eq_true rfl) (Nat.le_of_ble_eq_true rfl) ?_
  have hP := pv_keep hP rfl hk1
  subst hw
  refine lv_iload hx hb dL_law_449 (lv_at hl 1 rfl) ?_
  refine lv_icmp_eq (tgt := 456) hx hb dL_law_451 (by decide) (fun _ => ?_) (fun c_6 => absurd (by decide) c_6)
  refine lv_iload hx hb dL_law_456 (lv_at hl 1 rfl) ?_
  refine lv_if_ne (tgt := 473) hx hb dL_law_458 (by decide) (fun _ => ?_) (fun c_7 => absurd c_7 (by decide))
  refine lv_goto (tgt := 3721) hx hb dL_law_473 (by decide) ?_
  refine lv_iinc (v := 7) (lv' := [(5, .int 7), (7, .int r_1), (6, .int 1), (0, .ref b), (1, .ref x0), (2, .ref m0), (3, .ref o0), (4, .ref d0)]) hx hb dL_law_3721 hl (k := 7) rfl (by decide) (by decide) rfl (fun ls hl => ?_)
  refine pv_pc 3724 rfl ?_
  refine lv_goto (tgt := 28) hx hb dL_law_3724 (by decide) ?_
  refine lv_iload hx hb dL_law_28 (lv_at hl 0 rfl) ?_
  refine lv_aload_n hx hb dL_law_30 rfl (lv_at hl 3 rfl) ?_
  refine va_slen hx hb hX hbl hbA hS dL_law_31 ?_
  refine pv_setI 7 rfl ?_
  refine lv_bipush (v := 7) hx hb dL_law_32 (by decide) ?_
  refine lv_isub hx hb dL_law_34 ?_
  refine pv_setI 0 (by decide) ?_
  refine lv_icmp_gt (tgt := 3727) hx hb dL_law_35 (by decide) (fun _ => ?_) (fun c_8 => absurd (by decide) c_8)
  refine lv_iconst (v := 1) hx hb dL_law_3727 (by decide) ?_
  refine va_forget (fun q hq => hAf _ (hS.2.2 q hq)) ?_
  refine W.widen (k := 600006) (n := 7302064) (Nat.le_of_ble_eq_true rfl) (Nat.le_of_ble_eq_true rfl) ?_
  exact lw_ret (d0 := s.drawn) (Drawn.sameBut.refl s.drawn lw_cs) hx hb hr hlocks dL_law_3728

theorem dL_law_476 : decode cL_law 476 = .ok (.aload_n 1, 1) := by decide +kernel
theorem dL_law_477 : decode cL_law 477 = .ok (.aload_n 0, 1) := by decide +kernel
theorem dL_law_478 : decode cL_law 478 = .ok (.iload 5, 2) := by decide +kernel
theorem dL_law_480 : decode cL_law 480 = .ok (.iconst 1, 1) := by decide +kernel
theorem dL_law_481 : decode cL_law 481 = .ok (.iadd, 1) := by decide +kernel
theorem dL_law_482 : decode cL_law 482 = .ok (.iaload, 1) := by decide +kernel
theorem dL_law_483 : decode cL_law 483 = .ok (.aload_n 0, 1) := by decide +kernel
theorem dL_law_484 : decode cL_law 484 = .ok (.iload 5, 2) := by decide +kernel
theorem dL_law_486 : decode cL_law 486 = .ok (.iconst 2, 1) := by decide +kernel
theorem dL_law_487 : decode cL_law 487 = .ok (.iadd, 1) := by decide +kernel
theorem dL_law_488 : decode cL_law 488 = .ok (.iaload, 1) := by decide +kernel
theorem dL_law_489 : decode cL_law 489 = .ok (.aload_n 3, 1) := by decide +kernel
theorem dL_law_490 : decode cL_law 490 = .ok (.invokestatic 208, 3) := by decide +kernel
theorem w5_182 : (Jvm.Cond.methodLink "PolyforgeLaw" (208 : Nat) ({ cls := "PolyforgeLaw", name := "subtract", desc := "(LPolyforge;II[J)I" } : Jvm.MethodName)) ∈ lw_tbl := pv_t5 (pv_mg 182 rfl)
theorem w5_184 : (Jvm.Cond.codeWith ({ cls := "PolyforgeLaw", name := "subtract", desc := "(LPolyforge;II[J)I" } : Jvm.MethodName) method_6_code (5 : Nat) (Option.some Jvm.ClassFile.FieldType.int) [((0 : Nat), (10 : Nat), (13 : Nat), (23 : Nat)), ((0 : Nat), (10 : Nat), (17 : Nat), (25 : Nat)), ((0 : Nat), (10 : Nat), (21 : Nat), (27 : Nat)), ((0 : Nat), (10 : Nat), (25 : Nat), (15 : Nat))]) ∈ lw_tbl := pv_t5 (pv_mg 184 rfl)
theorem w5_183 : (Jvm.Cond.static ({ cls := "PolyforgeLaw", name := "subtract", desc := "(LPolyforge;II[J)I" } : Jvm.MethodName)) ∈ lw_tbl := pv_t5 (pv_mg 183 rfl)
theorem dL_law_493 : decode cL_law 493 = .ok (.istore 6, 2) := by decide +kernel
theorem dL_law_495 : decode cL_law 495 = .ok (.aload_n 2, 1) := by decide +kernel
theorem dL_law_496 : decode cL_law 496 = .ok (.aload_n 0, 1) := by decide +kernel
theorem dL_law_497 : decode cL_law 497 = .ok (.iload 5, 2) := by decide +kernel
theorem dL_law_499 : decode cL_law 499 = .ok (.iconst 1, 1) := by decide +kernel
theorem dL_law_500 : decode cL_law 500 = .ok (.iadd, 1) := by decide +kernel
theorem dL_law_501 : decode cL_law 501 = .ok (.iaload, 1) := by decide +kernel
theorem dL_law_502 : decode cL_law 502 = .ok (.aload_n 0, 1) := by decide +kernel
theorem dL_law_503 : decode cL_law 503 = .ok (.iload 5, 2) := by decide +kernel
theorem dL_law_505 : decode cL_law 505 = .ok (.iconst 2, 1) := by decide +kernel
theorem dL_law_506 : decode cL_law 506 = .ok (.iadd, 1) := by decide +kernel
theorem dL_law_507 : decode cL_law 507 = .ok (.iaload, 1) := by decide +kernel
theorem dL_law_508 : decode cL_law 508 = .ok (.invokevirtual 210, 3) := by decide +kernel
theorem w9_201 : (Jvm.Cond.methodLink "PolyforgeLaw" (210 : Nat) ({ cls := "PolyforgeModel", name := "subtract", desc := "(II)I" } : Jvm.MethodName)) ∈ lw_tbl := pv_t9 (pv_mg 201 rfl)
theorem w9_204 : (Jvm.Cond.code ({ cls := "PolyforgeModel", name := "subtract", desc := "(II)I" } : Jvm.MethodName) prog_14_method_32_code (3 : Nat) (Option.some Jvm.ClassFile.FieldType.int)) ∈ lw_tbl := pv_t9 (pv_mg 204 rfl)
theorem w9_203 : (Jvm.Cond.selects "PolyforgeModel" ({ cls := "PolyforgeModel", name := "subtract", desc := "(II)I" } : Jvm.MethodName) ({ cls := "PolyforgeModel", name := "subtract", desc := "(II)I" } : Jvm.MethodName)) ∈ lw_tbl := pv_t9 (pv_mg 203 rfl)
theorem w9_202 : (Jvm.Cond.instanceMethod ({ cls := "PolyforgeModel", name := "subtract", desc := "(II)I" } : Jvm.MethodName)) ∈ lw_tbl := pv_t9 (pv_mg 202 rfl)
theorem dL_law_511 : decode cL_law 511 = .ok (.istore 7, 2) := by decide +kernel
theorem dL_law_513 : decode cL_law 513 = .ok (.aload_n 2, 1) := by decide +kernel
theorem dL_law_514 : decode cL_law 514 = .ok (.invokevirtual 199, 3) := by decide +kernel
theorem dL_law_517 : decode cL_law 517 = .ok (.iload 6, 2) := by decide +kernel
theorem dL_law_519 : decode cL_law 519 = .ok (.if_icmp .eq 5, 3) := by decide +kernel
theorem dL_law_524 : decode cL_law 524 = .ok (.iload 6, 2) := by decide +kernel
theorem dL_law_526 : decode cL_law 526 = .ok (.ifCond .ne 15, 3) := by decide +kernel
theorem dL_law_541 : decode cL_law 541 = .ok (.goto 3180, 3) := by decide +kernel
set_option maxHeartbeats 4000000 in
set_option maxRecDepth 100000 in
/-- the law, call 3: subtract -/
theorem law_case_3 {p : Program} {e : Env} {s : State} {m : MethodId} {below : List Frame} {meth : Method} {c : Code} (l : Launch) (hfl : l.stackTraces = false) {b : Nat} {xs : Nat → Int32} (C0 : lw_At p s m meth c b 7 xs) {D : va_G} {A : Nat → Prop} (hA : ∀ q : Nat, s.heap.size ≤ q → A q) (hAf : ∀ q : Nat, A q → s.heap.size ≤ q) (hbA : ¬ A b) (hE : pv_E A s s.heap) {x0 m0 o0 d0 : Nat} {xq xw mq : Nat → Nat} {xJ xP xO xC xI mI mI2 mI3 mT mC oL : ClassId} {xsg xsf msg msf : Nat → Int32} (hxsg : ∀ j, j < 3 → xsg j = 63) (hmsg : ∀ j, j < 3 → msg j = 63) {H : Heap} {locs : List Loc} (hK : va_K D pv_cl [(xJ, .long), (xP, .object "Polyforge$Polynomial"), (xO, .object "Polyforge$Ideal"), (xC, .char), (xI, .int), (mI, .int), (mT, .object "PolyforgeModel$Terms"), (mI2, .int), (mC, .char), (mI3, .int), (oL, .long)] s) (hP : va_P D pv_cl [(x0, .inr (0, [.ref (xq 0), .int 0, .int 108, .ref (xq 1), .int 0, .ref (xq 2), .int 0, .ref (xq 3), .ref (xq 4), .int 1, .ref (xq 5), .ref (xq 6), .ref (xq 7), .ref (xq 8), .ref (xq 9)])), ((xq 6), .inr (2, [.ref (xw 0), .ref (xw 1), .ref (xw 2), .ref (xw 3), .int 0, .int 0])), ((xw 2), .inl (xJ, 64, .inr (.inl (fun _ => 0)))), ((xq 0), .inl (xP, 60, .inr (.inr (.inr (.inr (fun _ => none)))))), ((xq 1), .inl (xO, 5, .inr (.inr (.inr (.inr (fun _ => none)))))), ((xq 3), .inl (xC, 3, .inl xsg)), ((xq 4), .inl (xI, 3, .inl xsf)), (m0, .inr (1, pv_m 0 mq)), ((mq 0), .inl (mI, 60, .inl (fun _ => 0))), ((mq 1), .inl (mT, 60, .inr (.inr (.inr (.inr (fun _ => none)))))), ((mq 2), .inl (mI2, 5, .inl (fun _ => 0))), ((mq 9), .inl (mC, 3, .inl msg)), ((mq 10), .inl (mI3, 3, .inl msf)), (o0, .inl (oL, 1, .inr (.inl (fun _ => 0))))] H) (hD : va_D A [(x0, .inr (0, [.ref (xq 0), .int 0, .int 108, .ref (xq 1), .int 0, .ref (xq 2), .int 0, .ref (xq 3), .ref (xq 4), .int 1, .ref (xq 5), .ref (xq 6), .ref (xq 7), .ref (xq 8), .ref (xq 9)])), ((xq 6), .inr (2, [.ref (xw 0), .ref (xw 1), .ref (xw 2), .ref (xw 3), .int 0, .int 0])), ((xw 2), .inl (xJ, 64, .inr (.inl (fun _ => 0)))), ((xq 0), .inl (xP, 60, .inr (.inr (.inr (.inr (fun _ => none)))))), ((xq 1), .inl (xO, 5, .inr (.inr (.inr (.inr (fun _ => none)))))), ((xq 3), .inl (xC, 3, .inl xsg)), ((xq 4), .inl (xI, 3, .inl xsf)), (m0, .inr (1, pv_m 0 mq)), ((mq 0), .inl (mI, 60, .inl (fun _ => 0))), ((mq 1), .inl (mT, 60, .inr (.inr (.inr (.inr (fun _ => none)))))), ((mq 2), .inl (mI2, 5, .inl (fun _ => 0))), ((mq 9), .inl (mC, 3, .inl msg)), ((mq 10), .inl (mI3, 3, .inl msf)), (o0, .inl (oL, 1, .inr (.inl (fun _ => 0))))]) (hS : va_S A s.heap H locs) {ls : Array Slot} (hl : lv_has ls 9 [(0, .ref b), (1, .ref x0), (2, .ref m0), (3, .ref o0), (4, .ref d0), (5, .int 0)]) : W p l e room_1 s m #[Value.ref b] below meth c H locs 397 653821 (lw_Z below #[Value.ref b] s) (F0 m 476 ls []) := by
  obtain ⟨hx, hb, hr, hml, hown, hts0, hX, hbl, hlocks, hgv⟩ := C0
  have hts : ∀ w ∈ pv_W, w.before #[Value.ref b] s = true := fun w h => hts0 w (List.mem_filter.mp h).1
  have hg := fun {w : Cond} (h : w ∈ lw_tbl) (g : goodWord w = true) => hts w (pv_in h g)
  have hP : va_P D pv_cl [(x0, .inr (0, [.ref (xq 0), .int 0, .int 108, .ref (xq 1), .int 0, .ref (xq 2), .int 0, .ref (xq 3), .ref (xq 4), .int 1, .ref (xq 5), .ref (xq 6), .ref (xq 7), .ref (xq 8), .ref (xq 9)])), (m0, .inr (1, pv_m 0 mq))] _ := hP.sub [0, 7] rfl
  have hD : va_D A [(x0, .inr (0, [.ref (xq 0), .int 0, .int 108, .ref (xq 1), .int 0, .ref (xq 2), .int 0, .ref (xq 3), .ref (xq 4), .int 1, .ref (xq 5), .ref (xq 6), .ref (xq 7), .ref (xq 8), .ref (xq 9)])), (m0, .inr (1, pv_m 0 mq))] := hD.sub [0, 7] (by decide) rfl
  have hK : va_K D pv_cl [] s := hK.sub [] rfl
  refine lv_aload_n hx hb dL_law_476 rfl (lv_at hl 1 rfl) ?_
  refine lv_aload_n hx hb dL_law_477 rfl (lv_at hl 0 rfl) ?_
  refine lv_iload hx hb dL_law_478 (lv_at hl 5 rfl) ?_
  refine lv_iconst (v := 1) hx hb dL_law_480 (by decide) ?_
  refine lv_iadd hx hb dL_law_481 ?_
  refine pv_setI 1 (by decide) ?_
  refine va_sld hx hb hX hbl hbA hS (by unfold vp_in; decide) dL_law_482 ?_
  refine pv_setI (xs 1) rfl ?_
  refine lv_aload_n hx hb dL_law_483 rfl (lv_at hl 0 rfl) ?_
  refine lv_iload hx hb dL_law_484 (lv_at hl 5 rfl) ?_
  refine lv_iconst (v := 2) hx hb dL_law_486 (by decide) ?_
  refine lv_iadd hx hb dL_law_487 ?_
  refine pv_setI 2 (by decide) ?_
  refine va_sld hx hb hX hbl hbA hS (by unfold vp_in; decide) dL_law_488 ?_
  refine pv_setI (xs 2) rfl ?_
  refine pv_pc 489 rfl ?_
  refine lv_aload_n hx hb dL_law_489 rfl (lv_at hl 3 rfl) ?_
  have hF := pv_new hA hS.1
  refine va_calli (vx_runSW (As := [.ref x0, .int (xs 1), .int (xs 2), .ref o0]) (rest := []) ⟨hx, hb, hml, hown, hts⟩ (c_L_subtract l hfl D _ x0 xq (xs 1) (xs 2) o0) (vx_cwSW 4 hts (pv_gSW w5_182 w5_183 w1_0 w5_184) rfl rfl rfl (by decide +kernel) ⟨Nat.le_of_ble_eq_true rfl, Nat.le_of_ble_eq_true rfl⟩) (pv_ps hE hS hF (hP.sub [0] rfl) (hK.sub [] rfl) (hD.sub [0] (by decide) rfl)) rfl rfl hl.1 rfl (lv_room (Nat.le_of_ble_eq_true rfl)) dL_law_490 ⟨Nat.le_of_ble_eq_true rfl, Nat.le_of_ble_eq_true rfl⟩) hS (fun q _ h => hF q h) hF (fun r_0 u t H1 locs1 ht hvm hw hB hz1 hk1 hS => ?_)
  refine W.widen (k := 398) (n := 653827) (Nat.le_of_ble_eq_true rfl) (Nat.le_of_ble_eq_true rfl) ?_
  have hP := pv_keep hP rfl hk1
  subst hw
  refine lv_istore (lv' := [(6, .int 1), (0, .ref b), (1, .ref x0), (2, .ref m0), (3, .ref o0), (4, .ref d0), (5, .int 0)]) hx hb dL_law_493 hl (by decide) rfl (fun ls hl => ?_)
  refine lv_aload_n hx hb dL_law_495 rfl (lv_at hl 3 rfl) ?_
  refine lv_aload_n hx hb dL_law_496 rfl (lv_at hl 1 rfl) ?_
  refine lv_iload hx hb dL_law_497 (lv_at hl 6 rfl) ?_
  refine lv_iconst (v := 1) hx hb dL_law_499 (by decide) ?_
  refine lv_iadd hx hb dL_law_500 ?_
  refine pv_setI 1 (by decide) ?_
  refine va_sld hx hb hX hbl hbA hS (by unfold vp_in; decide) dL_law_501 ?_
  refine pv_setI (xs 1) rfl ?_
  refine lv_aload_n hx hb dL_law_502 rfl (lv_at hl 1 rfl) ?_
  refine lv_iload hx hb dL_law_503 (lv_at hl 6 rfl) ?_
  refine lv_iconst (v := 2) hx hb dL_law_505 (by decide) ?_
  refine pv_pc 506 rfl ?_
  refine lv_iadd hx hb dL_law_506 ?_
  refine pv_setI 2 (by decide) ?_
  refine va_sld hx hb hX hbl hbA hS (by unfold vp_in; decide) dL_law_507 ?_
  refine pv_setI (xs 2) rfl ?_
  have hF := va_free (wc := [(m0, .inr (1, pv_m 0 mq))]) hD hS hA [1] rfl
  refine va_calli (va_runV (As := [.int (xs 1), .int (xs 2)]) (rest := []) ⟨hx, hb, hml, hown, hts⟩ (c_X13_subtract l hfl D _ m0 mq (xs 1) (xs 2)) (cwV 2 hts (pv_gV w9_201 w9_202 w9_203 w1_10 w9_204) rfl rfl rfl (by decide +kernel) ⟨Nat.le_of_ble_eq_true rfl, Nat.le_of_ble_eq_true rfl⟩) (pv_pV hE hS hF (hP.sub [1] rfl) (hK.sub [] rfl) (hD.sub [1] (by decide) rfl) (va_recv (ci := 1) (q0 := 1) hK hP rfl rfl)) rfl rfl hl.1 rfl (lv_room (Nat.le_of_ble_eq_true rfl)) dL_law_508 ⟨Nat.le_of_ble_eq_true rfl, Nat.le_of_ble_eq_true rfl⟩) hS (fun q _ h => hF q h) hF (fun r_1 u t H1 locs1 ht hvm hw hB hz1 hk1 hS => ?_)
  refine W.widen (k := 398) (n := 653827) (Nat.le_of_ble_eq_true rfl) (Nat.le_of_ble_eq_true rfl) ?_
  subst hw
  obtain ⟨fs_3, hf_4, hP1, hK1, hD1⟩ := hB
  rw [ht] at hP1
  have hK1 := va_K.moved hvm.symm hK1
  obtain ⟨hP, hD⟩ := va_join (wr := [(x0, .inr (0, [.ref (xq 0), .int 0, .int 108, .ref (xq 1), .int 0, .ref (xq 2), .int 0, .ref (xq 3), .ref (xq 4), .int 1, .ref (xq 5), .ref (xq 6), .ref (xq 7), .ref (xq 8), .ref (xq 9)]))]) (w1 := [(m0, .inr (1, fs_3))]) hP hD [1] [0] rfl rfl (by decide) (by decide) hk1 hF hP1 hD1
  have hP : va_P D pv_cl [(x0, .inr (0, [.ref (xq 0), .int 0, .int 108, .ref (xq 1), .int 0, .ref (xq 2), .int 0, .ref (xq 3), .ref (xq 4), .int 1, .ref (xq 5), .ref (xq 6), .ref (xq 7), .ref (xq 8), .ref (xq 9)])), (m0, .inr (1, fs_3))] _ := hP
  have hD : va_D A [(x0, .inr (0, [.ref (xq 0), .int 0, .int 108, .ref (xq 1), .int 0, .ref (xq 2), .int 0, .ref (xq 3), .ref (xq 4), .int 1, .ref (xq 5), .ref (xq 6), .ref (xq 7), .ref (xq 8), .ref (xq 9)])), (m0, .inr (1, fs_3))] := hD
  refine lv_istore (lv' := [(7, .int r_1), (6, .int 1), (0, .ref b), (1, .ref x0), (2, .ref m0), (3, .ref o0), (4, .ref d0), (5, .int 0)]) hx hb dL_law_511 hl (by decide) rfl (fun ls hl => ?_)
  refine lv_aload_n hx hb dL_law_513 rfl (lv_at hl 4 rfl) ?_
  have hF := pv_new hA hS.1
  refine va_calli (va_runV (As := []) (rest := []) ⟨hx, hb, hml, hown, hts⟩ (c_X13_thrown l hfl D _ m0 fs_3 1 hf_4) (cwV 0 hts (pv_gV w9_102 w9_103 w9_104 w1_10 w9_105) rfl rfl rfl (by decide +kernel) ⟨Nat.le_of_ble_eq_true rfl, Nat.le_of_ble_eq_true rfl⟩) (pv_pV hE hS hF (hP.sub [1] rfl) (hK.sub [] rfl) (hD.sub [1] (by decide) rfl) (va_recv (ci := 1) (q0 := 1) hK hP rfl rfl)) rfl rfl hl.1 rfl (lv_room (Nat.le_of_ble_eq_true rfl)) dL_law_514 ⟨Nat.le_of_ble_eq_true rfl, Nat.le_of_ble_eq_true rfl⟩) hS (fun q _ h => hF q h) hF (fun r_4 u t H1 locs1 ht hvm hw hB hz1 hk1 hS => ?_)
  refine W.widen (k := 398) (n := 653827) (Nat.le_of_ble_eq_true rfl) (Nat.le_of_ble_eq_true rfl) ?_
  have hP := pv_keep hP rfl hk1
  subst hw
  refine lv_iload hx hb dL_law_517 (lv_at hl 1 rfl) ?_
  refine lv_icmp_eq (tgt := 524) hx hb dL_law_519 (by decide) (fun _ => ?_) (fun c_6 => absurd (by decide) c_6)
  refine lv_iload hx hb dL_law_524 (lv_at hl 1 rfl) ?_
  refine lv_if_ne (tgt := 541) hx hb dL_law_526 (by decide) (fun _ => ?_) (fun c_7 => absurd c_7 (by decide))
  refine lv_goto (tgt := 3721) hx hb dL_law_541 (by decide) ?_
  refine lv_iinc (v := 7) (lv' := [(5, .int 7), (7, .int r_1), (6, .int 1), (0, .ref b), (1, .ref x0), (2, .ref m0), (3, .ref o0), (4, .ref d0)]) hx hb dL_law_3721 hl (k := 7) rfl (by decide) (by decide) rfl (fun ls hl => ?_)
  refine pv_pc 3724 rfl ?_
  refine lv_goto (tgt := 28) hx hb dL_law_3724 (by decide) ?_
  refine lv_iload hx hb dL_law_28 (lv_at hl 0 rfl) ?_
  refine lv_aload_n hx hb dL_law_30 rfl (lv_at hl 3 rfl) ?_
  refine va_slen hx hb hX hbl hbA hS dL_law_31 ?_
  refine pv_setI 7 rfl ?_
  refine lv_bipush (v := 7) hx hb dL_law_32 (by decide) ?_
  refine lv_isub hx hb dL_law_34 ?_
  refine pv_setI 0 (by decide) ?_
  refine lv_icmp_gt (tgt := 3727) hx hb dL_law_35 (by decide) (fun _ => ?_) (fun c_8 => absurd (by decide) c_8)
  refine lv_iconst (v := 1) hx hb dL_law_3727 (by decide) ?_
  refine va_forget (fun q hq => hAf _ (hS.2.2 q hq)) ?_
  refine W.widen (k := 600006) (n := 7302064) (Nat.le_of_ble_eq_true rfl) (Nat.le_of_ble_eq_true rfl) ?_
  exact lw_ret (d0 := s.drawn) (Drawn.sameBut.refl s.drawn lw_cs) hx hb hr hlocks dL_law_3728

theorem dL_law_544 : decode cL_law 544 = .ok (.aload_n 1, 1) := by decide +kernel
theorem dL_law_545 : decode cL_law 545 = .ok (.aload_n 0, 1) := by decide +kernel
theorem dL_law_546 : decode cL_law 546 = .ok (.iload 5, 2) := by decide +kernel
theorem dL_law_548 : decode cL_law 548 = .ok (.iconst 1, 1) := by decide +kernel
theorem dL_law_549 : decode cL_law 549 = .ok (.iadd, 1) := by decide +kernel
theorem dL_law_550 : decode cL_law 550 = .ok (.iaload, 1) := by decide +kernel
theorem dL_law_551 : decode cL_law 551 = .ok (.aload_n 0, 1) := by decide +kernel
theorem dL_law_552 : decode cL_law 552 = .ok (.iload 5, 2) := by decide +kernel
theorem dL_law_554 : decode cL_law 554 = .ok (.iconst 2, 1) := by decide +kernel
theorem dL_law_555 : decode cL_law 555 = .ok (.iadd, 1) := by decide +kernel
theorem dL_law_556 : decode cL_law 556 = .ok (.iaload, 1) := by decide +kernel
theorem dL_law_557 : decode cL_law 557 = .ok (.aload_n 3, 1) := by decide +kernel
theorem dL_law_558 : decode cL_law 558 = .ok (.invokestatic 211, 3) := by decide +kernel
theorem w5_190 : (Jvm.Cond.methodLink "PolyforgeLaw" (211 : Nat) ({ cls := "PolyforgeLaw", name := "multiply", desc := "(LPolyforge;II[J)I" } : Jvm.MethodName)) ∈ lw_tbl := pv_t5 (pv_mg 190 rfl)
theorem w5_192 : (Jvm.Cond.codeWith ({ cls := "PolyforgeLaw", name := "multiply", desc := "(LPolyforge;II[J)I" } : Jvm.MethodName) method_7_code (5 : Nat) (Option.some Jvm.ClassFile.FieldType.int) [((0 : Nat), (10 : Nat), (13 : Nat), (23 : Nat)), ((0 : Nat), (10 : Nat), (17 : Nat), (25 : Nat)), ((0 : Nat), (10 : Nat), (21 : Nat), (27 : Nat)), ((0 : Nat), (10 : Nat), (25 : Nat), (15 : Nat))]) ∈ lw_tbl := pv_t5 (pv_mg 192 rfl)
theorem w5_191 : (Jvm.Cond.static ({ cls := "PolyforgeLaw", name := "multiply", desc := "(LPolyforge;II[J)I" } : Jvm.MethodName)) ∈ lw_tbl := pv_t5 (pv_mg 191 rfl)
theorem dL_law_561 : decode cL_law 561 = .ok (.istore 6, 2) := by decide +kernel
theorem dL_law_563 : decode cL_law 563 = .ok (.aload_n 2, 1) := by decide +kernel
theorem dL_law_564 : decode cL_law 564 = .ok (.aload_n 0, 1) := by decide +kernel
theorem dL_law_565 : decode cL_law 565 = .ok (.iload 5, 2) := by decide +kernel
theorem dL_law_567 : decode cL_law 567 = .ok (.iconst 1, 1) := by decide +kernel
theorem dL_law_568 : decode cL_law 568 = .ok (.iadd, 1) := by decide +kernel
theorem dL_law_569 : decode cL_law 569 = .ok (.iaload, 1) := by decide +kernel
theorem dL_law_570 : decode cL_law 570 = .ok (.aload_n 0, 1) := by decide +kernel
theorem dL_law_571 : decode cL_law 571 = .ok (.iload 5, 2) := by decide +kernel
theorem dL_law_573 : decode cL_law 573 = .ok (.iconst 2, 1) := by decide +kernel
theorem dL_law_574 : decode cL_law 574 = .ok (.iadd, 1) := by decide +kernel
theorem dL_law_575 : decode cL_law 575 = .ok (.iaload, 1) := by decide +kernel
theorem dL_law_576 : decode cL_law 576 = .ok (.invokevirtual 213, 3) := by decide +kernel
theorem w9_206 : (Jvm.Cond.methodLink "PolyforgeLaw" (213 : Nat) ({ cls := "PolyforgeModel", name := "multiply", desc := "(II)I" } : Jvm.MethodName)) ∈ lw_tbl := pv_t9 (pv_mg 206 rfl)
theorem w9_209 : (Jvm.Cond.code ({ cls := "PolyforgeModel", name := "multiply", desc := "(II)I" } : Jvm.MethodName) prog_14_method_33_code (4 : Nat) (Option.some Jvm.ClassFile.FieldType.int)) ∈ lw_tbl := pv_t9 (pv_mg 209 rfl)
theorem w9_208 : (Jvm.Cond.selects "PolyforgeModel" ({ cls := "PolyforgeModel", name := "multiply", desc := "(II)I" } : Jvm.MethodName) ({ cls := "PolyforgeModel", name := "multiply", desc := "(II)I" } : Jvm.MethodName)) ∈ lw_tbl := pv_t9 (pv_mg 208 rfl)
theorem w9_207 : (Jvm.Cond.instanceMethod ({ cls := "PolyforgeModel", name := "multiply", desc := "(II)I" } : Jvm.MethodName)) ∈ lw_tbl := pv_t9 (pv_mg 207 rfl)
theorem dL_law_579 : decode cL_law 579 = .ok (.istore 7, 2) := by decide +kernel
theorem dL_law_581 : decode cL_law 581 = .ok (.aload_n 2, 1) := by decide +kernel
theorem dL_law_582 : decode cL_law 582 = .ok (.invokevirtual 199, 3) := by decide +kernel
theorem dL_law_585 : decode cL_law 585 = .ok (.iload 6, 2) := by decide +kernel
theorem dL_law_587 : decode cL_law 587 = .ok (.if_icmp .eq 5, 3) := by decide +kernel
theorem dL_law_592 : decode cL_law 592 = .ok (.iload 6, 2) := by decide +kernel
theorem dL_law_594 : decode cL_law 594 = .ok (.ifCond .ne 15, 3) := by decide +kernel
theorem dL_law_609 : decode cL_law 609 = .ok (.goto 3112, 3) := by decide +kernel
set_option maxHeartbeats 4000000 in
set_option maxRecDepth 100000 in
/-- the law, call 4: multiply -/
theorem law_case_4 {p : Program} {e : Env} {s : State} {m : MethodId} {below : List Frame} {meth : Method} {c : Code} (l : Launch) (hfl : l.stackTraces = false) {b : Nat} {xs : Nat → Int32} (C0 : lw_At p s m meth c b 7 xs) {D : va_G} {A : Nat → Prop} (hA : ∀ q : Nat, s.heap.size ≤ q → A q) (hAf : ∀ q : Nat, A q → s.heap.size ≤ q) (hbA : ¬ A b) (hE : pv_E A s s.heap) {x0 m0 o0 d0 : Nat} {xq xw mq : Nat → Nat} {xJ xP xO xC xI mI mI2 mI3 mT mC oL : ClassId} {xsg xsf msg msf : Nat → Int32} (hxsg : ∀ j, j < 3 → xsg j = 63) (hmsg : ∀ j, j < 3 → msg j = 63) {H : Heap} {locs : List Loc} (hK : va_K D pv_cl [(xJ, .long), (xP, .object "Polyforge$Polynomial"), (xO, .object "Polyforge$Ideal"), (xC, .char), (xI, .int), (mI, .int), (mT, .object "PolyforgeModel$Terms"), (mI2, .int), (mC, .char), (mI3, .int), (oL, .long)] s) (hP : va_P D pv_cl [(x0, .inr (0, [.ref (xq 0), .int 0, .int 108, .ref (xq 1), .int 0, .ref (xq 2), .int 0, .ref (xq 3), .ref (xq 4), .int 1, .ref (xq 5), .ref (xq 6), .ref (xq 7), .ref (xq 8), .ref (xq 9)])), ((xq 6), .inr (2, [.ref (xw 0), .ref (xw 1), .ref (xw 2), .ref (xw 3), .int 0, .int 0])), ((xw 2), .inl (xJ, 64, .inr (.inl (fun _ => 0)))), ((xq 0), .inl (xP, 60, .inr (.inr (.inr (.inr (fun _ => none)))))), ((xq 1), .inl (xO, 5, .inr (.inr (.inr (.inr (fun _ => none)))))), ((xq 3), .inl (xC, 3, .inl xsg)), ((xq 4), .inl (xI, 3, .inl xsf)), (m0, .inr (1, pv_m 0 mq)), ((mq 0), .inl (mI, 60, .inl (fun _ => 0))), ((mq 1), .inl (mT, 60, .inr (.inr (.inr (.inr (fun _ => none)))))), ((mq 2), .inl (mI2, 5, .inl (fun _ => 0))), ((mq 9), .inl (mC, 3, .inl msg)), ((mq 10), .inl (mI3, 3, .inl msf)), (o0, .inl (oL, 1, .inr (.inl (fun _ => 0))))] H) (hD : va_D A [(x0, .inr (0, [.ref (xq 0), .int 0, .int 108, .ref (xq 1), .int 0, .ref (xq 2), .int 0, .ref (xq 3), .ref (xq 4), .int 1, .ref (xq 5), .ref (xq 6), .ref (xq 7), .ref (xq 8), .ref (xq 9)])), ((xq 6), .inr (2, [.ref (xw 0), .ref (xw 1), .ref (xw 2), .ref (xw 3), .int 0, .int 0])), ((xw 2), .inl (xJ, 64, .inr (.inl (fun _ => 0)))), ((xq 0), .inl (xP, 60, .inr (.inr (.inr (.inr (fun _ => none)))))), ((xq 1), .inl (xO, 5, .inr (.inr (.inr (.inr (fun _ => none)))))), ((xq 3), .inl (xC, 3, .inl xsg)), ((xq 4), .inl (xI, 3, .inl xsf)), (m0, .inr (1, pv_m 0 mq)), ((mq 0), .inl (mI, 60, .inl (fun _ => 0))), ((mq 1), .inl (mT, 60, .inr (.inr (.inr (.inr (fun _ => none)))))), ((mq 2), .inl (mI2, 5, .inl (fun _ => 0))), ((mq 9), .inl (mC, 3, .inl msg)), ((mq 10), .inl (mI3, 3, .inl msf)), (o0, .inl (oL, 1, .inr (.inl (fun _ => 0))))]) (hS : va_S A s.heap H locs) {ls : Array Slot} (hl : lv_has ls 9 [(0, .ref b), (1, .ref x0), (2, .ref m0), (3, .ref o0), (4, .ref d0), (5, .int 0)]) : W p l e room_1 s m #[Value.ref b] below meth c H locs 397 653821 (lw_Z below #[Value.ref b] s) (F0 m 544 ls []) := by
  obtain ⟨hx, hb, hr, hml, hown, hts0, hX, hbl, hlocks, hgv⟩ := C0
  have hts : ∀ w ∈ pv_W, w.before #[Value.ref b] s = true := fun w h => hts0 w (List.mem_filter.mp h).1
  have hg := fun {w : Cond} (h : w ∈ lw_tbl) (g : goodWord w = true) => hts w (pv_in h g)
  have hP : va_P D pv_cl [(x0, .inr (0, [.ref (xq 0), .int 0, .int 108, .ref (xq 1), .int 0, .ref (xq 2), .int 0, .ref (xq 3), .ref (xq 4), .int 1, .ref (xq 5), .ref (xq 6), .ref (xq 7), .ref (xq 8), .ref (xq 9)])), (m0, .inr (1, pv_m 0 mq))] _ := hP.sub [0, 7] rfl
  have hD : va_D A [(x0, .inr (0, [.ref (xq 0), .int 0, .int 108, .ref (xq 1), .int 0, .ref (xq 2), .int 0, .ref (xq 3), .ref (xq 4), .int 1, .ref (xq 5), .ref (xq 6), .ref (xq 7), .ref (xq 8), .ref (xq 9)])), (m0, .inr (1, pv_m 0 mq))] := hD.sub [0, 7] (by decide) rfl
  have hK : va_K D pv_cl [] s := hK.sub [] rfl
  refine lv_aload_n hx hb dL_law_544 rfl (lv_at hl 1 rfl) ?_
  refine lv_aload_n hx hb dL_law_545 rfl (lv_at hl 0 rfl) ?_
  refine lv_iload hx hb dL_law_546 (lv_at hl 5 rfl) ?_
  refine lv_iconst (v := 1) hx hb dL_law_548 (by decide) ?_
  refine lv_iadd hx hb dL_law_549 ?_
  refine pv_setI 1 (by decide) ?_
  refine va_sld hx hb hX hbl hbA hS (by unfold vp_in; decide) dL_law_550 ?_
  refine pv_setI (xs 1) rfl ?_
  refine lv_aload_n hx hb dL_law_551 rfl (lv_at hl 0 rfl) ?_
  refine lv_iload hx hb dL_law_552 (lv_at hl 5 rfl) ?_
  refine lv_iconst (v := 2) hx hb dL_law_554 (by decide) ?_
  refine lv_iadd hx hb dL_law_555 ?_
  refine pv_setI 2 (by decide) ?_
  refine va_sld hx hb hX hbl hbA hS (by unfold vp_in; decide) dL_law_556 ?_
  refine pv_setI (xs 2) rfl ?_
  refine pv_pc 557 rfl ?_
  refine lv_aload_n hx hb dL_law_557 rfl (lv_at hl 3 rfl) ?_
  have hF := pv_new hA hS.1
  refine va_calli (vx_runSW (As := [.ref x0, .int (xs 1), .int (xs 2), .ref o0]) (rest := []) ⟨hx, hb, hml, hown, hts⟩ (c_L_multiply l hfl D _ x0 xq (xs 1) (xs 2) o0) (vx_cwSW 4 hts (pv_gSW w5_190 w5_191 w1_0 w5_192) rfl rfl rfl (by decide +kernel) ⟨Nat.le_of_ble_eq_true rfl, Nat.le_of_ble_eq_true rfl⟩) (pv_ps hE hS hF (hP.sub [0] rfl) (hK.sub [] rfl) (hD.sub [0] (by decide) rfl)) rfl rfl hl.1 rfl (lv_room (Nat.le_of_ble_eq_true rfl)) dL_law_558 ⟨Nat.le_of_ble_eq_true rfl, Nat.le_of_ble_eq_true rfl⟩) hS (fun q _ h => hF q h) hF (fun r_0 u t H1 locs1 ht hvm hw hB hz1 hk1 hS => ?_)
  refine W.widen (k := 398) (n := 653827) (Nat.le_of_ble_eq_true rfl) (Nat.le_of_ble_eq_true rfl) ?_
  have hP := pv_keep hP rfl hk1
  subst hw
  refine lv_istore (lv' := [(6, .int 1), (0, .ref b), (1, .ref x0), (2, .ref m0), (3, .ref o0), (4, .ref d0), (5, .int 0)]) hx hb dL_law_561 hl (by decide) rfl (fun ls hl => ?_)
  refine lv_aload_n hx hb dL_law_563 rfl (lv_at hl 3 rfl) ?_
  refine lv_aload_n hx hb dL_law_564 rfl (lv_at hl 1 rfl) ?_
  refine lv_iload hx hb dL_law_565 (lv_at hl 6 rfl) ?_
  refine lv_iconst (v := 1) hx hb dL_law_567 (by decide) ?_
  refine lv_iadd hx hb dL_law_568 ?_
  refine pv_setI 1 (by decide) ?_
  refine va_sld hx hb hX hbl hbA hS (by unfold vp_in; decide) dL_law_569 ?_
  refine pv_setI (xs 1) rfl ?_
  refine lv_aload_n hx hb dL_law_570 rfl (lv_at hl 1 rfl) ?_
  refine lv_iload hx hb dL_law_571 (lv_at hl 6 rfl) ?_
  refine lv_iconst (v := 2) hx hb dL_law_573 (by decide) ?_
  refine pv_pc 574 rfl ?_
  refine lv_iadd hx hb dL_law_574 ?_
  refine pv_setI 2 (by decide) ?_
  refine va_sld hx hb hX hbl hbA hS (by unfold vp_in; decide) dL_law_575 ?_
  refine pv_setI (xs 2) rfl ?_
  have hF := va_free (wc := [(m0, .inr (1, pv_m 0 mq))]) hD hS hA [1] rfl
  refine va_calli (va_runV (As := [.int (xs 1), .int (xs 2)]) (rest := []) ⟨hx, hb, hml, hown, hts⟩ (c_X13_multiply l hfl D _ m0 mq (xs 1) (xs 2)) (cwV 2 hts (pv_gV w9_206 w9_207 w9_208 w1_10 w9_209) rfl rfl rfl (by decide +kernel) ⟨Nat.le_of_ble_eq_true rfl, Nat.le_of_ble_eq_true rfl⟩) (pv_pV hE hS hF (hP.sub [1] rfl) (hK.sub [] rfl) (hD.sub [1] (by decide) rfl) (va_recv (ci := 1) (q0 := 1) hK hP rfl rfl)) rfl rfl hl.1 rfl (lv_room (Nat.le_of_ble_eq_true rfl)) dL_law_576 ⟨Nat.le_of_ble_eq_true rfl, Nat.le_of_ble_eq_true rfl⟩) hS (fun q _ h => hF q h) hF (fun r_1 u t H1 locs1 ht hvm hw hB hz1 hk1 hS => ?_)
  refine W.widen (k := 398) (n := 653827) (Nat.le_of_ble_eq_true rfl) (Nat.le_of_ble_eq_true rfl) ?_
  subst hw
  obtain ⟨fs_3, hf_4, hP1, hK1, hD1⟩ := hB
  rw [ht] at hP1
  have hK1 := va_K.moved hvm.symm hK1
  obtain ⟨hP, hD⟩ := va_join (wr := [(x0, .inr (0, [.ref (xq 0), .int 0, .int 108, .ref (xq 1), .int 0, .ref (xq 2), .int 0, .ref (xq 3), .ref (xq 4), .int 1, .ref (xq 5), .ref (xq 6), .ref (xq 7), .ref (xq 8), .ref (xq 9)]))]) (w1 := [(m0, .inr (1, fs_3))]) hP hD [1] [0] rfl rfl (by decide) (by decide) hk1 hF hP1 hD1
  have hP : va_P D pv_cl [(x0, .inr (0, [.ref (xq 0), .int 0, .int 108, .ref (xq 1), .int 0, .ref (xq 2), .int 0, .ref (xq 3), .ref (xq 4), .int 1, .ref (xq 5), .ref (xq 6), .ref (xq 7), .ref (xq 8), .ref (xq 9)])), (m0, .inr (1, fs_3))] _ := hP
  have hD : va_D A [(x0, .inr (0, [.ref (xq 0), .int 0, .int 108, .ref (xq 1), .int 0, .ref (xq 2), .int 0, .ref (xq 3), .ref (xq 4), .int 1, .ref (xq 5), .ref (xq 6), .ref (xq 7), .ref (xq 8), .ref (xq 9)])), (m0, .inr (1, fs_3))] := hD
  refine lv_istore (lv' := [(7, .int r_1), (6, .int 1), (0, .ref b), (1, .ref x0), (2, .ref m0), (3, .ref o0), (4, .ref d0), (5, .int 0)]) hx hb dL_law_579 hl (by decide) rfl (fun ls hl => ?_)
  refine lv_aload_n hx hb dL_law_581 rfl (lv_at hl 4 rfl) ?_
  have hF := pv_new hA hS.1
  refine va_calli (va_runV (As := []) (rest := []) ⟨hx, hb, hml, hown, hts⟩ (c_X13_thrown l hfl D _ m0 fs_3 1 hf_4) (cwV 0 hts (pv_gV w9_102 w9_103 w9_104 w1_10 w9_105) rfl rfl rfl (by decide +kernel) ⟨Nat.le_of_ble_eq_true rfl, Nat.le_of_ble_eq_true rfl⟩) (pv_pV hE hS hF (hP.sub [1] rfl) (hK.sub [] rfl) (hD.sub [1] (by decide) rfl) (va_recv (ci := 1) (q0 := 1) hK hP rfl rfl)) rfl rfl hl.1 rfl (lv_room (Nat.le_of_ble_eq_true rfl)) dL_law_582 ⟨Nat.le_of_ble_eq_true rfl, Nat.le_of_ble_eq_true rfl⟩) hS (fun q _ h => hF q h) hF (fun r_4 u t H1 locs1 ht hvm hw hB hz1 hk1 hS => ?_)
  refine W.widen (k := 398) (n := 653827) (Nat.le_of_ble_eq_true rfl) (Nat.le_of_ble_eq_true rfl) ?_
  have hP := pv_keep hP rfl hk1
  subst hw
  refine lv_iload hx hb dL_law_585 (lv_at hl 1 rfl) ?_
  refine lv_icmp_eq (tgt := 592) hx hb dL_law_587 (by decide) (fun _ => ?_) (fun c_6 => absurd (by decide) c_6)
  refine lv_iload hx hb dL_law_592 (lv_at hl 1 rfl) ?_
  refine lv_if_ne (tgt := 609) hx hb dL_law_594 (by decide) (fun _ => ?_) (fun c_7 => absurd c_7 (by decide))
  refine lv_goto (tgt := 3721) hx hb dL_law_609 (by decide) ?_
  refine lv_iinc (v := 7) (lv' := [(5, .int 7), (7, .int r_1), (6, .int 1), (0, .ref b), (1, .ref x0), (2, .ref m0), (3, .ref o0), (4, .ref d0)]) hx hb dL_law_3721 hl (k := 7) rfl (by decide) (by decide) rfl (fun ls hl => ?_)
  refine pv_pc 3724 rfl ?_
  refine lv_goto (tgt := 28) hx hb dL_law_3724 (by decide) ?_
  refine lv_iload hx hb dL_law_28 (lv_at hl 0 rfl) ?_
  refine lv_aload_n hx hb dL_law_30 rfl (lv_at hl 3 rfl) ?_
  refine va_slen hx hb hX hbl hbA hS dL_law_31 ?_
  refine pv_setI 7 rfl ?_
  refine lv_bipush (v := 7) hx hb dL_law_32 (by decide) ?_
  refine lv_isub hx hb dL_law_34 ?_
  refine pv_setI 0 (by decide) ?_
  refine lv_icmp_gt (tgt := 3727) hx hb dL_law_35 (by decide) (fun _ => ?_) (fun c_8 => absurd (by decide) c_8)
  refine lv_iconst (v := 1) hx hb dL_law_3727 (by decide) ?_
  refine va_forget (fun q hq => hAf _ (hS.2.2 q hq)) ?_
  refine W.widen (k := 600006) (n := 7302064) (Nat.le_of_ble_eq_true rfl) (Nat.le_of_ble_eq_true rfl) ?_
  exact lw_ret (d0 := s.drawn) (Drawn.sameBut.refl s.drawn lw_cs) hx hb hr hlocks dL_law_3728

theorem dL_law_612 : decode cL_law 612 = .ok (.aload_n 1, 1) := by decide +kernel
theorem dL_law_613 : decode cL_law 613 = .ok (.aload_n 0, 1) := by decide +kernel
theorem dL_law_614 : decode cL_law 614 = .ok (.iload 5, 2) := by decide +kernel
theorem dL_law_616 : decode cL_law 616 = .ok (.iconst 1, 1) := by decide +kernel
theorem dL_law_617 : decode cL_law 617 = .ok (.iadd, 1) := by decide +kernel
theorem dL_law_618 : decode cL_law 618 = .ok (.iaload, 1) := by decide +kernel
theorem dL_law_619 : decode cL_law 619 = .ok (.aload_n 0, 1) := by decide +kernel
theorem dL_law_620 : decode cL_law 620 = .ok (.iload 5, 2) := by decide +kernel
theorem dL_law_622 : decode cL_law 622 = .ok (.iconst 2, 1) := by decide +kernel
theorem dL_law_623 : decode cL_law 623 = .ok (.iadd, 1) := by decide +kernel
theorem dL_law_624 : decode cL_law 624 = .ok (.iaload, 1) := by decide +kernel
theorem dL_law_625 : decode cL_law 625 = .ok (.aload_n 3, 1) := by decide +kernel
theorem dL_law_626 : decode cL_law 626 = .ok (.invokestatic 214, 3) := by decide +kernel
theorem w5_238 : (Jvm.Cond.methodLink "PolyforgeLaw" (214 : Nat) ({ cls := "PolyforgeLaw", name := "power", desc := "(LPolyforge;II[J)I" } : Jvm.MethodName)) ∈ lw_tbl := pv_t5 (pv_mg 238 rfl)
theorem w6_0 : (Jvm.Cond.codeWith ({ cls := "PolyforgeLaw", name := "power", desc := "(LPolyforge;II[J)I" } : Jvm.MethodName) method_8_code (5 : Nat) (Option.some Jvm.ClassFile.FieldType.int) [((0 : Nat), (10 : Nat), (13 : Nat), (23 : Nat)), ((0 : Nat), (10 : Nat), (17 : Nat), (13 : Nat)), ((0 : Nat), (10 : Nat), (21 : Nat), (27 : Nat)), ((0 : Nat), (10 : Nat), (25 : Nat), (15 : Nat))]) ∈ lw_tbl := pv_t6 (pv_mg 0 rfl)
theorem w5_239 : (Jvm.Cond.static ({ cls := "PolyforgeLaw", name := "power", desc := "(LPolyforge;II[J)I" } : Jvm.MethodName)) ∈ lw_tbl := pv_t5 (pv_mg 239 rfl)
theorem dL_law_629 : decode cL_law 629 = .ok (.istore 6, 2) := by decide +kernel
theorem dL_law_631 : decode cL_law 631 = .ok (.aload_n 2, 1) := by decide +kernel
theorem dL_law_632 : decode cL_law 632 = .ok (.aload_n 0, 1) := by decide +kernel
theorem dL_law_633 : decode cL_law 633 = .ok (.iload 5, 2) := by decide +kernel
theorem dL_law_635 : decode cL_law 635 = .ok (.iconst 1, 1) := by decide +kernel
theorem dL_law_636 : decode cL_law 636 = .ok (.iadd, 1) := by decide +kernel
theorem dL_law_637 : decode cL_law 637 = .ok (.iaload, 1) := by decide +kernel
theorem dL_law_638 : decode cL_law 638 = .ok (.aload_n 0, 1) := by decide +kernel
theorem dL_law_639 : decode cL_law 639 = .ok (.iload 5, 2) := by decide +kernel
theorem dL_law_641 : decode cL_law 641 = .ok (.iconst 2, 1) := by decide +kernel
theorem dL_law_642 : decode cL_law 642 = .ok (.iadd, 1) := by decide +kernel
theorem dL_law_643 : decode cL_law 643 = .ok (.iaload, 1) := by decide +kernel
theorem dL_law_644 : decode cL_law 644 = .ok (.invokevirtual 216, 3) := by decide +kernel
theorem w9_210 : (Jvm.Cond.methodLink "PolyforgeLaw" (216 : Nat) ({ cls := "PolyforgeModel", name := "power", desc := "(II)I" } : Jvm.MethodName)) ∈ lw_tbl := pv_t9 (pv_mg 210 rfl)
theorem w9_213 : (Jvm.Cond.code ({ cls := "PolyforgeModel", name := "power", desc := "(II)I" } : Jvm.MethodName) prog_14_method_34_code (4 : Nat) (Option.some Jvm.ClassFile.FieldType.int)) ∈ lw_tbl := pv_t9 (pv_mg 213 rfl)
theorem w9_212 : (Jvm.Cond.selects "PolyforgeModel" ({ cls := "PolyforgeModel", name := "power", desc := "(II)I" } : Jvm.MethodName) ({ cls := "PolyforgeModel", name := "power", desc := "(II)I" } : Jvm.MethodName)) ∈ lw_tbl := pv_t9 (pv_mg 212 rfl)
theorem w9_211 : (Jvm.Cond.instanceMethod ({ cls := "PolyforgeModel", name := "power", desc := "(II)I" } : Jvm.MethodName)) ∈ lw_tbl := pv_t9 (pv_mg 211 rfl)
theorem dL_law_647 : decode cL_law 647 = .ok (.istore 7, 2) := by decide +kernel
theorem dL_law_649 : decode cL_law 649 = .ok (.aload_n 2, 1) := by decide +kernel
theorem dL_law_650 : decode cL_law 650 = .ok (.invokevirtual 199, 3) := by decide +kernel
theorem dL_law_653 : decode cL_law 653 = .ok (.iload 6, 2) := by decide +kernel
theorem dL_law_655 : decode cL_law 655 = .ok (.if_icmp .eq 5, 3) := by decide +kernel
theorem dL_law_660 : decode cL_law 660 = .ok (.iload 6, 2) := by decide +kernel
theorem dL_law_662 : decode cL_law 662 = .ok (.ifCond .ne 15, 3) := by decide +kernel
theorem dL_law_677 : decode cL_law 677 = .ok (.goto 3044, 3) := by decide +kernel
set_option maxHeartbeats 4000000 in
set_option maxRecDepth 100000 in
/-- the law, call 5: power -/
theorem law_case_5 {p : Program} {e : Env} {s : State} {m : MethodId} {below : List Frame} {meth : Method} {c : Code} (l : Launch) (hfl : l.stackTraces = false) {b : Nat} {xs : Nat → Int32} (C0 : lw_At p s m meth c b 7 xs) {D : va_G} {A : Nat → Prop} (hA : ∀ q : Nat, s.heap.size ≤ q → A q) (hAf : ∀ q : Nat, A q → s.heap.size ≤ q) (hbA : ¬ A b) (hE : pv_E A s s.heap) {x0 m0 o0 d0 : Nat} {xq xw mq : Nat → Nat} {xJ xP xO xC xI mI mI2 mI3 mT mC oL : ClassId} {xsg xsf msg msf : Nat → Int32} (hxsg : ∀ j, j < 3 → xsg j = 63) (hmsg : ∀ j, j < 3 → msg j = 63) {H : Heap} {locs : List Loc} (hK : va_K D pv_cl [(xJ, .long), (xP, .object "Polyforge$Polynomial"), (xO, .object "Polyforge$Ideal"), (xC, .char), (xI, .int), (mI, .int), (mT, .object "PolyforgeModel$Terms"), (mI2, .int), (mC, .char), (mI3, .int), (oL, .long)] s) (hP : va_P D pv_cl [(x0, .inr (0, [.ref (xq 0), .int 0, .int 108, .ref (xq 1), .int 0, .ref (xq 2), .int 0, .ref (xq 3), .ref (xq 4), .int 1, .ref (xq 5), .ref (xq 6), .ref (xq 7), .ref (xq 8), .ref (xq 9)])), ((xq 6), .inr (2, [.ref (xw 0), .ref (xw 1), .ref (xw 2), .ref (xw 3), .int 0, .int 0])), ((xw 2), .inl (xJ, 64, .inr (.inl (fun _ => 0)))), ((xq 0), .inl (xP, 60, .inr (.inr (.inr (.inr (fun _ => none)))))), ((xq 1), .inl (xO, 5, .inr (.inr (.inr (.inr (fun _ => none)))))), ((xq 3), .inl (xC, 3, .inl xsg)), ((xq 4), .inl (xI, 3, .inl xsf)), (m0, .inr (1, pv_m 0 mq)), ((mq 0), .inl (mI, 60, .inl (fun _ => 0))), ((mq 1), .inl (mT, 60, .inr (.inr (.inr (.inr (fun _ => none)))))), ((mq 2), .inl (mI2, 5, .inl (fun _ => 0))), ((mq 9), .inl (mC, 3, .inl msg)), ((mq 10), .inl (mI3, 3, .inl msf)), (o0, .inl (oL, 1, .inr (.inl (fun _ => 0))))] H) (hD : va_D A [(x0, .inr (0, [.ref (xq 0), .int 0, .int 108, .ref (xq 1), .int 0, .ref (xq 2), .int 0, .ref (xq 3), .ref (xq 4), .int 1, .ref (xq 5), .ref (xq 6), .ref (xq 7), .ref (xq 8), .ref (xq 9)])), ((xq 6), .inr (2, [.ref (xw 0), .ref (xw 1), .ref (xw 2), .ref (xw 3), .int 0, .int 0])), ((xw 2), .inl (xJ, 64, .inr (.inl (fun _ => 0)))), ((xq 0), .inl (xP, 60, .inr (.inr (.inr (.inr (fun _ => none)))))), ((xq 1), .inl (xO, 5, .inr (.inr (.inr (.inr (fun _ => none)))))), ((xq 3), .inl (xC, 3, .inl xsg)), ((xq 4), .inl (xI, 3, .inl xsf)), (m0, .inr (1, pv_m 0 mq)), ((mq 0), .inl (mI, 60, .inl (fun _ => 0))), ((mq 1), .inl (mT, 60, .inr (.inr (.inr (.inr (fun _ => none)))))), ((mq 2), .inl (mI2, 5, .inl (fun _ => 0))), ((mq 9), .inl (mC, 3, .inl msg)), ((mq 10), .inl (mI3, 3, .inl msf)), (o0, .inl (oL, 1, .inr (.inl (fun _ => 0))))]) (hS : va_S A s.heap H locs) {ls : Array Slot} (hl : lv_has ls 9 [(0, .ref b), (1, .ref x0), (2, .ref m0), (3, .ref o0), (4, .ref d0), (5, .int 0)]) : W p l e room_1 s m #[Value.ref b] below meth c H locs 397 653821 (lw_Z below #[Value.ref b] s) (F0 m 612 ls []) := by
  obtain ⟨hx, hb, hr, hml, hown, hts0, hX, hbl, hlocks, hgv⟩ := C0
  have hts : ∀ w ∈ pv_W, w.before #[Value.ref b] s = true := fun w h => hts0 w (List.mem_filter.mp h).1
  have hg := fun {w : Cond} (h : w ∈ lw_tbl) (g : goodWord w = true) => hts w (pv_in h g)
  have hP : va_P D pv_cl [(x0, .inr (0, [.ref (xq 0), .int 0, .int 108, .ref (xq 1), .int 0, .ref (xq 2), .int 0, .ref (xq 3), .ref (xq 4), .int 1, .ref (xq 5), .ref (xq 6), .ref (xq 7), .ref (xq 8), .ref (xq 9)])), (m0, .inr (1, pv_m 0 mq))] _ := hP.sub [0, 7] rfl
  have hD : va_D A [(x0, .inr (0, [.ref (xq 0), .int 0, .int 108, .ref (xq 1), .int 0, .ref (xq 2), .int 0, .ref (xq 3), .ref (xq 4), .int 1, .ref (xq 5), .ref (xq 6), .ref (xq 7), .ref (xq 8), .ref (xq 9)])), (m0, .inr (1, pv_m 0 mq))] := hD.sub [0, 7] (by decide) rfl
  have hK : va_K D pv_cl [] s := hK.sub [] rfl
  refine lv_aload_n hx hb dL_law_612 rfl (lv_at hl 1 rfl) ?_
  refine lv_aload_n hx hb dL_law_613 rfl (lv_at hl 0 rfl) ?_
  refine lv_iload hx hb dL_law_614 (lv_at hl 5 rfl) ?_
  refine lv_iconst (v := 1) hx hb dL_law_616 (by decide) ?_
  refine lv_iadd hx hb dL_law_617 ?_
  refine pv_setI 1 (by decide) ?_
  refine va_sld hx hb hX hbl hbA hS (by unfold vp_in; decide) dL_law_618 ?_
  refine pv_setI (xs 1) rfl ?_
  refine lv_aload_n hx hb dL_law_619 rfl (lv_at hl 0 rfl) ?_
  refine lv_iload hx hb dL_law_620 (lv_at hl 5 rfl) ?_
  refine lv_iconst (v := 2) hx hb dL_law_622 (by decide) ?_
  refine lv_iadd hx hb dL_law_623 ?_
  refine pv_setI 2 (by decide) ?_
  refine va_sld hx hb hX hbl hbA hS (by unfold vp_in; decide) dL_law_624 ?_
  refine pv_setI (xs 2) rfl ?_
  refine pv_pc 625 rfl ?_
  refine lv_aload_n hx hb dL_law_625 rfl (lv_at hl 3 rfl) ?_
  have hF := pv_new hA hS.1
  refine va_calli (vx_runSW (As := [.ref x0, .int (xs 1), .int (xs 2), .ref o0]) (rest := []) ⟨hx, hb, hml, hown, hts⟩ (c_L_power l hfl D _ x0 xq (xs 1) (xs 2) o0) (vx_cwSW 4 hts (pv_gSW w5_238 w5_239 w1_0 w6_0) rfl rfl rfl (by decide +kernel) ⟨Nat.le_of_ble_eq_true rfl, Nat.le_of_ble_eq_true rfl⟩) (pv_ps hE hS hF (hP.sub [0] rfl) (hK.sub [] rfl) (hD.sub [0] (by decide) rfl)) rfl rfl hl.1 rfl (lv_room (Nat.le_of_ble_eq_true rfl)) dL_law_626 ⟨Nat.le_of_ble_eq_true rfl, Nat.le_of_ble_eq_true rfl⟩) hS (fun q _ h => hF q h) hF (fun r_0 u t H1 locs1 ht hvm hw hB hz1 hk1 hS => ?_)
  refine W.widen (k := 398) (n := 653827) (Nat.le_of_ble_eq_true rfl) (Nat.le_of_ble_eq_true rfl) ?_
  have hP := pv_keep hP rfl hk1
  subst hw
  refine lv_istore (lv' := [(6, .int 1), (0, .ref b), (1, .ref x0), (2, .ref m0), (3, .ref o0), (4, .ref d0), (5, .int 0)]) hx hb dL_law_629 hl (by decide) rfl (fun ls hl => ?_)
  refine lv_aload_n hx hb dL_law_631 rfl (lv_at hl 3 rfl) ?_
  refine lv_aload_n hx hb dL_law_632 rfl (lv_at hl 1 rfl) ?_
  refine lv_iload hx hb dL_law_633 (lv_at hl 6 rfl) ?_
  refine lv_iconst (v := 1) hx hb dL_law_635 (by decide) ?_
  refine lv_iadd hx hb dL_law_636 ?_
  refine pv_setI 1 (by decide) ?_
  refine va_sld hx hb hX hbl hbA hS (by unfold vp_in; decide) dL_law_637 ?_
  refine pv_setI (xs 1) rfl ?_
  refine lv_aload_n hx hb dL_law_638 rfl (lv_at hl 1 rfl) ?_
  refine lv_iload hx hb dL_law_639 (lv_at hl 6 rfl) ?_
  refine lv_iconst (v := 2) hx hb dL_law_641 (by decide) ?_
  refine pv_pc 642 rfl ?_
  refine lv_iadd hx hb dL_law_642 ?_
  refine pv_setI 2 (by decide) ?_
  refine va_sld hx hb hX hbl hbA hS (by unfold vp_in; decide) dL_law_643 ?_
  refine pv_setI (xs 2) rfl ?_
  have hF := va_free (wc := [(m0, .inr (1, pv_m 0 mq))]) hD hS hA [1] rfl
  refine va_calli (va_runV (As := [.int (xs 1), .int (xs 2)]) (rest := []) ⟨hx, hb, hml, hown, hts⟩ (c_X13_power l hfl D _ m0 mq (xs 1) (xs 2)) (cwV 2 hts (pv_gV w9_210 w9_211 w9_212 w1_10 w9_213) rfl rfl rfl (by decide +kernel) ⟨Nat.le_of_ble_eq_true rfl, Nat.le_of_ble_eq_true rfl⟩) (pv_pV hE hS hF (hP.sub [1] rfl) (hK.sub [] rfl) (hD.sub [1] (by decide) rfl) (va_recv (ci := 1) (q0 := 1) hK hP rfl rfl)) rfl rfl hl.1 rfl (lv_room (Nat.le_of_ble_eq_true rfl)) dL_law_644 ⟨Nat.le_of_ble_eq_true rfl, Nat.le_of_ble_eq_true rfl⟩) hS (fun q _ h => hF q h) hF (fun r_1 u t H1 locs1 ht hvm hw hB hz1 hk1 hS => ?_)
  refine W.widen (k := 398) (n := 653827) (Nat.le_of_ble_eq_true rfl) (Nat.le_of_ble_eq_true rfl) ?_
  subst hw
  obtain ⟨fs_3, hf_4, hP1, hK1, hD1⟩ := hB
  rw [ht] at hP1
  have hK1 := va_K.moved hvm.symm hK1
  obtain ⟨hP, hD⟩ := va_join (wr := [(x0, .inr (0, [.ref (xq 0), .int 0, .int 108, .ref (xq 1), .int 0, .ref (xq 2), .int 0, .ref (xq 3), .ref (xq 4), .int 1, .ref (xq 5), .ref (xq 6), .ref (xq 7), .ref (xq 8), .ref (xq 9)]))]) (w1 := [(m0, .inr (1, fs_3))]) hP hD [1] [0] rfl rfl (by decide) (by decide) hk1 hF hP1 hD1
  have hP : va_P D pv_cl [(x0, .inr (0, [.ref (xq 0), .int 0, .int 108, .ref (xq 1), .int 0, .ref (xq 2), .int 0, .ref (xq 3), .ref (xq 4), .int 1, .ref (xq 5), .ref (xq 6), .ref (xq 7), .ref (xq 8), .ref (xq 9)])), (m0, .inr (1, fs_3))] _ := hP
  have hD : va_D A [(x0, .inr (0, [.ref (xq 0), .int 0, .int 108, .ref (xq 1), .int 0, .ref (xq 2), .int 0, .ref (xq 3), .ref (xq 4), .int 1, .ref (xq 5), .ref (xq 6), .ref (xq 7), .ref (xq 8), .ref (xq 9)])), (m0, .inr (1, fs_3))] := hD
  refine lv_istore (lv' := [(7, .int r_1), (6, .int 1), (0, .ref b), (1, .ref x0), (2, .ref m0), (3, .ref o0), (4, .ref d0), (5, .int 0)]) hx hb dL_law_647 hl (by decide) rfl (fun ls hl => ?_)
  refine lv_aload_n hx hb dL_law_649 rfl (lv_at hl 4 rfl) ?_
  have hF := pv_new hA hS.1
  refine va_calli (va_runV (As := []) (rest := []) ⟨hx, hb, hml, hown, hts⟩ (c_X13_thrown l hfl D _ m0 fs_3 1 hf_4) (cwV 0 hts (pv_gV w9_102 w9_103 w9_104 w1_10 w9_105) rfl rfl rfl (by decide +kernel) ⟨Nat.le_of_ble_eq_true rfl, Nat.le_of_ble_eq_true rfl⟩) (pv_pV hE hS hF (hP.sub [1] rfl) (hK.sub [] rfl) (hD.sub [1] (by decide) rfl) (va_recv (ci := 1) (q0 := 1) hK hP rfl rfl)) rfl rfl hl.1 rfl (lv_room (Nat.le_of_ble_eq_true rfl)) dL_law_650 ⟨Nat.le_of_ble_eq_true rfl, Nat.le_of_ble_eq_true rfl⟩) hS (fun q _ h => hF q h) hF (fun r_4 u t H1 locs1 ht hvm hw hB hz1 hk1 hS => ?_)
  refine W.widen (k := 398) (n := 653827) (Nat.le_of_ble_eq_true rfl) (Nat.le_of_ble_eq_true rfl) ?_
  have hP := pv_keep hP rfl hk1
  subst hw
  refine lv_iload hx hb dL_law_653 (lv_at hl 1 rfl) ?_
  refine lv_icmp_eq (tgt := 660) hx hb dL_law_655 (by decide) (fun _ => ?_) (fun c_6 => absurd (by decide) c_6)
  refine lv_iload hx hb dL_law_660 (lv_at hl 1 rfl) ?_
  refine lv_if_ne (tgt := 677) hx hb dL_law_662 (by decide) (fun _ => ?_) (fun c_7 => absurd c_7 (by decide))
  refine lv_goto (tgt := 3721) hx hb dL_law_677 (by decide) ?_
  refine lv_iinc (v := 7) (lv' := [(5, .int 7), (7, .int r_1), (6, .int 1), (0, .ref b), (1, .ref x0), (2, .ref m0), (3, .ref o0), (4, .ref d0)]) hx hb dL_law_3721 hl (k := 7) rfl (by decide) (by decide) rfl (fun ls hl => ?_)
  refine pv_pc 3724 rfl ?_
  refine lv_goto (tgt := 28) hx hb dL_law_3724 (by decide) ?_
  refine lv_iload hx hb dL_law_28 (lv_at hl 0 rfl) ?_
  refine lv_aload_n hx hb dL_law_30 rfl (lv_at hl 3 rfl) ?_
  refine va_slen hx hb hX hbl hbA hS dL_law_31 ?_
  refine pv_setI 7 rfl ?_
  refine lv_bipush (v := 7) hx hb dL_law_32 (by decide) ?_
  refine lv_isub hx hb dL_law_34 ?_
  refine pv_setI 0 (by decide) ?_
  refine lv_icmp_gt (tgt := 3727) hx hb dL_law_35 (by decide) (fun _ => ?_) (fun c_8 => absurd (by decide) c_8)
  refine lv_iconst (v := 1) hx hb dL_law_3727 (by decide) ?_
  refine va_forget (fun q hq => hAf _ (hS.2.2 q hq)) ?_
  refine W.widen (k := 600006) (n := 7302064) (Nat.le_of_ble_eq_true rfl) (Nat.le_of_ble_eq_true rfl) ?_
  exact lw_ret (d0 := s.drawn) (Drawn.sameBut.refl s.drawn lw_cs) hx hb hr hlocks dL_law_3728

theorem dL_law_693 : decode cL_law 693 = .ok (.aload_n 1, 1) := by decide +kernel
theorem dL_law_694 : decode cL_law 694 = .ok (.aload_n 0, 1) := by decide +kernel
theorem dL_law_695 : decode cL_law 695 = .ok (.iload 5, 2) := by decide +kernel
theorem dL_law_697 : decode cL_law 697 = .ok (.iconst 1, 1) := by decide +kernel
theorem dL_law_698 : decode cL_law 698 = .ok (.iadd, 1) := by decide +kernel
theorem dL_law_699 : decode cL_law 699 = .ok (.iaload, 1) := by decide +kernel
theorem dL_law_700 : decode cL_law 700 = .ok (.aload_n 3, 1) := by decide +kernel
theorem dL_law_701 : decode cL_law 701 = .ok (.invokestatic 221, 3) := by decide +kernel
theorem w6_6 : (Jvm.Cond.methodLink "PolyforgeLaw" (221 : Nat) ({ cls := "PolyforgeLaw", name := "ground", desc := "(LPolyforge;I[J)I" } : Jvm.MethodName)) ∈ lw_tbl := pv_t6 (pv_mg 6 rfl)
theorem w6_8 : (Jvm.Cond.codeWith ({ cls := "PolyforgeLaw", name := "ground", desc := "(LPolyforge;I[J)I" } : Jvm.MethodName) method_9_code (4 : Nat) (Option.some Jvm.ClassFile.FieldType.int) [((0 : Nat), (9 : Nat), (12 : Nat), (23 : Nat))]) ∈ lw_tbl := pv_t6 (pv_mg 8 rfl)
theorem w6_7 : (Jvm.Cond.static ({ cls := "PolyforgeLaw", name := "ground", desc := "(LPolyforge;I[J)I" } : Jvm.MethodName)) ∈ lw_tbl := pv_t6 (pv_mg 7 rfl)
theorem dL_law_704 : decode cL_law 704 = .ok (.istore 6, 2) := by decide +kernel
theorem dL_law_706 : decode cL_law 706 = .ok (.aload_n 2, 1) := by decide +kernel
theorem dL_law_707 : decode cL_law 707 = .ok (.aload_n 0, 1) := by decide +kernel
theorem dL_law_708 : decode cL_law 708 = .ok (.iload 5, 2) := by decide +kernel
theorem dL_law_710 : decode cL_law 710 = .ok (.iconst 1, 1) := by decide +kernel
theorem dL_law_711 : decode cL_law 711 = .ok (.iadd, 1) := by decide +kernel
theorem dL_law_712 : decode cL_law 712 = .ok (.iaload, 1) := by decide +kernel
theorem dL_law_713 : decode cL_law 713 = .ok (.invokevirtual 224, 3) := by decide +kernel
theorem w9_226 : (Jvm.Cond.methodLink "PolyforgeLaw" (224 : Nat) ({ cls := "PolyforgeModel", name := "ground", desc := "(I)I" } : Jvm.MethodName)) ∈ lw_tbl := pv_t9 (pv_mg 226 rfl)
theorem w9_229 : (Jvm.Cond.code ({ cls := "PolyforgeModel", name := "ground", desc := "(I)I" } : Jvm.MethodName) prog_14_method_36_code (2 : Nat) (Option.some Jvm.ClassFile.FieldType.int)) ∈ lw_tbl := pv_t9 (pv_mg 229 rfl)
theorem w9_228 : (Jvm.Cond.selects "PolyforgeModel" ({ cls := "PolyforgeModel", name := "ground", desc := "(I)I" } : Jvm.MethodName) ({ cls := "PolyforgeModel", name := "ground", desc := "(I)I" } : Jvm.MethodName)) ∈ lw_tbl := pv_t9 (pv_mg 228 rfl)
theorem w9_227 : (Jvm.Cond.instanceMethod ({ cls := "PolyforgeModel", name := "ground", desc := "(I)I" } : Jvm.MethodName)) ∈ lw_tbl := pv_t9 (pv_mg 227 rfl)
theorem dL_law_716 : decode cL_law 716 = .ok (.istore 7, 2) := by decide +kernel
theorem dL_law_718 : decode cL_law 718 = .ok (.aload_n 2, 1) := by decide +kernel
theorem dL_law_719 : decode cL_law 719 = .ok (.invokevirtual 199, 3) := by decide +kernel
theorem dL_law_722 : decode cL_law 722 = .ok (.iload 6, 2) := by decide +kernel
theorem dL_law_724 : decode cL_law 724 = .ok (.if_icmp .eq 5, 3) := by decide +kernel
theorem dL_law_729 : decode cL_law 729 = .ok (.iload 6, 2) := by decide +kernel
theorem dL_law_731 : decode cL_law 731 = .ok (.ifCond .ne 15, 3) := by decide +kernel
theorem dL_law_746 : decode cL_law 746 = .ok (.goto 2975, 3) := by decide +kernel
set_option maxHeartbeats 4000000 in
set_option maxRecDepth 100000 in
/-- the law, call 7: ground -/
theorem law_case_7 {p : Program} {e : Env} {s : State} {m : MethodId} {below : List Frame} {meth : Method} {c : Code} (l : Launch) (hfl : l.stackTraces = false) {b : Nat} {xs : Nat → Int32} (C0 : lw_At p s m meth c b 7 xs) {D : va_G} {A : Nat → Prop} (hA : ∀ q : Nat, s.heap.size ≤ q → A q) (hAf : ∀ q : Nat, A q → s.heap.size ≤ q) (hbA : ¬ A b) (hE : pv_E A s s.heap) {x0 m0 o0 d0 : Nat} {xq xw mq : Nat → Nat} {xJ xP xO xC xI mI mI2 mI3 mT mC oL : ClassId} {xsg xsf msg msf : Nat → Int32} (hxsg : ∀ j, j < 3 → xsg j = 63) (hmsg : ∀ j, j < 3 → msg j = 63) {H : Heap} {locs : List Loc} (hK : va_K D pv_cl [(xJ, .long), (xP, .object "Polyforge$Polynomial"), (xO, .object "Polyforge$Ideal"), (xC, .char), (xI, .int), (mI, .int), (mT, .object "PolyforgeModel$Terms"), (mI2, .int), (mC, .char), (mI3, .int), (oL, .long)] s) (hP : va_P D pv_cl [(x0, .inr (0, [.ref (xq 0), .int 0, .int 108, .ref (xq 1), .int 0, .ref (xq 2), .int 0, .ref (xq 3), .ref (xq 4), .int 1, .ref (xq 5), .ref (xq 6), .ref (xq 7), .ref (xq 8), .ref (xq 9)])), ((xq 6), .inr (2, [.ref (xw 0), .ref (xw 1), .ref (xw 2), .ref (xw 3), .int 0, .int 0])), ((xw 2), .inl (xJ, 64, .inr (.inl (fun _ => 0)))), ((xq 0), .inl (xP, 60, .inr (.inr (.inr (.inr (fun _ => none)))))), ((xq 1), .inl (xO, 5, .inr (.inr (.inr (.inr (fun _ => none)))))), ((xq 3), .inl (xC, 3, .inl xsg)), ((xq 4), .inl (xI, 3, .inl xsf)), (m0, .inr (1, pv_m 0 mq)), ((mq 0), .inl (mI, 60, .inl (fun _ => 0))), ((mq 1), .inl (mT, 60, .inr (.inr (.inr (.inr (fun _ => none)))))), ((mq 2), .inl (mI2, 5, .inl (fun _ => 0))), ((mq 9), .inl (mC, 3, .inl msg)), ((mq 10), .inl (mI3, 3, .inl msf)), (o0, .inl (oL, 1, .inr (.inl (fun _ => 0))))] H) (hD : va_D A [(x0, .inr (0, [.ref (xq 0), .int 0, .int 108, .ref (xq 1), .int 0, .ref (xq 2), .int 0, .ref (xq 3), .ref (xq 4), .int 1, .ref (xq 5), .ref (xq 6), .ref (xq 7), .ref (xq 8), .ref (xq 9)])), ((xq 6), .inr (2, [.ref (xw 0), .ref (xw 1), .ref (xw 2), .ref (xw 3), .int 0, .int 0])), ((xw 2), .inl (xJ, 64, .inr (.inl (fun _ => 0)))), ((xq 0), .inl (xP, 60, .inr (.inr (.inr (.inr (fun _ => none)))))), ((xq 1), .inl (xO, 5, .inr (.inr (.inr (.inr (fun _ => none)))))), ((xq 3), .inl (xC, 3, .inl xsg)), ((xq 4), .inl (xI, 3, .inl xsf)), (m0, .inr (1, pv_m 0 mq)), ((mq 0), .inl (mI, 60, .inl (fun _ => 0))), ((mq 1), .inl (mT, 60, .inr (.inr (.inr (.inr (fun _ => none)))))), ((mq 2), .inl (mI2, 5, .inl (fun _ => 0))), ((mq 9), .inl (mC, 3, .inl msg)), ((mq 10), .inl (mI3, 3, .inl msf)), (o0, .inl (oL, 1, .inr (.inl (fun _ => 0))))]) (hS : va_S A s.heap H locs) {ls : Array Slot} (hl : lv_has ls 9 [(0, .ref b), (1, .ref x0), (2, .ref m0), (3, .ref o0), (4, .ref d0), (5, .int 0)]) : W p l e room_1 s m #[Value.ref b] below meth c H locs 397 653821 (lw_Z below #[Value.ref b] s) (F0 m 693 ls []) := by
  obtain ⟨hx, hb, hr, hml, hown, hts0, hX, hbl, hlocks, hgv⟩ := C0
  have hts : ∀ w ∈ pv_W, w.before #[Value.ref b] s = true := fun w h => hts0 w (List.mem_filter.mp h).1
  have hg := fun {w : Cond} (h : w ∈ lw_tbl) (g : goodWord w = true) => hts w (pv_in h g)
  have hP : va_P D pv_cl [(x0, .inr (0, [.ref (xq 0), .int 0, .int 108, .ref (xq 1), .int 0, .ref (xq 2), .int 0, .ref (xq 3), .ref (xq 4), .int 1, .ref (xq 5), .ref (xq 6), .ref (xq 7), .ref (xq 8), .ref (xq 9)])), (m0, .inr (1, pv_m 0 mq))] _ := hP.sub [0, 7] rfl
  have hD : va_D A [(x0, .inr (0, [.ref (xq 0), .int 0, .int 108, .ref (xq 1), .int 0, .ref (xq 2), .int 0, .ref (xq 3), .ref (xq 4), .int 1, .ref (xq 5), .ref (xq 6), .ref (xq 7), .ref (xq 8), .ref (xq 9)])), (m0, .inr (1, pv_m 0 mq))] := hD.sub [0, 7] (by decide) rfl
  have hK : va_K D pv_cl [] s := hK.sub [] rfl
  refine lv_aload_n hx hb dL_law_693 rfl (lv_at hl 1 rfl) ?_
  refine lv_aload_n hx hb dL_law_694 rfl (lv_at hl 0 rfl) ?_
  refine lv_iload hx hb dL_law_695 (lv_at hl 5 rfl) ?_
  refine lv_iconst (v := 1) hx hb dL_law_697 (by decide) ?_
  refine lv_iadd hx hb dL_law_698 ?_
  refine pv_setI 1 (by decide) ?_
  refine va_sld hx hb hX hbl hbA hS (by unfold vp_in; decide) dL_law_699 ?_
  refine pv_setI (xs 1) rfl ?_
  refine lv_aload_n hx hb dL_law_700 rfl (lv_at hl 3 rfl) ?_
  have hF := pv_new hA hS.1
  refine va_calli (vx_runSW (As := [.ref x0, .int (xs 1), .ref o0]) (rest := []) ⟨hx, hb, hml, hown, hts⟩ (c_L_ground l hfl D _ x0 xq (xs 1) o0) (vx_cwSW 3 hts (pv_gSW w6_6 w6_7 w1_0 w6_8) rfl rfl rfl (by decide +kernel) ⟨Nat.le_of_ble_eq_true rfl, Nat.le_of_ble_eq_true rfl⟩) (pv_ps hE hS hF (hP.sub [0] rfl) (hK.sub [] rfl) (hD.sub [0] (by decide) rfl)) rfl rfl hl.1 rfl (lv_room (Nat.le_of_ble_eq_true rfl)) dL_law_701 ⟨Nat.le_of_ble_eq_true rfl, Nat.le_of_ble_eq_true rfl⟩) hS (fun q _ h => hF q h) hF (fun r_0 u t H1 locs1 ht hvm hw hB hz1 hk1 hS => ?_)
  refine W.widen (k := 398) (n := 653827) (Nat.le_of_ble_eq_true rfl) (Nat.le_of_ble_eq_true rfl) ?_
  have hP := pv_keep hP rfl hk1
  subst hw
  refine lv_istore (lv' := [(6, .int 1), (0, .ref b), (1, .ref x0), (2, .ref m0), (3, .ref o0), (4, .ref d0), (5, .int 0)]) hx hb dL_law_704 hl (by decide) rfl (fun ls hl => ?_)
  refine lv_aload_n hx hb dL_law_706 rfl (lv_at hl 3 rfl) ?_
  refine lv_aload_n hx hb dL_law_707 rfl (lv_at hl 1 rfl) ?_
  refine pv_pc 708 rfl ?_
  refine lv_iload hx hb dL_law_708 (lv_at hl 6 rfl) ?_
  refine lv_iconst (v := 1) hx hb dL_law_710 (by decide) ?_
  refine lv_iadd hx hb dL_law_711 ?_
  refine pv_setI 1 (by decide) ?_
  refine va_sld hx hb hX hbl hbA hS (by unfold vp_in; decide) dL_law_712 ?_
  refine pv_setI (xs 1) rfl ?_
  have hF := va_free (wc := [(m0, .inr (1, pv_m 0 mq))]) hD hS hA [1] rfl
  refine va_calli (va_runV (As := [.int (xs 1)]) (rest := []) ⟨hx, hb, hml, hown, hts⟩ (c_X13_ground l hfl D _ m0 mq (xs 1)) (cwV 1 hts (pv_gV w9_226 w9_227 w9_228 w1_10 w9_229) rfl rfl rfl (by decide +kernel) ⟨Nat.le_of_ble_eq_true rfl, Nat.le_of_ble_eq_true rfl⟩) (pv_pV hE hS hF (hP.sub [1] rfl) (hK.sub [] rfl) (hD.sub [1] (by decide) rfl) (va_recv (ci := 1) (q0 := 1) hK hP rfl rfl)) rfl rfl hl.1 rfl (lv_room (Nat.le_of_ble_eq_true rfl)) dL_law_713 ⟨Nat.le_of_ble_eq_true rfl, Nat.le_of_ble_eq_true rfl⟩) hS (fun q _ h => hF q h) hF (fun r_1 u t H1 locs1 ht hvm hw hB hz1 hk1 hS => ?_)
  refine W.widen (k := 398) (n := 653827) (Nat.le_of_ble_eq_true rfl) (Nat.le_of_ble_eq_true rfl) ?_
  subst hw
  obtain ⟨fs_3, hf_4, hP1, hK1, hD1⟩ := hB
  rw [ht] at hP1
  have hK1 := va_K.moved hvm.symm hK1
  obtain ⟨hP, hD⟩ := va_join (wr := [(x0, .inr (0, [.ref (xq 0), .int 0, .int 108, .ref (xq 1), .int 0, .ref (xq 2), .int 0, .ref (xq 3), .ref (xq 4), .int 1, .ref (xq 5), .ref (xq 6), .ref (xq 7), .ref (xq 8), .ref (xq 9)]))]) (w1 := [(m0, .inr (1, fs_3))]) hP hD [1] [0] rfl rfl (by decide) (by decide) hk1 hF hP1 hD1
  have hP : va_P D pv_cl [(x0, .inr (0, [.ref (xq 0), .int 0, .int 108, .ref (xq 1), .int 0, .ref (xq 2), .int 0, .ref (xq 3), .ref (xq 4), .int 1, .ref (xq 5), .ref (xq 6), .ref (xq 7), .ref (xq 8), .ref (xq 9)])), (m0, .inr (1, fs_3))] _ := hP
  have hD : va_D A [(x0, .inr (0, [.ref (xq 0), .int 0, .int 108, .ref (xq 1), .int 0, .ref (xq 2), .int 0, .ref (xq 3), .ref (xq 4), .int 1, .ref (xq 5), .ref (xq 6), .ref (xq 7), .ref (xq 8), .ref (xq 9)])), (m0, .inr (1, fs_3))] := hD
  refine lv_istore (lv' := [(7, .int r_1), (6, .int 1), (0, .ref b), (1, .ref x0), (2, .ref m0), (3, .ref o0), (4, .ref d0), (5, .int 0)]) hx hb dL_law_716 hl (by decide) rfl (fun ls hl => ?_)
  refine lv_aload_n hx hb dL_law_718 rfl (lv_at hl 4 rfl) ?_
  have hF := pv_new hA hS.1
  refine va_calli (va_runV (As := []) (rest := []) ⟨hx, hb, hml, hown, hts⟩ (c_X13_thrown l hfl D _ m0 fs_3 1 hf_4) (cwV 0 hts (pv_gV w9_102 w9_103 w9_104 w1_10 w9_105) rfl rfl rfl (by decide +kernel) ⟨Nat.le_of_ble_eq_true rfl, Nat.le_of_ble_eq_true rfl⟩) (pv_pV hE hS hF (hP.sub [1] rfl) (hK.sub [] rfl) (hD.sub [1] (by decide) rfl) (va_recv (ci := 1) (q0 := 1) hK hP rfl rfl)) rfl rfl hl.1 rfl (lv_room (Nat.le_of_ble_eq_true rfl)) dL_law_719 ⟨Nat.le_of_ble_eq_true rfl, Nat.le_of_ble_eq_true rfl⟩) hS (fun q _ h => hF q h) hF (fun r_4 u t H1 locs1 ht hvm hw hB hz1 hk1 hS => ?_)
  refine W.widen (k := 398) (n := 653827) (Nat.le_of_ble_eq_true rfl) (Nat.le_of_ble_eq_true rfl) ?_
  have hP := pv_keep hP rfl hk1
  subst hw
  refine lv_iload hx hb dL_law_722 (lv_at hl 1 rfl) ?_
  refine lv_icmp_eq (tgt := 729) hx hb dL_law_724 (by decide) (fun _ => ?_) (fun c_6 => absurd (by decide) c_6)
  refine lv_iload hx hb dL_law_729 (lv_at hl 1 rfl) ?_
  refine lv_if_ne (tgt := 746) hx hb dL_law_731 (by decide) (fun _ => ?_) (fun c_7 => absurd c_7 (by decide))
  refine pv_pc 746 rfl ?_
  refine lv_goto (tgt := 3721) hx hb dL_law_746 (by decide) ?_
  refine lv_iinc (v := 7) (lv' := [(5, .int 7), (7, .int r_1), (6, .int 1), (0, .ref b), (1, .ref x0), (2, .ref m0), (3, .ref o0), (4, .ref d0)]) hx hb dL_law_3721 hl (k := 7) rfl (by decide) (by decide) rfl (fun ls hl => ?_)
  refine lv_goto (tgt := 28) hx hb dL_law_3724 (by decide) ?_
  refine lv_iload hx hb dL_law_28 (lv_at hl 0 rfl) ?_
  refine lv_aload_n hx hb dL_law_30 rfl (lv_at hl 3 rfl) ?_
  refine va_slen hx hb hX hbl hbA hS dL_law_31 ?_
  refine pv_setI 7 rfl ?_
  refine lv_bipush (v := 7) hx hb dL_law_32 (by decide) ?_
  refine lv_isub hx hb dL_law_34 ?_
  refine pv_setI 0 (by decide) ?_
  refine lv_icmp_gt (tgt := 3727) hx hb dL_law_35 (by decide) (fun _ => ?_) (fun c_8 => absurd (by decide) c_8)
  refine lv_iconst (v := 1) hx hb dL_law_3727 (by decide) ?_
  refine va_forget (fun q hq => hAf _ (hS.2.2 q hq)) ?_
  refine W.widen (k := 600006) (n := 7302064) (Nat.le_of_ble_eq_true rfl) (Nat.le_of_ble_eq_true rfl) ?_
  exact lw_ret (d0 := s.drawn) (Drawn.sameBut.refl s.drawn lw_cs) hx hb hr hlocks dL_law_3728

theorem dL_law_749 : decode cL_law 749 = .ok (.aload_n 1, 1) := by decide +kernel
theorem dL_law_750 : decode cL_law 750 = .ok (.aload_n 0, 1) := by decide +kernel
theorem dL_law_751 : decode cL_law 751 = .ok (.iload 5, 2) := by decide +kernel
theorem dL_law_753 : decode cL_law 753 = .ok (.iconst 1, 1) := by decide +kernel
theorem dL_law_754 : decode cL_law 754 = .ok (.iadd, 1) := by decide +kernel
theorem dL_law_755 : decode cL_law 755 = .ok (.iaload, 1) := by decide +kernel
theorem dL_law_756 : decode cL_law 756 = .ok (.aload_n 3, 1) := by decide +kernel
theorem dL_law_757 : decode cL_law 757 = .ok (.invokestatic 225, 3) := by decide +kernel
theorem w6_13 : (Jvm.Cond.methodLink "PolyforgeLaw" (225 : Nat) ({ cls := "PolyforgeLaw", name := "terms", desc := "(LPolyforge;I[J)I" } : Jvm.MethodName)) ∈ lw_tbl := pv_t6 (pv_mg 13 rfl)
theorem w6_15 : (Jvm.Cond.codeWith ({ cls := "PolyforgeLaw", name := "terms", desc := "(LPolyforge;I[J)I" } : Jvm.MethodName) method_10_code (4 : Nat) (Option.some Jvm.ClassFile.FieldType.int) [((0 : Nat), (9 : Nat), (12 : Nat), (23 : Nat))]) ∈ lw_tbl := pv_t6 (pv_mg 15 rfl)
theorem w6_14 : (Jvm.Cond.static ({ cls := "PolyforgeLaw", name := "terms", desc := "(LPolyforge;I[J)I" } : Jvm.MethodName)) ∈ lw_tbl := pv_t6 (pv_mg 14 rfl)
theorem dL_law_760 : decode cL_law 760 = .ok (.istore 6, 2) := by decide +kernel
theorem dL_law_762 : decode cL_law 762 = .ok (.aload_n 2, 1) := by decide +kernel
theorem dL_law_763 : decode cL_law 763 = .ok (.aload_n 0, 1) := by decide +kernel
theorem dL_law_764 : decode cL_law 764 = .ok (.iload 5, 2) := by decide +kernel
theorem dL_law_766 : decode cL_law 766 = .ok (.iconst 1, 1) := by decide +kernel
theorem dL_law_767 : decode cL_law 767 = .ok (.iadd, 1) := by decide +kernel
theorem dL_law_768 : decode cL_law 768 = .ok (.iaload, 1) := by decide +kernel
theorem dL_law_769 : decode cL_law 769 = .ok (.invokevirtual 227, 3) := by decide +kernel
theorem w9_230 : (Jvm.Cond.methodLink "PolyforgeLaw" (227 : Nat) ({ cls := "PolyforgeModel", name := "terms", desc := "(I)I" } : Jvm.MethodName)) ∈ lw_tbl := pv_t9 (pv_mg 230 rfl)
theorem w9_233 : (Jvm.Cond.code ({ cls := "PolyforgeModel", name := "terms", desc := "(I)I" } : Jvm.MethodName) prog_14_method_37_code (2 : Nat) (Option.some Jvm.ClassFile.FieldType.int)) ∈ lw_tbl := pv_t9 (pv_mg 233 rfl)
theorem w9_232 : (Jvm.Cond.selects "PolyforgeModel" ({ cls := "PolyforgeModel", name := "terms", desc := "(I)I" } : Jvm.MethodName) ({ cls := "PolyforgeModel", name := "terms", desc := "(I)I" } : Jvm.MethodName)) ∈ lw_tbl := pv_t9 (pv_mg 232 rfl)
theorem w9_231 : (Jvm.Cond.instanceMethod ({ cls := "PolyforgeModel", name := "terms", desc := "(I)I" } : Jvm.MethodName)) ∈ lw_tbl := pv_t9 (pv_mg 231 rfl)
theorem dL_law_772 : decode cL_law 772 = .ok (.istore 7, 2) := by decide +kernel
theorem dL_law_774 : decode cL_law 774 = .ok (.aload_n 2, 1) := by decide +kernel
theorem dL_law_775 : decode cL_law 775 = .ok (.invokevirtual 199, 3) := by decide +kernel
theorem dL_law_778 : decode cL_law 778 = .ok (.iload 6, 2) := by decide +kernel
theorem dL_law_780 : decode cL_law 780 = .ok (.if_icmp .eq 5, 3) := by decide +kernel
theorem dL_law_785 : decode cL_law 785 = .ok (.iload 6, 2) := by decide +kernel
theorem dL_law_787 : decode cL_law 787 = .ok (.ifCond .ne 15, 3) := by decide +kernel
theorem dL_law_802 : decode cL_law 802 = .ok (.goto 2919, 3) := by decide +kernel
set_option maxHeartbeats 4000000 in
set_option maxRecDepth 100000 in
/-- the law, call 8: terms -/
theorem law_case_8 {p : Program} {e : Env} {s : State} {m : MethodId} {below : List Frame} {meth : Method} {c : Code} (l : Launch) (hfl : l.stackTraces = false) {b : Nat} {xs : Nat → Int32} (C0 : lw_At p s m meth c b 7 xs) {D : va_G} {A : Nat → Prop} (hA : ∀ q : Nat, s.heap.size ≤ q → A q) (hAf : ∀ q : Nat, A q → s.heap.size ≤ q) (hbA : ¬ A b) (hE : pv_E A s s.heap) {x0 m0 o0 d0 : Nat} {xq xw mq : Nat → Nat} {xJ xP xO xC xI mI mI2 mI3 mT mC oL : ClassId} {xsg xsf msg msf : Nat → Int32} (hxsg : ∀ j, j < 3 → xsg j = 63) (hmsg : ∀ j, j < 3 → msg j = 63) {H : Heap} {locs : List Loc} (hK : va_K D pv_cl [(xJ, .long), (xP, .object "Polyforge$Polynomial"), (xO, .object "Polyforge$Ideal"), (xC, .char), (xI, .int), (mI, .int), (mT, .object "PolyforgeModel$Terms"), (mI2, .int), (mC, .char), (mI3, .int), (oL, .long)] s) (hP : va_P D pv_cl [(x0, .inr (0, [.ref (xq 0), .int 0, .int 108, .ref (xq 1), .int 0, .ref (xq 2), .int 0, .ref (xq 3), .ref (xq 4), .int 1, .ref (xq 5), .ref (xq 6), .ref (xq 7), .ref (xq 8), .ref (xq 9)])), ((xq 6), .inr (2, [.ref (xw 0), .ref (xw 1), .ref (xw 2), .ref (xw 3), .int 0, .int 0])), ((xw 2), .inl (xJ, 64, .inr (.inl (fun _ => 0)))), ((xq 0), .inl (xP, 60, .inr (.inr (.inr (.inr (fun _ => none)))))), ((xq 1), .inl (xO, 5, .inr (.inr (.inr (.inr (fun _ => none)))))), ((xq 3), .inl (xC, 3, .inl xsg)), ((xq 4), .inl (xI, 3, .inl xsf)), (m0, .inr (1, pv_m 0 mq)), ((mq 0), .inl (mI, 60, .inl (fun _ => 0))), ((mq 1), .inl (mT, 60, .inr (.inr (.inr (.inr (fun _ => none)))))), ((mq 2), .inl (mI2, 5, .inl (fun _ => 0))), ((mq 9), .inl (mC, 3, .inl msg)), ((mq 10), .inl (mI3, 3, .inl msf)), (o0, .inl (oL, 1, .inr (.inl (fun _ => 0))))] H) (hD : va_D A [(x0, .inr (0, [.ref (xq 0), .int 0, .int 108, .ref (xq 1), .int 0, .ref (xq 2), .int 0, .ref (xq 3), .ref (xq 4), .int 1, .ref (xq 5), .ref (xq 6), .ref (xq 7), .ref (xq 8), .ref (xq 9)])), ((xq 6), .inr (2, [.ref (xw 0), .ref (xw 1), .ref (xw 2), .ref (xw 3), .int 0, .int 0])), ((xw 2), .inl (xJ, 64, .inr (.inl (fun _ => 0)))), ((xq 0), .inl (xP, 60, .inr (.inr (.inr (.inr (fun _ => none)))))), ((xq 1), .inl (xO, 5, .inr (.inr (.inr (.inr (fun _ => none)))))), ((xq 3), .inl (xC, 3, .inl xsg)), ((xq 4), .inl (xI, 3, .inl xsf)), (m0, .inr (1, pv_m 0 mq)), ((mq 0), .inl (mI, 60, .inl (fun _ => 0))), ((mq 1), .inl (mT, 60, .inr (.inr (.inr (.inr (fun _ => none)))))), ((mq 2), .inl (mI2, 5, .inl (fun _ => 0))), ((mq 9), .inl (mC, 3, .inl msg)), ((mq 10), .inl (mI3, 3, .inl msf)), (o0, .inl (oL, 1, .inr (.inl (fun _ => 0))))]) (hS : va_S A s.heap H locs) {ls : Array Slot} (hl : lv_has ls 9 [(0, .ref b), (1, .ref x0), (2, .ref m0), (3, .ref o0), (4, .ref d0), (5, .int 0)]) : W p l e room_1 s m #[Value.ref b] below meth c H locs 397 653821 (lw_Z below #[Value.ref b] s) (F0 m 749 ls []) := by
  obtain ⟨hx, hb, hr, hml, hown, hts0, hX, hbl, hlocks, hgv⟩ := C0
  have hts : ∀ w ∈ pv_W, w.before #[Value.ref b] s = true := fun w h => hts0 w (List.mem_filter.mp h).1
  have hg := fun {w : Cond} (h : w ∈ lw_tbl) (g : goodWord w = true) => hts w (pv_in h g)
  have hP : va_P D pv_cl [(x0, .inr (0, [.ref (xq 0), .int 0, .int 108, .ref (xq 1), .int 0, .ref (xq 2), .int 0, .ref (xq 3), .ref (xq 4), .int 1, .ref (xq 5), .ref (xq 6), .ref (xq 7), .ref (xq 8), .ref (xq 9)])), (m0, .inr (1, pv_m 0 mq))] _ := hP.sub [0, 7] rfl
  have hD : va_D A [(x0, .inr (0, [.ref (xq 0), .int 0, .int 108, .ref (xq 1), .int 0, .ref (xq 2), .int 0, .ref (xq 3), .ref (xq 4), .int 1, .ref (xq 5), .ref (xq 6), .ref (xq 7), .ref (xq 8), .ref (xq 9)])), (m0, .inr (1, pv_m 0 mq))] := hD.sub [0, 7] (by decide) rfl
  have hK : va_K D pv_cl [] s := hK.sub [] rfl
  refine lv_aload_n hx hb dL_law_749 rfl (lv_at hl 1 rfl) ?_
  refine lv_aload_n hx hb dL_law_750 rfl (lv_at hl 0 rfl) ?_
  refine lv_iload hx hb dL_law_751 (lv_at hl 5 rfl) ?_
  refine lv_iconst (v := 1) hx hb dL_law_753 (by decide) ?_
  refine lv_iadd hx hb dL_law_754 ?_
  refine pv_setI 1 (by decide) ?_
  refine va_sld hx hb hX hbl hbA hS (by unfold vp_in; decide) dL_law_755 ?_
  refine pv_setI (xs 1) rfl ?_
  refine lv_aload_n hx hb dL_law_756 rfl (lv_at hl 3 rfl) ?_
  have hF := pv_new hA hS.1
  refine va_calli (vx_runSW (As := [.ref x0, .int (xs 1), .ref o0]) (rest := []) ⟨hx, hb, hml, hown, hts⟩ (c_L_terms l hfl D _ x0 xq (xs 1) o0) (vx_cwSW 3 hts (pv_gSW w6_13 w6_14 w1_0 w6_15) rfl rfl rfl (by decide +kernel) ⟨Nat.le_of_ble_eq_true rfl, Nat.le_of_ble_eq_true rfl⟩) (pv_ps hE hS hF (hP.sub [0] rfl) (hK.sub [] rfl) (hD.sub [0] (by decide) rfl)) rfl rfl hl.1 rfl (lv_room (Nat.le_of_ble_eq_true rfl)) dL_law_757 ⟨Nat.le_of_ble_eq_true rfl, Nat.le_of_ble_eq_true rfl⟩) hS (fun q _ h => hF q h) hF (fun r_0 u t H1 locs1 ht hvm hw hB hz1 hk1 hS => ?_)
  refine W.widen (k := 398) (n := 653827) (Nat.le_of_ble_eq_true rfl) (Nat.le_of_ble_eq_true rfl) ?_
  have hP := pv_keep hP rfl hk1
  subst hw
  refine lv_istore (lv' := [(6, .int 1), (0, .ref b), (1, .ref x0), (2, .ref m0), (3, .ref o0), (4, .ref d0), (5, .int 0)]) hx hb dL_law_760 hl (by decide) rfl (fun ls hl => ?_)
  refine lv_aload_n hx hb dL_law_762 rfl (lv_at hl 3 rfl) ?_
  refine lv_aload_n hx hb dL_law_763 rfl (lv_at hl 1 rfl) ?_
  refine pv_pc 764 rfl ?_
  refine lv_iload hx hb dL_law_764 (lv_at hl 6 rfl) ?_
  refine lv_iconst (v := 1) hx hb dL_law_766 (by decide) ?_
  refine lv_iadd hx hb dL_law_767 ?_
  refine pv_setI 1 (by decide) ?_
  refine va_sld hx hb hX hbl hbA hS (by unfold vp_in; decide) dL_law_768 ?_
  refine pv_setI (xs 1) rfl ?_
  have hF := va_free (wc := [(m0, .inr (1, pv_m 0 mq))]) hD hS hA [1] rfl
  refine va_calli (va_runV (As := [.int (xs 1)]) (rest := []) ⟨hx, hb, hml, hown, hts⟩ (c_X13_terms l hfl D _ m0 mq (xs 1)) (cwV 1 hts (pv_gV w9_230 w9_231 w9_232 w1_10 w9_233) rfl rfl rfl (by decide +kernel) ⟨Nat.le_of_ble_eq_true rfl, Nat.le_of_ble_eq_true rfl⟩) (pv_pV hE hS hF (hP.sub [1] rfl) (hK.sub [] rfl) (hD.sub [1] (by decide) rfl) (va_recv (ci := 1) (q0 := 1) hK hP rfl rfl)) rfl rfl hl.1 rfl (lv_room (Nat.le_of_ble_eq_true rfl)) dL_law_769 ⟨Nat.le_of_ble_eq_true rfl, Nat.le_of_ble_eq_true rfl⟩) hS (fun q _ h => hF q h) hF (fun r_1 u t H1 locs1 ht hvm hw hB hz1 hk1 hS => ?_)
  refine W.widen (k := 398) (n := 653827) (Nat.le_of_ble_eq_true rfl) (Nat.le_of_ble_eq_true rfl) ?_
  subst hw
  obtain ⟨fs_3, hf_4, hP1, hK1, hD1⟩ := hB
  rw [ht] at hP1
  have hK1 := va_K.moved hvm.symm hK1
  obtain ⟨hP, hD⟩ := va_join (wr := [(x0, .inr (0, [.ref (xq 0), .int 0, .int 108, .ref (xq 1), .int 0, .ref (xq 2), .int 0, .ref (xq 3), .ref (xq 4), .int 1, .ref (xq 5), .ref (xq 6), .ref (xq 7), .ref (xq 8), .ref (xq 9)]))]) (w1 := [(m0, .inr (1, fs_3))]) hP hD [1] [0] rfl rfl (by decide) (by decide) hk1 hF hP1 hD1
  have hP : va_P D pv_cl [(x0, .inr (0, [.ref (xq 0), .int 0, .int 108, .ref (xq 1), .int 0, .ref (xq 2), .int 0, .ref (xq 3), .ref (xq 4), .int 1, .ref (xq 5), .ref (xq 6), .ref (xq 7), .ref (xq 8), .ref (xq 9)])), (m0, .inr (1, fs_3))] _ := hP
  have hD : va_D A [(x0, .inr (0, [.ref (xq 0), .int 0, .int 108, .ref (xq 1), .int 0, .ref (xq 2), .int 0, .ref (xq 3), .ref (xq 4), .int 1, .ref (xq 5), .ref (xq 6), .ref (xq 7), .ref (xq 8), .ref (xq 9)])), (m0, .inr (1, fs_3))] := hD
  refine lv_istore (lv' := [(7, .int r_1), (6, .int 1), (0, .ref b), (1, .ref x0), (2, .ref m0), (3, .ref o0), (4, .ref d0), (5, .int 0)]) hx hb dL_law_772 hl (by decide) rfl (fun ls hl => ?_)
  refine lv_aload_n hx hb dL_law_774 rfl (lv_at hl 4 rfl) ?_
  have hF := pv_new hA hS.1
  refine va_calli (va_runV (As := []) (rest := []) ⟨hx, hb, hml, hown, hts⟩ (c_X13_thrown l hfl D _ m0 fs_3 1 hf_4) (cwV 0 hts (pv_gV w9_102 w9_103 w9_104 w1_10 w9_105) rfl rfl rfl (by decide +kernel) ⟨Nat.le_of_ble_eq_true rfl, Nat.le_of_ble_eq_true rfl⟩) (pv_pV hE hS hF (hP.sub [1] rfl) (hK.sub [] rfl) (hD.sub [1] (by decide) rfl) (va_recv (ci := 1) (q0 := 1) hK hP rfl rfl)) rfl rfl hl.1 rfl (lv_room (Nat.le_of_ble_eq_true rfl)) dL_law_775 ⟨Nat.le_of_ble_eq_true rfl, Nat.le_of_ble_eq_true rfl⟩) hS (fun q _ h => hF q h) hF (fun r_4 u t H1 locs1 ht hvm hw hB hz1 hk1 hS => ?_)
  refine W.widen (k := 398) (n := 653827) (Nat.le_of_ble_eq_true rfl) (Nat.le_of_ble_eq_true rfl) ?_
  have hP := pv_keep hP rfl hk1
  subst hw
  refine lv_iload hx hb dL_law_778 (lv_at hl 1 rfl) ?_
  refine lv_icmp_eq (tgt := 785) hx hb dL_law_780 (by decide) (fun _ => ?_) (fun c_6 => absurd (by decide) c_6)
  refine lv_iload hx hb dL_law_785 (lv_at hl 1 rfl) ?_
  refine lv_if_ne (tgt := 802) hx hb dL_law_787 (by decide) (fun _ => ?_) (fun c_7 => absurd c_7 (by decide))
  refine pv_pc 802 rfl ?_
  refine lv_goto (tgt := 3721) hx hb dL_law_802 (by decide) ?_
  refine lv_iinc (v := 7) (lv' := [(5, .int 7), (7, .int r_1), (6, .int 1), (0, .ref b), (1, .ref x0), (2, .ref m0), (3, .ref o0), (4, .ref d0)]) hx hb dL_law_3721 hl (k := 7) rfl (by decide) (by decide) rfl (fun ls hl => ?_)
  refine lv_goto (tgt := 28) hx hb dL_law_3724 (by decide) ?_
  refine lv_iload hx hb dL_law_28 (lv_at hl 0 rfl) ?_
  refine lv_aload_n hx hb dL_law_30 rfl (lv_at hl 3 rfl) ?_
  refine va_slen hx hb hX hbl hbA hS dL_law_31 ?_
  refine pv_setI 7 rfl ?_
  refine lv_bipush (v := 7) hx hb dL_law_32 (by decide) ?_
  refine lv_isub hx hb dL_law_34 ?_
  refine pv_setI 0 (by decide) ?_
  refine lv_icmp_gt (tgt := 3727) hx hb dL_law_35 (by decide) (fun _ => ?_) (fun c_8 => absurd (by decide) c_8)
  refine lv_iconst (v := 1) hx hb dL_law_3727 (by decide) ?_
  refine va_forget (fun q hq => hAf _ (hS.2.2 q hq)) ?_
  refine W.widen (k := 600006) (n := 7302064) (Nat.le_of_ble_eq_true rfl) (Nat.le_of_ble_eq_true rfl) ?_
  exact lw_ret (d0 := s.drawn) (Drawn.sameBut.refl s.drawn lw_cs) hx hb hr hlocks dL_law_3728

theorem dL_law_805 : decode cL_law 805 = .ok (.aload_n 1, 1) := by decide +kernel
theorem dL_law_806 : decode cL_law 806 = .ok (.aload_n 0, 1) := by decide +kernel
theorem dL_law_807 : decode cL_law 807 = .ok (.iload 5, 2) := by decide +kernel
theorem dL_law_809 : decode cL_law 809 = .ok (.iconst 1, 1) := by decide +kernel
theorem dL_law_810 : decode cL_law 810 = .ok (.iadd, 1) := by decide +kernel
theorem dL_law_811 : decode cL_law 811 = .ok (.iaload, 1) := by decide +kernel
theorem dL_law_812 : decode cL_law 812 = .ok (.aload_n 3, 1) := by decide +kernel
theorem dL_law_813 : decode cL_law 813 = .ok (.invokestatic 228, 3) := by decide +kernel
theorem w6_20 : (Jvm.Cond.methodLink "PolyforgeLaw" (228 : Nat) ({ cls := "PolyforgeLaw", name := "degree", desc := "(LPolyforge;I[J)I" } : Jvm.MethodName)) ∈ lw_tbl := pv_t6 (pv_mg 20 rfl)
theorem w6_22 : (Jvm.Cond.codeWith ({ cls := "PolyforgeLaw", name := "degree", desc := "(LPolyforge;I[J)I" } : Jvm.MethodName) method_11_code (4 : Nat) (Option.some Jvm.ClassFile.FieldType.int) [((0 : Nat), (9 : Nat), (12 : Nat), (23 : Nat))]) ∈ lw_tbl := pv_t6 (pv_mg 22 rfl)
theorem w6_21 : (Jvm.Cond.static ({ cls := "PolyforgeLaw", name := "degree", desc := "(LPolyforge;I[J)I" } : Jvm.MethodName)) ∈ lw_tbl := pv_t6 (pv_mg 21 rfl)
theorem dL_law_816 : decode cL_law 816 = .ok (.istore 6, 2) := by decide +kernel
theorem dL_law_818 : decode cL_law 818 = .ok (.aload_n 2, 1) := by decide +kernel
theorem dL_law_819 : decode cL_law 819 = .ok (.aload_n 0, 1) := by decide +kernel
theorem dL_law_820 : decode cL_law 820 = .ok (.iload 5, 2) := by decide +kernel
theorem dL_law_822 : decode cL_law 822 = .ok (.iconst 1, 1) := by decide +kernel
theorem dL_law_823 : decode cL_law 823 = .ok (.iadd, 1) := by decide +kernel
theorem dL_law_824 : decode cL_law 824 = .ok (.iaload, 1) := by decide +kernel
theorem dL_law_825 : decode cL_law 825 = .ok (.invokevirtual 230, 3) := by decide +kernel
theorem w9_234 : (Jvm.Cond.methodLink "PolyforgeLaw" (230 : Nat) ({ cls := "PolyforgeModel", name := "degree", desc := "(I)I" } : Jvm.MethodName)) ∈ lw_tbl := pv_t9 (pv_mg 234 rfl)
theorem w9_237 : (Jvm.Cond.code ({ cls := "PolyforgeModel", name := "degree", desc := "(I)I" } : Jvm.MethodName) prog_14_method_38_code (4 : Nat) (Option.some Jvm.ClassFile.FieldType.int)) ∈ lw_tbl := pv_t9 (pv_mg 237 rfl)
theorem w9_236 : (Jvm.Cond.selects "PolyforgeModel" ({ cls := "PolyforgeModel", name := "degree", desc := "(I)I" } : Jvm.MethodName) ({ cls := "PolyforgeModel", name := "degree", desc := "(I)I" } : Jvm.MethodName)) ∈ lw_tbl := pv_t9 (pv_mg 236 rfl)
theorem w9_235 : (Jvm.Cond.instanceMethod ({ cls := "PolyforgeModel", name := "degree", desc := "(I)I" } : Jvm.MethodName)) ∈ lw_tbl := pv_t9 (pv_mg 235 rfl)
theorem dL_law_828 : decode cL_law 828 = .ok (.istore 7, 2) := by decide +kernel
theorem dL_law_830 : decode cL_law 830 = .ok (.aload_n 2, 1) := by decide +kernel
theorem dL_law_831 : decode cL_law 831 = .ok (.invokevirtual 199, 3) := by decide +kernel
theorem dL_law_834 : decode cL_law 834 = .ok (.iload 6, 2) := by decide +kernel
theorem dL_law_836 : decode cL_law 836 = .ok (.if_icmp .eq 5, 3) := by decide +kernel
theorem dL_law_841 : decode cL_law 841 = .ok (.iload 6, 2) := by decide +kernel
theorem dL_law_843 : decode cL_law 843 = .ok (.ifCond .ne 15, 3) := by decide +kernel
theorem dL_law_858 : decode cL_law 858 = .ok (.goto 2863, 3) := by decide +kernel
set_option maxHeartbeats 4000000 in
set_option maxRecDepth 100000 in
/-- the law, call 9: degree -/
theorem law_case_9 {p : Program} {e : Env} {s : State} {m : MethodId} {below : List Frame} {meth : Method} {c : Code} (l : Launch) (hfl : l.stackTraces = false) {b : Nat} {xs : Nat → Int32} (C0 : lw_At p s m meth c b 7 xs) {D : va_G} {A : Nat → Prop} (hA : ∀ q : Nat, s.heap.size ≤ q → A q) (hAf : ∀ q : Nat, A q → s.heap.size ≤ q) (hbA : ¬ A b) (hE : pv_E A s s.heap) {x0 m0 o0 d0 : Nat} {xq xw mq : Nat → Nat} {xJ xP xO xC xI mI mI2 mI3 mT mC oL : ClassId} {xsg xsf msg msf : Nat → Int32} (hxsg : ∀ j, j < 3 → xsg j = 63) (hmsg : ∀ j, j < 3 → msg j = 63) {H : Heap} {locs : List Loc} (hK : va_K D pv_cl [(xJ, .long), (xP, .object "Polyforge$Polynomial"), (xO, .object "Polyforge$Ideal"), (xC, .char), (xI, .int), (mI, .int), (mT, .object "PolyforgeModel$Terms"), (mI2, .int), (mC, .char), (mI3, .int), (oL, .long)] s) (hP : va_P D pv_cl [(x0, .inr (0, [.ref (xq 0), .int 0, .int 108, .ref (xq 1), .int 0, .ref (xq 2), .int 0, .ref (xq 3), .ref (xq 4), .int 1, .ref (xq 5), .ref (xq 6), .ref (xq 7), .ref (xq 8), .ref (xq 9)])), ((xq 6), .inr (2, [.ref (xw 0), .ref (xw 1), .ref (xw 2), .ref (xw 3), .int 0, .int 0])), ((xw 2), .inl (xJ, 64, .inr (.inl (fun _ => 0)))), ((xq 0), .inl (xP, 60, .inr (.inr (.inr (.inr (fun _ => none)))))), ((xq 1), .inl (xO, 5, .inr (.inr (.inr (.inr (fun _ => none)))))), ((xq 3), .inl (xC, 3, .inl xsg)), ((xq 4), .inl (xI, 3, .inl xsf)), (m0, .inr (1, pv_m 0 mq)), ((mq 0), .inl (mI, 60, .inl (fun _ => 0))), ((mq 1), .inl (mT, 60, .inr (.inr (.inr (.inr (fun _ => none)))))), ((mq 2), .inl (mI2, 5, .inl (fun _ => 0))), ((mq 9), .inl (mC, 3, .inl msg)), ((mq 10), .inl (mI3, 3, .inl msf)), (o0, .inl (oL, 1, .inr (.inl (fun _ => 0))))] H) (hD : va_D A [(x0, .inr (0, [.ref (xq 0), .int 0, .int 108, .ref (xq 1), .int 0, .ref (xq 2), .int 0, .ref (xq 3), .ref (xq 4), .int 1, .ref (xq 5), .ref (xq 6), .ref (xq 7), .ref (xq 8), .ref (xq 9)])), ((xq 6), .inr (2, [.ref (xw 0), .ref (xw 1), .ref (xw 2), .ref (xw 3), .int 0, .int 0])), ((xw 2), .inl (xJ, 64, .inr (.inl (fun _ => 0)))), ((xq 0), .inl (xP, 60, .inr (.inr (.inr (.inr (fun _ => none)))))), ((xq 1), .inl (xO, 5, .inr (.inr (.inr (.inr (fun _ => none)))))), ((xq 3), .inl (xC, 3, .inl xsg)), ((xq 4), .inl (xI, 3, .inl xsf)), (m0, .inr (1, pv_m 0 mq)), ((mq 0), .inl (mI, 60, .inl (fun _ => 0))), ((mq 1), .inl (mT, 60, .inr (.inr (.inr (.inr (fun _ => none)))))), ((mq 2), .inl (mI2, 5, .inl (fun _ => 0))), ((mq 9), .inl (mC, 3, .inl msg)), ((mq 10), .inl (mI3, 3, .inl msf)), (o0, .inl (oL, 1, .inr (.inl (fun _ => 0))))]) (hS : va_S A s.heap H locs) {ls : Array Slot} (hl : lv_has ls 9 [(0, .ref b), (1, .ref x0), (2, .ref m0), (3, .ref o0), (4, .ref d0), (5, .int 0)]) : W p l e room_1 s m #[Value.ref b] below meth c H locs 397 653821 (lw_Z below #[Value.ref b] s) (F0 m 805 ls []) := by
  obtain ⟨hx, hb, hr, hml, hown, hts0, hX, hbl, hlocks, hgv⟩ := C0
  have hts : ∀ w ∈ pv_W, w.before #[Value.ref b] s = true := fun w h => hts0 w (List.mem_filter.mp h).1
  have hg := fun {w : Cond} (h : w ∈ lw_tbl) (g : goodWord w = true) => hts w (pv_in h g)
  have hP : va_P D pv_cl [(x0, .inr (0, [.ref (xq 0), .int 0, .int 108, .ref (xq 1), .int 0, .ref (xq 2), .int 0, .ref (xq 3), .ref (xq 4), .int 1, .ref (xq 5), .ref (xq 6), .ref (xq 7), .ref (xq 8), .ref (xq 9)])), (m0, .inr (1, pv_m 0 mq))] _ := hP.sub [0, 7] rfl
  have hD : va_D A [(x0, .inr (0, [.ref (xq 0), .int 0, .int 108, .ref (xq 1), .int 0, .ref (xq 2), .int 0, .ref (xq 3), .ref (xq 4), .int 1, .ref (xq 5), .ref (xq 6), .ref (xq 7), .ref (xq 8), .ref (xq 9)])), (m0, .inr (1, pv_m 0 mq))] := hD.sub [0, 7] (by decide) rfl
  have hK : va_K D pv_cl [] s := hK.sub [] rfl
  refine lv_aload_n hx hb dL_law_805 rfl (lv_at hl 1 rfl) ?_
  refine lv_aload_n hx hb dL_law_806 rfl (lv_at hl 0 rfl) ?_
  refine lv_iload hx hb dL_law_807 (lv_at hl 5 rfl) ?_
  refine lv_iconst (v := 1) hx hb dL_law_809 (by decide) ?_
  refine lv_iadd hx hb dL_law_810 ?_
  refine pv_setI 1 (by decide) ?_
  refine va_sld hx hb hX hbl hbA hS (by unfold vp_in; decide) dL_law_811 ?_
  refine pv_setI (xs 1) rfl ?_
  refine lv_aload_n hx hb dL_law_812 rfl (lv_at hl 3 rfl) ?_
  have hF := pv_new hA hS.1
  refine va_calli (vx_runSW (As := [.ref x0, .int (xs 1), .ref o0]) (rest := []) ⟨hx, hb, hml, hown, hts⟩ (c_L_degree l hfl D _ x0 xq (xs 1) o0) (vx_cwSW 3 hts (pv_gSW w6_20 w6_21 w1_0 w6_22) rfl rfl rfl (by decide +kernel) ⟨Nat.le_of_ble_eq_true rfl, Nat.le_of_ble_eq_true rfl⟩) (pv_ps hE hS hF (hP.sub [0] rfl) (hK.sub [] rfl) (hD.sub [0] (by decide) rfl)) rfl rfl hl.1 rfl (lv_room (Nat.le_of_ble_eq_true rfl)) dL_law_813 ⟨Nat.le_of_ble_eq_true rfl, Nat.le_of_ble_eq_true rfl⟩) hS (fun q _ h => hF q h) hF (fun r_0 u t H1 locs1 ht hvm hw hB hz1 hk1 hS => ?_)
  refine W.widen (k := 398) (n := 653827) (Nat.le_of_ble_eq_true rfl) (Nat.le_of_ble_eq_true rfl) ?_
  have hP := pv_keep hP rfl hk1
  subst hw
  refine lv_istore (lv' := [(6, .int 1), (0, .ref b), (1, .ref x0), (2, .ref m0), (3, .ref o0), (4, .ref d0), (5, .int 0)]) hx hb dL_law_816 hl (by decide) rfl (fun ls hl => ?_)
  refine lv_aload_n hx hb dL_law_818 rfl (lv_at hl 3 rfl) ?_
  refine lv_aload_n hx hb dL_law_819 rfl (lv_at hl 1 rfl) ?_
  refine pv_pc 820 rfl ?_
  refine lv_iload hx hb dL_law_820 (lv_at hl 6 rfl) ?_
  refine lv_iconst (v := 1) hx hb dL_law_822 (by decide) ?_
  refine lv_iadd hx hb dL_law_823 ?_
  refine pv_setI 1 (by decide) ?_
  refine va_sld hx hb hX hbl hbA hS (by unfold vp_in; decide) dL_law_824 ?_
  refine pv_setI (xs 1) rfl ?_
  have hF := va_free (wc := [(m0, .inr (1, pv_m 0 mq))]) hD hS hA [1] rfl
  refine va_calli (va_runV (As := [.int (xs 1)]) (rest := []) ⟨hx, hb, hml, hown, hts⟩ (c_X13_degree l hfl D _ m0 mq (xs 1)) (cwV 1 hts (pv_gV w9_234 w9_235 w9_236 w1_10 w9_237) rfl rfl rfl (by decide +kernel) ⟨Nat.le_of_ble_eq_true rfl, Nat.le_of_ble_eq_true rfl⟩) (pv_pV hE hS hF (hP.sub [1] rfl) (hK.sub [] rfl) (hD.sub [1] (by decide) rfl) (va_recv (ci := 1) (q0 := 1) hK hP rfl rfl)) rfl rfl hl.1 rfl (lv_room (Nat.le_of_ble_eq_true rfl)) dL_law_825 ⟨Nat.le_of_ble_eq_true rfl, Nat.le_of_ble_eq_true rfl⟩) hS (fun q _ h => hF q h) hF (fun r_1 u t H1 locs1 ht hvm hw hB hz1 hk1 hS => ?_)
  refine W.widen (k := 398) (n := 653827) (Nat.le_of_ble_eq_true rfl) (Nat.le_of_ble_eq_true rfl) ?_
  subst hw
  obtain ⟨fs_3, hf_4, hP1, hK1, hD1⟩ := hB
  rw [ht] at hP1
  have hK1 := va_K.moved hvm.symm hK1
  obtain ⟨hP, hD⟩ := va_join (wr := [(x0, .inr (0, [.ref (xq 0), .int 0, .int 108, .ref (xq 1), .int 0, .ref (xq 2), .int 0, .ref (xq 3), .ref (xq 4), .int 1, .ref (xq 5), .ref (xq 6), .ref (xq 7), .ref (xq 8), .ref (xq 9)]))]) (w1 := [(m0, .inr (1, fs_3))]) hP hD [1] [0] rfl rfl (by decide) (by decide) hk1 hF hP1 hD1
  have hP : va_P D pv_cl [(x0, .inr (0, [.ref (xq 0), .int 0, .int 108, .ref (xq 1), .int 0, .ref (xq 2), .int 0, .ref (xq 3), .ref (xq 4), .int 1, .ref (xq 5), .ref (xq 6), .ref (xq 7), .ref (xq 8), .ref (xq 9)])), (m0, .inr (1, fs_3))] _ := hP
  have hD : va_D A [(x0, .inr (0, [.ref (xq 0), .int 0, .int 108, .ref (xq 1), .int 0, .ref (xq 2), .int 0, .ref (xq 3), .ref (xq 4), .int 1, .ref (xq 5), .ref (xq 6), .ref (xq 7), .ref (xq 8), .ref (xq 9)])), (m0, .inr (1, fs_3))] := hD
  refine lv_istore (lv' := [(7, .int r_1), (6, .int 1), (0, .ref b), (1, .ref x0), (2, .ref m0), (3, .ref o0), (4, .ref d0), (5, .int 0)]) hx hb dL_law_828 hl (by decide) rfl (fun ls hl => ?_)
  refine lv_aload_n hx hb dL_law_830 rfl (lv_at hl 4 rfl) ?_
  have hF := pv_new hA hS.1
  refine va_calli (va_runV (As := []) (rest := []) ⟨hx, hb, hml, hown, hts⟩ (c_X13_thrown l hfl D _ m0 fs_3 1 hf_4) (cwV 0 hts (pv_gV w9_102 w9_103 w9_104 w1_10 w9_105) rfl rfl rfl (by decide +kernel) ⟨Nat.le_of_ble_eq_true rfl, Nat.le_of_ble_eq_true rfl⟩) (pv_pV hE hS hF (hP.sub [1] rfl) (hK.sub [] rfl) (hD.sub [1] (by decide) rfl) (va_recv (ci := 1) (q0 := 1) hK hP rfl rfl)) rfl rfl hl.1 rfl (lv_room (Nat.le_of_ble_eq_true rfl)) dL_law_831 ⟨Nat.le_of_ble_eq_true rfl, Nat.le_of_ble_eq_true rfl⟩) hS (fun q _ h => hF q h) hF (fun r_4 u t H1 locs1 ht hvm hw hB hz1 hk1 hS => ?_)
  refine W.widen (k := 398) (n := 653827) (Nat.le_of_ble_eq_true rfl) (Nat.le_of_ble_eq_true rfl) ?_
  have hP := pv_keep hP rfl hk1
  subst hw
  refine lv_iload hx hb dL_law_834 (lv_at hl 1 rfl) ?_
  refine lv_icmp_eq (tgt := 841) hx hb dL_law_836 (by decide) (fun _ => ?_) (fun c_6 => absurd (by decide) c_6)
  refine lv_iload hx hb dL_law_841 (lv_at hl 1 rfl) ?_
  refine lv_if_ne (tgt := 858) hx hb dL_law_843 (by decide) (fun _ => ?_) (fun c_7 => absurd c_7 (by decide))
  refine pv_pc 858 rfl ?_
  refine lv_goto (tgt := 3721) hx hb dL_law_858 (by decide) ?_
  refine lv_iinc (v := 7) (lv' := [(5, .int 7), (7, .int r_1), (6, .int 1), (0, .ref b), (1, .ref x0), (2, .ref m0), (3, .ref o0), (4, .ref d0)]) hx hb dL_law_3721 hl (k := 7) rfl (by decide) (by decide) rfl (fun ls hl => ?_)
  refine lv_goto (tgt := 28) hx hb dL_law_3724 (by decide) ?_
  refine lv_iload hx hb dL_law_28 (lv_at hl 0 rfl) ?_
  refine lv_aload_n hx hb dL_law_30 rfl (lv_at hl 3 rfl) ?_
  refine va_slen hx hb hX hbl hbA hS dL_law_31 ?_
  refine pv_setI 7 rfl ?_
  refine lv_bipush (v := 7) hx hb dL_law_32 (by decide) ?_
  refine lv_isub hx hb dL_law_34 ?_
  refine pv_setI 0 (by decide) ?_
  refine lv_icmp_gt (tgt := 3727) hx hb dL_law_35 (by decide) (fun _ => ?_) (fun c_8 => absurd (by decide) c_8)
  refine lv_iconst (v := 1) hx hb dL_law_3727 (by decide) ?_
  refine va_forget (fun q hq => hAf _ (hS.2.2 q hq)) ?_
  refine W.widen (k := 600006) (n := 7302064) (Nat.le_of_ble_eq_true rfl) (Nat.le_of_ble_eq_true rfl) ?_
  exact lw_ret (d0 := s.drawn) (Drawn.sameBut.refl s.drawn lw_cs) hx hb hr hlocks dL_law_3728

theorem dL_law_861 : decode cL_law 861 = .ok (.aload_n 1, 1) := by decide +kernel
theorem dL_law_862 : decode cL_law 862 = .ok (.aload_n 0, 1) := by decide +kernel
theorem dL_law_863 : decode cL_law 863 = .ok (.iload 5, 2) := by decide +kernel
theorem dL_law_865 : decode cL_law 865 = .ok (.iconst 1, 1) := by decide +kernel
theorem dL_law_866 : decode cL_law 866 = .ok (.iadd, 1) := by decide +kernel
theorem dL_law_867 : decode cL_law 867 = .ok (.iaload, 1) := by decide +kernel
theorem dL_law_868 : decode cL_law 868 = .ok (.aload_n 0, 1) := by decide +kernel
theorem dL_law_869 : decode cL_law 869 = .ok (.iload 5, 2) := by decide +kernel
theorem dL_law_871 : decode cL_law 871 = .ok (.iconst 2, 1) := by decide +kernel
theorem dL_law_872 : decode cL_law 872 = .ok (.iadd, 1) := by decide +kernel
theorem dL_law_873 : decode cL_law 873 = .ok (.iaload, 1) := by decide +kernel
theorem dL_law_874 : decode cL_law 874 = .ok (.aload_n 3, 1) := by decide +kernel
theorem dL_law_875 : decode cL_law 875 = .ok (.invokestatic 231, 3) := by decide +kernel
theorem w6_28 : (Jvm.Cond.methodLink "PolyforgeLaw" (231 : Nat) ({ cls := "PolyforgeLaw", name := "degreeIn", desc := "(LPolyforge;II[J)I" } : Jvm.MethodName)) ∈ lw_tbl := pv_t6 (pv_mg 28 rfl)
theorem w6_30 : (Jvm.Cond.codeWith ({ cls := "PolyforgeLaw", name := "degreeIn", desc := "(LPolyforge;II[J)I" } : Jvm.MethodName) method_12_code (5 : Nat) (Option.some Jvm.ClassFile.FieldType.int) [((0 : Nat), (10 : Nat), (13 : Nat), (23 : Nat)), ((0 : Nat), (10 : Nat), (17 : Nat), (13 : Nat))]) ∈ lw_tbl := pv_t6 (pv_mg 30 rfl)
theorem w6_29 : (Jvm.Cond.static ({ cls := "PolyforgeLaw", name := "degreeIn", desc := "(LPolyforge;II[J)I" } : Jvm.MethodName)) ∈ lw_tbl := pv_t6 (pv_mg 29 rfl)
theorem dL_law_878 : decode cL_law 878 = .ok (.istore 6, 2) := by decide +kernel
theorem dL_law_880 : decode cL_law 880 = .ok (.aload_n 2, 1) := by decide +kernel
theorem dL_law_881 : decode cL_law 881 = .ok (.aload_n 0, 1) := by decide +kernel
theorem dL_law_882 : decode cL_law 882 = .ok (.iload 5, 2) := by decide +kernel
theorem dL_law_884 : decode cL_law 884 = .ok (.iconst 1, 1) := by decide +kernel
theorem dL_law_885 : decode cL_law 885 = .ok (.iadd, 1) := by decide +kernel
theorem dL_law_886 : decode cL_law 886 = .ok (.iaload, 1) := by decide +kernel
theorem dL_law_887 : decode cL_law 887 = .ok (.aload_n 0, 1) := by decide +kernel
theorem dL_law_888 : decode cL_law 888 = .ok (.iload 5, 2) := by decide +kernel
theorem dL_law_890 : decode cL_law 890 = .ok (.iconst 2, 1) := by decide +kernel
theorem dL_law_891 : decode cL_law 891 = .ok (.iadd, 1) := by decide +kernel
theorem dL_law_892 : decode cL_law 892 = .ok (.iaload, 1) := by decide +kernel
theorem dL_law_893 : decode cL_law 893 = .ok (.invokevirtual 233, 3) := by decide +kernel
theorem w10_2 : (Jvm.Cond.methodLink "PolyforgeLaw" (233 : Nat) ({ cls := "PolyforgeModel", name := "degreeIn", desc := "(II)I" } : Jvm.MethodName)) ∈ lw_tbl := pv_t10 (pv_mg 2 rfl)
theorem w10_5 : (Jvm.Cond.code ({ cls := "PolyforgeModel", name := "degreeIn", desc := "(II)I" } : Jvm.MethodName) prog_14_method_39_code (5 : Nat) (Option.some Jvm.ClassFile.FieldType.int)) ∈ lw_tbl := pv_t10 (pv_mg 5 rfl)
theorem w10_4 : (Jvm.Cond.selects "PolyforgeModel" ({ cls := "PolyforgeModel", name := "degreeIn", desc := "(II)I" } : Jvm.MethodName) ({ cls := "PolyforgeModel", name := "degreeIn", desc := "(II)I" } : Jvm.MethodName)) ∈ lw_tbl := pv_t10 (pv_mg 4 rfl)
theorem w10_3 : (Jvm.Cond.instanceMethod ({ cls := "PolyforgeModel", name := "degreeIn", desc := "(II)I" } : Jvm.MethodName)) ∈ lw_tbl := pv_t10 (pv_mg 3 rfl)
theorem dL_law_896 : decode cL_law 896 = .ok (.istore 7, 2) := by decide +kernel
theorem dL_law_898 : decode cL_law 898 = .ok (.aload_n 2, 1) := by decide +kernel
theorem dL_law_899 : decode cL_law 899 = .ok (.invokevirtual 199, 3) := by decide +kernel
theorem dL_law_902 : decode cL_law 902 = .ok (.iload 6, 2) := by decide +kernel
theorem dL_law_904 : decode cL_law 904 = .ok (.if_icmp .eq 5, 3) := by decide +kernel
theorem dL_law_909 : decode cL_law 909 = .ok (.iload 6, 2) := by decide +kernel
theorem dL_law_911 : decode cL_law 911 = .ok (.ifCond .ne 15, 3) := by decide +kernel
theorem dL_law_926 : decode cL_law 926 = .ok (.goto 2795, 3) := by decide +kernel
set_option maxHeartbeats 4000000 in
set_option maxRecDepth 100000 in
/-- the law, call 10: degreeIn -/
theorem law_case_10 {p : Program} {e : Env} {s : State} {m : MethodId} {below : List Frame} {meth : Method} {c : Code} (l : Launch) (hfl : l.stackTraces = false) {b : Nat} {xs : Nat → Int32} (C0 : lw_At p s m meth c b 7 xs) {D : va_G} {A : Nat → Prop} (hA : ∀ q : Nat, s.heap.size ≤ q → A q) (hAf : ∀ q : Nat, A q → s.heap.size ≤ q) (hbA : ¬ A b) (hE : pv_E A s s.heap) {x0 m0 o0 d0 : Nat} {xq xw mq : Nat → Nat} {xJ xP xO xC xI mI mI2 mI3 mT mC oL : ClassId} {xsg xsf msg msf : Nat → Int32} (hxsg : ∀ j, j < 3 → xsg j = 63) (hmsg : ∀ j, j < 3 → msg j = 63) {H : Heap} {locs : List Loc} (hK : va_K D pv_cl [(xJ, .long), (xP, .object "Polyforge$Polynomial"), (xO, .object "Polyforge$Ideal"), (xC, .char), (xI, .int), (mI, .int), (mT, .object "PolyforgeModel$Terms"), (mI2, .int), (mC, .char), (mI3, .int), (oL, .long)] s) (hP : va_P D pv_cl [(x0, .inr (0, [.ref (xq 0), .int 0, .int 108, .ref (xq 1), .int 0, .ref (xq 2), .int 0, .ref (xq 3), .ref (xq 4), .int 1, .ref (xq 5), .ref (xq 6), .ref (xq 7), .ref (xq 8), .ref (xq 9)])), ((xq 6), .inr (2, [.ref (xw 0), .ref (xw 1), .ref (xw 2), .ref (xw 3), .int 0, .int 0])), ((xw 2), .inl (xJ, 64, .inr (.inl (fun _ => 0)))), ((xq 0), .inl (xP, 60, .inr (.inr (.inr (.inr (fun _ => none)))))), ((xq 1), .inl (xO, 5, .inr (.inr (.inr (.inr (fun _ => none)))))), ((xq 3), .inl (xC, 3, .inl xsg)), ((xq 4), .inl (xI, 3, .inl xsf)), (m0, .inr (1, pv_m 0 mq)), ((mq 0), .inl (mI, 60, .inl (fun _ => 0))), ((mq 1), .inl (mT, 60, .inr (.inr (.inr (.inr (fun _ => none)))))), ((mq 2), .inl (mI2, 5, .inl (fun _ => 0))), ((mq 9), .inl (mC, 3, .inl msg)), ((mq 10), .inl (mI3, 3, .inl msf)), (o0, .inl (oL, 1, .inr (.inl (fun _ => 0))))] H) (hD : va_D A [(x0, .inr (0, [.ref (xq 0), .int 0, .int 108, .ref (xq 1), .int 0, .ref (xq 2), .int 0, .ref (xq 3), .ref (xq 4), .int 1, .ref (xq 5), .ref (xq 6), .ref (xq 7), .ref (xq 8), .ref (xq 9)])), ((xq 6), .inr (2, [.ref (xw 0), .ref (xw 1), .ref (xw 2), .ref (xw 3), .int 0, .int 0])), ((xw 2), .inl (xJ, 64, .inr (.inl (fun _ => 0)))), ((xq 0), .inl (xP, 60, .inr (.inr (.inr (.inr (fun _ => none)))))), ((xq 1), .inl (xO, 5, .inr (.inr (.inr (.inr (fun _ => none)))))), ((xq 3), .inl (xC, 3, .inl xsg)), ((xq 4), .inl (xI, 3, .inl xsf)), (m0, .inr (1, pv_m 0 mq)), ((mq 0), .inl (mI, 60, .inl (fun _ => 0))), ((mq 1), .inl (mT, 60, .inr (.inr (.inr (.inr (fun _ => none)))))), ((mq 2), .inl (mI2, 5, .inl (fun _ => 0))), ((mq 9), .inl (mC, 3, .inl msg)), ((mq 10), .inl (mI3, 3, .inl msf)), (o0, .inl (oL, 1, .inr (.inl (fun _ => 0))))]) (hS : va_S A s.heap H locs) {ls : Array Slot} (hl : lv_has ls 9 [(0, .ref b), (1, .ref x0), (2, .ref m0), (3, .ref o0), (4, .ref d0), (5, .int 0)]) : W p l e room_1 s m #[Value.ref b] below meth c H locs 397 653821 (lw_Z below #[Value.ref b] s) (F0 m 861 ls []) := by
  obtain ⟨hx, hb, hr, hml, hown, hts0, hX, hbl, hlocks, hgv⟩ := C0
  have hts : ∀ w ∈ pv_W, w.before #[Value.ref b] s = true := fun w h => hts0 w (List.mem_filter.mp h).1
  have hg := fun {w : Cond} (h : w ∈ lw_tbl) (g : goodWord w = true) => hts w (pv_in h g)
  have hP : va_P D pv_cl [(x0, .inr (0, [.ref (xq 0), .int 0, .int 108, .ref (xq 1), .int 0, .ref (xq 2), .int 0, .ref (xq 3), .ref (xq 4), .int 1, .ref (xq 5), .ref (xq 6), .ref (xq 7), .ref (xq 8), .ref (xq 9)])), (m0, .inr (1, pv_m 0 mq))] _ := hP.sub [0, 7] rfl
  have hD : va_D A [(x0, .inr (0, [.ref (xq 0), .int 0, .int 108, .ref (xq 1), .int 0, .ref (xq 2), .int 0, .ref (xq 3), .ref (xq 4), .int 1, .ref (xq 5), .ref (xq 6), .ref (xq 7), .ref (xq 8), .ref (xq 9)])), (m0, .inr (1, pv_m 0 mq))] := hD.sub [0, 7] (by decide) rfl
  have hK : va_K D pv_cl [] s := hK.sub [] rfl
  refine lv_aload_n hx hb dL_law_861 rfl (lv_at hl 1 rfl) ?_
  refine lv_aload_n hx hb dL_law_862 rfl (lv_at hl 0 rfl) ?_
  refine lv_iload hx hb dL_law_863 (lv_at hl 5 rfl) ?_
  refine lv_iconst (v := 1) hx hb dL_law_865 (by decide) ?_
  refine lv_iadd hx hb dL_law_866 ?_
  refine pv_setI 1 (by decide) ?_
  refine va_sld hx hb hX hbl hbA hS (by unfold vp_in; decide) dL_law_867 ?_
  refine pv_setI (xs 1) rfl ?_
  refine lv_aload_n hx hb dL_law_868 rfl (lv_at hl 0 rfl) ?_
  refine lv_iload hx hb dL_law_869 (lv_at hl 5 rfl) ?_
  refine lv_iconst (v := 2) hx hb dL_law_871 (by decide) ?_
  refine lv_iadd hx hb dL_law_872 ?_
  refine pv_setI 2 (by decide) ?_
  refine va_sld hx hb hX hbl hbA hS (by unfold vp_in; decide) dL_law_873 ?_
  refine pv_setI (xs 2) rfl ?_
  refine pv_pc 874 rfl ?_
  refine lv_aload_n hx hb dL_law_874 rfl (lv_at hl 3 rfl) ?_
  have hF := pv_new hA hS.1
  refine va_calli (vx_runSW (As := [.ref x0, .int (xs 1), .int (xs 2), .ref o0]) (rest := []) ⟨hx, hb, hml, hown, hts⟩ (c_L_degreeIn l hfl D _ x0 xq (xs 1) (xs 2) o0) (vx_cwSW 4 hts (pv_gSW w6_28 w6_29 w1_0 w6_30) rfl rfl rfl (by decide +kernel) ⟨Nat.le_of_ble_eq_true rfl, Nat.le_of_ble_eq_true rfl⟩) (pv_ps hE hS hF (hP.sub [0] rfl) (hK.sub [] rfl) (hD.sub [0] (by decide) rfl)) rfl rfl hl.1 rfl (lv_room (Nat.le_of_ble_eq_true rfl)) dL_law_875 ⟨Nat.le_of_ble_eq_true rfl, Nat.le_of_ble_eq_true rfl⟩) hS (fun q _ h => hF q h) hF (fun r_0 u t H1 locs1 ht hvm hw hB hz1 hk1 hS => ?_)
  refine W.widen (k := 398) (n := 653827) (Nat.le_of_ble_eq_true rfl) (Nat.le_of_ble_eq_true rfl) ?_
  have hP := pv_keep hP rfl hk1
  subst hw
  refine lv_istore (lv' := [(6, .int 1), (0, .ref b), (1, .ref x0), (2, .ref m0), (3, .ref o0), (4, .ref d0), (5, .int 0)]) hx hb dL_law_878 hl (by decide) rfl (fun ls hl => ?_)
  refine lv_aload_n hx hb dL_law_880 rfl (lv_at hl 3 rfl) ?_
  refine lv_aload_n hx hb dL_law_881 rfl (lv_at hl 1 rfl) ?_
  refine lv_iload hx hb dL_law_882 (lv_at hl 6 rfl) ?_
  refine lv_iconst (v := 1) hx hb dL_law_884 (by decide) ?_
  refine lv_iadd hx hb dL_law_885 ?_
  refine pv_setI 1 (by decide) ?_
  refine va_sld hx hb hX hbl hbA hS (by unfold vp_in; decide) dL_law_886 ?_
  refine pv_setI (xs 1) rfl ?_
  refine lv_aload_n hx hb dL_law_887 rfl (lv_at hl 1 rfl) ?_
  refine lv_iload hx hb dL_law_888 (lv_at hl 6 rfl) ?_
  refine lv_iconst (v := 2) hx hb dL_law_890 (by decide) ?_
  refine pv_pc 891 rfl ?_
  refine lv_iadd hx hb dL_law_891 ?_
  refine pv_setI 2 (by decide) ?_
  refine va_sld hx hb hX hbl hbA hS (by unfold vp_in; decide) dL_law_892 ?_
  refine pv_setI (xs 2) rfl ?_
  have hF := va_free (wc := [(m0, .inr (1, pv_m 0 mq))]) hD hS hA [1] rfl
  refine va_calli (va_runV (As := [.int (xs 1), .int (xs 2)]) (rest := []) ⟨hx, hb, hml, hown, hts⟩ (c_X13_degreeIn l hfl D _ m0 mq (xs 1) (xs 2)) (cwV 2 hts (pv_gV w10_2 w10_3 w10_4 w1_10 w10_5) rfl rfl rfl (by decide +kernel) ⟨Nat.le_of_ble_eq_true rfl, Nat.le_of_ble_eq_true rfl⟩) (pv_pV hE hS hF (hP.sub [1] rfl) (hK.sub [] rfl) (hD.sub [1] (by decide) rfl) (va_recv (ci := 1) (q0 := 1) hK hP rfl rfl)) rfl rfl hl.1 rfl (lv_room (Nat.le_of_ble_eq_true rfl)) dL_law_893 ⟨Nat.le_of_ble_eq_true rfl, Nat.le_of_ble_eq_true rfl⟩) hS (fun q _ h => hF q h) hF (fun r_1 u t H1 locs1 ht hvm hw hB hz1 hk1 hS => ?_)
  refine W.widen (k := 398) (n := 653827) (Nat.le_of_ble_eq_true rfl) (Nat.le_of_ble_eq_true rfl) ?_
  subst hw
  obtain ⟨fs_3, hf_4, hP1, hK1, hD1⟩ := hB
  rw [ht] at hP1
  have hK1 := va_K.moved hvm.symm hK1
  obtain ⟨hP, hD⟩ := va_join (wr := [(x0, .inr (0, [.ref (xq 0), .int 0, .int 108, .ref (xq 1), .int 0, .ref (xq 2), .int 0, .ref (xq 3), .ref (xq 4), .int 1, .ref (xq 5), .ref (xq 6), .ref (xq 7), .ref (xq 8), .ref (xq 9)]))]) (w1 := [(m0, .inr (1, fs_3))]) hP hD [1] [0] rfl rfl (by decide) (by decide) hk1 hF hP1 hD1
  have hP : va_P D pv_cl [(x0, .inr (0, [.ref (xq 0), .int 0, .int 108, .ref (xq 1), .int 0, .ref (xq 2), .int 0, .ref (xq 3), .ref (xq 4), .int 1, .ref (xq 5), .ref (xq 6), .ref (xq 7), .ref (xq 8), .ref (xq 9)])), (m0, .inr (1, fs_3))] _ := hP
  have hD : va_D A [(x0, .inr (0, [.ref (xq 0), .int 0, .int 108, .ref (xq 1), .int 0, .ref (xq 2), .int 0, .ref (xq 3), .ref (xq 4), .int 1, .ref (xq 5), .ref (xq 6), .ref (xq 7), .ref (xq 8), .ref (xq 9)])), (m0, .inr (1, fs_3))] := hD
  refine lv_istore (lv' := [(7, .int r_1), (6, .int 1), (0, .ref b), (1, .ref x0), (2, .ref m0), (3, .ref o0), (4, .ref d0), (5, .int 0)]) hx hb dL_law_896 hl (by decide) rfl (fun ls hl => ?_)
  refine lv_aload_n hx hb dL_law_898 rfl (lv_at hl 4 rfl) ?_
  have hF := pv_new hA hS.1
  refine va_calli (va_runV (As := []) (rest := []) ⟨hx, hb, hml, hown, hts⟩ (c_X13_thrown l hfl D _ m0 fs_3 1 hf_4) (cwV 0 hts (pv_gV w9_102 w9_103 w9_104 w1_10 w9_105) rfl rfl rfl (by decide +kernel) ⟨Nat.le_of_ble_eq_true rfl, Nat.le_of_ble_eq_true rfl⟩) (pv_pV hE hS hF (hP.sub [1] rfl) (hK.sub [] rfl) (hD.sub [1] (by decide) rfl) (va_recv (ci := 1) (q0 := 1) hK hP rfl rfl)) rfl rfl hl.1 rfl (lv_room (Nat.le_of_ble_eq_true rfl)) dL_law_899 ⟨Nat.le_of_ble_eq_true rfl, Nat.le_of_ble_eq_true rfl⟩) hS (fun q _ h => hF q h) hF (fun r_4 u t H1 locs1 ht hvm hw hB hz1 hk1 hS => ?_)
  refine W.widen (k := 398) (n := 653827) (Nat.le_of_ble_eq_true rfl) (Nat.le_of_ble_eq_true rfl) ?_
  have hP := pv_keep hP rfl hk1
  subst hw
  refine lv_iload hx hb dL_law_902 (lv_at hl 1 rfl) ?_
  refine lv_icmp_eq (tgt := 909) hx hb dL_law_904 (by decide) (fun _ => ?_) (fun c_6 => absurd (by decide) c_6)
  refine lv_iload hx hb dL_law_909 (lv_at hl 1 rfl) ?_
  refine lv_if_ne (tgt := 926) hx hb dL_law_911 (by decide) (fun _ => ?_) (fun c_7 => absurd c_7 (by decide))
  refine lv_goto (tgt := 3721) hx hb dL_law_926 (by decide) ?_
  refine lv_iinc (v := 7) (lv' := [(5, .int 7), (7, .int r_1), (6, .int 1), (0, .ref b), (1, .ref x0), (2, .ref m0), (3, .ref o0), (4, .ref d0)]) hx hb dL_law_3721 hl (k := 7) rfl (by decide) (by decide) rfl (fun ls hl => ?_)
  refine pv_pc 3724 rfl ?_
  refine lv_goto (tgt := 28) hx hb dL_law_3724 (by decide) ?_
  refine lv_iload hx hb dL_law_28 (lv_at hl 0 rfl) ?_
  refine lv_aload_n hx hb dL_law_30 rfl (lv_at hl 3 rfl) ?_
  refine va_slen hx hb hX hbl hbA hS dL_law_31 ?_
  refine pv_setI 7 rfl ?_
  refine lv_bipush (v := 7) hx hb dL_law_32 (by decide) ?_
  refine lv_isub hx hb dL_law_34 ?_
  refine pv_setI 0 (by decide) ?_
  refine lv_icmp_gt (tgt := 3727) hx hb dL_law_35 (by decide) (fun _ => ?_) (fun c_8 => absurd (by decide) c_8)
  refine lv_iconst (v := 1) hx hb dL_law_3727 (by decide) ?_
  refine va_forget (fun q hq => hAf _ (hS.2.2 q hq)) ?_
  refine W.widen (k := 600006) (n := 7302064) (Nat.le_of_ble_eq_true rfl) (Nat.le_of_ble_eq_true rfl) ?_
  exact lw_ret (d0 := s.drawn) (Drawn.sameBut.refl s.drawn lw_cs) hx hb hr hlocks dL_law_3728

theorem dL_law_929 : decode cL_law 929 = .ok (.aload_n 1, 1) := by decide +kernel
theorem dL_law_930 : decode cL_law 930 = .ok (.aload_n 0, 1) := by decide +kernel
theorem dL_law_931 : decode cL_law 931 = .ok (.iload 5, 2) := by decide +kernel
theorem dL_law_933 : decode cL_law 933 = .ok (.iconst 1, 1) := by decide +kernel
theorem dL_law_934 : decode cL_law 934 = .ok (.iadd, 1) := by decide +kernel
theorem dL_law_935 : decode cL_law 935 = .ok (.iaload, 1) := by decide +kernel
theorem dL_law_936 : decode cL_law 936 = .ok (.aload_n 0, 1) := by decide +kernel
theorem dL_law_937 : decode cL_law 937 = .ok (.iload 5, 2) := by decide +kernel
theorem dL_law_939 : decode cL_law 939 = .ok (.iconst 2, 1) := by decide +kernel
theorem dL_law_940 : decode cL_law 940 = .ok (.iadd, 1) := by decide +kernel
theorem dL_law_941 : decode cL_law 941 = .ok (.iaload, 1) := by decide +kernel
theorem dL_law_942 : decode cL_law 942 = .ok (.aload_n 3, 1) := by decide +kernel
theorem dL_law_943 : decode cL_law 943 = .ok (.invokestatic 234, 3) := by decide +kernel
theorem w6_36 : (Jvm.Cond.methodLink "PolyforgeLaw" (234 : Nat) ({ cls := "PolyforgeLaw", name := "coefficientAt", desc := "(LPolyforge;II[J)I" } : Jvm.MethodName)) ∈ lw_tbl := pv_t6 (pv_mg 36 rfl)
theorem w6_38 : (Jvm.Cond.codeWith ({ cls := "PolyforgeLaw", name := "coefficientAt", desc := "(LPolyforge;II[J)I" } : Jvm.MethodName) method_13_code (5 : Nat) (Option.some Jvm.ClassFile.FieldType.int) [((0 : Nat), (9 : Nat), (12 : Nat), (23 : Nat)), ((0 : Nat), (9 : Nat), (16 : Nat), (55 : Nat))]) ∈ lw_tbl := pv_t6 (pv_mg 38 rfl)
theorem w6_37 : (Jvm.Cond.static ({ cls := "PolyforgeLaw", name := "coefficientAt", desc := "(LPolyforge;II[J)I" } : Jvm.MethodName)) ∈ lw_tbl := pv_t6 (pv_mg 37 rfl)
theorem dL_law_946 : decode cL_law 946 = .ok (.istore 6, 2) := by decide +kernel
theorem dL_law_948 : decode cL_law 948 = .ok (.aload_n 2, 1) := by decide +kernel
theorem dL_law_949 : decode cL_law 949 = .ok (.aload_n 0, 1) := by decide +kernel
theorem dL_law_950 : decode cL_law 950 = .ok (.iload 5, 2) := by decide +kernel
theorem dL_law_952 : decode cL_law 952 = .ok (.iconst 1, 1) := by decide +kernel
theorem dL_law_953 : decode cL_law 953 = .ok (.iadd, 1) := by decide +kernel
theorem dL_law_954 : decode cL_law 954 = .ok (.iaload, 1) := by decide +kernel
theorem dL_law_955 : decode cL_law 955 = .ok (.aload_n 0, 1) := by decide +kernel
theorem dL_law_956 : decode cL_law 956 = .ok (.iload 5, 2) := by decide +kernel
theorem dL_law_958 : decode cL_law 958 = .ok (.iconst 2, 1) := by decide +kernel
theorem dL_law_959 : decode cL_law 959 = .ok (.iadd, 1) := by decide +kernel
theorem dL_law_960 : decode cL_law 960 = .ok (.iaload, 1) := by decide +kernel
theorem dL_law_961 : decode cL_law 961 = .ok (.invokevirtual 236, 3) := by decide +kernel
theorem w10_6 : (Jvm.Cond.methodLink "PolyforgeLaw" (236 : Nat) ({ cls := "PolyforgeModel", name := "coefficientAt", desc := "(II)J" } : Jvm.MethodName)) ∈ lw_tbl := pv_t10 (pv_mg 6 rfl)
theorem w10_9 : (Jvm.Cond.code ({ cls := "PolyforgeModel", name := "coefficientAt", desc := "(II)J" } : Jvm.MethodName) prog_14_method_44_code (3 : Nat) (Option.some Jvm.ClassFile.FieldType.long)) ∈ lw_tbl := pv_t10 (pv_mg 9 rfl)
theorem w10_8 : (Jvm.Cond.selects "PolyforgeModel" ({ cls := "PolyforgeModel", name := "coefficientAt", desc := "(II)J" } : Jvm.MethodName) ({ cls := "PolyforgeModel", name := "coefficientAt", desc := "(II)J" } : Jvm.MethodName)) ∈ lw_tbl := pv_t10 (pv_mg 8 rfl)
theorem w10_7 : (Jvm.Cond.instanceMethod ({ cls := "PolyforgeModel", name := "coefficientAt", desc := "(II)J" } : Jvm.MethodName)) ∈ lw_tbl := pv_t10 (pv_mg 7 rfl)
theorem dL_law_964 : decode cL_law 964 = .ok (.lstore 7, 2) := by decide +kernel
theorem dL_law_966 : decode cL_law 966 = .ok (.aload_n 2, 1) := by decide +kernel
theorem dL_law_967 : decode cL_law 967 = .ok (.invokevirtual 199, 3) := by decide +kernel
theorem dL_law_970 : decode cL_law 970 = .ok (.iload 6, 2) := by decide +kernel
theorem dL_law_972 : decode cL_law 972 = .ok (.if_icmp .eq 5, 3) := by decide +kernel
theorem dL_law_977 : decode cL_law 977 = .ok (.iload 6, 2) := by decide +kernel
theorem dL_law_979 : decode cL_law 979 = .ok (.ifCond .ne 14, 3) := by decide +kernel
theorem dL_law_993 : decode cL_law 993 = .ok (.goto 2728, 3) := by decide +kernel
set_option maxHeartbeats 4000000 in
set_option maxRecDepth 100000 in
/-- the law, call 11: coefficientAt -/
theorem law_case_11 {p : Program} {e : Env} {s : State} {m : MethodId} {below : List Frame} {meth : Method} {c : Code} (l : Launch) (hfl : l.stackTraces = false) {b : Nat} {xs : Nat → Int32} (C0 : lw_At p s m meth c b 7 xs) {D : va_G} {A : Nat → Prop} (hA : ∀ q : Nat, s.heap.size ≤ q → A q) (hAf : ∀ q : Nat, A q → s.heap.size ≤ q) (hbA : ¬ A b) (hE : pv_E A s s.heap) {x0 m0 o0 d0 : Nat} {xq xw mq : Nat → Nat} {xJ xP xO xC xI mI mI2 mI3 mT mC oL : ClassId} {xsg xsf msg msf : Nat → Int32} (hxsg : ∀ j, j < 3 → xsg j = 63) (hmsg : ∀ j, j < 3 → msg j = 63) {H : Heap} {locs : List Loc} (hK : va_K D pv_cl [(xJ, .long), (xP, .object "Polyforge$Polynomial"), (xO, .object "Polyforge$Ideal"), (xC, .char), (xI, .int), (mI, .int), (mT, .object "PolyforgeModel$Terms"), (mI2, .int), (mC, .char), (mI3, .int), (oL, .long)] s) (hP : va_P D pv_cl [(x0, .inr (0, [.ref (xq 0), .int 0, .int 108, .ref (xq 1), .int 0, .ref (xq 2), .int 0, .ref (xq 3), .ref (xq 4), .int 1, .ref (xq 5), .ref (xq 6), .ref (xq 7), .ref (xq 8), .ref (xq 9)])), ((xq 6), .inr (2, [.ref (xw 0), .ref (xw 1), .ref (xw 2), .ref (xw 3), .int 0, .int 0])), ((xw 2), .inl (xJ, 64, .inr (.inl (fun _ => 0)))), ((xq 0), .inl (xP, 60, .inr (.inr (.inr (.inr (fun _ => none)))))), ((xq 1), .inl (xO, 5, .inr (.inr (.inr (.inr (fun _ => none)))))), ((xq 3), .inl (xC, 3, .inl xsg)), ((xq 4), .inl (xI, 3, .inl xsf)), (m0, .inr (1, pv_m 0 mq)), ((mq 0), .inl (mI, 60, .inl (fun _ => 0))), ((mq 1), .inl (mT, 60, .inr (.inr (.inr (.inr (fun _ => none)))))), ((mq 2), .inl (mI2, 5, .inl (fun _ => 0))), ((mq 9), .inl (mC, 3, .inl msg)), ((mq 10), .inl (mI3, 3, .inl msf)), (o0, .inl (oL, 1, .inr (.inl (fun _ => 0))))] H) (hD : va_D A [(x0, .inr (0, [.ref (xq 0), .int 0, .int 108, .ref (xq 1), .int 0, .ref (xq 2), .int 0, .ref (xq 3), .ref (xq 4), .int 1, .ref (xq 5), .ref (xq 6), .ref (xq 7), .ref (xq 8), .ref (xq 9)])), ((xq 6), .inr (2, [.ref (xw 0), .ref (xw 1), .ref (xw 2), .ref (xw 3), .int 0, .int 0])), ((xw 2), .inl (xJ, 64, .inr (.inl (fun _ => 0)))), ((xq 0), .inl (xP, 60, .inr (.inr (.inr (.inr (fun _ => none)))))), ((xq 1), .inl (xO, 5, .inr (.inr (.inr (.inr (fun _ => none)))))), ((xq 3), .inl (xC, 3, .inl xsg)), ((xq 4), .inl (xI, 3, .inl xsf)), (m0, .inr (1, pv_m 0 mq)), ((mq 0), .inl (mI, 60, .inl (fun _ => 0))), ((mq 1), .inl (mT, 60, .inr (.inr (.inr (.inr (fun _ => none)))))), ((mq 2), .inl (mI2, 5, .inl (fun _ => 0))), ((mq 9), .inl (mC, 3, .inl msg)), ((mq 10), .inl (mI3, 3, .inl msf)), (o0, .inl (oL, 1, .inr (.inl (fun _ => 0))))]) (hS : va_S A s.heap H locs) {ls : Array Slot} (hl : lv_has ls 9 [(0, .ref b), (1, .ref x0), (2, .ref m0), (3, .ref o0), (4, .ref d0), (5, .int 0)]) : W p l e room_1 s m #[Value.ref b] below meth c H locs 397 653821 (lw_Z below #[Value.ref b] s) (F0 m 929 ls []) := by
  obtain ⟨hx, hb, hr, hml, hown, hts0, hX, hbl, hlocks, hgv⟩ := C0
  have hts : ∀ w ∈ pv_W, w.before #[Value.ref b] s = true := fun w h => hts0 w (List.mem_filter.mp h).1
  have hg := fun {w : Cond} (h : w ∈ lw_tbl) (g : goodWord w = true) => hts w (pv_in h g)
  have hP : va_P D pv_cl [(x0, .inr (0, [.ref (xq 0), .int 0, .int 108, .ref (xq 1), .int 0, .ref (xq 2), .int 0, .ref (xq 3), .ref (xq 4), .int 1, .ref (xq 5), .ref (xq 6), .ref (xq 7), .ref (xq 8), .ref (xq 9)])), (m0, .inr (1, pv_m 0 mq))] _ := hP.sub [0, 7] rfl
  have hD : va_D A [(x0, .inr (0, [.ref (xq 0), .int 0, .int 108, .ref (xq 1), .int 0, .ref (xq 2), .int 0, .ref (xq 3), .ref (xq 4), .int 1, .ref (xq 5), .ref (xq 6), .ref (xq 7), .ref (xq 8), .ref (xq 9)])), (m0, .inr (1, pv_m 0 mq))] := hD.sub [0, 7] (by decide) rfl
  have hK : va_K D pv_cl [] s := hK.sub [] rfl
  refine lv_aload_n hx hb dL_law_929 rfl (lv_at hl 1 rfl) ?_
  refine lv_aload_n hx hb dL_law_930 rfl (lv_at hl 0 rfl) ?_
  refine lv_iload hx hb dL_law_931 (lv_at hl 5 rfl) ?_
  refine lv_iconst (v := 1) hx hb dL_law_933 (by decide) ?_
  refine lv_iadd hx hb dL_law_934 ?_
  refine pv_setI 1 (by decide) ?_
  refine va_sld hx hb hX hbl hbA hS (by unfold vp_in; decide) dL_law_935 ?_
  refine pv_setI (xs 1) rfl ?_
  refine lv_aload_n hx hb dL_law_936 rfl (lv_at hl 0 rfl) ?_
  refine lv_iload hx hb dL_law_937 (lv_at hl 5 rfl) ?_
  refine lv_iconst (v := 2) hx hb dL_law_939 (by decide) ?_
  refine lv_iadd hx hb dL_law_940 ?_
  refine pv_setI 2 (by decide) ?_
  refine va_sld hx hb hX hbl hbA hS (by unfold vp_in; decide) dL_law_941 ?_
  refine pv_setI (xs 2) rfl ?_
  refine pv_pc 942 rfl ?_
  refine lv_aload_n hx hb dL_law_942 rfl (lv_at hl 3 rfl) ?_
  have hF := pv_new hA hS.1
  refine va_calli (vx_runSW (As := [.ref x0, .int (xs 1), .int (xs 2), .ref o0]) (rest := []) ⟨hx, hb, hml, hown, hts⟩ (c_L_coefficientAt l hfl D _ x0 xq (xs 1) (xs 2) o0) (vx_cwSW 4 hts (pv_gSW w6_36 w6_37 w1_0 w6_38) rfl rfl rfl (by decide +kernel) ⟨Nat.le_of_ble_eq_true rfl, Nat.le_of_ble_eq_true rfl⟩) (pv_ps hE hS hF (hP.sub [0] rfl) (hK.sub [] rfl) (hD.sub [0] (by decide) rfl)) rfl rfl hl.1 rfl (lv_room (Nat.le_of_ble_eq_true rfl)) dL_law_943 ⟨Nat.le_of_ble_eq_true rfl, Nat.le_of_ble_eq_true rfl⟩) hS (fun q _ h => hF q h) hF (fun r_0 u t H1 locs1 ht hvm hw hB hz1 hk1 hS => ?_)
  refine W.widen (k := 398) (n := 653827) (Nat.le_of_ble_eq_true rfl) (Nat.le_of_ble_eq_true rfl) ?_
  have hP := pv_keep hP rfl hk1
  subst hw
  refine lv_istore (lv' := [(6, .int 1), (0, .ref b), (1, .ref x0), (2, .ref m0), (3, .ref o0), (4, .ref d0), (5, .int 0)]) hx hb dL_law_946 hl (by decide) rfl (fun ls hl => ?_)
  refine lv_aload_n hx hb dL_law_948 rfl (lv_at hl 3 rfl) ?_
  refine lv_aload_n hx hb dL_law_949 rfl (lv_at hl 1 rfl) ?_
  refine lv_iload hx hb dL_law_950 (lv_at hl 6 rfl) ?_
  refine lv_iconst (v := 1) hx hb dL_law_952 (by decide) ?_
  refine lv_iadd hx hb dL_law_953 ?_
  refine pv_setI 1 (by decide) ?_
  refine va_sld hx hb hX hbl hbA hS (by unfold vp_in; decide) dL_law_954 ?_
  refine pv_setI (xs 1) rfl ?_
  refine lv_aload_n hx hb dL_law_955 rfl (lv_at hl 1 rfl) ?_
  refine lv_iload hx hb dL_law_956 (lv_at hl 6 rfl) ?_
  refine lv_iconst (v := 2) hx hb dL_law_958 (by decide) ?_
  refine pv_pc 959 rfl ?_
  refine lv_iadd hx hb dL_law_959 ?_
  refine pv_setI 2 (by decide) ?_
  refine va_sld hx hb hX hbl hbA hS (by unfold vp_in; decide) dL_law_960 ?_
  refine pv_setI (xs 2) rfl ?_
  have hF := va_free (wc := [(m0, .inr (1, pv_m 0 mq))]) hD hS hA [1] rfl
  refine va_calll (va_runV (As := [.int (xs 1), .int (xs 2)]) (rest := []) ⟨hx, hb, hml, hown, hts⟩ (c_X13_coefficientAt l hfl D _ m0 mq (xs 1) (xs 2)) (cwV 2 hts (pv_gV w10_6 w10_7 w10_8 w1_10 w10_9) rfl rfl rfl (by decide +kernel) ⟨Nat.le_of_ble_eq_true rfl, Nat.le_of_ble_eq_true rfl⟩) (pv_pV hE hS hF (hP.sub [1] rfl) (hK.sub [] rfl) (hD.sub [1] (by decide) rfl) (va_recv (ci := 1) (q0 := 1) hK hP rfl rfl)) rfl rfl hl.1 rfl (lv_room (Nat.le_of_ble_eq_true rfl)) dL_law_961 ⟨Nat.le_of_ble_eq_true rfl, Nat.le_of_ble_eq_true rfl⟩) hS (fun q _ h => hF q h) hF (fun r_1 u t H1 locs1 ht hvm hw hB hz1 hk1 hS => ?_)
  refine W.widen (k := 398) (n := 653827) (Nat.le_of_ble_eq_true rfl) (Nat.le_of_ble_eq_true rfl) ?_
  subst hw
  obtain ⟨fs_3, hf_4, hP1, hK1, hD1⟩ := hB
  rw [ht] at hP1
  have hK1 := va_K.moved hvm.symm hK1
  obtain ⟨hP, hD⟩ := va_join (wr := [(x0, .inr (0, [.ref (xq 0), .int 0, .int 108, .ref (xq 1), .int 0, .ref (xq 2), .int 0, .ref (xq 3), .ref (xq 4), .int 1, .ref (xq 5), .ref (xq 6), .ref (xq 7), .ref (xq 8), .ref (xq 9)]))]) (w1 := [(m0, .inr (1, fs_3))]) hP hD [1] [0] rfl rfl (by decide) (by decide) hk1 hF hP1 hD1
  have hP : va_P D pv_cl [(x0, .inr (0, [.ref (xq 0), .int 0, .int 108, .ref (xq 1), .int 0, .ref (xq 2), .int 0, .ref (xq 3), .ref (xq 4), .int 1, .ref (xq 5), .ref (xq 6), .ref (xq 7), .ref (xq 8), .ref (xq 9)])), (m0, .inr (1, fs_3))] _ := hP
  have hD : va_D A [(x0, .inr (0, [.ref (xq 0), .int 0, .int 108, .ref (xq 1), .int 0, .ref (xq 2), .int 0, .ref (xq 3), .ref (xq 4), .int 1, .ref (xq 5), .ref (xq 6), .ref (xq 7), .ref (xq 8), .ref (xq 9)])), (m0, .inr (1, fs_3))] := hD
  refine lv_lstore (lv' := [(7, .long r_1), (6, .int 1), (0, .ref b), (1, .ref x0), (2, .ref m0), (3, .ref o0), (4, .ref d0), (5, .int 0)]) hx hb dL_law_964 hl (by decide) rfl (fun ls hl => ?_)
  refine lv_aload_n hx hb dL_law_966 rfl (lv_at hl 4 rfl) ?_
  have hF := pv_new hA hS.1
  refine va_calli (va_runV (As := []) (rest := []) ⟨hx, hb, hml, hown, hts⟩ (c_X13_thrown l hfl D _ m0 fs_3 1 hf_4) (cwV 0 hts (pv_gV w9_102 w9_103 w9_104 w1_10 w9_105) rfl rfl rfl (by decide +kernel) ⟨Nat.le_of_ble_eq_true rfl, Nat.le_of_ble_eq_true rfl⟩) (pv_pV hE hS hF (hP.sub [1] rfl) (hK.sub [] rfl) (hD.sub [1] (by decide) rfl) (va_recv (ci := 1) (q0 := 1) hK hP rfl rfl)) rfl rfl hl.1 rfl (lv_room (Nat.le_of_ble_eq_true rfl)) dL_law_967 ⟨Nat.le_of_ble_eq_true rfl, Nat.le_of_ble_eq_true rfl⟩) hS (fun q _ h => hF q h) hF (fun r_4 u t H1 locs1 ht hvm hw hB hz1 hk1 hS => ?_)
  refine W.widen (k := 398) (n := 653827) (Nat.le_of_ble_eq_true rfl) (Nat.le_of_ble_eq_true rfl) ?_
  have hP := pv_keep hP rfl hk1
  subst hw
  refine lv_iload hx hb dL_law_970 (lv_at hl 1 rfl) ?_
  refine lv_icmp_eq (tgt := 977) hx hb dL_law_972 (by decide) (fun _ => ?_) (fun c_6 => absurd (by decide) c_6)
  refine lv_iload hx hb dL_law_977 (lv_at hl 1 rfl) ?_
  refine lv_if_ne (tgt := 993) hx hb dL_law_979 (by decide) (fun _ => ?_) (fun c_7 => absurd c_7 (by decide))
  refine lv_goto (tgt := 3721) hx hb dL_law_993 (by decide) ?_
  refine lv_iinc (v := 7) (lv' := [(5, .int 7), (7, .long r_1), (6, .int 1), (0, .ref b), (1, .ref x0), (2, .ref m0), (3, .ref o0), (4, .ref d0)]) hx hb dL_law_3721 hl (k := 7) rfl (by decide) (by decide) rfl (fun ls hl => ?_)
  refine pv_pc 3724 rfl ?_
  refine lv_goto (tgt := 28) hx hb dL_law_3724 (by decide) ?_
  refine lv_iload hx hb dL_law_28 (lv_at hl 0 rfl) ?_
  refine lv_aload_n hx hb dL_law_30 rfl (lv_at hl 3 rfl) ?_
  refine va_slen hx hb hX hbl hbA hS dL_law_31 ?_
  refine pv_setI 7 rfl ?_
  refine lv_bipush (v := 7) hx hb dL_law_32 (by decide) ?_
  refine lv_isub hx hb dL_law_34 ?_
  refine pv_setI 0 (by decide) ?_
  refine lv_icmp_gt (tgt := 3727) hx hb dL_law_35 (by decide) (fun _ => ?_) (fun c_8 => absurd (by decide) c_8)
  refine lv_iconst (v := 1) hx hb dL_law_3727 (by decide) ?_
  refine va_forget (fun q hq => hAf _ (hS.2.2 q hq)) ?_
  refine W.widen (k := 600006) (n := 7302064) (Nat.le_of_ble_eq_true rfl) (Nat.le_of_ble_eq_true rfl) ?_
  exact lw_ret (d0 := s.drawn) (Drawn.sameBut.refl s.drawn lw_cs) hx hb hr hlocks dL_law_3728

theorem dL_law_996 : decode cL_law 996 = .ok (.aload_n 1, 1) := by decide +kernel
theorem dL_law_997 : decode cL_law 997 = .ok (.aload_n 0, 1) := by decide +kernel
theorem dL_law_998 : decode cL_law 998 = .ok (.iload 5, 2) := by decide +kernel
theorem dL_law_1000 : decode cL_law 1000 = .ok (.iconst 1, 1) := by decide +kernel
theorem dL_law_1001 : decode cL_law 1001 = .ok (.iadd, 1) := by decide +kernel
theorem dL_law_1002 : decode cL_law 1002 = .ok (.iaload, 1) := by decide +kernel
theorem dL_law_1003 : decode cL_law 1003 = .ok (.aload_n 0, 1) := by decide +kernel
theorem dL_law_1004 : decode cL_law 1004 = .ok (.iload 5, 2) := by decide +kernel
theorem dL_law_1006 : decode cL_law 1006 = .ok (.iconst 2, 1) := by decide +kernel
theorem dL_law_1007 : decode cL_law 1007 = .ok (.iadd, 1) := by decide +kernel
theorem dL_law_1008 : decode cL_law 1008 = .ok (.iaload, 1) := by decide +kernel
theorem dL_law_1009 : decode cL_law 1009 = .ok (.aload_n 0, 1) := by decide +kernel
theorem dL_law_1010 : decode cL_law 1010 = .ok (.iload 5, 2) := by decide +kernel
theorem dL_law_1012 : decode cL_law 1012 = .ok (.iconst 3, 1) := by decide +kernel
theorem dL_law_1013 : decode cL_law 1013 = .ok (.iadd, 1) := by decide +kernel
theorem dL_law_1014 : decode cL_law 1014 = .ok (.iaload, 1) := by decide +kernel
theorem dL_law_1015 : decode cL_law 1015 = .ok (.aload_n 3, 1) := by decide +kernel
theorem dL_law_1016 : decode cL_law 1016 = .ok (.invokestatic 237, 3) := by decide +kernel
theorem w6_81 : (Jvm.Cond.methodLink "PolyforgeLaw" (237 : Nat) ({ cls := "PolyforgeLaw", name := "exponentAt", desc := "(LPolyforge;III[J)I" } : Jvm.MethodName)) ∈ lw_tbl := pv_t6 (pv_mg 81 rfl)
theorem w6_83 : (Jvm.Cond.codeWith ({ cls := "PolyforgeLaw", name := "exponentAt", desc := "(LPolyforge;III[J)I" } : Jvm.MethodName) method_14_code (6 : Nat) (Option.some Jvm.ClassFile.FieldType.int) [((0 : Nat), (12 : Nat), (15 : Nat), (23 : Nat)), ((0 : Nat), (12 : Nat), (19 : Nat), (13 : Nat)), ((0 : Nat), (12 : Nat), (23 : Nat), (55 : Nat))]) ∈ lw_tbl := pv_t6 (pv_mg 83 rfl)
theorem w6_82 : (Jvm.Cond.static ({ cls := "PolyforgeLaw", name := "exponentAt", desc := "(LPolyforge;III[J)I" } : Jvm.MethodName)) ∈ lw_tbl := pv_t6 (pv_mg 82 rfl)
theorem dL_law_1019 : decode cL_law 1019 = .ok (.istore 6, 2) := by decide +kernel
theorem dL_law_1021 : decode cL_law 1021 = .ok (.aload_n 2, 1) := by decide +kernel
theorem dL_law_1022 : decode cL_law 1022 = .ok (.aload_n 0, 1) := by decide +kernel
theorem dL_law_1023 : decode cL_law 1023 = .ok (.iload 5, 2) := by decide +kernel
theorem dL_law_1025 : decode cL_law 1025 = .ok (.iconst 1, 1) := by decide +kernel
theorem dL_law_1026 : decode cL_law 1026 = .ok (.iadd, 1) := by decide +kernel
theorem dL_law_1027 : decode cL_law 1027 = .ok (.iaload, 1) := by decide +kernel
theorem dL_law_1028 : decode cL_law 1028 = .ok (.aload_n 0, 1) := by decide +kernel
theorem dL_law_1029 : decode cL_law 1029 = .ok (.iload 5, 2) := by decide +kernel
theorem dL_law_1031 : decode cL_law 1031 = .ok (.iconst 2, 1) := by decide +kernel
theorem dL_law_1032 : decode cL_law 1032 = .ok (.iadd, 1) := by decide +kernel
theorem dL_law_1033 : decode cL_law 1033 = .ok (.iaload, 1) := by decide +kernel
theorem dL_law_1034 : decode cL_law 1034 = .ok (.aload_n 0, 1) := by decide +kernel
theorem dL_law_1035 : decode cL_law 1035 = .ok (.iload 5, 2) := by decide +kernel
theorem dL_law_1037 : decode cL_law 1037 = .ok (.iconst 3, 1) := by decide +kernel
theorem dL_law_1038 : decode cL_law 1038 = .ok (.iadd, 1) := by decide +kernel
theorem dL_law_1039 : decode cL_law 1039 = .ok (.iaload, 1) := by decide +kernel
theorem dL_law_1040 : decode cL_law 1040 = .ok (.invokevirtual 240, 3) := by decide +kernel
theorem w10_25 : (Jvm.Cond.methodLink "PolyforgeLaw" (240 : Nat) ({ cls := "PolyforgeModel", name := "exponentAt", desc := "(III)I" } : Jvm.MethodName)) ∈ lw_tbl := pv_t10 (pv_mg 25 rfl)
theorem w10_28 : (Jvm.Cond.code ({ cls := "PolyforgeModel", name := "exponentAt", desc := "(III)I" } : Jvm.MethodName) prog_14_method_45_code (4 : Nat) (Option.some Jvm.ClassFile.FieldType.int)) ∈ lw_tbl := pv_t10 (pv_mg 28 rfl)
theorem w10_27 : (Jvm.Cond.selects "PolyforgeModel" ({ cls := "PolyforgeModel", name := "exponentAt", desc := "(III)I" } : Jvm.MethodName) ({ cls := "PolyforgeModel", name := "exponentAt", desc := "(III)I" } : Jvm.MethodName)) ∈ lw_tbl := pv_t10 (pv_mg 27 rfl)
theorem w10_26 : (Jvm.Cond.instanceMethod ({ cls := "PolyforgeModel", name := "exponentAt", desc := "(III)I" } : Jvm.MethodName)) ∈ lw_tbl := pv_t10 (pv_mg 26 rfl)
theorem dL_law_1043 : decode cL_law 1043 = .ok (.istore 7, 2) := by decide +kernel
theorem dL_law_1045 : decode cL_law 1045 = .ok (.aload_n 2, 1) := by decide +kernel
theorem dL_law_1046 : decode cL_law 1046 = .ok (.invokevirtual 199, 3) := by decide +kernel
theorem dL_law_1049 : decode cL_law 1049 = .ok (.iload 6, 2) := by decide +kernel
theorem dL_law_1051 : decode cL_law 1051 = .ok (.if_icmp .eq 5, 3) := by decide +kernel
theorem dL_law_1056 : decode cL_law 1056 = .ok (.iload 6, 2) := by decide +kernel
theorem dL_law_1058 : decode cL_law 1058 = .ok (.ifCond .ne 15, 3) := by decide +kernel
theorem dL_law_1073 : decode cL_law 1073 = .ok (.goto 2648, 3) := by decide +kernel
set_option maxHeartbeats 4000000 in
set_option maxRecDepth 100000 in
/-- the law, call 12: exponentAt -/
theorem law_case_12 {p : Program} {e : Env} {s : State} {m : MethodId} {below : List Frame} {meth : Method} {c : Code} (l : Launch) (hfl : l.stackTraces = false) {b : Nat} {xs : Nat → Int32} (C0 : lw_At p s m meth c b 7 xs) {D : va_G} {A : Nat → Prop} (hA : ∀ q : Nat, s.heap.size ≤ q → A q) (hAf : ∀ q : Nat, A q → s.heap.size ≤ q) (hbA : ¬ A b) (hE : pv_E A s s.heap) {x0 m0 o0 d0 : Nat} {xq xw mq : Nat → Nat} {xJ xP xO xC xI mI mI2 mI3 mT mC oL : ClassId} {xsg xsf msg msf : Nat → Int32} (hxsg : ∀ j, j < 3 → xsg j = 63) (hmsg : ∀ j, j < 3 → msg j = 63) {H : Heap} {locs : List Loc} (hK : va_K D pv_cl [(xJ, .long), (xP, .object "Polyforge$Polynomial"), (xO, .object "Polyforge$Ideal"), (xC, .char), (xI, .int), (mI, .int), (mT, .object "PolyforgeModel$Terms"), (mI2, .int), (mC, .char), (mI3, .int), (oL, .long)] s) (hP : va_P D pv_cl [(x0, .inr (0, [.ref (xq 0), .int 0, .int 108, .ref (xq 1), .int 0, .ref (xq 2), .int 0, .ref (xq 3), .ref (xq 4), .int 1, .ref (xq 5), .ref (xq 6), .ref (xq 7), .ref (xq 8), .ref (xq 9)])), ((xq 6), .inr (2, [.ref (xw 0), .ref (xw 1), .ref (xw 2), .ref (xw 3), .int 0, .int 0])), ((xw 2), .inl (xJ, 64, .inr (.inl (fun _ => 0)))), ((xq 0), .inl (xP, 60, .inr (.inr (.inr (.inr (fun _ => none)))))), ((xq 1), .inl (xO, 5, .inr (.inr (.inr (.inr (fun _ => none)))))), ((xq 3), .inl (xC, 3, .inl xsg)), ((xq 4), .inl (xI, 3, .inl xsf)), (m0, .inr (1, pv_m 0 mq)), ((mq 0), .inl (mI, 60, .inl (fun _ => 0))), ((mq 1), .inl (mT, 60, .inr (.inr (.inr (.inr (fun _ => none)))))), ((mq 2), .inl (mI2, 5, .inl (fun _ => 0))), ((mq 9), .inl (mC, 3, .inl msg)), ((mq 10), .inl (mI3, 3, .inl msf)), (o0, .inl (oL, 1, .inr (.inl (fun _ => 0))))] H) (hD : va_D A [(x0, .inr (0, [.ref (xq 0), .int 0, .int 108, .ref (xq 1), .int 0, .ref (xq 2), .int 0, .ref (xq 3), .ref (xq 4), .int 1, .ref (xq 5), .ref (xq 6), .ref (xq 7), .ref (xq 8), .ref (xq 9)])), ((xq 6), .inr (2, [.ref (xw 0), .ref (xw 1), .ref (xw 2), .ref (xw 3), .int 0, .int 0])), ((xw 2), .inl (xJ, 64, .inr (.inl (fun _ => 0)))), ((xq 0), .inl (xP, 60, .inr (.inr (.inr (.inr (fun _ => none)))))), ((xq 1), .inl (xO, 5, .inr (.inr (.inr (.inr (fun _ => none)))))), ((xq 3), .inl (xC, 3, .inl xsg)), ((xq 4), .inl (xI, 3, .inl xsf)), (m0, .inr (1, pv_m 0 mq)), ((mq 0), .inl (mI, 60, .inl (fun _ => 0))), ((mq 1), .inl (mT, 60, .inr (.inr (.inr (.inr (fun _ => none)))))), ((mq 2), .inl (mI2, 5, .inl (fun _ => 0))), ((mq 9), .inl (mC, 3, .inl msg)), ((mq 10), .inl (mI3, 3, .inl msf)), (o0, .inl (oL, 1, .inr (.inl (fun _ => 0))))]) (hS : va_S A s.heap H locs) {ls : Array Slot} (hl : lv_has ls 9 [(0, .ref b), (1, .ref x0), (2, .ref m0), (3, .ref o0), (4, .ref d0), (5, .int 0)]) : W p l e room_1 s m #[Value.ref b] below meth c H locs 397 653821 (lw_Z below #[Value.ref b] s) (F0 m 996 ls []) := by
  obtain ⟨hx, hb, hr, hml, hown, hts0, hX, hbl, hlocks, hgv⟩ := C0
  have hts : ∀ w ∈ pv_W, w.before #[Value.ref b] s = true := fun w h => hts0 w (List.mem_filter.mp h).1
  have hg := fun {w : Cond} (h : w ∈ lw_tbl) (g : goodWord w = true) => hts w (pv_in h g)
  have hP : va_P D pv_cl [(x0, .inr (0, [.ref (xq 0), .int 0, .int 108, .ref (xq 1), .int 0, .ref (xq 2), .int 0, .ref (xq 3), .ref (xq 4), .int 1, .ref (xq 5), .ref (xq 6), .ref (xq 7), .ref (xq 8), .ref (xq 9)])), (m0, .inr (1, pv_m 0 mq))] _ := hP.sub [0, 7] rfl
  have hD : va_D A [(x0, .inr (0, [.ref (xq 0), .int 0, .int 108, .ref (xq 1), .int 0, .ref (xq 2), .int 0, .ref (xq 3), .ref (xq 4), .int 1, .ref (xq 5), .ref (xq 6), .ref (xq 7), .ref (xq 8), .ref (xq 9)])), (m0, .inr (1, pv_m 0 mq))] := hD.sub [0, 7] (by decide) rfl
  have hK : va_K D pv_cl [] s := hK.sub [] rfl
  refine lv_aload_n hx hb dL_law_996 rfl (lv_at hl 1 rfl) ?_
  refine lv_aload_n hx hb dL_law_997 rfl (lv_at hl 0 rfl) ?_
  refine lv_iload hx hb dL_law_998 (lv_at hl 5 rfl) ?_
  refine lv_iconst (v := 1) hx hb dL_law_1000 (by decide) ?_
  refine lv_iadd hx hb dL_law_1001 ?_
  refine pv_setI 1 (by decide) ?_
  refine va_sld hx hb hX hbl hbA hS (by unfold vp_in; decide) dL_law_1002 ?_
  refine pv_setI (xs 1) rfl ?_
  refine lv_aload_n hx hb dL_law_1003 rfl (lv_at hl 0 rfl) ?_
  refine lv_iload hx hb dL_law_1004 (lv_at hl 5 rfl) ?_
  refine lv_iconst (v := 2) hx hb dL_law_1006 (by decide) ?_
  refine lv_iadd hx hb dL_law_1007 ?_
  refine pv_setI 2 (by decide) ?_
  refine va_sld hx hb hX hbl hbA hS (by unfold vp_in; decide) dL_law_1008 ?_
  refine pv_setI (xs 2) rfl ?_
  refine pv_pc 1009 rfl ?_
  refine lv_aload_n hx hb dL_law_1009 rfl (lv_at hl 0 rfl) ?_
  refine lv_iload hx hb dL_law_1010 (lv_at hl 5 rfl) ?_
  refine lv_iconst (v := 3) hx hb dL_law_1012 (by decide) ?_
  refine lv_iadd hx hb dL_law_1013 ?_
  refine pv_setI 3 (by decide) ?_
  refine va_sld hx hb hX hbl hbA hS (by unfold vp_in; decide) dL_law_1014 ?_
  refine pv_setI (xs 3) rfl ?_
  refine lv_aload_n hx hb dL_law_1015 rfl (lv_at hl 3 rfl) ?_
  have hF := pv_new hA hS.1
  refine va_calli (vx_runSW (As := [.ref x0, .int (xs 1), .int (xs 2), .int (xs 3), .ref o0]) (rest := []) ⟨hx, hb, hml, hown, hts⟩ (c_L_exponentAt l hfl D _ x0 xq (xs 1) (xs 2) (xs 3) o0) (vx_cwSW 5 hts (pv_gSW w6_81 w6_82 w1_0 w6_83) rfl rfl rfl (by decide +kernel) ⟨Nat.le_of_ble_eq_true rfl, Nat.le_of_ble_eq_true rfl⟩) (pv_ps hE hS hF (hP.sub [0] rfl) (hK.sub [] rfl) (hD.sub [0] (by decide) rfl)) rfl rfl hl.1 rfl (lv_room (Nat.le_of_ble_eq_true rfl)) dL_law_1016 ⟨Nat.le_of_ble_eq_true rfl, Nat.le_of_ble_eq_true rfl⟩) hS (fun q _ h => hF q h) hF (fun r_0 u t H1 locs1 ht hvm hw hB hz1 hk1 hS => ?_)
  refine W.widen (k := 398) (n := 653827) (Nat.le_of_ble_eq_true rfl) (Nat.le_of_ble_eq_true rfl) ?_
  have hP := pv_keep hP rfl hk1
  subst hw
  refine lv_istore (lv' := [(6, .int 1), (0, .ref b), (1, .ref x0), (2, .ref m0), (3, .ref o0), (4, .ref d0), (5, .int 0)]) hx hb dL_law_1019 hl (by decide) rfl (fun ls hl => ?_)
  refine lv_aload_n hx hb dL_law_1021 rfl (lv_at hl 3 rfl) ?_
  refine lv_aload_n hx hb dL_law_1022 rfl (lv_at hl 1 rfl) ?_
  refine lv_iload hx hb dL_law_1023 (lv_at hl 6 rfl) ?_
  refine lv_iconst (v := 1) hx hb dL_law_1025 (by decide) ?_
  refine pv_pc 1026 rfl ?_
  refine lv_iadd hx hb dL_law_1026 ?_
  refine pv_setI 1 (by decide) ?_
  refine va_sld hx hb hX hbl hbA hS (by unfold vp_in; decide) dL_law_1027 ?_
  refine pv_setI (xs 1) rfl ?_
  refine lv_aload_n hx hb dL_law_1028 rfl (lv_at hl 1 rfl) ?_
  refine lv_iload hx hb dL_law_1029 (lv_at hl 6 rfl) ?_
  refine lv_iconst (v := 2) hx hb dL_law_1031 (by decide) ?_
  refine lv_iadd hx hb dL_law_1032 ?_
  refine pv_setI 2 (by decide) ?_
  refine va_sld hx hb hX hbl hbA hS (by unfold vp_in; decide) dL_law_1033 ?_
  refine pv_setI (xs 2) rfl ?_
  refine lv_aload_n hx hb dL_law_1034 rfl (lv_at hl 1 rfl) ?_
  refine lv_iload hx hb dL_law_1035 (lv_at hl 6 rfl) ?_
  refine lv_iconst (v := 3) hx hb dL_law_1037 (by decide) ?_
  refine lv_iadd hx hb dL_law_1038 ?_
  refine pv_setI 3 (by decide) ?_
  refine va_sld hx hb hX hbl hbA hS (by unfold vp_in; decide) dL_law_1039 ?_
  refine pv_setI (xs 3) rfl ?_
  refine pv_pc 1040 rfl ?_
  have hF := va_free (wc := [(m0, .inr (1, pv_m 0 mq))]) hD hS hA [1] rfl
  refine va_calli (va_runV (As := [.int (xs 1), .int (xs 2), .int (xs 3)]) (rest := []) ⟨hx, hb, hml, hown, hts⟩ (c_X13_exponentAt l hfl D _ m0 mq (xs 1) (xs 2) (xs 3)) (cwV 3 hts (pv_gV w10_25 w10_26 w10_27 w1_10 w10_28) rfl rfl rfl (by decide +kernel) ⟨Nat.le_of_ble_eq_true rfl, Nat.le_of_ble_eq_true rfl⟩) (pv_pV hE hS hF (hP.sub [1] rfl) (hK.sub [] rfl) (hD.sub [1] (by decide) rfl) (va_recv (ci := 1) (q0 := 1) hK hP rfl rfl)) rfl rfl hl.1 rfl (lv_room (Nat.le_of_ble_eq_true rfl)) dL_law_1040 ⟨Nat.le_of_ble_eq_true rfl, Nat.le_of_ble_eq_true rfl⟩) hS (fun q _ h => hF q h) hF (fun r_1 u t H1 locs1 ht hvm hw hB hz1 hk1 hS => ?_)
  refine W.widen (k := 398) (n := 653827) (Nat.le_of_ble_eq_true rfl) (Nat.le_of_ble_eq_true rfl) ?_
  subst hw
  obtain ⟨fs_3, hf_4, hP1, hK1, hD1⟩ := hB
  rw [ht] at hP1
  have hK1 := va_K.moved hvm.symm hK1
  obtain ⟨hP, hD⟩ := va_join (wr := [(x0, .inr (0, [.ref (xq 0), .int 0, .int 108, .ref (xq 1), .int 0, .ref (xq 2), .int 0, .ref (xq 3), .ref (xq 4), .int 1, .ref (xq 5), .ref (xq 6), .ref (xq 7), .ref (xq 8), .ref (xq 9)]))]) (w1 := [(m0, .inr (1, fs_3))]) hP hD [1] [0] rfl rfl (by decide) (by decide) hk1 hF hP1 hD1
  have hP : va_P D pv_cl [(x0, .inr (0, [.ref (xq 0), .int 0, .int 108, .ref (xq 1), .int 0, .ref (xq 2), .int 0, .ref (xq 3), .ref (xq 4), .int 1, .ref (xq 5), .ref (xq 6), .ref (xq 7), .ref (xq 8), .ref (xq 9)])), (m0, .inr (1, fs_3))] _ := hP
  have hD : va_D A [(x0, .inr (0, [.ref (xq 0), .int 0, .int 108, .ref (xq 1), .int 0, .ref (xq 2), .int 0, .ref (xq 3), .ref (xq 4), .int 1, .ref (xq 5), .ref (xq 6), .ref (xq 7), .ref (xq 8), .ref (xq 9)])), (m0, .inr (1, fs_3))] := hD
  refine lv_istore (lv' := [(7, .int r_1), (6, .int 1), (0, .ref b), (1, .ref x0), (2, .ref m0), (3, .ref o0), (4, .ref d0), (5, .int 0)]) hx hb dL_law_1043 hl (by decide) rfl (fun ls hl => ?_)
  refine lv_aload_n hx hb dL_law_1045 rfl (lv_at hl 4 rfl) ?_
  have hF := pv_new hA hS.1
  refine va_calli (va_runV (As := []) (rest := []) ⟨hx, hb, hml, hown, hts⟩ (c_X13_thrown l hfl D _ m0 fs_3 1 hf_4) (cwV 0 hts (pv_gV w9_102 w9_103 w9_104 w1_10 w9_105) rfl rfl rfl (by decide +kernel) ⟨Nat.le_of_ble_eq_true rfl, Nat.le_of_ble_eq_true rfl⟩) (pv_pV hE hS hF (hP.sub [1] rfl) (hK.sub [] rfl) (hD.sub [1] (by decide) rfl) (va_recv (ci := 1) (q0 := 1) hK hP rfl rfl)) rfl rfl hl.1 rfl (lv_room (Nat.le_of_ble_eq_true rfl)) dL_law_1046 ⟨Nat.le_of_ble_eq_true rfl, Nat.le_of_ble_eq_true rfl⟩) hS (fun q _ h => hF q h) hF (fun r_4 u t H1 locs1 ht hvm hw hB hz1 hk1 hS => ?_)
  refine W.widen (k := 398) (n := 653827) (Nat.le_of_ble_eq_true rfl) (Nat.le_of_ble_eq_true rfl) ?_
  have hP := pv_keep hP rfl hk1
  subst hw
  refine lv_iload hx hb dL_law_1049 (lv_at hl 1 rfl) ?_
  refine lv_icmp_eq (tgt := 1056) hx hb dL_law_1051 (by decide) (fun _ => ?_) (fun c_6 => absurd (by decide) c_6)
  refine lv_iload hx hb dL_law_1056 (lv_at hl 1 rfl) ?_
  refine lv_if_ne (tgt := 1073) hx hb dL_law_1058 (by decide) (fun _ => ?_) (fun c_7 => absurd c_7 (by decide))
  refine lv_goto (tgt := 3721) hx hb dL_law_1073 (by decide) ?_
  refine lv_iinc (v := 7) (lv' := [(5, .int 7), (7, .int r_1), (6, .int 1), (0, .ref b), (1, .ref x0), (2, .ref m0), (3, .ref o0), (4, .ref d0)]) hx hb dL_law_3721 hl (k := 7) rfl (by decide) (by decide) rfl (fun ls hl => ?_)
  refine lv_goto (tgt := 28) hx hb dL_law_3724 (by decide) ?_
  refine lv_iload hx hb dL_law_28 (lv_at hl 0 rfl) ?_
  refine pv_pc 30 rfl ?_
  refine lv_aload_n hx hb dL_law_30 rfl (lv_at hl 3 rfl) ?_
  refine va_slen hx hb hX hbl hbA hS dL_law_31 ?_
  refine pv_setI 7 rfl ?_
  refine lv_bipush (v := 7) hx hb dL_law_32 (by decide) ?_
  refine lv_isub hx hb dL_law_34 ?_
  refine pv_setI 0 (by decide) ?_
  refine lv_icmp_gt (tgt := 3727) hx hb dL_law_35 (by decide) (fun _ => ?_) (fun c_8 => absurd (by decide) c_8)
  refine lv_iconst (v := 1) hx hb dL_law_3727 (by decide) ?_
  refine va_forget (fun q hq => hAf _ (hS.2.2 q hq)) ?_
  refine W.widen (k := 600006) (n := 7302064) (Nat.le_of_ble_eq_true rfl) (Nat.le_of_ble_eq_true rfl) ?_
  exact lw_ret (d0 := s.drawn) (Drawn.sameBut.refl s.drawn lw_cs) hx hb hr hlocks dL_law_3728

theorem dL_law_1134 : decode cL_law 1134 = .ok (.aload_n 1, 1) := by decide +kernel
theorem dL_law_1135 : decode cL_law 1135 = .ok (.aload_n 0, 1) := by decide +kernel
theorem dL_law_1136 : decode cL_law 1136 = .ok (.iload 5, 2) := by decide +kernel
theorem dL_law_1138 : decode cL_law 1138 = .ok (.iconst 1, 1) := by decide +kernel
theorem dL_law_1139 : decode cL_law 1139 = .ok (.iadd, 1) := by decide +kernel
theorem dL_law_1140 : decode cL_law 1140 = .ok (.iaload, 1) := by decide +kernel
theorem dL_law_1141 : decode cL_law 1141 = .ok (.aload_n 0, 1) := by decide +kernel
theorem dL_law_1142 : decode cL_law 1142 = .ok (.iload 5, 2) := by decide +kernel
theorem dL_law_1144 : decode cL_law 1144 = .ok (.iconst 2, 1) := by decide +kernel
theorem dL_law_1145 : decode cL_law 1145 = .ok (.iadd, 1) := by decide +kernel
theorem dL_law_1146 : decode cL_law 1146 = .ok (.iaload, 1) := by decide +kernel
theorem dL_law_1147 : decode cL_law 1147 = .ok (.aload_n 3, 1) := by decide +kernel
theorem dL_law_1148 : decode cL_law 1148 = .ok (.invokestatic 245, 3) := by decide +kernel
theorem w6_97 : (Jvm.Cond.methodLink "PolyforgeLaw" (245 : Nat) ({ cls := "PolyforgeLaw", name := "derive", desc := "(LPolyforge;II[J)I" } : Jvm.MethodName)) ∈ lw_tbl := pv_t6 (pv_mg 97 rfl)
theorem w6_99 : (Jvm.Cond.codeWith ({ cls := "PolyforgeLaw", name := "derive", desc := "(LPolyforge;II[J)I" } : Jvm.MethodName) method_16_code (5 : Nat) (Option.some Jvm.ClassFile.FieldType.int) [((0 : Nat), (10 : Nat), (13 : Nat), (23 : Nat)), ((0 : Nat), (10 : Nat), (17 : Nat), (13 : Nat)), ((0 : Nat), (10 : Nat), (21 : Nat), (27 : Nat)), ((0 : Nat), (10 : Nat), (25 : Nat), (15 : Nat))]) ∈ lw_tbl := pv_t6 (pv_mg 99 rfl)
theorem w6_98 : (Jvm.Cond.static ({ cls := "PolyforgeLaw", name := "derive", desc := "(LPolyforge;II[J)I" } : Jvm.MethodName)) ∈ lw_tbl := pv_t6 (pv_mg 98 rfl)
theorem dL_law_1151 : decode cL_law 1151 = .ok (.istore 6, 2) := by decide +kernel
theorem dL_law_1153 : decode cL_law 1153 = .ok (.aload_n 2, 1) := by decide +kernel
theorem dL_law_1154 : decode cL_law 1154 = .ok (.aload_n 0, 1) := by decide +kernel
theorem dL_law_1155 : decode cL_law 1155 = .ok (.iload 5, 2) := by decide +kernel
theorem dL_law_1157 : decode cL_law 1157 = .ok (.iconst 1, 1) := by decide +kernel
theorem dL_law_1158 : decode cL_law 1158 = .ok (.iadd, 1) := by decide +kernel
theorem dL_law_1159 : decode cL_law 1159 = .ok (.iaload, 1) := by decide +kernel
theorem dL_law_1160 : decode cL_law 1160 = .ok (.aload_n 0, 1) := by decide +kernel
theorem dL_law_1161 : decode cL_law 1161 = .ok (.iload 5, 2) := by decide +kernel
theorem dL_law_1163 : decode cL_law 1163 = .ok (.iconst 2, 1) := by decide +kernel
theorem dL_law_1164 : decode cL_law 1164 = .ok (.iadd, 1) := by decide +kernel
theorem dL_law_1165 : decode cL_law 1165 = .ok (.iaload, 1) := by decide +kernel
theorem dL_law_1166 : decode cL_law 1166 = .ok (.invokevirtual 247, 3) := by decide +kernel
theorem w10_33 : (Jvm.Cond.methodLink "PolyforgeLaw" (247 : Nat) ({ cls := "PolyforgeModel", name := "derive", desc := "(II)I" } : Jvm.MethodName)) ∈ lw_tbl := pv_t10 (pv_mg 33 rfl)
theorem w10_36 : (Jvm.Cond.code ({ cls := "PolyforgeModel", name := "derive", desc := "(II)I" } : Jvm.MethodName) prog_14_method_48_code (5 : Nat) (Option.some Jvm.ClassFile.FieldType.int)) ∈ lw_tbl := pv_t10 (pv_mg 36 rfl)
theorem w10_35 : (Jvm.Cond.selects "PolyforgeModel" ({ cls := "PolyforgeModel", name := "derive", desc := "(II)I" } : Jvm.MethodName) ({ cls := "PolyforgeModel", name := "derive", desc := "(II)I" } : Jvm.MethodName)) ∈ lw_tbl := pv_t10 (pv_mg 35 rfl)
theorem w10_34 : (Jvm.Cond.instanceMethod ({ cls := "PolyforgeModel", name := "derive", desc := "(II)I" } : Jvm.MethodName)) ∈ lw_tbl := pv_t10 (pv_mg 34 rfl)
theorem dL_law_1169 : decode cL_law 1169 = .ok (.istore 7, 2) := by decide +kernel
theorem dL_law_1171 : decode cL_law 1171 = .ok (.aload_n 2, 1) := by decide +kernel
theorem dL_law_1172 : decode cL_law 1172 = .ok (.invokevirtual 199, 3) := by decide +kernel
theorem dL_law_1175 : decode cL_law 1175 = .ok (.iload 6, 2) := by decide +kernel
theorem dL_law_1177 : decode cL_law 1177 = .ok (.if_icmp .eq 5, 3) := by decide +kernel
theorem dL_law_1182 : decode cL_law 1182 = .ok (.iload 6, 2) := by decide +kernel
theorem dL_law_1184 : decode cL_law 1184 = .ok (.ifCond .ne 15, 3) := by decide +kernel
theorem dL_law_1199 : decode cL_law 1199 = .ok (.goto 2522, 3) := by decide +kernel
set_option maxHeartbeats 4000000 in
set_option maxRecDepth 100000 in
/-- the law, call 14: derive -/
theorem law_case_14 {p : Program} {e : Env} {s : State} {m : MethodId} {below : List Frame} {meth : Method} {c : Code} (l : Launch) (hfl : l.stackTraces = false) {b : Nat} {xs : Nat → Int32} (C0 : lw_At p s m meth c b 7 xs) {D : va_G} {A : Nat → Prop} (hA : ∀ q : Nat, s.heap.size ≤ q → A q) (hAf : ∀ q : Nat, A q → s.heap.size ≤ q) (hbA : ¬ A b) (hE : pv_E A s s.heap) {x0 m0 o0 d0 : Nat} {xq xw mq : Nat → Nat} {xJ xP xO xC xI mI mI2 mI3 mT mC oL : ClassId} {xsg xsf msg msf : Nat → Int32} (hxsg : ∀ j, j < 3 → xsg j = 63) (hmsg : ∀ j, j < 3 → msg j = 63) {H : Heap} {locs : List Loc} (hK : va_K D pv_cl [(xJ, .long), (xP, .object "Polyforge$Polynomial"), (xO, .object "Polyforge$Ideal"), (xC, .char), (xI, .int), (mI, .int), (mT, .object "PolyforgeModel$Terms"), (mI2, .int), (mC, .char), (mI3, .int), (oL, .long)] s) (hP : va_P D pv_cl [(x0, .inr (0, [.ref (xq 0), .int 0, .int 108, .ref (xq 1), .int 0, .ref (xq 2), .int 0, .ref (xq 3), .ref (xq 4), .int 1, .ref (xq 5), .ref (xq 6), .ref (xq 7), .ref (xq 8), .ref (xq 9)])), ((xq 6), .inr (2, [.ref (xw 0), .ref (xw 1), .ref (xw 2), .ref (xw 3), .int 0, .int 0])), ((xw 2), .inl (xJ, 64, .inr (.inl (fun _ => 0)))), ((xq 0), .inl (xP, 60, .inr (.inr (.inr (.inr (fun _ => none)))))), ((xq 1), .inl (xO, 5, .inr (.inr (.inr (.inr (fun _ => none)))))), ((xq 3), .inl (xC, 3, .inl xsg)), ((xq 4), .inl (xI, 3, .inl xsf)), (m0, .inr (1, pv_m 0 mq)), ((mq 0), .inl (mI, 60, .inl (fun _ => 0))), ((mq 1), .inl (mT, 60, .inr (.inr (.inr (.inr (fun _ => none)))))), ((mq 2), .inl (mI2, 5, .inl (fun _ => 0))), ((mq 9), .inl (mC, 3, .inl msg)), ((mq 10), .inl (mI3, 3, .inl msf)), (o0, .inl (oL, 1, .inr (.inl (fun _ => 0))))] H) (hD : va_D A [(x0, .inr (0, [.ref (xq 0), .int 0, .int 108, .ref (xq 1), .int 0, .ref (xq 2), .int 0, .ref (xq 3), .ref (xq 4), .int 1, .ref (xq 5), .ref (xq 6), .ref (xq 7), .ref (xq 8), .ref (xq 9)])), ((xq 6), .inr (2, [.ref (xw 0), .ref (xw 1), .ref (xw 2), .ref (xw 3), .int 0, .int 0])), ((xw 2), .inl (xJ, 64, .inr (.inl (fun _ => 0)))), ((xq 0), .inl (xP, 60, .inr (.inr (.inr (.inr (fun _ => none)))))), ((xq 1), .inl (xO, 5, .inr (.inr (.inr (.inr (fun _ => none)))))), ((xq 3), .inl (xC, 3, .inl xsg)), ((xq 4), .inl (xI, 3, .inl xsf)), (m0, .inr (1, pv_m 0 mq)), ((mq 0), .inl (mI, 60, .inl (fun _ => 0))), ((mq 1), .inl (mT, 60, .inr (.inr (.inr (.inr (fun _ => none)))))), ((mq 2), .inl (mI2, 5, .inl (fun _ => 0))), ((mq 9), .inl (mC, 3, .inl msg)), ((mq 10), .inl (mI3, 3, .inl msf)), (o0, .inl (oL, 1, .inr (.inl (fun _ => 0))))]) (hS : va_S A s.heap H locs) {ls : Array Slot} (hl : lv_has ls 9 [(0, .ref b), (1, .ref x0), (2, .ref m0), (3, .ref o0), (4, .ref d0), (5, .int 0)]) : W p l e room_1 s m #[Value.ref b] below meth c H locs 397 653821 (lw_Z below #[Value.ref b] s) (F0 m 1134 ls []) := by
  obtain ⟨hx, hb, hr, hml, hown, hts0, hX, hbl, hlocks, hgv⟩ := C0
  have hts : ∀ w ∈ pv_W, w.before #[Value.ref b] s = true := fun w h => hts0 w (List.mem_filter.mp h).1
  have hg := fun {w : Cond} (h : w ∈ lw_tbl) (g : goodWord w = true) => hts w (pv_in h g)
  have hP : va_P D pv_cl [(x0, .inr (0, [.ref (xq 0), .int 0, .int 108, .ref (xq 1), .int 0, .ref (xq 2), .int 0, .ref (xq 3), .ref (xq 4), .int 1, .ref (xq 5), .ref (xq 6), .ref (xq 7), .ref (xq 8), .ref (xq 9)])), (m0, .inr (1, pv_m 0 mq))] _ := hP.sub [0, 7] rfl
  have hD : va_D A [(x0, .inr (0, [.ref (xq 0), .int 0, .int 108, .ref (xq 1), .int 0, .ref (xq 2), .int 0, .ref (xq 3), .ref (xq 4), .int 1, .ref (xq 5), .ref (xq 6), .ref (xq 7), .ref (xq 8), .ref (xq 9)])), (m0, .inr (1, pv_m 0 mq))] := hD.sub [0, 7] (by decide) rfl
  have hK : va_K D pv_cl [] s := hK.sub [] rfl
  refine lv_aload_n hx hb dL_law_1134 rfl (lv_at hl 1 rfl) ?_
  refine lv_aload_n hx hb dL_law_1135 rfl (lv_at hl 0 rfl) ?_
  refine lv_iload hx hb dL_law_1136 (lv_at hl 5 rfl) ?_
  refine lv_iconst (v := 1) hx hb dL_law_1138 (by decide) ?_
  refine lv_iadd hx hb dL_law_1139 ?_
  refine pv_setI 1 (by decide) ?_
  refine va_sld hx hb hX hbl hbA hS (by unfold vp_in; decide) dL_law_1140 ?_
  refine pv_setI (xs 1) rfl ?_
  refine lv_aload_n hx hb dL_law_1141 rfl (lv_at hl 0 rfl) ?_
  refine lv_iload hx hb dL_law_1142 (lv_at hl 5 rfl) ?_
  refine lv_iconst (v := 2) hx hb dL_law_1144 (by decide) ?_
  refine lv_iadd hx hb dL_law_1145 ?_
  refine pv_setI 2 (by decide) ?_
  refine va_sld hx hb hX hbl hbA hS (by unfold vp_in; decide) dL_law_1146 ?_
  refine pv_setI (xs 2) rfl ?_
  refine pv_pc 1147 rfl ?_
  refine lv_aload_n hx hb dL_law_1147 rfl (lv_at hl 3 rfl) ?_
  have hF := pv_new hA hS.1
  refine va_calli (vx_runSW (As := [.ref x0, .int (xs 1), .int (xs 2), .ref o0]) (rest := []) ⟨hx, hb, hml, hown, hts⟩ (c_L_derive l hfl D _ x0 xq (xs 1) (xs 2) o0) (vx_cwSW 4 hts (pv_gSW w6_97 w6_98 w1_0 w6_99) rfl rfl rfl (by decide +kernel) ⟨Nat.le_of_ble_eq_true rfl, Nat.le_of_ble_eq_true rfl⟩) (pv_ps hE hS hF (hP.sub [0] rfl) (hK.sub [] rfl) (hD.sub [0] (by decide) rfl)) rfl rfl hl.1 rfl (lv_room (Nat.le_of_ble_eq_true rfl)) dL_law_1148 ⟨Nat.le_of_ble_eq_true rfl, Nat.le_of_ble_eq_true rfl⟩) hS (fun q _ h => hF q h) hF (fun r_0 u t H1 locs1 ht hvm hw hB hz1 hk1 hS => ?_)
  refine W.widen (k := 398) (n := 653827) (Nat.le_of_ble_eq_true rfl) (Nat.le_of_ble_eq_true rfl) ?_
  have hP := pv_keep hP rfl hk1
  subst hw
  refine lv_istore (lv' := [(6, .int 1), (0, .ref b), (1, .ref x0), (2, .ref m0), (3, .ref o0), (4, .ref d0), (5, .int 0)]) hx hb dL_law_1151 hl (by decide) rfl (fun ls hl => ?_)
  refine lv_aload_n hx hb dL_law_1153 rfl (lv_at hl 3 rfl) ?_
  refine lv_aload_n hx hb dL_law_1154 rfl (lv_at hl 1 rfl) ?_
  refine lv_iload hx hb dL_law_1155 (lv_at hl 6 rfl) ?_
  refine lv_iconst (v := 1) hx hb dL_law_1157 (by decide) ?_
  refine lv_iadd hx hb dL_law_1158 ?_
  refine pv_setI 1 (by decide) ?_
  refine va_sld hx hb hX hbl hbA hS (by unfold vp_in; decide) dL_law_1159 ?_
  refine pv_setI (xs 1) rfl ?_
  refine lv_aload_n hx hb dL_law_1160 rfl (lv_at hl 1 rfl) ?_
  refine lv_iload hx hb dL_law_1161 (lv_at hl 6 rfl) ?_
  refine lv_iconst (v := 2) hx hb dL_law_1163 (by decide) ?_
  refine pv_pc 1164 rfl ?_
  refine lv_iadd hx hb dL_law_1164 ?_
  refine pv_setI 2 (by decide) ?_
  refine va_sld hx hb hX hbl hbA hS (by unfold vp_in; decide) dL_law_1165 ?_
  refine pv_setI (xs 2) rfl ?_
  have hF := va_free (wc := [(m0, .inr (1, pv_m 0 mq))]) hD hS hA [1] rfl
  refine va_calli (va_runV (As := [.int (xs 1), .int (xs 2)]) (rest := []) ⟨hx, hb, hml, hown, hts⟩ (c_X13_derive l hfl D _ m0 mq (xs 1) (xs 2)) (cwV 2 hts (pv_gV w10_33 w10_34 w10_35 w1_10 w10_36) rfl rfl rfl (by decide +kernel) ⟨Nat.le_of_ble_eq_true rfl, Nat.le_of_ble_eq_true rfl⟩) (pv_pV hE hS hF (hP.sub [1] rfl) (hK.sub [] rfl) (hD.sub [1] (by decide) rfl) (va_recv (ci := 1) (q0 := 1) hK hP rfl rfl)) rfl rfl hl.1 rfl (lv_room (Nat.le_of_ble_eq_true rfl)) dL_law_1166 ⟨Nat.le_of_ble_eq_true rfl, Nat.le_of_ble_eq_true rfl⟩) hS (fun q _ h => hF q h) hF (fun r_1 u t H1 locs1 ht hvm hw hB hz1 hk1 hS => ?_)
  refine W.widen (k := 398) (n := 653827) (Nat.le_of_ble_eq_true rfl) (Nat.le_of_ble_eq_true rfl) ?_
  subst hw
  obtain ⟨fs_3, hf_4, hP1, hK1, hD1⟩ := hB
  rw [ht] at hP1
  have hK1 := va_K.moved hvm.symm hK1
  obtain ⟨hP, hD⟩ := va_join (wr := [(x0, .inr (0, [.ref (xq 0), .int 0, .int 108, .ref (xq 1), .int 0, .ref (xq 2), .int 0, .ref (xq 3), .ref (xq 4), .int 1, .ref (xq 5), .ref (xq 6), .ref (xq 7), .ref (xq 8), .ref (xq 9)]))]) (w1 := [(m0, .inr (1, fs_3))]) hP hD [1] [0] rfl rfl (by decide) (by decide) hk1 hF hP1 hD1
  have hP : va_P D pv_cl [(x0, .inr (0, [.ref (xq 0), .int 0, .int 108, .ref (xq 1), .int 0, .ref (xq 2), .int 0, .ref (xq 3), .ref (xq 4), .int 1, .ref (xq 5), .ref (xq 6), .ref (xq 7), .ref (xq 8), .ref (xq 9)])), (m0, .inr (1, fs_3))] _ := hP
  have hD : va_D A [(x0, .inr (0, [.ref (xq 0), .int 0, .int 108, .ref (xq 1), .int 0, .ref (xq 2), .int 0, .ref (xq 3), .ref (xq 4), .int 1, .ref (xq 5), .ref (xq 6), .ref (xq 7), .ref (xq 8), .ref (xq 9)])), (m0, .inr (1, fs_3))] := hD
  refine lv_istore (lv' := [(7, .int r_1), (6, .int 1), (0, .ref b), (1, .ref x0), (2, .ref m0), (3, .ref o0), (4, .ref d0), (5, .int 0)]) hx hb dL_law_1169 hl (by decide) rfl (fun ls hl => ?_)
  refine lv_aload_n hx hb dL_law_1171 rfl (lv_at hl 4 rfl) ?_
  have hF := pv_new hA hS.1
  refine va_calli (va_runV (As := []) (rest := []) ⟨hx, hb, hml, hown, hts⟩ (c_X13_thrown l hfl D _ m0 fs_3 1 hf_4) (cwV 0 hts (pv_gV w9_102 w9_103 w9_104 w1_10 w9_105) rfl rfl rfl (by decide +kernel) ⟨Nat.le_of_ble_eq_true rfl, Nat.le_of_ble_eq_true rfl⟩) (pv_pV hE hS hF (hP.sub [1] rfl) (hK.sub [] rfl) (hD.sub [1] (by decide) rfl) (va_recv (ci := 1) (q0 := 1) hK hP rfl rfl)) rfl rfl hl.1 rfl (lv_room (Nat.le_of_ble_eq_true rfl)) dL_law_1172 ⟨Nat.le_of_ble_eq_true rfl, Nat.le_of_ble_eq_true rfl⟩) hS (fun q _ h => hF q h) hF (fun r_4 u t H1 locs1 ht hvm hw hB hz1 hk1 hS => ?_)
  refine W.widen (k := 398) (n := 653827) (Nat.le_of_ble_eq_true rfl) (Nat.le_of_ble_eq_true rfl) ?_
  have hP := pv_keep hP rfl hk1
  subst hw
  refine lv_iload hx hb dL_law_1175 (lv_at hl 1 rfl) ?_
  refine lv_icmp_eq (tgt := 1182) hx hb dL_law_1177 (by decide) (fun _ => ?_) (fun c_6 => absurd (by decide) c_6)
  refine lv_iload hx hb dL_law_1182 (lv_at hl 1 rfl) ?_
  refine lv_if_ne (tgt := 1199) hx hb dL_law_1184 (by decide) (fun _ => ?_) (fun c_7 => absurd c_7 (by decide))
  refine lv_goto (tgt := 3721) hx hb dL_law_1199 (by decide) ?_
  refine lv_iinc (v := 7) (lv' := [(5, .int 7), (7, .int r_1), (6, .int 1), (0, .ref b), (1, .ref x0), (2, .ref m0), (3, .ref o0), (4, .ref d0)]) hx hb dL_law_3721 hl (k := 7) rfl (by decide) (by decide) rfl (fun ls hl => ?_)
  refine pv_pc 3724 rfl ?_
  refine lv_goto (tgt := 28) hx hb dL_law_3724 (by decide) ?_
  refine lv_iload hx hb dL_law_28 (lv_at hl 0 rfl) ?_
  refine lv_aload_n hx hb dL_law_30 rfl (lv_at hl 3 rfl) ?_
  refine va_slen hx hb hX hbl hbA hS dL_law_31 ?_
  refine pv_setI 7 rfl ?_
  refine lv_bipush (v := 7) hx hb dL_law_32 (by decide) ?_
  refine lv_isub hx hb dL_law_34 ?_
  refine pv_setI 0 (by decide) ?_
  refine lv_icmp_gt (tgt := 3727) hx hb dL_law_35 (by decide) (fun _ => ?_) (fun c_8 => absurd (by decide) c_8)
  refine lv_iconst (v := 1) hx hb dL_law_3727 (by decide) ?_
  refine va_forget (fun q hq => hAf _ (hS.2.2 q hq)) ?_
  refine W.widen (k := 600006) (n := 7302064) (Nat.le_of_ble_eq_true rfl) (Nat.le_of_ble_eq_true rfl) ?_
  exact lw_ret (d0 := s.drawn) (Drawn.sameBut.refl s.drawn lw_cs) hx hb hr hlocks dL_law_3728

