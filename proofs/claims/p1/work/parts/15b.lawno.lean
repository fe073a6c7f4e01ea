theorem dL_law_1202 : decode cL_law 1202 = .ok (.aload_n 1, 1) := by decide +kernel
theorem dL_law_1203 : decode cL_law 1203 = .ok (.aload_n 0, 1) := by decide +kernel
theorem dL_law_1204 : decode cL_law 1204 = .ok (.iload 5, 2) := by decide +kernel
theorem dL_law_1206 : decode cL_law 1206 = .ok (.iconst 1, 1) := by decide +kernel
theorem dL_law_1207 : decode cL_law 1207 = .ok (.iadd, 1) := by decide +kernel
theorem dL_law_1208 : decode cL_law 1208 = .ok (.iaload, 1) := by decide +kernel
theorem dL_law_1209 : decode cL_law 1209 = .ok (.aload_n 0, 1) := by decide +kernel
theorem dL_law_1210 : decode cL_law 1210 = .ok (.iload 5, 2) := by decide +kernel
theorem dL_law_1212 : decode cL_law 1212 = .ok (.iconst 2, 1) := by decide +kernel
theorem dL_law_1213 : decode cL_law 1213 = .ok (.iadd, 1) := by decide +kernel
theorem dL_law_1214 : decode cL_law 1214 = .ok (.iaload, 1) := by decide +kernel
theorem dL_law_1215 : decode cL_law 1215 = .ok (.aload_n 3, 1) := by decide +kernel
theorem dL_law_1216 : decode cL_law 1216 = .ok (.invokestatic 248, 3) := by decide +kernel
theorem w6_105 : (Jvm.Cond.methodLink "PolyforgeLaw" (248 : Nat) ({ cls := "PolyforgeLaw", name := "integrate", desc := "(LPolyforge;II[J)I" } : Jvm.MethodName)) ∈ lw_tbl := pv_t6 (pv_mg 105 rfl)
theorem w6_107 : (Jvm.Cond.codeWith ({ cls := "PolyforgeLaw", name := "integrate", desc := "(LPolyforge;II[J)I" } : Jvm.MethodName) method_17_code (5 : Nat) (Option.some Jvm.ClassFile.FieldType.int) [((0 : Nat), (10 : Nat), (13 : Nat), (23 : Nat)), ((0 : Nat), (10 : Nat), (17 : Nat), (13 : Nat)), ((0 : Nat), (10 : Nat), (21 : Nat), (25 : Nat)), ((0 : Nat), (10 : Nat), (25 : Nat), (27 : Nat)), ((0 : Nat), (10 : Nat), (29 : Nat), (15 : Nat))]) ∈ lw_tbl := pv_t6 (pv_mg 107 rfl)
theorem w6_106 : (Jvm.Cond.static ({ cls := "PolyforgeLaw", name := "integrate", desc := "(LPolyforge;II[J)I" } : Jvm.MethodName)) ∈ lw_tbl := pv_t6 (pv_mg 106 rfl)
theorem dL_law_1219 : decode cL_law 1219 = .ok (.istore 6, 2) := by decide +kernel
theorem dL_law_1221 : decode cL_law 1221 = .ok (.aload_n 2, 1) := by decide +kernel
theorem dL_law_1222 : decode cL_law 1222 = .ok (.aload_n 0, 1) := by decide +kernel
theorem dL_law_1223 : decode cL_law 1223 = .ok (.iload 5, 2) := by decide +kernel
theorem dL_law_1225 : decode cL_law 1225 = .ok (.iconst 1, 1) := by decide +kernel
theorem dL_law_1226 : decode cL_law 1226 = .ok (.iadd, 1) := by decide +kernel
theorem dL_law_1227 : decode cL_law 1227 = .ok (.iaload, 1) := by decide +kernel
theorem dL_law_1228 : decode cL_law 1228 = .ok (.aload_n 0, 1) := by decide +kernel
theorem dL_law_1229 : decode cL_law 1229 = .ok (.iload 5, 2) := by decide +kernel
theorem dL_law_1231 : decode cL_law 1231 = .ok (.iconst 2, 1) := by decide +kernel
theorem dL_law_1232 : decode cL_law 1232 = .ok (.iadd, 1) := by decide +kernel
theorem dL_law_1233 : decode cL_law 1233 = .ok (.iaload, 1) := by decide +kernel
theorem dL_law_1234 : decode cL_law 1234 = .ok (.invokevirtual 250, 3) := by decide +kernel
theorem w10_40 : (Jvm.Cond.methodLink "PolyforgeLaw" (250 : Nat) ({ cls := "PolyforgeModel", name := "integrate", desc := "(II)I" } : Jvm.MethodName)) ∈ lw_tbl := pv_t10 (pv_mg 40 rfl)
theorem w10_43 : (Jvm.Cond.code ({ cls := "PolyforgeModel", name := "integrate", desc := "(II)I" } : Jvm.MethodName) prog_14_method_49_code (11 : Nat) (Option.some Jvm.ClassFile.FieldType.int)) ∈ lw_tbl := pv_t10 (pv_mg 43 rfl)
theorem w10_42 : (Jvm.Cond.selects "PolyforgeModel" ({ cls := "PolyforgeModel", name := "integrate", desc := "(II)I" } : Jvm.MethodName) ({ cls := "PolyforgeModel", name := "integrate", desc := "(II)I" } : Jvm.MethodName)) ∈ lw_tbl := pv_t10 (pv_mg 42 rfl)
theorem w10_41 : (Jvm.Cond.instanceMethod ({ cls := "PolyforgeModel", name := "integrate", desc := "(II)I" } : Jvm.MethodName)) ∈ lw_tbl := pv_t10 (pv_mg 41 rfl)
theorem dL_law_1237 : decode cL_law 1237 = .ok (.istore 7, 2) := by decide +kernel
theorem dL_law_1239 : decode cL_law 1239 = .ok (.aload_n 2, 1) := by decide +kernel
theorem dL_law_1240 : decode cL_law 1240 = .ok (.invokevirtual 199, 3) := by decide +kernel
theorem dL_law_1243 : decode cL_law 1243 = .ok (.iload 6, 2) := by decide +kernel
theorem dL_law_1245 : decode cL_law 1245 = .ok (.if_icmp .eq 5, 3) := by decide +kernel
theorem dL_law_1250 : decode cL_law 1250 = .ok (.iload 6, 2) := by decide +kernel
theorem dL_law_1252 : decode cL_law 1252 = .ok (.ifCond .ne 15, 3) := by decide +kernel
theorem dL_law_1267 : decode cL_law 1267 = .ok (.goto 2454, 3) := by decide +kernel
set_option maxHeartbeats 4000000 in
set_option maxRecDepth 100000 in
/-- the law, call 15: integrate -/
theorem law_case_15 {p : Program} {e : Env} {s : State} {m : MethodId} {below : List Frame} {meth : Method} {c : Code} (l : Launch) (hfl : l.stackTraces = false) {b : Nat} {xs : Nat → Int32} (C0 : lw_At p s m meth c b 7 xs) {D : va_G} {A : Nat → Prop} (hA : ∀ q : Nat, s.heap.size ≤ q → A q) (hAf : ∀ q : Nat, A q → s.heap.size ≤ q) (hbA : ¬ A b) (hE : pv_E A s s.heap) {x0 m0 o0 d0 : Nat} {xq xw mq : Nat → Nat} {xJ xP xO xC xI mI mI2 mI3 mT mC oL : ClassId} {xsg xsf msg msf : Nat → Int32} (hxsg : ∀ j, j < 3 → xsg j = 63) (hmsg : ∀ j, j < 3 → msg j = 63) {H : Heap} {locs : List Loc} (hK : va_K D pv_cl [(xJ, .long), (xP, .object "Polyforge$Polynomial"), (xO, .object "Polyforge$Ideal"), (xC, .char), (xI, .int), (mI, .int), (mT, .object "PolyforgeModel$Terms"), (mI2, .int), (mC, .char), (mI3, .int), (oL, .long)] s) (hP : va_P D pv_cl [(x0, .inr (0, [.ref (xq 0), .int 0, .int 108, .ref (xq 1), .int 0, .ref (xq 2), .int 0, .ref (xq 3), .ref (xq 4), .int 1, .ref (xq 5), .ref (xq 6), .ref (xq 7), .ref (xq 8), .ref (xq 9)])), ((xq 6), .inr (2, [.ref (xw 0), .ref (xw 1), .ref (xw 2), .ref (xw 3), .int 0, .int 0])), ((xw 2), .inl (xJ, 64, .inr (.inl (fun _ => 0)))), ((xq 0), .inl (xP, 60, .inr (.inr (.inr (.inr (fun _ => none)))))), ((xq 1), .inl (xO, 5, .inr (.inr (.inr (.inr (fun _ => none)))))), ((xq 3), .inl (xC, 3, .inl xsg)), ((xq 4), .inl (xI, 3, .inl xsf)), (m0, .inr (1, pv_m 0 mq)), ((mq 0), .inl (mI, 60, .inl (fun _ => 0))), ((mq 1), .inl (mT, 60, .inr (.inr (.inr (.inr (fun _ => none)))))), ((mq 2), .inl (mI2, 5, .inl (fun _ => 0))), ((mq 9), .inl (mC, 3, .inl msg)), ((mq 10), .inl (mI3, 3, .inl msf)), (o0, .inl (oL, 1, .inr (.inl (fun _ => 0))))] H) (hD : va_D A [(x0, .inr (0, [.ref (xq 0), .int 0, .int 108, .ref (xq 1), .int 0, .ref (xq 2), .int 0, .ref (xq 3), .ref (xq 4), .int 1, .ref (xq 5), .ref (xq 6), .ref (xq 7), .ref (xq 8), .ref (xq 9)])), ((xq 6), .inr (2, [.ref (xw 0), .ref (xw 1), .ref (xw 2), .ref (xw 3), .int 0, .int 0])), ((xw 2), .inl (xJ, 64, .inr (.inl (fun _ => 0)))), ((xq 0), .inl (xP, 60, .inr (.inr (.inr (.inr (fun _ => none)))))), ((xq 1), .inl (xO, 5, .inr (.inr (.inr (.inr (fun _ => none)))))), ((xq 3), .inl (xC, 3, .inl xsg)), ((xq 4), .inl (xI, 3, .inl xsf)), (m0, .inr (1, pv_m 0 mq)), ((mq 0), .inl (mI, 60, .inl (fun _ => 0))), ((mq 1), .inl (mT, 60, .inr (.inr (.inr (.inr (fun _ => none)))))), ((mq 2), .inl (mI2, 5, .inl (fun _ => 0))), ((mq 9), .inl (mC, 3, .inl msg)), ((mq 10), .inl (mI3, 3, .inl msf)), (o0, .inl (oL, 1, .inr (.inl (fun _ => 0))))]) (hS : va_S A s.heap H locs) {ls : Array Slot} (hl : lv_has ls 9 [(0, .ref b), (1, .ref x0), (2, .ref m0), (3, .ref o0), (4, .ref d0), (5, .int 0)]) : W p l e room_1 s m #[Value.ref b] below meth c H locs 397 653821 (lw_Z below #[Value.ref b] s) (F0 m 1202 ls []) := by
  obtain ⟨hx, hb, hr, hml, hown, hts0, hX, hbl, hlocks, hgv⟩ := C0
  have hts : ∀ w ∈ pv_W, w.before #[Value.ref b] s = true := fun w h => hts0 w (List.mem_filter.mp h).1
  have hg := fun {w : Cond} (h : w ∈ lw_tbl) (g : goodWord w = true) => hts w (pv_in h g)
  have hP : va_P D pv_cl [(x0, .inr (0, [.ref (xq 0), .int 0, .int 108, .ref (xq 1), .int 0, .ref (xq 2), .int 0, .ref (xq 3), .ref (xq 4), .int 1, .ref (xq 5), .ref (xq 6), .ref (xq 7), .ref (xq 8), .ref (xq 9)])), (m0, .inr (1, pv_m 0 mq))] _ := hP.sub [0, 7] rfl
  have hD : va_D A [(x0, .inr (0, [.ref (xq 0), .int 0, .int 108, .ref (xq 1), .int 0, .ref (xq 2), .int 0, .ref (xq 3), .ref (xq 4), .int 1, .ref (xq 5), .ref (xq 6), .ref (xq 7), .ref (xq 8), .ref (xq 9)])), (m0, .inr (1, pv_m 0 mq))] := hD.sub [0, 7] (by decide) rfl
  have hK : va_K D pv_cl [] s := hK.sub [] rfl
  refine lv_aload_n hx hb dL_law_1202 rfl (lv_at hl 1 rfl) ?_
  refine lv_aload_n hx hb dL_law_1203 rfl (lv_at hl 0 rfl) ?_
  refine lv_iload hx hb dL_law_1204 (lv_at hl 5 rfl) ?_
  refine lv_iconst (v := 1) hx hb dL_law_1206 (by decide) ?_
  refine lv_iadd hx hb dL_law_1207 ?_
  refine pv_setI 1 (by decide) ?_
  refine va_sld hx hb hX hbl hbA hS (by unfold vp_in; decide) dL_law_1208 ?_
  refine pv_setI (xs 1) rfl ?_
  refine lv_aload_n hx hb dL_law_1209 rfl (lv_at hl 0 rfl) ?_
  refine lv_iload hx hb dL_law_1210 (lv_at hl 5 rfl) ?_
  refine lv_iconst (v := 2) hx hb dL_law_1212 (by decide) ?_
  refine lv_iadd hx hb dL_law_1213 ?_
  refine pv_setI 2 (by decide) ?_
  refine va_sld hx hb hX hbl hbA hS (by unfold vp_in; decide) dL_law_1214 ?_
  refine pv_setI (xs 2) rfl ?_
  refine pv_pc 1215 rfl ?_
  refine lv_aload_n hx hb dL_law_1215 rfl (lv_at hl 3 rfl) ?_
  have hF := pv_new hA hS.1
  refine va_calli (vx_runSW (As := [.ref x0, .int (xs 1), .int (xs 2), .ref o0]) (rest := []) ⟨hx, hb, hml, hown, hts⟩ (c_L_integrate l hfl D _ x0 xq (xs 1) (xs 2) o0) (vx_cwSW 4 hts (pv_gSW w6_105 w6_106 w1_0 w6_107) rfl rfl rfl (by decide +kernel) ⟨Nat.le_of_ble_eq_true rfl, Nat.le_of_ble_eq_true rfl⟩) (pv_ps hE hS hF (hP.sub [0] rfl) (hK.sub [] rfl) (hD.sub [0] (by decide) rfl)) rfl rfl hl.1 rfl (lv_room (Nat.le_of_ble_eq_true rfl)) dL_law_1216 ⟨Nat.le_of_ble_eq_true rfl, Nat.le_of_ble_eq_true rfl⟩) hS (fun q _ h => hF q h) hF (fun r_0 u t H1 locs1 ht hvm hw hB hz1 hk1 hS => ?_)
  refine W.widen (k := 398) (n := 653827) (Nat.le_of_ble_eq_true rfl) (Nat.le_of_ble_eq_true rfl) ?_
  have hP := pv_keep hP rfl hk1
  subst hw
  refine lv_istore (lv' := [(6, .int 1), (0, .ref b), (1, .ref x0), (2, .ref m0), (3, .ref o0), (4, .ref d0), (5, .int 0)]) hx hb dL_law_1219 hl (by decide) rfl (fun ls hl => ?_)
  refine lv_aload_n hx hb dL_law_1221 rfl (lv_at hl 3 rfl) ?_
  refine lv_aload_n hx hb dL_law_1222 rfl (lv_at hl 1 rfl) ?_
  refine lv_iload hx hb dL_law_1223 (lv_at hl 6 rfl) ?_
  refine lv_iconst (v := 1) hx hb dL_law_1225 (by decide) ?_
  refine lv_iadd hx hb dL_law_1226 ?_
  refine pv_setI 1 (by decide) ?_
  refine va_sld hx hb hX hbl hbA hS (by unfold vp_in; decide) dL_law_1227 ?_
  refine pv_setI (xs 1) rfl ?_
  refine lv_aload_n hx hb dL_law_1228 rfl (lv_at hl 1 rfl) ?_
  refine lv_iload hx hb dL_law_1229 (lv_at hl 6 rfl) ?_
  refine lv_iconst (v := 2) hx hb dL_law_1231 (by decide) ?_
  refine pv_pc 1232 rfl ?_
  refine lv_iadd hx hb dL_law_1232 ?_
  refine pv_setI 2 (by decide) ?_
  refine va_sld hx hb hX hbl hbA hS (by unfold vp_in; decide) dL_law_1233 ?_
  refine pv_setI (xs 2) rfl ?_
  have hF := va_free (wc := [(m0, .inr (1, pv_m 0 mq))]) hD hS hA [1] rfl
  refine va_calli (va_runV (As := [.int (xs 1), .int (xs 2)]) (rest := []) ⟨hx, hb, hml, hown, hts⟩ (c_X13_integrate l hfl D _ m0 mq (xs 1) (xs 2)) (cwV 2 hts (pv_gV w10_40 w10_41 w10_42 w1_10 w10_43) rfl rfl rfl (by decide +kernel) ⟨Nat.le_of_ble_eq_true rfl, Nat.le_of_ble_eq_true rfl⟩) (pv_pV hE hS hF (hP.sub [1] rfl) (hK.sub [] rfl) (hD.sub [1] (by decide) rfl) (va_recv (ci := 1) (q0 := 1) hK hP rfl rfl)) rfl rfl hl.1 rfl (lv_room (Nat.le_of_ble_eq_true rfl)) dL_law_1234 ⟨Nat.le_of_ble_eq_true rfl, Nat.le_of_ble_eq_true rfl⟩) hS (fun q _ h => hF q h) hF (fun r_1 u t H1 locs1 ht hvm hw hB hz1 hk1 hS => ?_)
  refine W.widen (k := 398) (n := 653827) (Nat.le_of_ble_eq_true rfl) (Nat.le_of_ble_eq_true rfl) ?_
  subst hw
  obtain ⟨fs_3, hf_4, hP1, hK1, hD1⟩ := hB
  rw [ht] at hP1
  have hK1 := va_K.moved hvm.symm hK1
  obtain ⟨hP, hD⟩ := va_join (wr := [(x0, .inr (0, [.ref (xq 0), .int 0, .int 108, .ref (xq 1), .int 0, .ref (xq 2), .int 0, .ref (xq 3), .ref (xq 4), .int 1, .ref (xq 5), .ref (xq 6), .ref (xq 7), .ref (xq 8), .ref (xq 9)]))]) (w1 := [(m0, .inr (1, fs_3))]) hP hD [1] [0] rfl rfl (by decide) (by decide) hk1 hF hP1 hD1
  have hP : va_P D pv_cl [(x0, .inr (0, [.ref (xq 0), .int 0, .int 108, .ref (xq 1), .int 0, .ref (xq 2), .int 0, .ref (xq 3), .ref (xq 4), .int 1, .ref (xq 5), .ref (xq 6), .ref (xq 7), .ref (xq 8), .ref (xq 9)])), (m0, .inr (1, fs_3))] _ := hP
  have hD : va_D A [(x0, .inr (0, [.ref (xq 0), .int 0, .int 108, .ref (xq 1), .int 0, .ref (xq 2), .int 0, .ref (xq 3), .ref (xq 4), .int 1, .ref (xq 5), .ref (xq 6), .ref (xq 7), .ref (xq 8), .ref (xq 9)])), (m0, .inr (1, fs_3))] := hD
  refine lv_istore (lv' := [(7, .int r_1), (6, .int 1), (0, .ref b), (1, .ref x0), (2, .ref m0), (3, .ref o0), (4, .ref d0), (5, .int 0)]) hx hb dL_law_1237 hl (by decide) rfl (fun ls hl => ?_)
  refine lv_aload_n hx hb dL_law_1239 rfl (lv_at hl 4 rfl) ?_
  have hF := pv_new hA hS.1
  refine va_calli (va_runV (As := []) (rest := []) ⟨hx, hb, hml, hown, hts⟩ (c_X13_thrown l hfl D _ m0 fs_3 1 hf_4) (cwV 0 hts (pv_gV w9_102 w9_103 w9_104 w1_10 w9_105) rfl rfl rfl (by decide +kernel) ⟨Nat.le_of_ble_eq_true rfl, Nat.le_of_ble_eq_true rfl⟩) (pv_pV hE hS hF (hP.sub [1] rfl) (hK.sub [] rfl) (hD.sub [1] (by decide) rfl) (va_recv (ci := 1) (q0 := 1) hK hP rfl rfl)) rfl rfl hl.1 rfl (lv_room (Nat.le_of_ble_eq_true rfl)) dL_law_1240 ⟨Nat.le_of_ble_eq_true rfl, Nat.le_of_ble_eq_true rfl⟩) hS (fun q _ h => hF q h) hF (fun r_4 u t H1 locs1 ht hvm hw hB hz1 hk1 hS => ?_)
  refine W.widen (k := 398) (n := 653827) (Nat.le_of_ble_eq_true rfl) (Nat.le_of_ble_eq_true rfl) ?_
  have hP := pv_keep hP rfl hk1
  subst hw
  refine lv_iload hx hb dL_law_1243 (lv_at hl 1 rfl) ?_
  refine lv_icmp_eq (tgt := 1250) hx hb dL_law_1245 (by decide) (fun _ => ?_) (fun c_6 => absurd (by decide) c_6)
  refine lv_iload hx hb dL_law_1250 (lv_at hl 1 rfl) ?_
  refine lv_if_ne (tgt := 1267) hx hb dL_law_1252 (by decide) (fun _ => ?_) (fun c_7 => absurd c_7 (by decide))
  refine lv_goto (tgt := 3721) hx hb dL_law_1267 (by decide) ?_
  refine lv_iinc (v := 7) (lv' := [(5, .int 7), (7, .int r_1), (6, .int 1), (0, .ref b), (1, .ref x0), (2, .ref m0), (3, .ref o0), (4, .ref d0)]) hx hb dL_law_3721 hl (k := 7) rfl (by decide) (by decide) rfl (fun ls hl => ?_)
  refine pv_pc 3724 rfl ?_
  refine lv_goto (tgt := 28) hx hb dL_law_3724 (by decide) ?_
  refine lv_iload hx hb dL_law_28 (lv_at hl 0 rfl) ?_
  refine lv_aload_n hx hb dL_law_30 rfl (lv_at hl 3 rfl) ?_
  refine va_slen hx hb hX hbl hbA hS dL_law_31 ?_
  refine pv_setI 7 rfl ?_
  refine lv_bipush (v := 7) hx hb dL_law_32 (by decide) ?_
  refine lv_isub hx hb dL_law_34 ?_
  refine pv_setI 0 (by decide) ?_
  refine lv_icmp_gt (tgt := 3727) hx hb dL_law_35 (by decide) (fun _ => ?_) (fun c_8 => absurd (by decide) c_8)
  refine lv_iconst (v := 1) hx hb dL_law_3727 (by decide) ?_
  refine va_forget (fun q hq => hAf _ (hS.2.2 q hq)) ?_
  refine W.widen (k := 600006) (n := 7302064) (Nat.le_of_ble_eq_true rfl) (Nat.le_of_ble_eq_true rfl) ?_
  exact lw_ret (d0 := s.drawn) (Drawn.sameBut.refl s.drawn lw_cs) hx hb hr hlocks dL_law_3728

theorem dL_law_1270 : decode cL_law 1270 = .ok (.aload_n 1, 1) := by decide +kernel
theorem dL_law_1271 : decode cL_law 1271 = .ok (.aload_n 0, 1) := by decide +kernel
theorem dL_law_1272 : decode cL_law 1272 = .ok (.iload 5, 2) := by decide +kernel
theorem dL_law_1274 : decode cL_law 1274 = .ok (.iconst 1, 1) := by decide +kernel
theorem dL_law_1275 : decode cL_law 1275 = .ok (.iadd, 1) := by decide +kernel
theorem dL_law_1276 : decode cL_law 1276 = .ok (.iaload, 1) := by decide +kernel
theorem dL_law_1277 : decode cL_law 1277 = .ok (.aload_n 0, 1) := by decide +kernel
theorem dL_law_1278 : decode cL_law 1278 = .ok (.iload 5, 2) := by decide +kernel
theorem dL_law_1280 : decode cL_law 1280 = .ok (.iconst 2, 1) := by decide +kernel
theorem dL_law_1281 : decode cL_law 1281 = .ok (.iadd, 1) := by decide +kernel
theorem dL_law_1282 : decode cL_law 1282 = .ok (.iaload, 1) := by decide +kernel
theorem dL_law_1283 : decode cL_law 1283 = .ok (.aload_n 0, 1) := by decide +kernel
theorem dL_law_1284 : decode cL_law 1284 = .ok (.iload 5, 2) := by decide +kernel
theorem dL_law_1286 : decode cL_law 1286 = .ok (.iconst 3, 1) := by decide +kernel
theorem dL_law_1287 : decode cL_law 1287 = .ok (.iadd, 1) := by decide +kernel
theorem dL_law_1288 : decode cL_law 1288 = .ok (.iaload, 1) := by decide +kernel
theorem dL_law_1289 : decode cL_law 1289 = .ok (.aload_n 3, 1) := by decide +kernel
theorem dL_law_1290 : decode cL_law 1290 = .ok (.invokestatic 251, 3) := by decide +kernel
theorem w6_121 : (Jvm.Cond.methodLink "PolyforgeLaw" (251 : Nat) ({ cls := "PolyforgeLaw", name := "substitute", desc := "(LPolyforge;III[J)I" } : Jvm.MethodName)) ∈ lw_tbl := pv_t6 (pv_mg 121 rfl)
theorem w6_123 : (Jvm.Cond.codeWith ({ cls := "PolyforgeLaw", name := "substitute", desc := "(LPolyforge;III[J)I" } : Jvm.MethodName) method_18_code (6 : Nat) (Option.some Jvm.ClassFile.FieldType.int) [((0 : Nat), (12 : Nat), (15 : Nat), (23 : Nat)), ((0 : Nat), (12 : Nat), (19 : Nat), (13 : Nat)), ((0 : Nat), (12 : Nat), (23 : Nat), (25 : Nat)), ((0 : Nat), (12 : Nat), (27 : Nat), (27 : Nat)), ((0 : Nat), (12 : Nat), (31 : Nat), (15 : Nat))]) ∈ lw_tbl := pv_t6 (pv_mg 123 rfl)
theorem w6_122 : (Jvm.Cond.static ({ cls := "PolyforgeLaw", name := "substitute", desc := "(LPolyforge;III[J)I" } : Jvm.MethodName)) ∈ lw_tbl := pv_t6 (pv_mg 122 rfl)
theorem dL_law_1293 : decode cL_law 1293 = .ok (.istore 6, 2) := by decide +kernel
theorem dL_law_1295 : decode cL_law 1295 = .ok (.aload_n 2, 1) := by decide +kernel
theorem dL_law_1296 : decode cL_law 1296 = .ok (.aload_n 0, 1) := by decide +kernel
theorem dL_law_1297 : decode cL_law 1297 = .ok (.iload 5, 2) := by decide +kernel
theorem dL_law_1299 : decode cL_law 1299 = .ok (.iconst 1, 1) := by decide +kernel
theorem dL_law_1300 : decode cL_law 1300 = .ok (.iadd, 1) := by decide +kernel
theorem dL_law_1301 : decode cL_law 1301 = .ok (.iaload, 1) := by decide +kernel
theorem dL_law_1302 : decode cL_law 1302 = .ok (.aload_n 0, 1) := by decide +kernel
theorem dL_law_1303 : decode cL_law 1303 = .ok (.iload 5, 2) := by decide +kernel
theorem dL_law_1305 : decode cL_law 1305 = .ok (.iconst 2, 1) := by decide +kernel
theorem dL_law_1306 : decode cL_law 1306 = .ok (.iadd, 1) := by decide +kernel
theorem dL_law_1307 : decode cL_law 1307 = .ok (.iaload, 1) := by decide +kernel
theorem dL_law_1308 : decode cL_law 1308 = .ok (.aload_n 0, 1) := by decide +kernel
theorem dL_law_1309 : decode cL_law 1309 = .ok (.iload 5, 2) := by decide +kernel
theorem dL_law_1311 : decode cL_law 1311 = .ok (.iconst 3, 1) := by decide +kernel
theorem dL_law_1312 : decode cL_law 1312 = .ok (.iadd, 1) := by decide +kernel
theorem dL_law_1313 : decode cL_law 1313 = .ok (.iaload, 1) := by decide +kernel
theorem dL_law_1314 : decode cL_law 1314 = .ok (.invokevirtual 253, 3) := by decide +kernel
theorem w10_47 : (Jvm.Cond.methodLink "PolyforgeLaw" (253 : Nat) ({ cls := "PolyforgeModel", name := "substitute", desc := "(III)I" } : Jvm.MethodName)) ∈ lw_tbl := pv_t10 (pv_mg 47 rfl)
theorem w10_50 : (Jvm.Cond.code ({ cls := "PolyforgeModel", name := "substitute", desc := "(III)I" } : Jvm.MethodName) prog_14_method_50_code (9 : Nat) (Option.some Jvm.ClassFile.FieldType.int)) ∈ lw_tbl := pv_t10 (pv_mg 50 rfl)
theorem w10_49 : (Jvm.Cond.selects "PolyforgeModel" ({ cls := "PolyforgeModel", name := "substitute", desc := "(III)I" } : Jvm.MethodName) ({ cls := "PolyforgeModel", name := "substitute", desc := "(III)I" } : Jvm.MethodName)) ∈ lw_tbl := pv_t10 (pv_mg 49 rfl)
theorem w10_48 : (Jvm.Cond.instanceMethod ({ cls := "PolyforgeModel", name := "substitute", desc := "(III)I" } : Jvm.MethodName)) ∈ lw_tbl := pv_t10 (pv_mg 48 rfl)
theorem dL_law_1317 : decode cL_law 1317 = .ok (.istore 7, 2) := by decide +kernel
theorem dL_law_1319 : decode cL_law 1319 = .ok (.aload_n 2, 1) := by decide +kernel
theorem dL_law_1320 : decode cL_law 1320 = .ok (.invokevirtual 199, 3) := by decide +kernel
theorem dL_law_1323 : decode cL_law 1323 = .ok (.iload 6, 2) := by decide +kernel
theorem dL_law_1325 : decode cL_law 1325 = .ok (.if_icmp .eq 5, 3) := by decide +kernel
theorem dL_law_1330 : decode cL_law 1330 = .ok (.iload 6, 2) := by decide +kernel
theorem dL_law_1332 : decode cL_law 1332 = .ok (.ifCond .ne 15, 3) := by decide +kernel
theorem dL_law_1347 : decode cL_law 1347 = .ok (.goto 2374, 3) := by decide +kernel
set_option maxHeartbeats 4000000 in
set_option maxRecDepth 100000 in
/-- the law, call 16: substitute -/
theorem law_case_16 {p : Program} {e : Env} {s : State} {m : MethodId} {below : List Frame} {meth : Method} {c : Code} (l : Launch) (hfl : l.stackTraces = false) {b : Nat} {xs : Nat → Int32} (C0 : lw_At p s m meth c b 7 xs) {D : va_G} {A : Nat → Prop} (hA : ∀ q : Nat, s.heap.size ≤ q → A q) (hAf : ∀ q : Nat, A q → s.heap.size ≤ q) (hbA : ¬ A b) (hE : pv_E A s s.heap) {x0 m0 o0 d0 : Nat} {xq xw mq : Nat → Nat} {xJ xP xO xC xI mI mI2 mI3 mT mC oL : ClassId} {xsg xsf msg msf : Nat → Int32} (hxsg : ∀ j, j < 3 → xsg j = 63) (hmsg : ∀ j, j < 3 → msg j = 63) {H : Heap} {locs : List Loc} (hK : va_K D pv_cl [(xJ, .long), (xP, .object "Polyforge$Polynomial"), (xO, .object "Polyforge$Ideal"), (xC, .char), (xI, .int), (mI, .int), (mT, .object "PolyforgeModel$Terms"), (mI2, .int), (mC, .char), (mI3, .int), (oL, .long)] s) (hP : va_P D pv_cl [(x0, .inr (0, [.ref (xq 0), .int 0, .int 108, .ref (xq 1), .int 0, .ref (xq 2), .int 0, .ref (xq 3), .ref (xq 4), .int 1, .ref (xq 5), .ref (xq 6), .ref (xq 7), .ref (xq 8), .ref (xq 9)])), ((xq 6), .inr (2, [.ref (xw 0), .ref (xw 1), .ref (xw 2), .ref (xw 3), .int 0, .int 0])), ((xw 2), .inl (xJ, 64, .inr (.inl (fun _ => 0)))), ((xq 0), .inl (xP, 60, .inr (.inr (.inr (.inr (fun _ => none)))))), ((xq 1), .inl (xO, 5, .inr (.inr (.inr (.inr (fun _ => none)))))), ((xq 3), .inl (xC, 3, .inl xsg)), ((xq 4), .inl (xI, 3, .inl xsf)), (m0, .inr (1, pv_m 0 mq)), ((mq 0), .inl (mI, 60, .inl (fun _ => 0))), ((mq 1), .inl (mT, 60, .inr (.inr (.inr (.inr (fun _ => none)))))), ((mq 2), .inl (mI2, 5, .inl (fun _ => 0))), ((mq 9), .inl (mC, 3, .inl msg)), ((mq 10), .inl (mI3, 3, .inl msf)), (o0, .inl (oL, 1, .inr (.inl (fun _ => 0))))] H) (hD : va_D A [(x0, .inr (0, [.ref (xq 0), .int 0, .int 108, .ref (xq 1), .int 0, .ref (xq 2), .int 0, .ref (xq 3), .ref (xq 4), .int 1, .ref (xq 5), .ref (xq 6), .ref (xq 7), .ref (xq 8), .ref (xq 9)])), ((xq 6), .inr (2, [.ref (xw 0), .ref (xw 1), .ref (xw 2), .ref (xw 3), .int 0, .int 0])), ((xw 2), .inl (xJ, 64, .inr (.inl (fun _ => 0)))), ((xq 0), .inl (xP, 60, .inr (.inr (.inr (.inr (fun _ => none)))))), ((xq 1), .inl (xO, 5, .inr (.inr (.inr (.inr (fun _ => none)))))), ((xq 3), .inl (xC, 3, .inl xsg)), ((xq 4), .inl (xI, 3, .inl xsf)), (m0, .inr (1, pv_m 0 mq)), ((mq 0), .inl (mI, 60, .inl (fun _ => 0))), ((mq 1), .inl (mT, 60, .inr (.inr (.inr (.inr (fun _ => none)))))), ((mq 2), .inl (mI2, 5, .inl (fun _ => 0))), ((mq 9), .inl (mC, 3, .inl msg)), ((mq 10), .inl (mI3, 3, .inl msf)), (o0, .inl (oL, 1, .inr (.inl (fun _ => 0))))]) (hS : va_S A s.heap H locs) {ls : Array Slot} (hl : lv_has ls 9 [(0, .ref b), (1, .ref x0), (2, .ref m0), (3, .ref o0), (4, .ref d0), (5, .int 0)]) : W p l e room_1 s m #[Value.ref b] below meth c H locs 397 653821 (lw_Z below #[Value.ref b] s) (F0 m 1270 ls []) := by
  obtain ⟨hx, hb, hr, hml, hown, hts0, hX, hbl, hlocks, hgv⟩ := C0
  have hts : ∀ w ∈ pv_W, w.before #[Value.ref b] s = true := fun w h => hts0 w (List.mem_filter.mp h).1
  have hg := fun {w : Cond} (h : w ∈ lw_tbl) (g : goodWord w = true) => hts w (pv_in h g)
  have hP : va_P D pv_cl [(x0, .inr (0, [.ref (xq 0), .int 0, .int 108, .ref (xq 1), .int 0, .ref (xq 2), .int 0, .ref (xq 3), .ref (xq 4), .int 1, .ref (xq 5), .ref (xq 6), .ref (xq 7), .ref (xq 8), .ref (xq 9)])), (m0, .inr (1, pv_m 0 mq))] _ := hP.sub [0, 7] rfl
  have hD : va_D A [(x0, .inr (0, [.ref (xq 0), .int 0, .int 108, .ref (xq 1), .int 0, .ref (xq 2), .int 0, .ref (xq 3), .ref (xq 4), .int 1, .ref (xq 5), .ref (xq 6), .ref (xq 7), .ref (xq 8), .ref (xq 9)])), (m0, .inr (1, pv_m 0 mq))] := hD.sub [0, 7] (by decide) rfl
  have hK : va_K D pv_cl [] s := hK.sub [] rfl
  refine lv_aload_n hx hb dL_law_1270 rfl (lv_at hl 1 rfl) ?_
  refine lv_aload_n hx hb dL_law_1271 rfl (lv_at hl 0 rfl) ?_
  refine lv_iload hx hb dL_law_1272 (lv_at hl 5 rfl) ?_
  refine lv_iconst (v := 1) hx hb dL_law_1274 (by decide) ?_
  refine lv_iadd hx hb dL_law_1275 ?_
  refine pv_setI 1 (by decide) ?_
  refine va_sld hx hb hX hbl hbA hS (by unfold vp_in; decide) dL_law_1276 ?_
  refine pv_setI (xs 1) rfl ?_
  refine lv_aload_n hx hb dL_law_1277 rfl (lv_at hl 0 rfl) ?_
  refine lv_iload hx hb dL_law_1278 (lv_at hl 5 rfl) ?_
  refine lv_iconst (v := 2) hx hb dL_law_1280 (by decide) ?_
  refine lv_iadd hx hb dL_law_1281 ?_
  refine pv_setI 2 (by decide) ?_
  refine va_sld hx hb hX hbl hbA hS (by unfold vp_in; decide) dL_law_1282 ?_
  refine pv_setI (xs 2) rfl ?_
  refine pv_pc 1283 rfl ?_
  refine lv_aload_n hx hb dL_law_1283 rfl (lv_at hl 0 rfl) ?_
  refine lv_iload hx hb dL_law_1284 (lv_at hl 5 rfl) ?_
  refine lv_iconst (v := 3) hx hb dL_law_1286 (by decide) ?_
  refine lv_iadd hx hb dL_law_1287 ?_
  refine pv_setI 3 (by decide) ?_
  refine va_sld hx hb hX hbl hbA hS (by unfold vp_in; decide) dL_law_1288 ?_
  refine pv_setI (xs 3) rfl ?_
  refine lv_aload_n hx hb dL_law_1289 rfl (lv_at hl 3 rfl) ?_
  have hF := pv_new hA hS.1
  refine va_calli (vx_runSW (As := [.ref x0, .int (xs 1), .int (xs 2), .int (xs 3), .ref o0]) (rest := []) ⟨hx, hb, hml, hown, hts⟩ (c_L_substitute l hfl D _ x0 xq (xs 1) (xs 2) (xs 3) o0) (vx_cwSW 5 hts (pv_gSW w6_121 w6_122 w1_0 w6_123) rfl rfl rfl (by decide +kernel) ⟨Nat.le_of_ble_eq_true rfl, Nat.le_of_ble_eq_true rfl⟩) (pv_ps hE hS hF (hP.sub [0] rfl) (hK.sub [] rfl) (hD.sub [0] (by decide) rfl)) rfl rfl hl.1 rfl (lv_room (Nat.le_of_ble_eq_true rfl)) dL_law_1290 ⟨Nat.le_of_ble_eq_true rfl, Nat.le_of_ble_eq_true rfl⟩) hS (fun q _ h => hF q h) hF (fun r_0 u t H1 locs1 ht hvm hw hB hz1 hk1 hS => ?_)
  refine W.widen (k := 398) (n := 653827) (Nat.le_of_ble_eq_true rfl) (Nat.le_of_ble_eq_true rfl) ?_
  have hP := pv_keep hP rfl hk1
  subst hw
  refine lv_istore (lv' := [(6, .int 1), (0, .ref b), (1, .ref x0), (2, .ref m0), (3, .ref o0), (4, .ref d0), (5, .int 0)]) hx hb dL_law_1293 hl (by decide) rfl (fun ls hl => ?_)
  refine lv_aload_n hx hb dL_law_1295 rfl (lv_at hl 3 rfl) ?_
  refine lv_aload_n hx hb dL_law_1296 rfl (lv_at hl 1 rfl) ?_
  refine lv_iload hx hb dL_law_1297 (lv_at hl 6 rfl) ?_
  refine lv_iconst (v := 1) hx hb dL_law_1299 (by decide) ?_
  refine pv_pc 1300 rfl ?_
  refine lv_iadd hx hb dL_law_1300 ?_
  refine pv_setI 1 (by decide) ?_
  refine va_sld hx hb hX hbl hbA hS (by unfold vp_in; decide) dL_law_1301 ?_
  refine pv_setI (xs 1) rfl ?_
  refine lv_aload_n hx hb dL_law_1302 rfl (lv_at hl 1 rfl) ?_
  refine lv_iload hx hb dL_law_1303 (lv_at hl 6 rfl) ?_
  refine lv_iconst (v := 2) hx hb dL_law_1305 (by decide) ?_
  refine lv_iadd hx hb dL_law_1306 ?_
  refine pv_setI 2 (by decide) ?_
  refine va_sld hx hb hX hbl hbA hS (by unfold vp_in; decide) dL_law_1307 ?_
  refine pv_setI (xs 2) rfl ?_
  refine lv_aload_n hx hb dL_law_1308 rfl (lv_at hl 1 rfl) ?_
  refine lv_iload hx hb dL_law_1309 (lv_at hl 6 rfl) ?_
  refine lv_iconst (v := 3) hx hb dL_law_1311 (by decide) ?_
  refine lv_iadd hx hb dL_law_1312 ?_
  refine pv_setI 3 (by decide) ?_
  refine va_sld hx hb hX hbl hbA hS (by unfold vp_in; decide) dL_law_1313 ?_
  refine pv_setI (xs 3) rfl ?_
  refine pv_pc 1314 rfl ?_
  have hF := va_free (wc := [(m0, .inr (1, pv_m 0 mq))]) hD hS hA [1] rfl
  refine va_calli (va_runV (As := [.int (xs 1), .int (xs 2), .int (xs 3)]) (rest := []) ⟨hx, hb, hml, hown, hts⟩ (c_X13_substitute l hfl D _ m0 mq (xs 1) (xs 2) (xs 3)) (cwV 3 hts (pv_gV w10_47 w10_48 w10_49 w1_10 w10_50) rfl rfl rfl (by decide +kernel) ⟨Nat.le_of_ble_eq_true rfl, Nat.le_of_ble_eq_true rfl⟩) (pv_pV hE hS hF (hP.sub [1] rfl) (hK.sub [] rfl) (hD.sub [1] (by decide) rfl) (va_recv (ci := 1) (q0 := 1) hK hP rfl rfl)) rfl rfl hl.1 rfl (lv_room (Nat.le_of_ble_eq_true rfl)) dL_law_1314 ⟨Nat.le_of_ble_eq_true rfl, Nat.le_of_ble_eq_true rfl⟩) hS (fun q _ h => hF q h) hF (fun r_1 u t H1 locs1 ht hvm hw hB hz1 hk1 hS => ?_)
  refine W.widen (k := 398) (n := 653827) (Nat.le_of_ble_eq_true rfl) (Nat.le_of_ble_eq_true rfl) ?_
  subst hw
  obtain ⟨fs_3, hf_4, hP1, hK1, hD1⟩ := hB
  rw [ht] at hP1
  have hK1 := va_K.moved hvm.symm hK1
  obtain ⟨hP, hD⟩ := va_join (wr := [(x0, .inr (0, [.ref (xq 0), .int 0, .int 108, .ref (xq 1), .int 0, .ref (xq 2), .int 0, .ref (xq 3), .ref (xq 4), .int 1, .ref (xq 5), .ref (xq 6), .ref (xq 7), .ref (xq 8), .ref (xq 9)]))]) (w1 := [(m0, .inr (1, fs_3))]) hP hD [1] [0] rfl rfl (by decide) (by decide) hk1 hF hP1 hD1
  have hP : va_P D pv_cl [(x0, .inr (0, [.ref (xq 0), .int 0, .int 108, .ref (xq 1), .int 0, .ref (xq 2), .int 0, .ref (xq 3), .ref (xq 4), .int 1, .ref (xq 5), .ref (xq 6), .ref (xq 7), .ref (xq 8), .ref (xq 9)])), (m0, .inr (1, fs_3))] _ := hP
  have hD : va_D A [(x0, .inr (0, [.ref (xq 0), .int 0, .int 108, .ref (xq 1), .int 0, .ref (xq 2), .int 0, .ref (xq 3), .ref (xq 4), .int 1, .ref (xq 5), .ref (xq 6), .ref (xq 7), .ref (xq 8), .ref (xq 9)])), (m0, .inr (1, fs_3))] := hD
  refine lv_istore (lv' := [(7, .int r_1), (6, .int 1), (0, .ref b), (1, .ref x0), (2, .ref m0), (3, .ref o0), (4, .ref d0), (5, .int 0)]) hx hb dL_law_1317 hl (by decide) rfl (fun ls hl => ?_)
  refine lv_aload_n hx hb dL_law_1319 rfl (lv_at hl 4 rfl) ?_
  have hF := pv_new hA hS.1
  refine va_calli (va_runV (As := []) (rest := []) ⟨hx, hb, hml, hown, hts⟩ (c_X13_thrown l hfl D _ m0 fs_3 1 hf_4) (cwV 0 hts (pv_gV w9_102 w9_103 w9_104 w1_10 w9_105) rfl rfl rfl (by decide +kernel) ⟨Nat.le_of_ble_eq_true rfl, Nat.le_of_ble_eq_true rfl⟩) (pv_pV hE hS hF (hP.sub [1] rfl) (hK.sub [] rfl) (hD.sub [1] (by decide) rfl) (va_recv (ci := 1) (q0 := 1) hK hP rfl rfl)) rfl rfl hl.1 rfl (lv_room (Nat.le_of_ble_eq_true rfl)) dL_law_1320 ⟨Nat.le_of_ble_eq_true rfl, Nat.le_of_ble_eq_true rfl⟩) hS (fun q _ h => hF q h) hF (fun r_4 u t H1 locs1 ht hvm hw hB hz1 hk1 hS => ?_)
  refine W.widen (k := 398) (n := 653827) (Nat.le_of_ble_eq_true rfl) (Nat.le_of_ble_eq_true rfl) ?_
  have hP := pv_keep hP rfl hk1
  subst hw
  refine lv_iload hx hb dL_law_1323 (lv_at hl 1 rfl) ?_
  refine lv_icmp_eq (tgt := 1330) hx hb dL_law_1325 (by decide) (fun _ => ?_) (fun c_6 => absurd (by decide) c_6)
  refine lv_iload hx hb dL_law_1330 (lv_at hl 1 rfl) ?_
  refine lv_if_ne (tgt := 1347) hx hb dL_law_1332 (by decide) (fun _ => ?_) (fun c_7 => absurd c_7 (by decide))
  refine lv_goto (tgt := 3721) hx hb dL_law_1347 (by decide) ?_
  refine lv_iinc (v := 7) (lv' := [(5, .int 7), (7, .int r_1), (6, .int 1), (0, .ref b), (1, .ref x0), (2, .ref m0), (3, .ref o0), (4, .ref d0)]) hx hb dL_law_3721 hl (k := 7) rfl (by decide) (by decide) rfl (fun ls hl => ?_)
  refine lv_goto (tgt := 28) hx hb dL_law_3724 (by decide) ?_
  refine lv_iload hx hb dL_law_28 (lv_at hl 0 rfl) ?_
  refine pv_pc 30 rfl ?_
  refine lv_aload_n hx hb dL_law_30 rfl (lv_at hl 3 rfl) ?_
  refine va_slen hx hb hX hbl hbA hS dL_law_31 ?_
  refine pv_setI 7 rfl ?_
  refine lv_bipush (v := 7) hx hb dL_law_32 (by decide) ?_
  refine lv_isub hx hb dL_law_34 ?_
  refine pv_setI 0 (by decide) ?_
  refine lv_icmp_gt (tgt := 3727) hx hb dL_law_35 (by decide) (fun _ => ?_) (fun c_8 => absurd (by decide) c_8)
  refine lv_iconst (v := 1) hx hb dL_law_3727 (by decide) ?_
  refine va_forget (fun q hq => hAf _ (hS.2.2 q hq)) ?_
  refine W.widen (k := 600006) (n := 7302064) (Nat.le_of_ble_eq_true rfl) (Nat.le_of_ble_eq_true rfl) ?_
  exact lw_ret (d0 := s.drawn) (Drawn.sameBut.refl s.drawn lw_cs) hx hb hr hlocks dL_law_3728

theorem dL_law_1350 : decode cL_law 1350 = .ok (.aload_n 1, 1) := by decide +kernel
theorem dL_law_1351 : decode cL_law 1351 = .ok (.aload_n 0, 1) := by decide +kernel
theorem dL_law_1352 : decode cL_law 1352 = .ok (.iload 5, 2) := by decide +kernel
theorem dL_law_1354 : decode cL_law 1354 = .ok (.iconst 1, 1) := by decide +kernel
theorem dL_law_1355 : decode cL_law 1355 = .ok (.iadd, 1) := by decide +kernel
theorem dL_law_1356 : decode cL_law 1356 = .ok (.iaload, 1) := by decide +kernel
theorem dL_law_1357 : decode cL_law 1357 = .ok (.aload_n 0, 1) := by decide +kernel
theorem dL_law_1358 : decode cL_law 1358 = .ok (.iload 5, 2) := by decide +kernel
theorem dL_law_1360 : decode cL_law 1360 = .ok (.iconst 2, 1) := by decide +kernel
theorem dL_law_1361 : decode cL_law 1361 = .ok (.iadd, 1) := by decide +kernel
theorem dL_law_1362 : decode cL_law 1362 = .ok (.iaload, 1) := by decide +kernel
theorem dL_law_1363 : decode cL_law 1363 = .ok (.aload_n 0, 1) := by decide +kernel
theorem dL_law_1364 : decode cL_law 1364 = .ok (.iload 5, 2) := by decide +kernel
theorem dL_law_1366 : decode cL_law 1366 = .ok (.iconst 3, 1) := by decide +kernel
theorem dL_law_1367 : decode cL_law 1367 = .ok (.iadd, 1) := by decide +kernel
theorem dL_law_1368 : decode cL_law 1368 = .ok (.iaload, 1) := by decide +kernel
theorem dL_law_1369 : decode cL_law 1369 = .ok (.aload_n 0, 1) := by decide +kernel
theorem dL_law_1370 : decode cL_law 1370 = .ok (.iload 5, 2) := by decide +kernel
theorem dL_law_1372 : decode cL_law 1372 = .ok (.iconst 4, 1) := by decide +kernel
theorem dL_law_1373 : decode cL_law 1373 = .ok (.iadd, 1) := by decide +kernel
theorem dL_law_1374 : decode cL_law 1374 = .ok (.iaload, 1) := by decide +kernel
theorem dL_law_1375 : decode cL_law 1375 = .ok (.aload_n 3, 1) := by decide +kernel
theorem dL_law_1376 : decode cL_law 1376 = .ok (.invokestatic 254, 3) := by decide +kernel
theorem w6_145 : (Jvm.Cond.methodLink "PolyforgeLaw" (254 : Nat) ({ cls := "PolyforgeLaw", name := "value", desc := "(LPolyforge;IIII[J)I" } : Jvm.MethodName)) ∈ lw_tbl := pv_t6 (pv_mg 145 rfl)
theorem w6_147 : (Jvm.Cond.codeWith ({ cls := "PolyforgeLaw", name := "value", desc := "(LPolyforge;IIII[J)I" } : Jvm.MethodName) method_19_code (7 : Nat) (Option.some Jvm.ClassFile.FieldType.int) [((0 : Nat), (14 : Nat), (17 : Nat), (23 : Nat)), ((0 : Nat), (14 : Nat), (21 : Nat), (13 : Nat)), ((0 : Nat), (14 : Nat), (25 : Nat), (25 : Nat))]) ∈ lw_tbl := pv_t6 (pv_mg 147 rfl)
theorem w6_146 : (Jvm.Cond.static ({ cls := "PolyforgeLaw", name := "value", desc := "(LPolyforge;IIII[J)I" } : Jvm.MethodName)) ∈ lw_tbl := pv_t6 (pv_mg 146 rfl)
theorem dL_law_1379 : decode cL_law 1379 = .ok (.istore 6, 2) := by decide +kernel
theorem dL_law_1381 : decode cL_law 1381 = .ok (.aload_n 2, 1) := by decide +kernel
theorem dL_law_1382 : decode cL_law 1382 = .ok (.aload_n 0, 1) := by decide +kernel
theorem dL_law_1383 : decode cL_law 1383 = .ok (.iload 5, 2) := by decide +kernel
theorem dL_law_1385 : decode cL_law 1385 = .ok (.iconst 1, 1) := by decide +kernel
theorem dL_law_1386 : decode cL_law 1386 = .ok (.iadd, 1) := by decide +kernel
theorem dL_law_1387 : decode cL_law 1387 = .ok (.iaload, 1) := by decide +kernel
theorem dL_law_1388 : decode cL_law 1388 = .ok (.aload_n 0, 1) := by decide +kernel
theorem dL_law_1389 : decode cL_law 1389 = .ok (.iload 5, 2) := by decide +kernel
theorem dL_law_1391 : decode cL_law 1391 = .ok (.iconst 2, 1) := by decide +kernel
theorem dL_law_1392 : decode cL_law 1392 = .ok (.iadd, 1) := by decide +kernel
theorem dL_law_1393 : decode cL_law 1393 = .ok (.iaload, 1) := by decide +kernel
theorem dL_law_1394 : decode cL_law 1394 = .ok (.aload_n 0, 1) := by decide +kernel
theorem dL_law_1395 : decode cL_law 1395 = .ok (.iload 5, 2) := by decide +kernel
theorem dL_law_1397 : decode cL_law 1397 = .ok (.iconst 3, 1) := by decide +kernel
theorem dL_law_1398 : decode cL_law 1398 = .ok (.iadd, 1) := by decide +kernel
theorem dL_law_1399 : decode cL_law 1399 = .ok (.iaload, 1) := by decide +kernel
theorem dL_law_1400 : decode cL_law 1400 = .ok (.aload_n 0, 1) := by decide +kernel
theorem dL_law_1401 : decode cL_law 1401 = .ok (.iload 5, 2) := by decide +kernel
theorem dL_law_1403 : decode cL_law 1403 = .ok (.iconst 4, 1) := by decide +kernel
theorem dL_law_1404 : decode cL_law 1404 = .ok (.iadd, 1) := by decide +kernel
theorem dL_law_1405 : decode cL_law 1405 = .ok (.iaload, 1) := by decide +kernel
theorem dL_law_1406 : decode cL_law 1406 = .ok (.invokevirtual 257, 3) := by decide +kernel
theorem w10_55 : (Jvm.Cond.methodLink "PolyforgeLaw" (257 : Nat) ({ cls := "PolyforgeModel", name := "value", desc := "(IIII)I" } : Jvm.MethodName)) ∈ lw_tbl := pv_t10 (pv_mg 55 rfl)
theorem w10_58 : (Jvm.Cond.code ({ cls := "PolyforgeModel", name := "value", desc := "(IIII)I" } : Jvm.MethodName) prog_14_method_51_code (12 : Nat) (Option.some Jvm.ClassFile.FieldType.int)) ∈ lw_tbl := pv_t10 (pv_mg 58 rfl)
theorem w10_57 : (Jvm.Cond.selects "PolyforgeModel" ({ cls := "PolyforgeModel", name := "value", desc := "(IIII)I" } : Jvm.MethodName) ({ cls := "PolyforgeModel", name := "value", desc := "(IIII)I" } : Jvm.MethodName)) ∈ lw_tbl := pv_t10 (pv_mg 57 rfl)
theorem w10_56 : (Jvm.Cond.instanceMethod ({ cls := "PolyforgeModel", name := "value", desc := "(IIII)I" } : Jvm.MethodName)) ∈ lw_tbl := pv_t10 (pv_mg 56 rfl)
theorem dL_law_1409 : decode cL_law 1409 = .ok (.istore 7, 2) := by decide +kernel
theorem dL_law_1411 : decode cL_law 1411 = .ok (.aload_n 2, 1) := by decide +kernel
theorem dL_law_1412 : decode cL_law 1412 = .ok (.invokevirtual 199, 3) := by decide +kernel
theorem dL_law_1415 : decode cL_law 1415 = .ok (.iload 6, 2) := by decide +kernel
theorem dL_law_1417 : decode cL_law 1417 = .ok (.if_icmp .eq 5, 3) := by decide +kernel
theorem dL_law_1422 : decode cL_law 1422 = .ok (.iload 6, 2) := by decide +kernel
theorem dL_law_1424 : decode cL_law 1424 = .ok (.ifCond .ne 15, 3) := by decide +kernel
theorem dL_law_1439 : decode cL_law 1439 = .ok (.goto 2282, 3) := by decide +kernel
set_option maxHeartbeats 4000000 in
set_option maxRecDepth 100000 in
/-- the law, call 17: value -/
theorem law_case_17 {p : Program} {e : Env} {s : State} {m : MethodId} {below : List Frame} {meth : Method} {c : Code} (l : Launch) (hfl : l.stackTraces = false) {b : Nat} {xs : Nat → Int32} (C0 : lw_At p s m meth c b 7 xs) {D : va_G} {A : Nat → Prop} (hA : ∀ q : Nat, s.heap.size ≤ q → A q) (hAf : ∀ q : Nat, A q → s.heap.size ≤ q) (hbA : ¬ A b) (hE : pv_E A s s.heap) {x0 m0 o0 d0 : Nat} {xq xw mq : Nat → Nat} {xJ xP xO xC xI mI mI2 mI3 mT mC oL : ClassId} {xsg xsf msg msf : Nat → Int32} (hxsg : ∀ j, j < 3 → xsg j = 63) (hmsg : ∀ j, j < 3 → msg j = 63) {H : Heap} {locs : List Loc} (hK : va_K D pv_cl [(xJ, .long), (xP, .object "Polyforge$Polynomial"), (xO, .object "Polyforge$Ideal"), (xC, .char), (xI, .int), (mI, .int), (mT, .object "PolyforgeModel$Terms"), (mI2, .int), (mC, .char), (mI3, .int), (oL, .long)] s) (hP : va_P D pv_cl [(x0, .inr (0, [.ref (xq 0), .int 0, .int 108, .ref (xq 1), .int 0, .ref (xq 2), .int 0, .ref (xq 3), .ref (xq 4), .int 1, .ref (xq 5), .ref (xq 6), .ref (xq 7), .ref (xq 8), .ref (xq 9)])), ((xq 6), .inr (2, [.ref (xw 0), .ref (xw 1), .ref (xw 2), .ref (xw 3), .int 0, .int 0])), ((xw 2), .inl (xJ, 64, .inr (.inl (fun _ => 0)))), ((xq 0), .inl (xP, 60, .inr (.inr (.inr (.inr (fun _ => none)))))), ((xq 1), .inl (xO, 5, .inr (.inr (.inr (.inr (fun _ => none)))))), ((xq 3), .inl (xC, 3, .inl xsg)), ((xq 4), .inl (xI, 3, .inl xsf)), (m0, .inr (1, pv_m 0 mq)), ((mq 0), .inl (mI, 60, .inl (fun _ => 0))), ((mq 1), .inl (mT, 60, .inr (.inr (.inr (.inr (fun _ => none)))))), ((mq 2), .inl (mI2, 5, .inl (fun _ => 0))), ((mq 9), .inl (mC, 3, .inl msg)), ((mq 10), .inl (mI3, 3, .inl msf)), (o0, .inl (oL, 1, .inr (.inl (fun _ => 0))))] H) (hD : va_D A [(x0, .inr (0, [.ref (xq 0), .int 0, .int 108, .ref (xq 1), .int 0, .ref (xq 2), .int 0, .ref (xq 3), .ref (xq 4), .int 1, .ref (xq 5), .ref (xq 6), .ref (xq 7), .ref (xq 8), .ref (xq 9)])), ((xq 6), .inr (2, [.ref (xw 0), .ref (xw 1), .ref (xw 2), .ref (xw 3), .int 0, .int 0])), ((xw 2), .inl (xJ, 64, .inr (.inl (fun _ => 0)))), ((xq 0), .inl (xP, 60, .inr (.inr (.inr (.inr (fun _ => none)))))), ((xq 1), .inl (xO, 5, .inr (.inr (.inr (.inr (fun _ => none)))))), ((xq 3), .inl (xC, 3, .inl xsg)), ((xq 4), .inl (xI, 3, .inl xsf)), (m0, .inr (1, pv_m 0 mq)), ((mq 0), .inl (mI, 60, .inl (fun _ => 0))), ((mq 1), .inl (mT, 60, .inr (.inr (.inr (.inr (fun _ => none)))))), ((mq 2), .inl (mI2, 5, .inl (fun _ => 0))), ((mq 9), .inl (mC, 3, .inl msg)), ((mq 10), .inl (mI3, 3, .inl msf)), (o0, .inl (oL, 1, .inr (.inl (fun _ => 0))))]) (hS : va_S A s.heap H locs) {ls : Array Slot} (hl : lv_has ls 9 [(0, .ref b), (1, .ref x0), (2, .ref m0), (3, .ref o0), (4, .ref d0), (5, .int 0)]) : W p l e room_1 s m #[Value.ref b] below meth c H locs 397 653821 (lw_Z below #[Value.ref b] s) (F0 m 1350 ls []) := by
  obtain ⟨hx, hb, hr, hml, hown, hts0, hX, hbl, hlocks, hgv⟩ := C0
  have hts : ∀ w ∈ pv_W, w.before #[Value.ref b] s = true := fun w h => hts0 w (List.mem_filter.mp h).1
  have hg := fun {w : Cond} (h : w ∈ lw_tbl) (g : goodWord w = true) => hts w (pv_in h g)
  have hP : va_P D pv_cl [(x0, .inr (0, [.ref (xq 0), .int 0, .int 108, .ref (xq 1), .int 0, .ref (xq 2), .int 0, .ref (xq 3), .ref (xq 4), .int 1, .ref (xq 5), .ref (xq 6), .ref (xq 7), .ref (xq 8), .ref (xq 9)])), (m0, .inr (1, pv_m 0 mq))] _ := hP.sub [0, 7] rfl
  have hD : va_D A [(x0, .inr (0, [.ref (xq 0), .int 0, .int 108, .ref (xq 1), .int 0, .ref (xq 2), .int 0, .ref (xq 3), .ref (xq 4), .int 1, .ref (xq 5), .ref (xq 6), .ref (xq 7), .ref (xq 8), .ref (xq 9)])), (m0, .inr (1, pv_m 0 mq))] := hD.sub [0, 7] (by decide) rfl
  have hK : va_K D pv_cl [] s := hK.sub [] rfl
  refine lv_aload_n hx hb dL_law_1350 rfl (lv_at hl 1 rfl) ?_
  refine lv_aload_n hx hb dL_law_1351 rfl (lv_at hl 0 rfl) ?_
  refine lv_iload hx hb dL_law_1352 (lv_at hl 5 rfl) ?_
  refine lv_iconst (v := 1) hx hb dL_law_1354 (by decide) ?_
  refine lv_iadd hx hb dL_law_1355 ?_
  refine pv_setI 1 (by decide) ?_
  refine va_sld hx hb hX hbl hbA hS (by unfold vp_in; decide) dL_law_1356 ?_
  refine pv_setI (xs 1) rfl ?_
  refine lv_aload_n hx hb dL_law_1357 rfl (lv_at hl 0 rfl) ?_
  refine lv_iload hx hb dL_law_1358 (lv_at hl 5 rfl) ?_
  refine lv_iconst (v := 2) hx hb dL_law_1360 (by decide) ?_
  refine lv_iadd hx hb dL_law_1361 ?_
  refine pv_setI 2 (by decide) ?_
  refine va_sld hx hb hX hbl hbA hS (by unfold vp_in; decide) dL_law_1362 ?_
  refine pv_setI (xs 2) rfl ?_
  refine pv_pc 1363 rfl ?_
  refine lv_aload_n hx hb dL_law_1363 rfl (lv_at hl 0 rfl) ?_
  refine lv_iload hx hb dL_law_1364 (lv_at hl 5 rfl) ?_
  refine lv_iconst (v := 3) hx hb dL_law_1366 (by decide) ?_
  refine lv_iadd hx hb dL_law_1367 ?_
  refine pv_setI 3 (by decide) ?_
  refine va_sld hx hb hX hbl hbA hS (by unfold vp_in; decide) dL_law_1368 ?_
  refine pv_setI (xs 3) rfl ?_
  refine lv_aload_n hx hb dL_law_1369 rfl (lv_at hl 0 rfl) ?_
  refine lv_iload hx hb dL_law_1370 (lv_at hl 5 rfl) ?_
  refine lv_iconst (v := 4) hx hb dL_law_1372 (by decide) ?_
  refine lv_iadd hx hb dL_law_1373 ?_
  refine pv_setI 4 (by decide) ?_
  refine va_sld hx hb hX hbl hbA hS (by unfold vp_in; decide) dL_law_1374 ?_
  refine pv_setI (xs 4) rfl ?_
  refine lv_aload_n hx hb dL_law_1375 rfl (lv_at hl 3 rfl) ?_
  have hF := pv_new hA hS.1
  refine va_calli (vx_runSW (As := [.ref x0, .int (xs 1), .int (xs 2), .int (xs 3), .int (xs 4), .ref o0]) (rest := []) ⟨hx, hb, hml, hown, hts⟩ (c_L_value l hfl D _ x0 xq (xs 1) (xs 2) (xs 3) (xs 4) o0) (vx_cwSW 6 hts (pv_gSW w6_145 w6_146 w1_0 w6_147) rfl rfl rfl (by decide +kernel) ⟨Nat.le_of_ble_eq_true rfl, Nat.le_of_ble_eq_true rfl⟩) (pv_ps hE hS hF (hP.sub [0] rfl) (hK.sub [] rfl) (hD.sub [0] (by decide) rfl)) rfl rfl hl.1 rfl (lv_room (Nat.le_of_ble_eq_true rfl)) dL_law_1376 ⟨Nat.le_of_ble_eq_true rfl, Nat.le_of_ble_eq_true rfl⟩) hS (fun q _ h => hF q h) hF (fun r_0 u t H1 locs1 ht hvm hw hB hz1 hk1 hS => ?_)
  refine W.widen (k := 398) (n := 653827) (Nat.le_of_ble_eq_true rfl) (Nat.le_of_ble_eq_true rfl) ?_
  have hP := pv_keep hP rfl hk1
  subst hw
  refine pv_pc 1379 rfl ?_
  refine lv_istore (lv' := [(6, .int 1), (0, .ref b), (1, .ref x0), (2, .ref m0), (3, .ref o0), (4, .ref d0), (5, .int 0)]) hx hb dL_law_1379 hl (by decide) rfl (fun ls hl => ?_)
  refine lv_aload_n hx hb dL_law_1381 rfl (lv_at hl 3 rfl) ?_
  refine lv_aload_n hx hb dL_law_1382 rfl (lv_at hl 1 rfl) ?_
  refine lv_iload hx hb dL_law_1383 (lv_at hl 6 rfl) ?_
  refine lv_iconst (v := 1) hx hb dL_law_1385 (by decide) ?_
  refine lv_iadd hx hb dL_law_1386 ?_
  refine pv_setI 1 (by decide) ?_
  refine va_sld hx hb hX hbl hbA hS (by unfold vp_in; decide) dL_law_1387 ?_
  refine pv_setI (xs 1) rfl ?_
  refine lv_aload_n hx hb dL_law_1388 rfl (lv_at hl 1 rfl) ?_
  refine lv_iload hx hb dL_law_1389 (lv_at hl 6 rfl) ?_
  refine lv_iconst (v := 2) hx hb dL_law_1391 (by decide) ?_
  refine lv_iadd hx hb dL_law_1392 ?_
  refine pv_setI 2 (by decide) ?_
  refine va_sld hx hb hX hbl hbA hS (by unfold vp_in; decide) dL_law_1393 ?_
  refine pv_setI (xs 2) rfl ?_
  refine pv_pc 1394 rfl ?_
  refine lv_aload_n hx hb dL_law_1394 rfl (lv_at hl 1 rfl) ?_
  refine lv_iload hx hb dL_law_1395 (lv_at hl 6 rfl) ?_
  refine lv_iconst (v := 3) hx hb dL_law_1397 (by decide) ?_
  refine lv_iadd hx hb dL_law_1398 ?_
  refine pv_setI 3 (by decide) ?_
  refine va_sld hx hb hX hbl hbA hS (by unfold vp_in; decide) dL_law_1399 ?_
  refine pv_setI (xs 3) rfl ?_
  refine lv_aload_n hx hb dL_law_1400 rfl (lv_at hl 1 rfl) ?_
  refine lv_iload hx hb dL_law_1401 (lv_at hl 6 rfl) ?_
  refine lv_iconst (v := 4) hx hb dL_law_1403 (by decide) ?_
  refine lv_iadd hx hb dL_law_1404 ?_
  refine pv_setI 4 (by decide) ?_
  refine va_sld hx hb hX hbl hbA hS (by unfold vp_in; decide) dL_law_1405 ?_
  refine pv_setI (xs 4) rfl ?_
  have hF := va_free (wc := [(m0, .inr (1, pv_m 0 mq))]) hD hS hA [1] rfl
  refine va_calli (va_runV (As := [.int (xs 1), .int (xs 2), .int (xs 3), .int (xs 4)]) (rest := []) ⟨hx, hb, hml, hown, hts⟩ (c_X13_value l hfl D _ m0 mq (xs 1) (xs 2) (xs 3) (xs 4)) (cwV 4 hts (pv_gV w10_55 w10_56 w10_57 w1_10 w10_58) rfl rfl rfl (by decide +kernel) ⟨Nat.le_of_ble_eq_true rfl, Nat.le_of_ble_eq_true rfl⟩) (pv_pV hE hS hF (hP.sub [1] rfl) (hK.sub [] rfl) (hD.sub [1] (by decide) rfl) (va_recv (ci := 1) (q0 := 1) hK hP rfl rfl)) rfl rfl hl.1 rfl (lv_room (Nat.le_of_ble_eq_true rfl)) dL_law_1406 ⟨Nat.le_of_ble_eq_true rfl, Nat.le_of_ble_eq_true rfl⟩) hS (fun q _ h => hF q h) hF (fun r_1 u t H1 locs1 ht hvm hw hB hz1 hk1 hS => ?_)
  refine W.widen (k := 398) (n := 653827) (Nat.le_of_ble_eq_true rfl) (Nat.le_of_ble_eq_true rfl) ?_
  subst hw
  obtain ⟨fs_3, hf_4, hP1, hK1, hD1⟩ := hB
  rw [ht] at hP1
  have hK1 := va_K.moved hvm.symm hK1
  obtain ⟨hP, hD⟩ := va_join (wr := [(x0, .inr (0, [.ref (xq 0), .int 0, .int 108, .ref (xq 1), .int 0, .ref (xq 2), .int 0, .ref (xq 3), .ref (xq 4), .int 1, .ref (xq 5), .ref (xq 6), .ref (xq 7), .ref (xq 8), .ref (xq 9)]))]) (w1 := [(m0, .inr (1, fs_3))]) hP hD [1] [0] rfl rfl (by decide) (by decide) hk1 hF hP1 hD1
  have hP : va_P D pv_cl [(x0, .inr (0, [.ref (xq 0), .int 0, .int 108, .ref (xq 1), .int 0, .ref (xq 2), .int 0, .ref (xq 3), .ref (xq 4), .int 1, .ref (xq 5), .ref (xq 6), .ref (xq 7), .ref (xq 8), .ref (xq 9)])), (m0, .inr (1, fs_3))] _ := hP
  have hD : va_D A [(x0, .inr (0, [.ref (xq 0), .int 0, .int 108, .ref (xq 1), .int 0, .ref (xq 2), .int 0, .ref (xq 3), .ref (xq 4), .int 1, .ref (xq 5), .ref (xq 6), .ref (xq 7), .ref (xq 8), .ref (xq 9)])), (m0, .inr (1, fs_3))] := hD
  refine lv_istore (lv' := [(7, .int r_1), (6, .int 1), (0, .ref b), (1, .ref x0), (2, .ref m0), (3, .ref o0), (4, .ref d0), (5, .int 0)]) hx hb dL_law_1409 hl (by decide) rfl (fun ls hl => ?_)
  refine pv_pc 1411 rfl ?_
  refine lv_aload_n hx hb dL_law_1411 rfl (lv_at hl 4 rfl) ?_
  have hF := pv_new hA hS.1
  refine va_calli (va_runV (As := []) (rest := []) ⟨hx, hb, hml, hown, hts⟩ (c_X13_thrown l hfl D _ m0 fs_3 1 hf_4) (cwV 0 hts (pv_gV w9_102 w9_103 w9_104 w1_10 w9_105) rfl rfl rfl (by decide +kernel) ⟨Nat.le_of_ble_eq_true rfl, Nat.le_of_ble_eq_true rfl⟩) (pv_pV hE hS hF (hP.sub [1] rfl) (hK.sub [] rfl) (hD.sub [1] (by decide) rfl) (va_recv (ci := 1) (q0 := 1) hK hP rfl rfl)) rfl rfl hl.1 rfl (lv_room (Nat.le_of_ble_eq_true rfl)) dL_law_1412 ⟨Nat.le_of_ble_eq_true rfl, Nat.le_of_ble_eq_true rfl⟩) hS (fun q _ h => hF q h) hF (fun r_4 u t H1 locs1 ht hvm hw hB hz1 hk1 hS => ?_)
  refine W.widen (k := 398) (n := 653827) (Nat.le_of_ble_eq_true rfl) (Nat.le_of_ble_eq_true rfl) ?_
  have hP := pv_keep hP rfl hk1
  subst hw
  refine lv_iload hx hb dL_law_1415 (lv_at hl 1 rfl) ?_
  refine lv_icmp_eq (tgt := 1422) hx hb dL_law_1417 (by decide) (fun _ => ?_) (fun c_6 => absurd (by decide) c_6)
  refine lv_iload hx hb dL_law_1422 (lv_at hl 1 rfl) ?_
  refine lv_if_ne (tgt := 1439) hx hb dL_law_1424 (by decide) (fun _ => ?_) (fun c_7 => absurd c_7 (by decide))
  refine lv_goto (tgt := 3721) hx hb dL_law_1439 (by decide) ?_
  refine lv_iinc (v := 7) (lv' := [(5, .int 7), (7, .int r_1), (6, .int 1), (0, .ref b), (1, .ref x0), (2, .ref m0), (3, .ref o0), (4, .ref d0)]) hx hb dL_law_3721 hl (k := 7) rfl (by decide) (by decide) rfl (fun ls hl => ?_)
  refine lv_goto (tgt := 28) hx hb dL_law_3724 (by decide) ?_
  refine lv_iload hx hb dL_law_28 (lv_at hl 0 rfl) ?_
  refine lv_aload_n hx hb dL_law_30 rfl (lv_at hl 3 rfl) ?_
  refine va_slen hx hb hX hbl hbA hS dL_law_31 ?_
  refine pv_setI 7 rfl ?_
  refine pv_pc 32 rfl ?_
  refine lv_bipush (v := 7) hx hb dL_law_32 (by decide) ?_
  refine lv_isub hx hb dL_law_34 ?_
  refine pv_setI 0 (by decide) ?_
  refine lv_icmp_gt (tgt := 3727) hx hb dL_law_35 (by decide) (fun _ => ?_) (fun c_8 => absurd (by decide) c_8)
  refine lv_iconst (v := 1) hx hb dL_law_3727 (by decide) ?_
  refine va_forget (fun q hq => hAf _ (hS.2.2 q hq)) ?_
  refine W.widen (k := 600006) (n := 7302064) (Nat.le_of_ble_eq_true rfl) (Nat.le_of_ble_eq_true rfl) ?_
  exact lw_ret (d0 := s.drawn) (Drawn.sameBut.refl s.drawn lw_cs) hx hb hr hlocks dL_law_3728

theorem dL_law_1442 : decode cL_law 1442 = .ok (.aload_n 1, 1) := by decide +kernel
theorem dL_law_1443 : decode cL_law 1443 = .ok (.aload_n 0, 1) := by decide +kernel
theorem dL_law_1444 : decode cL_law 1444 = .ok (.iload 5, 2) := by decide +kernel
theorem dL_law_1446 : decode cL_law 1446 = .ok (.iconst 1, 1) := by decide +kernel
theorem dL_law_1447 : decode cL_law 1447 = .ok (.iadd, 1) := by decide +kernel
theorem dL_law_1448 : decode cL_law 1448 = .ok (.iaload, 1) := by decide +kernel
theorem dL_law_1449 : decode cL_law 1449 = .ok (.aload_n 3, 1) := by decide +kernel
theorem dL_law_1450 : decode cL_law 1450 = .ok (.invokestatic 258, 3) := by decide +kernel
theorem w6_159 : (Jvm.Cond.methodLink "PolyforgeLaw" (258 : Nat) ({ cls := "PolyforgeLaw", name := "content", desc := "(LPolyforge;I[J)I" } : Jvm.MethodName)) ∈ lw_tbl := pv_t6 (pv_mg 159 rfl)
theorem w6_161 : (Jvm.Cond.codeWith ({ cls := "PolyforgeLaw", name := "content", desc := "(LPolyforge;I[J)I" } : Jvm.MethodName) method_20_code (4 : Nat) (Option.some Jvm.ClassFile.FieldType.int) [((0 : Nat), (8 : Nat), (11 : Nat), (23 : Nat)), ((0 : Nat), (8 : Nat), (14 : Nat), (25 : Nat))]) ∈ lw_tbl := pv_t6 (pv_mg 161 rfl)
theorem w6_160 : (Jvm.Cond.static ({ cls := "PolyforgeLaw", name := "content", desc := "(LPolyforge;I[J)I" } : Jvm.MethodName)) ∈ lw_tbl := pv_t6 (pv_mg 160 rfl)
theorem dL_law_1453 : decode cL_law 1453 = .ok (.istore 6, 2) := by decide +kernel
theorem dL_law_1455 : decode cL_law 1455 = .ok (.aload_n 2, 1) := by decide +kernel
theorem dL_law_1456 : decode cL_law 1456 = .ok (.aload_n 0, 1) := by decide +kernel
theorem dL_law_1457 : decode cL_law 1457 = .ok (.iload 5, 2) := by decide +kernel
theorem dL_law_1459 : decode cL_law 1459 = .ok (.iconst 1, 1) := by decide +kernel
theorem dL_law_1460 : decode cL_law 1460 = .ok (.iadd, 1) := by decide +kernel
theorem dL_law_1461 : decode cL_law 1461 = .ok (.iaload, 1) := by decide +kernel
theorem dL_law_1462 : decode cL_law 1462 = .ok (.invokevirtual 260, 3) := by decide +kernel
theorem w10_59 : (Jvm.Cond.methodLink "PolyforgeLaw" (260 : Nat) ({ cls := "PolyforgeModel", name := "content", desc := "(I)J" } : Jvm.MethodName)) ∈ lw_tbl := pv_t10 (pv_mg 59 rfl)
theorem w10_62 : (Jvm.Cond.code ({ cls := "PolyforgeModel", name := "content", desc := "(I)J" } : Jvm.MethodName) prog_14_method_54_code (2 : Nat) (Option.some Jvm.ClassFile.FieldType.long)) ∈ lw_tbl := pv_t10 (pv_mg 62 rfl)
theorem w10_61 : (Jvm.Cond.selects "PolyforgeModel" ({ cls := "PolyforgeModel", name := "content", desc := "(I)J" } : Jvm.MethodName) ({ cls := "PolyforgeModel", name := "content", desc := "(I)J" } : Jvm.MethodName)) ∈ lw_tbl := pv_t10 (pv_mg 61 rfl)
theorem w10_60 : (Jvm.Cond.instanceMethod ({ cls := "PolyforgeModel", name := "content", desc := "(I)J" } : Jvm.MethodName)) ∈ lw_tbl := pv_t10 (pv_mg 60 rfl)
theorem dL_law_1465 : decode cL_law 1465 = .ok (.lstore 7, 2) := by decide +kernel
theorem dL_law_1467 : decode cL_law 1467 = .ok (.aload_n 2, 1) := by decide +kernel
theorem dL_law_1468 : decode cL_law 1468 = .ok (.invokevirtual 199, 3) := by decide +kernel
theorem dL_law_1471 : decode cL_law 1471 = .ok (.iload 6, 2) := by decide +kernel
theorem dL_law_1473 : decode cL_law 1473 = .ok (.if_icmp .eq 5, 3) := by decide +kernel
theorem dL_law_1478 : decode cL_law 1478 = .ok (.iload 6, 2) := by decide +kernel
theorem dL_law_1480 : decode cL_law 1480 = .ok (.ifCond .ne 14, 3) := by decide +kernel
theorem dL_law_1494 : decode cL_law 1494 = .ok (.goto 2227, 3) := by decide +kernel
set_option maxHeartbeats 4000000 in
set_option maxRecDepth 100000 in
/-- the law, call 18: content -/
theorem law_case_18 {p : Program} {e : Env} {s : State} {m : MethodId} {below : List Frame} {meth : Method} {c : Code} (l : Launch) (hfl : l.stackTraces = false) {b : Nat} {xs : Nat → Int32} (C0 : lw_At p s m meth c b 7 xs) {D : va_G} {A : Nat → Prop} (hA : ∀ q : Nat, s.heap.size ≤ q → A q) (hAf : ∀ q : Nat, A q → s.heap.size ≤ q) (hbA : ¬ A b) (hE : pv_E A s s.heap) {x0 m0 o0 d0 : Nat} {xq xw mq : Nat → Nat} {xJ xP xO xC xI mI mI2 mI3 mT mC oL : ClassId} {xsg xsf msg msf : Nat → Int32} (hxsg : ∀ j, j < 3 → xsg j = 63) (hmsg : ∀ j, j < 3 → msg j = 63) {H : Heap} {locs : List Loc} (hK : va_K D pv_cl [(xJ, .long), (xP, .object "Polyforge$Polynomial"), (xO, .object "Polyforge$Ideal"), (xC, .char), (xI, .int), (mI, .int), (mT, .object "PolyforgeModel$Terms"), (mI2, .int), (mC, .char), (mI3, .int), (oL, .long)] s) (hP : va_P D pv_cl [(x0, .inr (0, [.ref (xq 0), .int 0, .int 108, .ref (xq 1), .int 0, .ref (xq 2), .int 0, .ref (xq 3), .ref (xq 4), .int 1, .ref (xq 5), .ref (xq 6), .ref (xq 7), .ref (xq 8), .ref (xq 9)])), ((xq 6), .inr (2, [.ref (xw 0), .ref (xw 1), .ref (xw 2), .ref (xw 3), .int 0, .int 0])), ((xw 2), .inl (xJ, 64, .inr (.inl (fun _ => 0)))), ((xq 0), .inl (xP, 60, .inr (.inr (.inr (.inr (fun _ => none)))))), ((xq 1), .inl (xO, 5, .inr (.inr (.inr (.inr (fun _ => none)))))), ((xq 3), .inl (xC, 3, .inl xsg)), ((xq 4), .inl (xI, 3, .inl xsf)), (m0, .inr (1, pv_m 0 mq)), ((mq 0), .inl (mI, 60, .inl (fun _ => 0))), ((mq 1), .inl (mT, 60, .inr (.inr (.inr (.inr (fun _ => none)))))), ((mq 2), .inl (mI2, 5, .inl (fun _ => 0))), ((mq 9), .inl (mC, 3, .inl msg)), ((mq 10), .inl (mI3, 3, .inl msf)), (o0, .inl (oL, 1, .inr (.inl (fun _ => 0))))] H) (hD : va_D A [(x0, .inr (0, [.ref (xq 0), .int 0, .int 108, .ref (xq 1), .int 0, .ref (xq 2), .int 0, .ref (xq 3), .ref (xq 4), .int 1, .ref (xq 5), .ref (xq 6), .ref (xq 7), .ref (xq 8), .ref (xq 9)])), ((xq 6), .inr (2, [.ref (xw 0), .ref (xw 1), .ref (xw 2), .ref (xw 3), .int 0, .int 0])), ((xw 2), .inl (xJ, 64, .inr (.inl (fun _ => 0)))), ((xq 0), .inl (xP, 60, .inr (.inr (.inr (.inr (fun _ => none)))))), ((xq 1), .inl (xO, 5, .inr (.inr (.inr (.inr (fun _ => none)))))), ((xq 3), .inl (xC, 3, .inl xsg)), ((xq 4), .inl (xI, 3, .inl xsf)), (m0, .inr (1, pv_m 0 mq)), ((mq 0), .inl (mI, 60, .inl (fun _ => 0))), ((mq 1), .inl (mT, 60, .inr (.inr (.inr (.inr (fun _ => none)))))), ((mq 2), .inl (mI2, 5, .inl (fun _ => 0))), ((mq 9), .inl (mC, 3, .inl msg)), ((mq 10), .inl (mI3, 3, .inl msf)), (o0, .inl (oL, 1, .inr (.inl (fun _ => 0))))]) (hS : va_S A s.heap H locs) {ls : Array Slot} (hl : lv_has ls 9 [(0, .ref b), (1, .ref x0), (2, .ref m0), (3, .ref o0), (4, .ref d0), (5, .int 0)]) : W p l e room_1 s m #[Value.ref b] below meth c H locs 397 653821 (lw_Z below #[Value.ref b] s) (F0 m 1442 ls []) := by
  obtain ⟨hx, hb, hr, hml, hown, hts0, hX, hbl, hlocks, hgv⟩ := C0
  have hts : ∀ w ∈ pv_W, w.before #[Value.ref b] s = true := fun w h => hts0 w (List.mem_filter.mp h).1
  have hg := fun {w : Cond} (h : w ∈ lw_tbl) (g : goodWord w = true) => hts w (pv_in h g)
  have hP : va_P D pv_cl [(x0, .inr (0, [.ref (xq 0), .int 0, .int 108, .ref (xq 1), .int 0, .ref (xq 2), .int 0, .ref (xq 3), .ref (xq 4), .int 1, .ref (xq 5), .ref (xq 6), .ref (xq 7), .ref (xq 8), .ref (xq 9)])), (m0, .inr (1, pv_m 0 mq))] _ := hP.sub [0, 7] rfl
  have hD : va_D A [(x0, .inr (0, [.ref (xq 0), .int 0, .int 108, .ref (xq 1), .int 0, .ref (xq 2), .int 0, .ref (xq 3), .ref (xq 4), .int 1, .ref (xq 5), .ref (xq 6), .ref (xq 7), .ref (xq 8), .ref (xq 9)])), (m0, .inr (1, pv_m 0 mq))] := hD.sub [0, 7] (by decide) rfl
  have hK : va_K D pv_cl [] s := hK.sub [] rfl
  refine lv_aload_n hx hb dL_law_1442 rfl (lv_at hl 1 rfl) ?_
  refine lv_aload_n hx hb dL_law_1443 rfl (lv_at hl 0 rfl) ?_
  refine lv_iload hx hb dL_law_1444 (lv_at hl 5 rfl) ?_
  refine lv_iconst (v := 1) hx hb dL_law_1446 (by decide) ?_
  refine lv_iadd hx hb dL_law_1447 ?_
  refine pv_setI 1 (by decide) ?_
  refine va_sld hx hb hX hbl hbA hS (by unfold vp_in; decide) dL_law_1448 ?_
  refine pv_setI (xs 1) rfl ?_
  refine lv_aload_n hx hb dL_law_1449 rfl (lv_at hl 3 rfl) ?_
  have hF := pv_new hA hS.1
  refine va_calli (vx_runSW (As := [.ref x0, .int (xs 1), .ref o0]) (rest := []) ⟨hx, hb, hml, hown, hts⟩ (c_L_content l hfl D _ x0 xq (xs 1) o0) (vx_cwSW 3 hts (pv_gSW w6_159 w6_160 w1_0 w6_161) rfl rfl rfl (by decide +kernel) ⟨Nat.le_of_ble_eq_true rfl, Nat.le_of_ble_eq_true rfl⟩) (pv_ps hE hS hF (hP.sub [0] rfl) (hK.sub [] rfl) (hD.sub [0] (by decide) rfl)) rfl rfl hl.1 rfl (lv_room (Nat.le_of_ble_eq_true rfl)) dL_law_1450 ⟨Nat.le_of_ble_eq_true rfl, Nat.le_of_ble_eq_true rfl⟩) hS (fun q _ h => hF q h) hF (fun r_0 u t H1 locs1 ht hvm hw hB hz1 hk1 hS => ?_)
  refine W.widen (k := 398) (n := 653827) (Nat.le_of_ble_eq_true rfl) (Nat.le_of_ble_eq_true rfl) ?_
  have hP := pv_keep hP rfl hk1
  subst hw
  refine lv_istore (lv' := [(6, .int 1), (0, .ref b), (1, .ref x0), (2, .ref m0), (3, .ref o0), (4, .ref d0), (5, .int 0)]) hx hb dL_law_1453 hl (by decide) rfl (fun ls hl => ?_)
  refine lv_aload_n hx hb dL_law_1455 rfl (lv_at hl 3 rfl) ?_
  refine lv_aload_n hx hb dL_law_1456 rfl (lv_at hl 1 rfl) ?_
  refine pv_pc 1457 rfl ?_
  refine lv_iload hx hb dL_law_1457 (lv_at hl 6 rfl) ?_
  refine lv_iconst (v := 1) hx hb dL_law_1459 (by decide) ?_
  refine lv_iadd hx hb dL_law_1460 ?_
  refine pv_setI 1 (by decide) ?_
  refine va_sld hx hb hX hbl hbA hS (by unfold vp_in; decide) dL_law_1461 ?_
  refine pv_setI (xs 1) rfl ?_
  have hF := va_free (wc := [(m0, .inr (1, pv_m 0 mq))]) hD hS hA [1] rfl
  refine va_calll (va_runV (As := [.int (xs 1)]) (rest := []) ⟨hx, hb, hml, hown, hts⟩ (c_X13_content l hfl D _ m0 mq (xs 1)) (cwV 1 hts (pv_gV w10_59 w10_60 w10_61 w1_10 w10_62) rfl rfl rfl (by decide +kernel) ⟨Nat.le_of_ble_eq_true rfl, Nat.le_of_ble_eq_true rfl⟩) (pv_pV hE hS hF (hP.sub [1] rfl) (hK.sub [] rfl) (hD.sub [1] (by decide) rfl) (va_recv (ci := 1) (q0 := 1) hK hP rfl rfl)) rfl rfl hl.1 rfl (lv_room (Nat.le_of_ble_eq_true rfl)) dL_law_1462 ⟨Nat.le_of_ble_eq_true rfl, Nat.le_of_ble_eq_true rfl⟩) hS (fun q _ h => hF q h) hF (fun r_1 u t H1 locs1 ht hvm hw hB hz1 hk1 hS => ?_)
  refine W.widen (k := 398) (n := 653827) (Nat.le_of_ble_eq_true rfl) (Nat.le_of_ble_eq_true rfl) ?_
  subst hw
  obtain ⟨fs_3, hf_4, hP1, hK1, hD1⟩ := hB
  rw [ht] at hP1
  have hK1 := va_K.moved hvm.symm hK1
  obtain ⟨hP, hD⟩ := va_join (wr := [(x0, .inr (0, [.ref (xq 0), .int 0, .int 108, .ref (xq 1), .int 0, .ref (xq 2), .int 0, .ref (xq 3), .ref (xq 4), .int 1, .ref (xq 5), .ref (xq 6), .ref (xq 7), .ref (xq 8), .ref (xq 9)]))]) (w1 := [(m0, .inr (1, fs_3))]) hP hD [1] [0] rfl rfl (by decide) (by decide) hk1 hF hP1 hD1
  have hP : va_P D pv_cl [(x0, .inr (0, [.ref (xq 0), .int 0, .int 108, .ref (xq 1), .int 0, .ref (xq 2), .int 0, .ref (xq 3), .ref (xq 4), .int 1, .ref (xq 5), .ref (xq 6), .ref (xq 7), .ref (xq 8), .ref (xq 9)])), (m0, .inr (1, fs_3))] _ := hP
  have hD : va_D A [(x0, .inr (0, [.ref (xq 0), .int 0, .int 108, .ref (xq 1), .int 0, .ref (xq 2), .int 0, .ref (xq 3), .ref (xq 4), .int 1, .ref (xq 5), .ref (xq 6), .ref (xq 7), .ref (xq 8), .ref (xq 9)])), (m0, .inr (1, fs_3))] := hD
  refine lv_lstore (lv' := [(7, .long r_1), (6, .int 1), (0, .ref b), (1, .ref x0), (2, .ref m0), (3, .ref o0), (4, .ref d0), (5, .int 0)]) hx hb dL_law_1465 hl (by decide) rfl (fun ls hl => ?_)
  refine lv_aload_n hx hb dL_law_1467 rfl (lv_at hl 4 rfl) ?_
  have hF := pv_new hA hS.1
  refine va_calli (va_runV (As := []) (rest := []) ⟨hx, hb, hml, hown, hts⟩ (c_X13_thrown l hfl D _ m0 fs_3 1 hf_4) (cwV 0 hts (pv_gV w9_102 w9_103 w9_104 w1_10 w9_105) rfl rfl rfl (by decide +kernel) ⟨Nat.le_of_ble_eq_true rfl, Nat.le_of_ble_eq_true rfl⟩) (pv_pV hE hS hF (hP.sub [1] rfl) (hK.sub [] rfl) (hD.sub [1] (by decide) rfl) (va_recv (ci := 1) (q0 := 1) hK hP rfl rfl)) rfl rfl hl.1 rfl (lv_room (Nat.le_of_ble_eq_true rfl)) dL_law_1468 ⟨Nat.le_of_ble_eq_true rfl, Nat.le_of_ble_eq_true rfl⟩) hS (fun q _ h => hF q h) hF (fun r_4 u t H1 locs1 ht hvm hw hB hz1 hk1 hS => ?_)
  refine W.widen (k := 398) (n := 653827) (Nat.le_of_ble_eq_true rfl) (Nat.le_of_ble_eq_true rfl) ?_
  have hP := pv_keep hP rfl hk1
  subst hw
  refine lv_iload hx hb dL_law_1471 (lv_at hl 1 rfl) ?_
  refine lv_icmp_eq (tgt := 1478) hx hb dL_law_1473 (by decide) (fun _ => ?_) (fun c_6 => absurd (by decide) c_6)
  refine lv_iload hx hb dL_law_1478 (lv_at hl 1 rfl) ?_
  refine lv_if_ne (tgt := 1494) hx hb dL_law_1480 (by decide) (fun _ => ?_) (fun c_7 => absurd c_7 (by decide))
  refine pv_pc 1494 rfl ?_
  refine lv_goto (tgt := 3721) hx hb dL_law_1494 (by decide) ?_
  refine lv_iinc (v := 7) (lv' := [(5, .int 7), (7, .long r_1), (6, .int 1), (0, .ref b), (1, .ref x0), (2, .ref m0), (3, .ref o0), (4, .ref d0)]) hx hb dL_law_3721 hl (k := 7) rfl (by decide) (by decide) rfl (fun ls hl => ?_)
  refine lv_goto (tgt := 28) hx hb dL_law_3724 (by decide) ?_
  refine lv_iload hx hb dL_law_28 (lv_at hl 0 rfl) ?_
  refine lv_aload_n hx hb dL_law_30 rfl (lv_at hl 3 rfl) ?_
  refine va_slen hx hb hX hbl hbA hS dL_law_31 ?_
  refine pv_setI 7 rfl ?_
  refine lv_bipush (v := 7) hx hb dL_law_32 (by decide) ?_
  refine lv_isub hx hb dL_law_34 ?_
  refine pv_setI 0 (by decide) ?_
  refine lv_icmp_gt (tgt := 3727) hx hb dL_law_35 (by decide) (fun _ => ?_) (fun c_8 => absurd (by decide) c_8)
  refine lv_iconst (v := 1) hx hb dL_law_3727 (by decide) ?_
  refine va_forget (fun q hq => hAf _ (hS.2.2 q hq)) ?_
  refine W.widen (k := 600006) (n := 7302064) (Nat.le_of_ble_eq_true rfl) (Nat.le_of_ble_eq_true rfl) ?_
  exact lw_ret (d0 := s.drawn) (Drawn.sameBut.refl s.drawn lw_cs) hx hb hr hlocks dL_law_3728

theorem dL_law_1497 : decode cL_law 1497 = .ok (.aload_n 1, 1) := by decide +kernel
theorem dL_law_1498 : decode cL_law 1498 = .ok (.aload_n 0, 1) := by decide +kernel
theorem dL_law_1499 : decode cL_law 1499 = .ok (.iload 5, 2) := by decide +kernel
theorem dL_law_1501 : decode cL_law 1501 = .ok (.iconst 1, 1) := by decide +kernel
theorem dL_law_1502 : decode cL_law 1502 = .ok (.iadd, 1) := by decide +kernel
theorem dL_law_1503 : decode cL_law 1503 = .ok (.iaload, 1) := by decide +kernel
theorem dL_law_1504 : decode cL_law 1504 = .ok (.aload_n 3, 1) := by decide +kernel
theorem dL_law_1505 : decode cL_law 1505 = .ok (.invokestatic 261, 3) := by decide +kernel
theorem w6_174 : (Jvm.Cond.methodLink "PolyforgeLaw" (261 : Nat) ({ cls := "PolyforgeLaw", name := "primitive", desc := "(LPolyforge;I[J)I" } : Jvm.MethodName)) ∈ lw_tbl := pv_t6 (pv_mg 174 rfl)
theorem w6_176 : (Jvm.Cond.codeWith ({ cls := "PolyforgeLaw", name := "primitive", desc := "(LPolyforge;I[J)I" } : Jvm.MethodName) method_21_code (4 : Nat) (Option.some Jvm.ClassFile.FieldType.int) [((0 : Nat), (9 : Nat), (12 : Nat), (23 : Nat)), ((0 : Nat), (9 : Nat), (15 : Nat), (25 : Nat)), ((0 : Nat), (9 : Nat), (18 : Nat), (15 : Nat))]) ∈ lw_tbl := pv_t6 (pv_mg 176 rfl)
theorem w6_175 : (Jvm.Cond.static ({ cls := "PolyforgeLaw", name := "primitive", desc := "(LPolyforge;I[J)I" } : Jvm.MethodName)) ∈ lw_tbl := pv_t6 (pv_mg 175 rfl)
theorem dL_law_1508 : decode cL_law 1508 = .ok (.istore 6, 2) := by decide +kernel
theorem dL_law_1510 : decode cL_law 1510 = .ok (.aload_n 2, 1) := by decide +kernel
theorem dL_law_1511 : decode cL_law 1511 = .ok (.aload_n 0, 1) := by decide +kernel
theorem dL_law_1512 : decode cL_law 1512 = .ok (.iload 5, 2) := by decide +kernel
theorem dL_law_1514 : decode cL_law 1514 = .ok (.iconst 1, 1) := by decide +kernel
theorem dL_law_1515 : decode cL_law 1515 = .ok (.iadd, 1) := by decide +kernel
theorem dL_law_1516 : decode cL_law 1516 = .ok (.iaload, 1) := by decide +kernel
theorem dL_law_1517 : decode cL_law 1517 = .ok (.invokevirtual 263, 3) := by decide +kernel
theorem w10_70 : (Jvm.Cond.methodLink "PolyforgeLaw" (263 : Nat) ({ cls := "PolyforgeModel", name := "primitive", desc := "(I)I" } : Jvm.MethodName)) ∈ lw_tbl := pv_t10 (pv_mg 70 rfl)
theorem w10_73 : (Jvm.Cond.code ({ cls := "PolyforgeModel", name := "primitive", desc := "(I)I" } : Jvm.MethodName) prog_14_method_55_code (7 : Nat) (Option.some Jvm.ClassFile.FieldType.int)) ∈ lw_tbl := pv_t10 (pv_mg 73 rfl)
theorem w10_72 : (Jvm.Cond.selects "PolyforgeModel" ({ cls := "PolyforgeModel", name := "primitive", desc := "(I)I" } : Jvm.MethodName) ({ cls := "PolyforgeModel", name := "primitive", desc := "(I)I" } : Jvm.MethodName)) ∈ lw_tbl := pv_t10 (pv_mg 72 rfl)
theorem w10_71 : (Jvm.Cond.instanceMethod ({ cls := "PolyforgeModel", name := "primitive", desc := "(I)I" } : Jvm.MethodName)) ∈ lw_tbl := pv_t10 (pv_mg 71 rfl)
theorem dL_law_1520 : decode cL_law 1520 = .ok (.istore 7, 2) := by decide +kernel
theorem dL_law_1522 : decode cL_law 1522 = .ok (.aload_n 2, 1) := by decide +kernel
theorem dL_law_1523 : decode cL_law 1523 = .ok (.invokevirtual 199, 3) := by decide +kernel
theorem dL_law_1526 : decode cL_law 1526 = .ok (.iload 6, 2) := by decide +kernel
theorem dL_law_1528 : decode cL_law 1528 = .ok (.if_icmp .eq 5, 3) := by decide +kernel
theorem dL_law_1533 : decode cL_law 1533 = .ok (.iload 6, 2) := by decide +kernel
theorem dL_law_1535 : decode cL_law 1535 = .ok (.ifCond .ne 15, 3) := by decide +kernel
theorem dL_law_1550 : decode cL_law 1550 = .ok (.goto 2171, 3) := by decide +kernel
set_option maxHeartbeats 4000000 in
set_option maxRecDepth 100000 in
/-- the law, call 19: primitive -/
theorem law_case_19 {p : Program} {e : Env} {s : State} {m : MethodId} {below : List Frame} {meth : Method} {c : Code} (l : Launch) (hfl : l.stackTraces = false) {b : Nat} {xs : Nat → Int32} (C0 : lw_At p s m meth c b 7 xs) {D : va_G} {A : Nat → Prop} (hA : ∀ q : Nat, s.heap.size ≤ q → A q) (hAf : ∀ q : Nat, A q → s.heap.size ≤ q) (hbA : ¬ A b) (hE : pv_E A s s.heap) {x0 m0 o0 d0 : Nat} {xq xw mq : Nat → Nat} {xJ xP xO xC xI mI mI2 mI3 mT mC oL : ClassId} {xsg xsf msg msf : Nat → Int32} (hxsg : ∀ j, j < 3 → xsg j = 63) (hmsg : ∀ j, j < 3 → msg j = 63) {H : Heap} {locs : List Loc} (hK : va_K D pv_cl [(xJ, .long), (xP, .object "Polyforge$Polynomial"), (xO, .object "Polyforge$Ideal"), (xC, .char), (xI, .int), (mI, .int), (mT, .object "PolyforgeModel$Terms"), (mI2, .int), (mC, .char), (mI3, .int), (oL, .long)] s) (hP : va_P D pv_cl [(x0, .inr (0, [.ref (xq 0), .int 0, .int 108, .ref (xq 1), .int 0, .ref (xq 2), .int 0, .ref (xq 3), .ref (xq 4), .int 1, .ref (xq 5), .ref (xq 6), .ref (xq 7), .ref (xq 8), .ref (xq 9)])), ((xq 6), .inr (2, [.ref (xw 0), .ref (xw 1), .ref (xw 2), .ref (xw 3), .int 0, .int 0])), ((xw 2), .inl (xJ, 64, .inr (.inl (fun _ => 0)))), ((xq 0), .inl (xP, 60, .inr (.inr (.inr (.inr (fun _ => none)))))), ((xq 1), .inl (xO, 5, .inr (.inr (.inr (.inr (fun _ => none)))))), ((xq 3), .inl (xC, 3, .inl xsg)), ((xq 4), .inl (xI, 3, .inl xsf)), (m0, .inr (1, pv_m 0 mq)), ((mq 0), .inl (mI, 60, .inl (fun _ => 0))), ((mq 1), .inl (mT, 60, .inr (.inr (.inr (.inr (fun _ => none)))))), ((mq 2), .inl (mI2, 5, .inl (fun _ => 0))), ((mq 9), .inl (mC, 3, .inl msg)), ((mq 10), .inl (mI3, 3, .inl msf)), (o0, .inl (oL, 1, .inr (.inl (fun _ => 0))))] H) (hD : va_D A [(x0, .inr (0, [.ref (xq 0), .int 0, .int 108, .ref (xq 1), .int 0, .ref (xq 2), .int 0, .ref (xq 3), .ref (xq 4), .int 1, .ref (xq 5), .ref (xq 6), .ref (xq 7), .ref (xq 8), .ref (xq 9)])), ((xq 6), .inr (2, [.ref (xw 0), .ref (xw 1), .ref (xw 2), .ref (xw 3), .int 0, .int 0])), ((xw 2), .inl (xJ, 64, .inr (.inl (fun _ => 0)))), ((xq 0), .inl (xP, 60, .inr (.inr (.inr (.inr (fun _ => none)))))), ((xq 1), .inl (xO, 5, .inr (.inr (.inr (.inr (fun _ => none)))))), ((xq 3), .inl (xC, 3, .inl xsg)), ((xq 4), .inl (xI, 3, .inl xsf)), (m0, .inr (1, pv_m 0 mq)), ((mq 0), .inl (mI, 60, .inl (fun _ => 0))), ((mq 1), .inl (mT, 60, .inr (.inr (.inr (.inr (fun _ => none)))))), ((mq 2), .inl (mI2, 5, .inl (fun _ => 0))), ((mq 9), .inl (mC, 3, .inl msg)), ((mq 10), .inl (mI3, 3, .inl msf)), (o0, .inl (oL, 1, .inr (.inl (fun _ => 0))))]) (hS : va_S A s.heap H locs) {ls : Array Slot} (hl : lv_has ls 9 [(0, .ref b), (1, .ref x0), (2, .ref m0), (3, .ref o0), (4, .ref d0), (5, .int 0)]) : W p l e room_1 s m #[Value.ref b] below meth c H locs 397 653821 (lw_Z below #[Value.ref b] s) (F0 m 1497 ls []) := by
  obtain ⟨hx, hb, hr, hml, hown, hts0, hX, hbl, hlocks, hgv⟩ := C0
  have hts : ∀ w ∈ pv_W, w.before #[Value.ref b] s = true := fun w h => hts0 w (List.mem_filter.mp h).1
  have hg := fun {w : Cond} (h : w ∈ lw_tbl) (g : goodWord w = true) => hts w (pv_in h g)
  have hP : va_P D pv_cl [(x0, .inr (0, [.ref (xq 0), .int 0, .int 108, .ref (xq 1), .int 0, .ref (xq 2), .int 0, .ref (xq 3), .ref (xq 4), .int 1, .ref (xq 5), .ref (xq 6), .ref (xq 7), .ref (xq 8), .ref (xq 9)])), (m0, .inr (1, pv_m 0 mq))] _ := hP.sub [0, 7] rfl
  have hD : va_D A [(x0, .inr (0, [.ref (xq 0), .int 0, .int 108, .ref (xq 1), .int 0, .ref (xq 2), .int 0, .ref (xq 3), .ref (xq 4), .int 1, .ref (xq 5), .ref (xq 6), .ref (xq 7), .ref (xq 8), .ref (xq 9)])), (m0, .inr (1, pv_m 0 mq))] := hD.sub [0, 7] (by decide) rfl
  have hK : va_K D pv_cl [] s := hK.sub [] rfl
  refine lv_aload_n hx hb dL_law_1497 rfl (lv_at hl 1 rfl) ?_
  refine lv_aload_n hx hb dL_law_1498 rfl (lv_at hl 0 rfl) ?_
  refine lv_iload hx hb dL_law_1499 (lv_at hl 5 rfl) ?_
  refine lv_iconst (v := 1) hx hb dL_law_1501 (by decide) ?_
  refine lv_iadd hx hb dL_law_1502 ?_
  refine pv_setI 1 (by decide) ?_
  refine va_sld hx hb hX hbl hbA hS (by unfold vp_in; decide) dL_law_1503 ?_
  refine pv_setI (xs 1) rfl ?_
  refine lv_aload_n hx hb dL_law_1504 rfl (lv_at hl 3 rfl) ?_
  have hF := pv_new hA hS.1
  refine va_calli (vx_runSW (As := [.ref x0, .int (xs 1), .ref o0]) (rest := []) ⟨hx, hb, hml, hown, hts⟩ (c_L_primitive l hfl D _ x0 xq (xs 1) o0) (vx_cwSW 3 hts (pv_gSW w6_174 w6_175 w1_0 w6_176) rfl rfl rfl (by decide +kernel) ⟨Nat.le_of_ble_eq_true rfl, Nat.le_of_ble_eq_true rfl⟩) (pv_ps hE hS hF (hP.sub [0] rfl) (hK.sub [] rfl) (hD.sub [0] (by decide) rfl)) rfl rfl hl.1 rfl (lv_room (Nat.le_of_ble_eq_true rfl)) dL_law_1505 ⟨Nat.le_of_ble_eq_true rfl, Nat.le_of_ble_eq_true rfl⟩) hS (fun q _ h => hF q h) hF (fun r_0 u t H1 locs1 ht hvm hw hB hz1 hk1 hS => ?_)
  refine W.widen (k := 398) (n := 653827) (Nat.le_of_ble_eq_true rfl) (Nat.le_of_ble_eq_true rfl) ?_
  have hP := pv_keep hP rfl hk1
  subst hw
  refine lv_istore (lv' := [(6, .int 1), (0, .ref b), (1, .ref x0), (2, .ref m0), (3, .ref o0), (4, .ref d0), (5, .int 0)]) hx hb dL_law_1508 hl (by decide) rfl (fun ls hl => ?_)
  refine lv_aload_n hx hb dL_law_1510 rfl (lv_at hl 3 rfl) ?_
  refine lv_aload_n hx hb dL_law_1511 rfl (lv_at hl 1 rfl) ?_
  refine pv_pc 1512 rfl ?_
  refine lv_iload hx hb dL_law_1512 (lv_at hl 6 rfl) ?_
  refine lv_iconst (v := 1) hx hb dL_law_1514 (by decide) ?_
  refine lv_iadd hx hb dL_law_1515 ?_
  refine pv_setI 1 (by decide) ?_
  refine va_sld hx hb hX hbl hbA hS (by unfold vp_in; decide) dL_law_1516 ?_
  refine pv_setI (xs 1) rfl ?_
  have hF := va_free (wc := [(m0, .inr (1, pv_m 0 mq))]) hD hS hA [1] rfl
  refine va_calli (va_runV (As := [.int (xs 1)]) (rest := []) ⟨hx, hb, hml, hown, hts⟩ (c_X13_primitive l hfl D _ m0 mq (xs 1)) (cwV 1 hts (pv_gV w10_70 w10_71 w10_72 w1_10 w10_73) rfl rfl rfl (by decide +kernel) ⟨Nat.le_of_ble_eq_true rfl, Nat.le_of_ble_eq_true rfl⟩) (pv_pV hE hS hF (hP.sub [1] rfl) (hK.sub [] rfl) (hD.sub [1] (by decide) rfl) (va_recv (ci := 1) (q0 := 1) hK hP rfl rfl)) rfl rfl hl.1 rfl (lv_room (Nat.le_of_ble_eq_true rfl)) dL_law_1517 ⟨Nat.le_of_ble_eq_true rfl, Nat.le_of_ble_eq_true rfl⟩) hS (fun q _ h => hF q h) hF (fun r_1 u t H1 locs1 ht hvm hw hB hz1 hk1 hS => ?_)
  refine W.widen (k := 398) (n := 653827) (Nat.le_of_ble_eq_true rfl) (Nat.le_of_ble_eq_true rfl) ?_
  subst hw
  obtain ⟨fs_3, hf_4, hP1, hK1, hD1⟩ := hB
  rw [ht] at hP1
  have hK1 := va_K.moved hvm.symm hK1
  obtain ⟨hP, hD⟩ := va_join (wr := [(x0, .inr (0, [.ref (xq 0), .int 0, .int 108, .ref (xq 1), .int 0, .ref (xq 2), .int 0, .ref (xq 3), .ref (xq 4), .int 1, .ref (xq 5), .ref (xq 6), .ref (xq 7), .ref (xq 8), .ref (xq 9)]))]) (w1 := [(m0, .inr (1, fs_3))]) hP hD [1] [0] rfl rfl (by decide) (by decide) hk1 hF hP1 hD1
  have hP : va_P D pv_cl [(x0, .inr (0, [.ref (xq 0), .int 0, .int 108, .ref (xq 1), .int 0, .ref (xq 2), .int 0, .ref (xq 3), .ref (xq 4), .int 1, .ref (xq 5), .ref (xq 6), .ref (xq 7), .ref (xq 8), .ref (xq 9)])), (m0, .inr (1, fs_3))] _ := hP
  have hD : va_D A [(x0, .inr (0, [.ref (xq 0), .int 0, .int 108, .ref (xq 1), .int 0, .ref (xq 2), .int 0, .ref (xq 3), .ref (xq 4), .int 1, .ref (xq 5), .ref (xq 6), .ref (xq 7), .ref (xq 8), .ref (xq 9)])), (m0, .inr (1, fs_3))] := hD
  refine lv_istore (lv' := [(7, .int r_1), (6, .int 1), (0, .ref b), (1, .ref x0), (2, .ref m0), (3, .ref o0), (4, .ref d0), (5, .int 0)]) hx hb dL_law_1520 hl (by decide) rfl (fun ls hl => ?_)
  refine lv_aload_n hx hb dL_law_1522 rfl (lv_at hl 4 rfl) ?_
  have hF := pv_new hA hS.1
  refine va_calli (va_runV (As := []) (rest := []) ⟨hx, hb, hml, hown, hts⟩ (c_X13_thrown l hfl D _ m0 fs_3 1 hf_4) (cwV 0 hts (pv_gV w9_102 w9_103 w9_104 w1_10 w9_105) rfl rfl rfl (by decide +kernel) ⟨Nat.le_of_ble_eq_true rfl, Nat.le_of_ble_eq_true rfl⟩) (pv_pV hE hS hF (hP.sub [1] rfl) (hK.sub [] rfl) (hD.sub [1] (by decide) rfl) (va_recv (ci := 1) (q0 := 1) hK hP rfl rfl)) rfl rfl hl.1 rfl (lv_room (Nat.le_of_ble_eq_true rfl)) dL_law_1523 ⟨Nat.le_of_ble_eq_true rfl, Nat.le_of_ble_eq_true rfl⟩) hS (fun q _ h => hF q h) hF (fun r_4 u t H1 locs1 ht hvm hw hB hz1 hk1 hS => ?_)
  refine W.widen (k := 398) (n := 653827) (Nat.le_of_ble_eq_true rfl) (Nat.le_of_ble_eq_true rfl) ?_
  have hP := pv_keep hP rfl hk1
  subst hw
  refine lv_iload hx hb dL_law_1526 (lv_at hl 1 rfl) ?_
  refine lv_icmp_eq (tgt := 1533) hx hb dL_law_1528 (by decide) (fun _ => ?_) (fun c_6 => absurd (by decide) c_6)
  refine lv_iload hx hb dL_law_1533 (lv_at hl 1 rfl) ?_
  refine lv_if_ne (tgt := 1550) hx hb dL_law_1535 (by decide) (fun _ => ?_) (fun c_7 => absurd c_7 (by decide))
  refine pv_pc 1550 rfl ?_
  refine lv_goto (tgt := 3721) hx hb dL_law_1550 (by decide) ?_
  refine lv_iinc (v := 7) (lv' := [(5, .int 7), (7, .int r_1), (6, .int 1), (0, .ref b), (1, .ref x0), (2, .ref m0), (3, .ref o0), (4, .ref d0)]) hx hb dL_law_3721 hl (k := 7) rfl (by decide) (by decide) rfl (fun ls hl => ?_)
  refine lv_goto (tgt := 28) hx hb dL_law_3724 (by decide) ?_
  refine lv_iload hx hb dL_law_28 (lv_at hl 0 rfl) ?_
  refine lv_aload_n hx hb dL_law_30 rfl (lv_at hl 3 rfl) ?_
  refine va_slen hx hb hX hbl hbA hS dL_law_31 ?_
  refine pv_setI 7 rfl ?_
  refine lv_bipush (v := 7) hx hb dL_law_32 (by decide) ?_
  refine lv_isub hx hb dL_law_34 ?_
  refine pv_setI 0 (by decide) ?_
  refine lv_icmp_gt (tgt := 3727) hx hb dL_law_35 (by decide) (fun _ => ?_) (fun c_8 => absurd (by decide) c_8)
  refine lv_iconst (v := 1) hx hb dL_law_3727 (by decide) ?_
  refine va_forget (fun q hq => hAf _ (hS.2.2 q hq)) ?_
  refine W.widen (k := 600006) (n := 7302064) (Nat.le_of_ble_eq_true rfl) (Nat.le_of_ble_eq_true rfl) ?_
  exact lw_ret (d0 := s.drawn) (Drawn.sameBut.refl s.drawn lw_cs) hx hb hr hlocks dL_law_3728

theorem dL_law_1553 : decode cL_law 1553 = .ok (.aload_n 1, 1) := by decide +kernel
theorem dL_law_1554 : decode cL_law 1554 = .ok (.aload_n 0, 1) := by decide +kernel
theorem dL_law_1555 : decode cL_law 1555 = .ok (.iload 5, 2) := by decide +kernel
theorem dL_law_1557 : decode cL_law 1557 = .ok (.iconst 1, 1) := by decide +kernel
theorem dL_law_1558 : decode cL_law 1558 = .ok (.iadd, 1) := by decide +kernel
theorem dL_law_1559 : decode cL_law 1559 = .ok (.iaload, 1) := by decide +kernel
theorem dL_law_1560 : decode cL_law 1560 = .ok (.aload_n 0, 1) := by decide +kernel
theorem dL_law_1561 : decode cL_law 1561 = .ok (.iload 5, 2) := by decide +kernel
theorem dL_law_1563 : decode cL_law 1563 = .ok (.iconst 2, 1) := by decide +kernel
theorem dL_law_1564 : decode cL_law 1564 = .ok (.iadd, 1) := by decide +kernel
theorem dL_law_1565 : decode cL_law 1565 = .ok (.iaload, 1) := by decide +kernel
theorem dL_law_1566 : decode cL_law 1566 = .ok (.aload_n 3, 1) := by decide +kernel
theorem dL_law_1567 : decode cL_law 1567 = .ok (.invokestatic 264, 3) := by decide +kernel
theorem w6_181 : (Jvm.Cond.methodLink "PolyforgeLaw" (264 : Nat) ({ cls := "PolyforgeLaw", name := "modulo", desc := "(LPolyforge;II[J)I" } : Jvm.MethodName)) ∈ lw_tbl := pv_t6 (pv_mg 181 rfl)
theorem w6_183 : (Jvm.Cond.codeWith ({ cls := "PolyforgeLaw", name := "modulo", desc := "(LPolyforge;II[J)I" } : Jvm.MethodName) method_22_code (5 : Nat) (Option.some Jvm.ClassFile.FieldType.int) [((0 : Nat), (10 : Nat), (13 : Nat), (23 : Nat)), ((0 : Nat), (10 : Nat), (17 : Nat), (13 : Nat)), ((0 : Nat), (10 : Nat), (21 : Nat), (25 : Nat)), ((0 : Nat), (10 : Nat), (25 : Nat), (15 : Nat))]) ∈ lw_tbl := pv_t6 (pv_mg 183 rfl)
theorem w6_182 : (Jvm.Cond.static ({ cls := "PolyforgeLaw", name := "modulo", desc := "(LPolyforge;II[J)I" } : Jvm.MethodName)) ∈ lw_tbl := pv_t6 (pv_mg 182 rfl)
theorem dL_law_1570 : decode cL_law 1570 = .ok (.istore 6, 2) := by decide +kernel
theorem dL_law_1572 : decode cL_law 1572 = .ok (.aload_n 2, 1) := by decide +kernel
theorem dL_law_1573 : decode cL_law 1573 = .ok (.aload_n 0, 1) := by decide +kernel
theorem dL_law_1574 : decode cL_law 1574 = .ok (.iload 5, 2) := by decide +kernel
theorem dL_law_1576 : decode cL_law 1576 = .ok (.iconst 1, 1) := by decide +kernel
theorem dL_law_1577 : decode cL_law 1577 = .ok (.iadd, 1) := by decide +kernel
theorem dL_law_1578 : decode cL_law 1578 = .ok (.iaload, 1) := by decide +kernel
theorem dL_law_1579 : decode cL_law 1579 = .ok (.aload_n 0, 1) := by decide +kernel
theorem dL_law_1580 : decode cL_law 1580 = .ok (.iload 5, 2) := by decide +kernel
theorem dL_law_1582 : decode cL_law 1582 = .ok (.iconst 2, 1) := by decide +kernel
theorem dL_law_1583 : decode cL_law 1583 = .ok (.iadd, 1) := by decide +kernel
theorem dL_law_1584 : decode cL_law 1584 = .ok (.iaload, 1) := by decide +kernel
theorem dL_law_1585 : decode cL_law 1585 = .ok (.invokevirtual 266, 3) := by decide +kernel
theorem w10_74 : (Jvm.Cond.methodLink "PolyforgeLaw" (266 : Nat) ({ cls := "PolyforgeModel", name := "modulo", desc := "(II)I" } : Jvm.MethodName)) ∈ lw_tbl := pv_t10 (pv_mg 74 rfl)
theorem w10_77 : (Jvm.Cond.code ({ cls := "PolyforgeModel", name := "modulo", desc := "(II)I" } : Jvm.MethodName) prog_14_method_56_code (4 : Nat) (Option.some Jvm.ClassFile.FieldType.int)) ∈ lw_tbl := pv_t10 (pv_mg 77 rfl)
theorem w10_76 : (Jvm.Cond.selects "PolyforgeModel" ({ cls := "PolyforgeModel", name := "modulo", desc := "(II)I" } : Jvm.MethodName) ({ cls := "PolyforgeModel", name := "modulo", desc := "(II)I" } : Jvm.MethodName)) ∈ lw_tbl := pv_t10 (pv_mg 76 rfl)
theorem w10_75 : (Jvm.Cond.instanceMethod ({ cls := "PolyforgeModel", name := "modulo", desc := "(II)I" } : Jvm.MethodName)) ∈ lw_tbl := pv_t10 (pv_mg 75 rfl)
theorem dL_law_1588 : decode cL_law 1588 = .ok (.istore 7, 2) := by decide +kernel
theorem dL_law_1590 : decode cL_law 1590 = .ok (.aload_n 2, 1) := by decide +kernel
theorem dL_law_1591 : decode cL_law 1591 = .ok (.invokevirtual 199, 3) := by decide +kernel
theorem dL_law_1594 : decode cL_law 1594 = .ok (.iload 6, 2) := by decide +kernel
theorem dL_law_1596 : decode cL_law 1596 = .ok (.if_icmp .eq 5, 3) := by decide +kernel
theorem dL_law_1601 : decode cL_law 1601 = .ok (.iload 6, 2) := by decide +kernel
theorem dL_law_1603 : decode cL_law 1603 = .ok (.ifCond .ne 15, 3) := by decide +kernel
theorem dL_law_1618 : decode cL_law 1618 = .ok (.goto 2103, 3) := by decide +kernel
set_option maxHeartbeats 4000000 in
set_option maxRecDepth 100000 in
/-- the law, call 20: modulo -/
theorem law_case_20 {p : Program} {e : Env} {s : State} {m : MethodId} {below : List Frame} {meth : Method} {c : Code} (l : Launch) (hfl : l.stackTraces = false) {b : Nat} {xs : Nat → Int32} (C0 : lw_At p s m meth c b 7 xs) {D : va_G} {A : Nat → Prop} (hA : ∀ q : Nat, s.heap.size ≤ q → A q) (hAf : ∀ q : Nat, A q → s.heap.size ≤ q) (hbA : ¬ A b) (hE : pv_E A s s.heap) {x0 m0 o0 d0 : Nat} {xq xw mq : Nat → Nat} {xJ xP xO xC xI mI mI2 mI3 mT mC oL : ClassId} {xsg xsf msg msf : Nat → Int32} (hxsg : ∀ j, j < 3 → xsg j = 63) (hmsg : ∀ j, j < 3 → msg j = 63) {H : Heap} {locs : List Loc} (hK : va_K D pv_cl [(xJ, .long), (xP, .object "Polyforge$Polynomial"), (xO, .object "Polyforge$Ideal"), (xC, .char), (xI, .int), (mI, .int), (mT, .object "PolyforgeModel$Terms"), (mI2, .int), (mC, .char), (mI3, .int), (oL, .long)] s) (hP : va_P D pv_cl [(x0, .inr (0, [.ref (xq 0), .int 0, .int 108, .ref (xq 1), .int 0, .ref (xq 2), .int 0, .ref (xq 3), .ref (xq 4), .int 1, .ref (xq 5), .ref (xq 6), .ref (xq 7), .ref (xq 8), .ref (xq 9)])), ((xq 6), .inr (2, [.ref (xw 0), .ref (xw 1), .ref (xw 2), .ref (xw 3), .int 0, .int 0])), ((xw 2), .inl (xJ, 64, .inr (.inl (fun _ => 0)))), ((xq 0), .inl (xP, 60, .inr (.inr (.inr (.inr (fun _ => none)))))), ((xq 1), .inl (xO, 5, .inr (.inr (.inr (.inr (fun _ => none)))))), ((xq 3), .inl (xC, 3, .inl xsg)), ((xq 4), .inl (xI, 3, .inl xsf)), (m0, .inr (1, pv_m 0 mq)), ((mq 0), .inl (mI, 60, .inl (fun _ => 0))), ((mq 1), .inl (mT, 60, .inr (.inr (.inr (.inr (fun _ => none)))))), ((mq 2), .inl (mI2, 5, .inl (fun _ => 0))), ((mq 9), .inl (mC, 3, .inl msg)), ((mq 10), .inl (mI3, 3, .inl msf)), (o0, .inl (oL, 1, .inr (.inl (fun _ => 0))))] H) (hD : va_D A [(x0, .inr (0, [.ref (xq 0), .int 0, .int 108, .ref (xq 1), .int 0, .ref (xq 2), .int 0, .ref (xq 3), .ref (xq 4), .int 1, .ref (xq 5), .ref (xq 6), .ref (xq 7), .ref (xq 8), .ref (xq 9)])), ((xq 6), .inr (2, [.ref (xw 0), .ref (xw 1), .ref (xw 2), .ref (xw 3), .int 0, .int 0])), ((xw 2), .inl (xJ, 64, .inr (.inl (fun _ => 0)))), ((xq 0), .inl (xP, 60, .inr (.inr (.inr (.inr (fun _ => none)))))), ((xq 1), .inl (xO, 5, .inr (.inr (.inr (.inr (fun _ => none)))))), ((xq 3), .inl (xC, 3, .inl xsg)), ((xq 4), .inl (xI, 3, .inl xsf)), (m0, .inr (1, pv_m 0 mq)), ((mq 0), .inl (mI, 60, .inl (fun _ => 0))), ((mq 1), .inl (mT, 60, .inr (.inr (.inr (.inr (fun _ => none)))))), ((mq 2), .inl (mI2, 5, .inl (fun _ => 0))), ((mq 9), .inl (mC, 3, .inl msg)), ((mq 10), .inl (mI3, 3, .inl msf)), (o0, .inl (oL, 1, .inr (.inl (fun _ => 0))))]) (hS : va_S A s.heap H locs) {ls : Array Slot} (hl : lv_has ls 9 [(0, .ref b), (1, .ref x0), (2, .ref m0), (3, .ref o0), (4, .ref d0), (5, .int 0)]) : W p l e room_1 s m #[Value.ref b] below meth c H locs 397 653821 (lw_Z below #[Value.ref b] s) (F0 m 1553 ls []) := by
  obtain ⟨hx, hb, hr, hml, hown, hts0, hX, hbl, hlocks, hgv⟩ := C0
  have hts : ∀ w ∈ pv_W, w.before #[Value.ref b] s = true := fun w h => hts0 w (List.mem_filter.mp h).1
  have hg := fun {w : Cond} (h : w ∈ lw_tbl) (g : goodWord w = true) => hts w (pv_in h g)
  have hP : va_P D pv_cl [(x0, .inr (0, [.ref (xq 0), .int 0, .int 108, .ref (xq 1), .int 0, .ref (xq 2), .int 0, .ref (xq 3), .ref (xq 4), .int 1, .ref (xq 5), .ref (xq 6), .ref (xq 7), .ref (xq 8), .ref (xq 9)])), (m0, .inr (1, pv_m 0 mq))] _ := hP.sub [0, 7] rfl
  have hD : va_D A [(x0, .inr (0, [.ref (xq 0), .int 0, .int 108, .ref (xq 1), .int 0, .ref (xq 2), .int 0, .ref (xq 3), .ref (xq 4), .int 1, .ref (xq 5), .ref (xq 6), .ref (xq 7), .ref (xq 8), .ref (xq 9)])), (m0, .inr (1, pv_m 0 mq))] := hD.sub [0, 7] (by decide) rfl
  have hK : va_K D pv_cl [] s := hK.sub [] rfl
  refine lv_aload_n hx hb dL_law_1553 rfl (lv_at hl 1 rfl) ?_
  refine lv_aload_n hx hb dL_law_1554 rfl (lv_at hl 0 rfl) ?_
  refine lv_iload hx hb dL_law_1555 (lv_at hl 5 rfl) ?_
  refine lv_iconst (v := 1) hx hb dL_law_1557 (by decide) ?_
  refine lv_iadd hx hb dL_law_1558 ?_
  refine pv_setI 1 (by decide) ?_
  refine va_sld hx hb hX hbl hbA hS (by unfold vp_in; decide) dL_law_1559 ?_
  refine pv_setI (xs 1) rfl ?_
  refine lv_aload_n hx hb dL_law_1560 rfl (lv_at hl 0 rfl) ?_
  refine lv_iload hx hb dL_law_1561 (lv_at hl 5 rfl) ?_
  refine lv_iconst (v := 2) hx hb dL_law_1563 (by decide) ?_
  refine lv_iadd hx hb dL_law_1564 ?_
  refine pv_setI 2 (by decide) ?_
  refine va_sld hx hb hX hbl hbA hS (by unfold vp_in; decide) dL_law_1565 ?_
  refine pv_setI (xs 2) rfl ?_
  refine pv_pc 1566 rfl ?_
  refine lv_aload_n hx hb dL_law_1566 rfl (lv_at hl 3 rfl) ?_
  have hF := pv_new hA hS.1
  refine va_calli (vx_runSW (As := [.ref x0, .int (xs 1), .int (xs 2), .ref o0]) (rest := []) ⟨hx, hb, hml, hown, hts⟩ (c_L_modulo l hfl D _ x0 xq (xs 1) (xs 2) o0) (vx_cwSW 4 hts (pv_gSW w6_181 w6_182 w1_0 w6_183) rfl rfl rfl (by decide +kernel) ⟨Nat.le_of_ble_eq_true rfl, Nat.le_of_ble_eq_true rfl⟩) (pv_ps hE hS hF (hP.sub [0] rfl) (hK.sub [] rfl) (hD.sub [0] (by decide) rfl)) rfl rfl hl.1 rfl (lv_room (Nat.le_of_ble_eq_true rfl)) dL_law_1567 ⟨Nat.le_of_ble_eq_true rfl, Nat.le_of_ble_eq_true rfl⟩) hS (fun q _ h => hF q h) hF (fun r_0 u t H1 locs1 ht hvm hw hB hz1 hk1 hS => ?_)
  refine W.widen (k := 398) (n := 653827) (Nat.le_of_ble_eq_true rfl) (Nat.le_of_ble_eq_true rfl) ?_
  have hP := pv_keep hP rfl hk1
  subst hw
  refine lv_istore (lv' := [(6, .int 1), (0, .ref b), (1, .ref x0), (2, .ref m0), (3, .ref o0), (4, .ref d0), (5, .int 0)]) hx hb dL_law_1570 hl (by decide) rfl (fun ls hl => ?_)
  refine lv_aload_n hx hb dL_law_1572 rfl (lv_at hl 3 rfl) ?_
  refine lv_aload_n hx hb dL_law_1573 rfl (lv_at hl 1 rfl) ?_
  refine lv_iload hx hb dL_law_1574 (lv_at hl 6 rfl) ?_
  refine lv_iconst (v := 1) hx hb dL_law_1576 (by decide) ?_
  refine lv_iadd hx hb dL_law_1577 ?_
  refine pv_setI 1 (by decide) ?_
  refine va_sld hx hb hX hbl hbA hS (by unfold vp_in; decide) dL_law_1578 ?_
  refine pv_setI (xs 1) rfl ?_
  refine lv_aload_n hx hb dL_law_1579 rfl (lv_at hl 1 rfl) ?_
  refine lv_iload hx hb dL_law_1580 (lv_at hl 6 rfl) ?_
  refine lv_iconst (v := 2) hx hb dL_law_1582 (by decide) ?_
  refine pv_pc 1583 rfl ?_
  refine lv_iadd hx hb dL_law_1583 ?_
  refine pv_setI 2 (by decide) ?_
  refine va_sld hx hb hX hbl hbA hS (by unfold vp_in; decide) dL_law_1584 ?_
  refine pv_setI (xs 2) rfl ?_
  have hF := va_free (wc := [(m0, .inr (1, pv_m 0 mq))]) hD hS hA [1] rfl
  refine va_calli (va_runV (As := [.int (xs 1), .int (xs 2)]) (rest := []) ⟨hx, hb, hml, hown, hts⟩ (c_X13_modulo l hfl D _ m0 mq (xs 1) (xs 2)) (cwV 2 hts (pv_gV w10_74 w10_75 w10_76 w1_10 w10_77) rfl rfl rfl (by decide +kernel) ⟨Nat.le_of_ble_eq_true rfl, Nat.le_of_ble_eq_true rfl⟩) (pv_pV hE hS hF (hP.sub [1] rfl) (hK.sub [] rfl) (hD.sub [1] (by decide) rfl) (va_recv (ci := 1) (q0 := 1) hK hP rfl rfl)) rfl rfl hl.1 rfl (lv_room (Nat.le_of_ble_eq_true rfl)) dL_law_1585 ⟨Nat.le_of_ble_eq_true rfl, Nat.le_of_ble_eq_true rfl⟩) hS (fun q _ h => hF q h) hF (fun r_1 u t H1 locs1 ht hvm hw hB hz1 hk1 hS => ?_)
  refine W.widen (k := 398) (n := 653827) (Nat.le_of_ble_eq_true rfl) (Nat.le_of_ble_eq_true rfl) ?_
  subst hw
  obtain ⟨fs_3, hf_4, hP1, hK1, hD1⟩ := hB
  rw [ht] at hP1
  have hK1 := va_K.moved hvm.symm hK1
  obtain ⟨hP, hD⟩ := va_join (wr := [(x0, .inr (0, [.ref (xq 0), .int 0, .int 108, .ref (xq 1), .int 0, .ref (xq 2), .int 0, .ref (xq 3), .ref (xq 4), .int 1, .ref (xq 5), .ref (xq 6), .ref (xq 7), .ref (xq 8), .ref (xq 9)]))]) (w1 := [(m0, .inr (1, fs_3))]) hP hD [1] [0] rfl rfl (by decide) (by decide) hk1 hF hP1 hD1
  have hP : va_P D pv_cl [(x0, .inr (0, [.ref (xq 0), .int 0, .int 108, .ref (xq 1), .int 0, .ref (xq 2), .int 0, .ref (xq 3), .ref (xq 4), .int 1, .ref (xq 5), .ref (xq 6), .ref (xq 7), .ref (xq 8), .ref (xq 9)])), (m0, .inr (1, fs_3))] _ := hP
  have hD : va_D A [(x0, .inr (0, [.ref (xq 0), .int 0, .int 108, .ref (xq 1), .int 0, .ref (xq 2), .int 0, .ref (xq 3), .ref (xq 4), .int 1, .ref (xq 5), .ref (xq 6), .ref (xq 7), .ref (xq 8), .ref (xq 9)])), (m0, .inr (1, fs_3))] := hD
  refine lv_istore (lv' := [(7, .int r_1), (6, .int 1), (0, .ref b), (1, .ref x0), (2, .ref m0), (3, .ref o0), (4, .ref d0), (5, .int 0)]) hx hb dL_law_1588 hl (by decide) rfl (fun ls hl => ?_)
  refine lv_aload_n hx hb dL_law_1590 rfl (lv_at hl 4 rfl) ?_
  have hF := pv_new hA hS.1
  refine va_calli (va_runV (As := []) (rest := []) ⟨hx, hb, hml, hown, hts⟩ (c_X13_thrown l hfl D _ m0 fs_3 1 hf_4) (cwV 0 hts (pv_gV w9_102 w9_103 w9_104 w1_10 w9_105) rfl rfl rfl (by decide +kernel) ⟨Nat.le_of_ble_eq_true rfl, Nat.le_of_ble_eq_true rfl⟩) (pv_pV hE hS hF (hP.sub [1] rfl) (hK.sub [] rfl) (hD.sub [1] (by decide) rfl) (va_recv (ci := 1) (q0 := 1) hK hP rfl rfl)) rfl rfl hl.1 rfl (lv_room (Nat.le_of_ble_eq_true rfl)) dL_law_1591 ⟨Nat.le_of_ble_eq_true rfl, Nat.le_of_ble_eq_true rfl⟩) hS (fun q _ h => hF q h) hF (fun r_4 u t H1 locs1 ht hvm hw hB hz1 hk1 hS => ?_)
  refine W.widen (k := 398) (n := 653827) (Nat.le_of_ble_eq_true rfl) (Nat.le_of_ble_eq_true rfl) ?_
  have hP := pv_keep hP rfl hk1
  subst hw
  refine lv_iload hx hb dL_law_1594 (lv_at hl 1 rfl) ?_
  refine lv_icmp_eq (tgt := 1601) hx hb dL_law_1596 (by decide) (fun _ => ?_) (fun c_6 => absurd (by decide) c_6)
  refine lv_iload hx hb dL_law_1601 (lv_at hl 1 rfl) ?_
  refine lv_if_ne (tgt := 1618) hx hb dL_law_1603 (by decide) (fun _ => ?_) (fun c_7 => absurd c_7 (by decide))
  refine lv_goto (tgt := 3721) hx hb dL_law_1618 (by decide) ?_
  refine lv_iinc (v := 7) (lv' := [(5, .int 7), (7, .int r_1), (6, .int 1), (0, .ref b), (1, .ref x0), (2, .ref m0), (3, .ref o0), (4, .ref d0)]) hx hb dL_law_3721 hl (k := 7) rfl (by decide) (by decide) rfl (fun ls hl => ?_)
  refine pv_pc 3724 rfl ?_
  refine lv_goto (tgt := 28) hx hb dL_law_3724 (by decide) ?_
  refine lv_iload hx hb dL_law_28 (lv_at hl 0 rfl) ?_
  refine lv_aload_n hx hb dL_law_30 rfl (lv_at hl 3 rfl) ?_
  refine va_slen hx hb hX hbl hbA hS dL_law_31 ?_
  refine pv_setI 7 rfl ?_
  refine lv_bipush (v := 7) hx hb dL_law_32 (by decide) ?_
  refine lv_isub hx hb dL_law_34 ?_
  refine pv_setI 0 (by decide) ?_
  refine lv_icmp_gt (tgt := 3727) hx hb dL_law_35 (by decide) (fun _ => ?_) (fun c_8 => absurd (by decide) c_8)
  refine lv_iconst (v := 1) hx hb dL_law_3727 (by decide) ?_
  refine va_forget (fun q hq => hAf _ (hS.2.2 q hq)) ?_
  refine W.widen (k := 600006) (n := 7302064) (Nat.le_of_ble_eq_true rfl) (Nat.le_of_ble_eq_true rfl) ?_
  exact lw_ret (d0 := s.drawn) (Drawn.sameBut.refl s.drawn lw_cs) hx hb hr hlocks dL_law_3728

theorem dL_law_1621 : decode cL_law 1621 = .ok (.aload_n 1, 1) := by decide +kernel
theorem dL_law_1622 : decode cL_law 1622 = .ok (.aload_n 0, 1) := by decide +kernel
theorem dL_law_1623 : decode cL_law 1623 = .ok (.iload 5, 2) := by decide +kernel
theorem dL_law_1625 : decode cL_law 1625 = .ok (.iconst 1, 1) := by decide +kernel
theorem dL_law_1626 : decode cL_law 1626 = .ok (.iadd, 1) := by decide +kernel
theorem dL_law_1627 : decode cL_law 1627 = .ok (.iaload, 1) := by decide +kernel
theorem dL_law_1628 : decode cL_law 1628 = .ok (.aload_n 0, 1) := by decide +kernel
theorem dL_law_1629 : decode cL_law 1629 = .ok (.iload 5, 2) := by decide +kernel
theorem dL_law_1631 : decode cL_law 1631 = .ok (.iconst 2, 1) := by decide +kernel
theorem dL_law_1632 : decode cL_law 1632 = .ok (.iadd, 1) := by decide +kernel
theorem dL_law_1633 : decode cL_law 1633 = .ok (.iaload, 1) := by decide +kernel
theorem dL_law_1634 : decode cL_law 1634 = .ok (.aload_n 3, 1) := by decide +kernel
theorem dL_law_1635 : decode cL_law 1635 = .ok (.invokestatic 267, 3) := by decide +kernel
theorem w6_192 : (Jvm.Cond.methodLink "PolyforgeLaw" (267 : Nat) ({ cls := "PolyforgeLaw", name := "quotient", desc := "(LPolyforge;II[J)I" } : Jvm.MethodName)) ∈ lw_tbl := pv_t6 (pv_mg 192 rfl)
theorem w6_194 : (Jvm.Cond.codeWith ({ cls := "PolyforgeLaw", name := "quotient", desc := "(LPolyforge;II[J)I" } : Jvm.MethodName) method_23_code (5 : Nat) (Option.some Jvm.ClassFile.FieldType.int) [((0 : Nat), (10 : Nat), (13 : Nat), (23 : Nat)), ((0 : Nat), (10 : Nat), (17 : Nat), (25 : Nat)), ((0 : Nat), (10 : Nat), (21 : Nat), (27 : Nat)), ((0 : Nat), (10 : Nat), (25 : Nat), (15 : Nat))]) ∈ lw_tbl := pv_t6 (pv_mg 194 rfl)
theorem w6_193 : (Jvm.Cond.static ({ cls := "PolyforgeLaw", name := "quotient", desc := "(LPolyforge;II[J)I" } : Jvm.MethodName)) ∈ lw_tbl := pv_t6 (pv_mg 193 rfl)
theorem dL_law_1638 : decode cL_law 1638 = .ok (.istore 6, 2) := by decide +kernel
theorem dL_law_1640 : decode cL_law 1640 = .ok (.aload_n 2, 1) := by decide +kernel
theorem dL_law_1641 : decode cL_law 1641 = .ok (.aload_n 0, 1) := by decide +kernel
theorem dL_law_1642 : decode cL_law 1642 = .ok (.iload 5, 2) := by decide +kernel
theorem dL_law_1644 : decode cL_law 1644 = .ok (.iconst 1, 1) := by decide +kernel
theorem dL_law_1645 : decode cL_law 1645 = .ok (.iadd, 1) := by decide +kernel
theorem dL_law_1646 : decode cL_law 1646 = .ok (.iaload, 1) := by decide +kernel
theorem dL_law_1647 : decode cL_law 1647 = .ok (.aload_n 0, 1) := by decide +kernel
theorem dL_law_1648 : decode cL_law 1648 = .ok (.iload 5, 2) := by decide +kernel
theorem dL_law_1650 : decode cL_law 1650 = .ok (.iconst 2, 1) := by decide +kernel
theorem dL_law_1651 : decode cL_law 1651 = .ok (.iadd, 1) := by decide +kernel
theorem dL_law_1652 : decode cL_law 1652 = .ok (.iaload, 1) := by decide +kernel
theorem dL_law_1653 : decode cL_law 1653 = .ok (.invokevirtual 269, 3) := by decide +kernel
theorem w10_78 : (Jvm.Cond.methodLink "PolyforgeLaw" (269 : Nat) ({ cls := "PolyforgeModel", name := "quotient", desc := "(II)I" } : Jvm.MethodName)) ∈ lw_tbl := pv_t10 (pv_mg 78 rfl)
theorem w10_81 : (Jvm.Cond.code ({ cls := "PolyforgeModel", name := "quotient", desc := "(II)I" } : Jvm.MethodName) prog_14_method_68_code (3 : Nat) (Option.some Jvm.ClassFile.FieldType.int)) ∈ lw_tbl := pv_t10 (pv_mg 81 rfl)
theorem w10_80 : (Jvm.Cond.selects "PolyforgeModel" ({ cls := "PolyforgeModel", name := "quotient", desc := "(II)I" } : Jvm.MethodName) ({ cls := "PolyforgeModel", name := "quotient", desc := "(II)I" } : Jvm.MethodName)) ∈ lw_tbl := pv_t10 (pv_mg 80 rfl)
theorem w10_79 : (Jvm.Cond.instanceMethod ({ cls := "PolyforgeModel", name := "quotient", desc := "(II)I" } : Jvm.MethodName)) ∈ lw_tbl := pv_t10 (pv_mg 79 rfl)
theorem dL_law_1656 : decode cL_law 1656 = .ok (.istore 7, 2) := by decide +kernel
theorem dL_law_1658 : decode cL_law 1658 = .ok (.aload_n 2, 1) := by decide +kernel
theorem dL_law_1659 : decode cL_law 1659 = .ok (.invokevirtual 199, 3) := by decide +kernel
theorem dL_law_1662 : decode cL_law 1662 = .ok (.iload 6, 2) := by decide +kernel
theorem dL_law_1664 : decode cL_law 1664 = .ok (.if_icmp .eq 5, 3) := by decide +kernel
theorem dL_law_1669 : decode cL_law 1669 = .ok (.iload 6, 2) := by decide +kernel
theorem dL_law_1671 : decode cL_law 1671 = .ok (.ifCond .ne 15, 3) := by decide +kernel
theorem dL_law_1686 : decode cL_law 1686 = .ok (.goto 2035, 3) := by decide +kernel
set_option maxHeartbeats 4000000 in
set_option maxRecDepth 100000 in
/-- the law, call 21: quotient -/
theorem law_case_21 {p : Program} {e : Env} {s : State} {m : MethodId} {below : List Frame} {meth : Method} {c : Code} (l : Launch) (hfl : l.stackTraces = false) {b : Nat} {xs : Nat → Int32} (C0 : lw_At p s m meth c b 7 xs) {D : va_G} {A : Nat → Prop} (hA : ∀ q : Nat, s.heap.size ≤ q → A q) (hAf : ∀ q : Nat, A q → s.heap.size ≤ q) (hbA : ¬ A b) (hE : pv_E A s s.heap) {x0 m0 o0 d0 : Nat} {xq xw mq : Nat → Nat} {xJ xP xO xC xI mI mI2 mI3 mT mC oL : ClassId} {xsg xsf msg msf : Nat → Int32} (hxsg : ∀ j, j < 3 → xsg j = 63) (hmsg : ∀ j, j < 3 → msg j = 63) {H : Heap} {locs : List Loc} (hK : va_K D pv_cl [(xJ, .long), (xP, .object "Polyforge$Polynomial"), (xO, .object "Polyforge$Ideal"), (xC, .char), (xI, .int), (mI, .int), (mT, .object "PolyforgeModel$Terms"), (mI2, .int), (mC, .char), (mI3, .int), (oL, .long)] s) (hP : va_P D pv_cl [(x0, .inr (0, [.ref (xq 0), .int 0, .int 108, .ref (xq 1), .int 0, .ref (xq 2), .int 0, .ref (xq 3), .ref (xq 4), .int 1, .ref (xq 5), .ref (xq 6), .ref (xq 7), .ref (xq 8), .ref (xq 9)])), ((xq 6), .inr (2, [.ref (xw 0), .ref (xw 1), .ref (xw 2), .ref (xw 3), .int 0, .int 0])), ((xw 2), .inl (xJ, 64, .inr (.inl (fun _ => 0)))), ((xq 0), .inl (xP, 60, .inr (.inr (.inr (.inr (fun _ => none)))))), ((xq 1), .inl (xO, 5, .inr (.inr (.inr (.inr (fun _ => none)))))), ((xq 3), .inl (xC, 3, .inl xsg)), ((xq 4), .inl (xI, 3, .inl xsf)), (m0, .inr (1, pv_m 0 mq)), ((mq 0), .inl (mI, 60, .inl (fun _ => 0))), ((mq 1), .inl (mT, 60, .inr (.inr (.inr (.inr (fun _ => none)))))), ((mq 2), .inl (mI2, 5, .inl (fun _ => 0))), ((mq 9), .inl (mC, 3, .inl msg)), ((mq 10), .inl (mI3, 3, .inl msf)), (o0, .inl (oL, 1, .inr (.inl (fun _ => 0))))] H) (hD : va_D A [(x0, .inr (0, [.ref (xq 0), .int 0, .int 108, .ref (xq 1), .int 0, .ref (xq 2), .int 0, .ref (xq 3), .ref (xq 4), .int 1, .ref (xq 5), .ref (xq 6), .ref (xq 7), .ref (xq 8), .ref (xq 9)])), ((xq 6), .inr (2, [.ref (xw 0), .ref (xw 1), .ref (xw 2), .ref (xw 3), .int 0, .int 0])), ((xw 2), .inl (xJ, 64, .inr (.inl (fun _ => 0)))), ((xq 0), .inl (xP, 60, .inr (.inr (.inr (.inr (fun _ => none)))))), ((xq 1), .inl (xO, 5, .inr (.inr (.inr (.inr (fun _ => none)))))), ((xq 3), .inl (xC, 3, .inl xsg)), ((xq 4), .inl (xI, 3, .inl xsf)), (m0, .inr (1, pv_m 0 mq)), ((mq 0), .inl (mI, 60, .inl (fun _ => 0))), ((mq 1), .inl (mT, 60, .inr (.inr (.inr (.inr (fun _ => none)))))), ((mq 2), .inl (mI2, 5, .inl (fun _ => 0))), ((mq 9), .inl (mC, 3, .inl msg)), ((mq 10), .inl (mI3, 3, .inl msf)), (o0, .inl (oL, 1, .inr (.inl (fun _ => 0))))]) (hS : va_S A s.heap H locs) {ls : Array Slot} (hl : lv_has ls 9 [(0, .ref b), (1, .ref x0), (2, .ref m0), (3, .ref o0), (4, .ref d0), (5, .int 0)]) : W p l e room_1 s m #[Value.ref b] below meth c H locs 397 653821 (lw_Z below #[Value.ref b] s) (F0 m 1621 ls []) := by
  obtain ⟨hx, hb, hr, hml, hown, hts0, hX, hbl, hlocks, hgv⟩ := C0
  have hts : ∀ w ∈ pv_W, w.before #[Value.ref b] s = true := fun w h => hts0 w (List.mem_filter.mp h).1
  have hg := fun {w : Cond} (h : w ∈ lw_tbl) (g : goodWord w = true) => hts w (pv_in h g)
  have hP : va_P D pv_cl [(x0, .inr (0, [.ref (xq 0), .int 0, .int 108, .ref (xq 1), .int 0, .ref (xq 2), .int 0, .ref (xq 3), .ref (xq 4), .int 1, .ref (xq 5), .ref (xq 6), .ref (xq 7), .ref (xq 8), .ref (xq 9)])), (m0, .inr (1, pv_m 0 mq))] _ := hP.sub [0, 7] rfl
  have hD : va_D A [(x0, .inr (0, [.ref (xq 0), .int 0, .int 108, .ref (xq 1), .int 0, .ref (xq 2), .int 0, .ref (xq 3), .ref (xq 4), .int 1, .ref (xq 5), .ref (xq 6), .ref (xq 7), .ref (xq 8), .ref (xq 9)])), (m0, .inr (1, pv_m 0 mq))] := hD.sub [0, 7] (by decide) rfl
  have hK : va_K D pv_cl [] s := hK.sub [] rfl
  refine lv_aload_n hx hb dL_law_1621 rfl (lv_at hl 1 rfl) ?_
  refine lv_aload_n hx hb dL_law_1622 rfl (lv_at hl 0 rfl) ?_
  refine lv_iload hx hb dL_law_1623 (lv_at hl 5 rfl) ?_
  refine lv_iconst (v := 1) hx hb dL_law_1625 (by decide) ?_
  refine lv_iadd hx hb dL_law_1626 ?_
  refine pv_setI 1 (by decide) ?_
  refine va_sld hx hb hX hbl hbA hS (by unfold vp_in; decide) dL_law_1627 ?_
  refine pv_setI (xs 1) rfl ?_
  refine lv_aload_n hx hb dL_law_1628 rfl (lv_at hl 0 rfl) ?_
  refine lv_iload hx hb dL_law_1629 (lv_at hl 5 rfl) ?_
  refine lv_iconst (v := 2) hx hb dL_law_1631 (by decide) ?_
  refine lv_iadd hx hb dL_law_1632 ?_
  refine pv_setI 2 (by decide) ?_
  refine va_sld hx hb hX hbl hbA hS (by unfold vp_in; decide) dL_law_1633 ?_
  refine pv_setI (xs 2) rfl ?_
  refine pv_pc 1634 rfl ?_
  refine lv_aload_n hx hb dL_law_1634 rfl (lv_at hl 3 rfl) ?_
  have hF := pv_new hA hS.1
  refine va_calli (vx_runSW (As := [.ref x0, .int (xs 1), .int (xs 2), .ref o0]) (rest := []) ⟨hx, hb, hml, hown, hts⟩ (c_L_quotient l hfl D _ x0 xq (xs 1) (xs 2) o0) (vx_cwSW 4 hts (pv_gSW w6_192 w6_193 w1_0 w6_194) rfl rfl rfl (by decide +kernel) ⟨Nat.le_of_ble_eq_true rfl, Nat.le_of_ble_eq_true rfl⟩) (pv_ps hE hS hF (hP.sub [0] rfl) (hK.sub [] rfl) (hD.sub [0] (by decide) rfl)) rfl rfl hl.1 rfl (lv_room (Nat.le_of_ble_eq_true rfl)) dL_law_1635 ⟨Nat.le_of_ble_eq_true rfl, Nat.le_of_ble_eq_true rfl⟩) hS (fun q _ h => hF q h) hF (fun r_0 u t H1 locs1 ht hvm hw hB hz1 hk1 hS => ?_)
  refine W.widen (k := 398) (n := 653827) (Nat.le_of_ble_eq_true rfl) (Nat.le_of_ble_eq_true rfl) ?_
  have hP := pv_keep hP rfl hk1
  subst hw
  refine lv_istore (lv' := [(6, .int 1), (0, .ref b), (1, .ref x0), (2, .ref m0), (3, .ref o0), (4, .ref d0), (5, .int 0)]) hx hb dL_law_1638 hl (by decide) rfl (fun ls hl => ?_)
  refine lv_aload_n hx hb dL_law_1640 rfl (lv_at hl 3 rfl) ?_
  refine lv_aload_n hx hb dL_law_1641 rfl (lv_at hl 1 rfl) ?_
  refine lv_iload hx hb dL_law_1642 (lv_at hl 6 rfl) ?_
  refine lv_iconst (v := 1) hx hb dL_law_1644 (by decide) ?_
  refine lv_iadd hx hb dL_law_1645 ?_
  refine pv_setI 1 (by decide) ?_
  refine va_sld hx hb hX hbl hbA hS (by unfold vp_in; decide) dL_law_1646 ?_
  refine pv_setI (xs 1) rfl ?_
  refine lv_aload_n hx hb dL_law_1647 rfl (lv_at hl 1 rfl) ?_
  refine lv_iload hx hb dL_law_1648 (lv_at hl 6 rfl) ?_
  refine lv_iconst (v := 2) hx hb dL_law_1650 (by decide) ?_
  refine pv_pc 1651 rfl ?_
  refine lv_iadd hx hb dL_law_1651 ?_
  refine pv_setI 2 (by decide) ?_
  refine va_sld hx hb hX hbl hbA hS (by unfold vp_in; decide) dL_law_1652 ?_
  refine pv_setI (xs 2) rfl ?_
  have hF := va_free (wc := [(m0, .inr (1, pv_m 0 mq))]) hD hS hA [1] rfl
  refine va_calli (va_runV (As := [.int (xs 1), .int (xs 2)]) (rest := []) ⟨hx, hb, hml, hown, hts⟩ (c_X13_quotient l hfl D _ m0 mq (xs 1) (xs 2)) (cwV 2 hts (pv_gV w10_78 w10_79 w10_80 w1_10 w10_81) rfl rfl rfl (by decide +kernel) ⟨Nat.le_of_ble_eq_true rfl, Nat.le_of_ble_eq_true rfl⟩) (pv_pV hE hS hF (hP.sub [1] rfl) (hK.sub [] rfl) (hD.sub [1] (by decide) rfl) (va_recv (ci := 1) (q0 := 1) hK hP rfl rfl)) rfl rfl hl.1 rfl (lv_room (Nat.le_of_ble_eq_true rfl)) dL_law_1653 ⟨Nat.le_of_ble_eq_true rfl, Nat.le_of_ble_eq_true rfl⟩) hS (fun q _ h => hF q h) hF (fun r_1 u t H1 locs1 ht hvm hw hB hz1 hk1 hS => ?_)
  refine W.widen (k := 398) (n := 653827) (Nat.le_of_ble_eq_true rfl) (Nat.le_of_ble_eq_true rfl) ?_
  subst hw
  obtain ⟨fs_3, hf_4, hP1, hK1, hD1⟩ := hB
  rw [ht] at hP1
  have hK1 := va_K.moved hvm.symm hK1
  obtain ⟨hP, hD⟩ := va_join (wr := [(x0, .inr (0, [.ref (xq 0), .int 0, .int 108, .ref (xq 1), .int 0, .ref (xq 2), .int 0, .ref (xq 3), .ref (xq 4), .int 1, .ref (xq 5), .ref (xq 6), .ref (xq 7), .ref (xq 8), .ref (xq 9)]))]) (w1 := [(m0, .inr (1, fs_3))]) hP hD [1] [0] rfl rfl (by decide) (by decide) hk1 hF hP1 hD1
  have hP : va_P D pv_cl [(x0, .inr (0, [.ref (xq 0), .int 0, .int 108, .ref (xq 1), .int 0, .ref (xq 2), .int 0, .ref (xq 3), .ref (xq 4), .int 1, .ref (xq 5), .ref (xq 6), .ref (xq 7), .ref (xq 8), .ref (xq 9)])), (m0, .inr (1, fs_3))] _ := hP
  have hD : va_D A [(x0, .inr (0, [.ref (xq 0), .int 0, .int 108, .ref (xq 1), .int 0, .ref (xq 2), .int 0, .ref (xq 3), .ref (xq 4), .int 1, .ref (xq 5), .ref (xq 6), .ref (xq 7), .ref (xq 8), .ref (xq 9)])), (m0, .inr (1, fs_3))] := hD
  refine lv_istore (lv' := [(7, .int r_1), (6, .int 1), (0, .ref b), (1, .ref x0), (2, .ref m0), (3, .ref o0), (4, .ref d0), (5, .int 0)]) hx hb dL_law_1656 hl (by decide) rfl (fun ls hl => ?_)
  refine lv_aload_n hx hb dL_law_1658 rfl (lv_at hl 4 rfl) ?_
  have hF := pv_new hA hS.1
  refine va_calli (va_runV (As := []) (rest := []) ⟨hx, hb, hml, hown, hts⟩ (c_X13_thrown l hfl D _ m0 fs_3 1 hf_4) (cwV 0 hts (pv_gV w9_102 w9_103 w9_104 w1_10 w9_105) rfl rfl rfl (by decide +kernel) ⟨Nat.le_of_ble_eq_true rfl, Nat.le_of_ble_eq_true rfl⟩) (pv_pV hE hS hF (hP.sub [1] rfl) (hK.sub [] rfl) (hD.sub [1] (by decide) rfl) (va_recv (ci := 1) (q0 := 1) hK hP rfl rfl)) rfl rfl hl.1 rfl (lv_room (Nat.le_of_ble_eq_true rfl)) dL_law_1659 ⟨Nat.le_of_ble_eq_true rfl, Nat.le_of_ble_eq_true rfl⟩) hS (fun q _ h => hF q h) hF (fun r_4 u t H1 locs1 ht hvm hw hB hz1 hk1 hS => ?_)
  refine W.widen (k := 398) (n := 653827) (Nat.le_of_ble_eq_true rfl) (Nat.le_of_ble_eq_true rfl) ?_
  have hP := pv_keep hP rfl hk1
  subst hw
  refine lv_iload hx hb dL_law_1662 (lv_at hl 1 rfl) ?_
  refine lv_icmp_eq (tgt := 1669) hx hb dL_law_1664 (by decide) (fun _ => ?_) (fun c_6 => absurd (by decide) c_6)
  refine lv_iload hx hb dL_law_1669 (lv_at hl 1 rfl) ?_
  refine lv_if_ne (tgt := 1686) hx hb dL_law_1671 (by decide) (fun _ => ?_) (fun c_7 => absurd c_7 (by decide))
  refine lv_goto (tgt := 3721) hx hb dL_law_1686 (by decide) ?_
  refine lv_iinc (v := 7) (lv' := [(5, .int 7), (7, .int r_1), (6, .int 1), (0, .ref b), (1, .ref x0), (2, .ref m0), (3, .ref o0), (4, .ref d0)]) hx hb dL_law_3721 hl (k := 7) rfl (by decide) (by decide) rfl (fun ls hl => ?_)
  refine pv_pc 3724 rfl ?_
  refine lv_goto (tgt := 28) hx hb dL_law_3724 (by decide) ?_
  refine lv_iload hx hb dL_law_28 (lv_at hl 0 rfl) ?_
  refine lv_aload_n hx hb dL_law_30 rfl (lv_at hl 3 rfl) ?_
  refine va_slen hx hb hX hbl hbA hS dL_law_31 ?_
  refine pv_setI 7 rfl ?_
  refine lv_bipush (v := 7) hx hb dL_law_32 (by decide) ?_
  refine lv_isub hx hb dL_law_34 ?_
  refine pv_setI 0 (by decide) ?_
  refine lv_icmp_gt (tgt := 3727) hx hb dL_law_35 (by decide) (fun _ => ?_) (fun c_8 => absurd (by decide) c_8)
  refine lv_iconst (v := 1) hx hb dL_law_3727 (by decide) ?_
  refine va_forget (fun q hq => hAf _ (hS.2.2 q hq)) ?_
  refine W.widen (k := 600006) (n := 7302064) (Nat.le_of_ble_eq_true rfl) (Nat.le_of_ble_eq_true rfl) ?_
  exact lw_ret (d0 := s.drawn) (Drawn.sameBut.refl s.drawn lw_cs) hx hb hr hlocks dL_law_3728

theorem dL_law_1689 : decode cL_law 1689 = .ok (.aload_n 1, 1) := by decide +kernel
theorem dL_law_1690 : decode cL_law 1690 = .ok (.aload_n 0, 1) := by decide +kernel
theorem dL_law_1691 : decode cL_law 1691 = .ok (.iload 5, 2) := by decide +kernel
theorem dL_law_1693 : decode cL_law 1693 = .ok (.iconst 1, 1) := by decide +kernel
theorem dL_law_1694 : decode cL_law 1694 = .ok (.iadd, 1) := by decide +kernel
theorem dL_law_1695 : decode cL_law 1695 = .ok (.iaload, 1) := by decide +kernel
theorem dL_law_1696 : decode cL_law 1696 = .ok (.aload_n 0, 1) := by decide +kernel
theorem dL_law_1697 : decode cL_law 1697 = .ok (.iload 5, 2) := by decide +kernel
theorem dL_law_1699 : decode cL_law 1699 = .ok (.iconst 2, 1) := by decide +kernel
theorem dL_law_1700 : decode cL_law 1700 = .ok (.iadd, 1) := by decide +kernel
theorem dL_law_1701 : decode cL_law 1701 = .ok (.iaload, 1) := by decide +kernel
theorem dL_law_1702 : decode cL_law 1702 = .ok (.aload_n 3, 1) := by decide +kernel
theorem dL_law_1703 : decode cL_law 1703 = .ok (.invokestatic 270, 3) := by decide +kernel
theorem w6_225 : (Jvm.Cond.methodLink "PolyforgeLaw" (270 : Nat) ({ cls := "PolyforgeLaw", name := "remainder", desc := "(LPolyforge;II[J)I" } : Jvm.MethodName)) ∈ lw_tbl := pv_t6 (pv_mg 225 rfl)
theorem w6_227 : (Jvm.Cond.codeWith ({ cls := "PolyforgeLaw", name := "remainder", desc := "(LPolyforge;II[J)I" } : Jvm.MethodName) method_24_code (5 : Nat) (Option.some Jvm.ClassFile.FieldType.int) [((0 : Nat), (10 : Nat), (13 : Nat), (23 : Nat)), ((0 : Nat), (10 : Nat), (17 : Nat), (25 : Nat)), ((0 : Nat), (10 : Nat), (21 : Nat), (27 : Nat)), ((0 : Nat), (10 : Nat), (25 : Nat), (15 : Nat))]) ∈ lw_tbl := pv_t6 (pv_mg 227 rfl)
theorem w6_226 : (Jvm.Cond.static ({ cls := "PolyforgeLaw", name := "remainder", desc := "(LPolyforge;II[J)I" } : Jvm.MethodName)) ∈ lw_tbl := pv_t6 (pv_mg 226 rfl)
theorem dL_law_1706 : decode cL_law 1706 = .ok (.istore 6, 2) := by decide +kernel
theorem dL_law_1708 : decode cL_law 1708 = .ok (.aload_n 2, 1) := by decide +kernel
theorem dL_law_1709 : decode cL_law 1709 = .ok (.aload_n 0, 1) := by decide +kernel
theorem dL_law_1710 : decode cL_law 1710 = .ok (.iload 5, 2) := by decide +kernel
theorem dL_law_1712 : decode cL_law 1712 = .ok (.iconst 1, 1) := by decide +kernel
theorem dL_law_1713 : decode cL_law 1713 = .ok (.iadd, 1) := by decide +kernel
theorem dL_law_1714 : decode cL_law 1714 = .ok (.iaload, 1) := by decide +kernel
theorem dL_law_1715 : decode cL_law 1715 = .ok (.aload_n 0, 1) := by decide +kernel
theorem dL_law_1716 : decode cL_law 1716 = .ok (.iload 5, 2) := by decide +kernel
theorem dL_law_1718 : decode cL_law 1718 = .ok (.iconst 2, 1) := by decide +kernel
theorem dL_law_1719 : decode cL_law 1719 = .ok (.iadd, 1) := by decide +kernel
theorem dL_law_1720 : decode cL_law 1720 = .ok (.iaload, 1) := by decide +kernel
theorem dL_law_1721 : decode cL_law 1721 = .ok (.invokevirtual 272, 3) := by decide +kernel
theorem w10_112 : (Jvm.Cond.methodLink "PolyforgeLaw" (272 : Nat) ({ cls := "PolyforgeModel", name := "remainder", desc := "(II)I" } : Jvm.MethodName)) ∈ lw_tbl := pv_t10 (pv_mg 112 rfl)
theorem w10_115 : (Jvm.Cond.code ({ cls := "PolyforgeModel", name := "remainder", desc := "(II)I" } : Jvm.MethodName) prog_14_method_69_code (3 : Nat) (Option.some Jvm.ClassFile.FieldType.int)) ∈ lw_tbl := pv_t10 (pv_mg 115 rfl)
theorem w10_114 : (Jvm.Cond.selects "PolyforgeModel" ({ cls := "PolyforgeModel", name := "remainder", desc := "(II)I" } : Jvm.MethodName) ({ cls := "PolyforgeModel", name := "remainder", desc := "(II)I" } : Jvm.MethodName)) ∈ lw_tbl := pv_t10 (pv_mg 114 rfl)
theorem w10_113 : (Jvm.Cond.instanceMethod ({ cls := "PolyforgeModel", name := "remainder", desc := "(II)I" } : Jvm.MethodName)) ∈ lw_tbl := pv_t10 (pv_mg 113 rfl)
theorem dL_law_1724 : decode cL_law 1724 = .ok (.istore 7, 2) := by decide +kernel
theorem dL_law_1726 : decode cL_law 1726 = .ok (.aload_n 2, 1) := by decide +kernel
theorem dL_law_1727 : decode cL_law 1727 = .ok (.invokevirtual 199, 3) := by decide +kernel
theorem dL_law_1730 : decode cL_law 1730 = .ok (.iload 6, 2) := by decide +kernel
theorem dL_law_1732 : decode cL_law 1732 = .ok (.if_icmp .eq 5, 3) := by decide +kernel
theorem dL_law_1737 : decode cL_law 1737 = .ok (.iload 6, 2) := by decide +kernel
theorem dL_law_1739 : decode cL_law 1739 = .ok (.ifCond .ne 15, 3) := by decide +kernel
theorem dL_law_1754 : decode cL_law 1754 = .ok (.goto 1967, 3) := by decide +kernel
set_option maxHeartbeats 4000000 in
set_option maxRecDepth 100000 in
/-- the law, call 22: remainder -/
theorem law_case_22 {p : Program} {e : Env} {s : State} {m : MethodId} {below : List Frame} {meth : Method} {c : Code} (l : Launch) (hfl : l.stackTraces = false) {b : Nat} {xs : Nat → Int32} (C0 : lw_At p s m meth c b 7 xs) {D : va_G} {A : Nat → Prop} (hA : ∀ q : Nat, s.heap.size ≤ q → A q) (hAf : ∀ q : Nat, A q → s.heap.size ≤ q) (hbA : ¬ A b) (hE : pv_E A s s.heap) {x0 m0 o0 d0 : Nat} {xq xw mq : Nat → Nat} {xJ xP xO xC xI mI mI2 mI3 mT mC oL : ClassId} {xsg xsf msg msf : Nat → Int32} (hxsg : ∀ j, j < 3 → xsg j = 63) (hmsg : ∀ j, j < 3 → msg j = 63) {H : Heap} {locs : List Loc} (hK : va_K D pv_cl [(xJ, .long), (xP, .object "Polyforge$Polynomial"), (xO, .object "Polyforge$Ideal"), (xC, .char), (xI, .int), (mI, .int), (mT, .object "PolyforgeModel$Terms"), (mI2, .int), (mC, .char), (mI3, .int), (oL, .long)] s) (hP : va_P D pv_cl [(x0, .inr (0, [.ref (xq 0), .int 0, .int 108, .ref (xq 1), .int 0, .ref (xq 2), .int 0, .ref (xq 3), .ref (xq 4), .int 1, .ref (xq 5), .ref (xq 6), .ref (xq 7), .ref (xq 8), .ref (xq 9)])), ((xq 6), .inr (2, [.ref (xw 0), .ref (xw 1), .ref (xw 2), .ref (xw 3), .int 0, .int 0])), ((xw 2), .inl (xJ, 64, .inr (.inl (fun _ => 0)))), ((xq 0), .inl (xP, 60, .inr (.inr (.inr (.inr (fun _ => none)))))), ((xq 1), .inl (xO, 5, .inr (.inr (.inr (.inr (fun _ => none)))))), ((xq 3), .inl (xC, 3, .inl xsg)), ((xq 4), .inl (xI, 3, .inl xsf)), (m0, .inr (1, pv_m 0 mq)), ((mq 0), .inl (mI, 60, .inl (fun _ => 0))), ((mq 1), .inl (mT, 60, .inr (.inr (.inr (.inr (fun _ => none)))))), ((mq 2), .inl (mI2, 5, .inl (fun _ => 0))), ((mq 9), .inl (mC, 3, .inl msg)), ((mq 10), .inl (mI3, 3, .inl msf)), (o0, .inl (oL, 1, .inr (.inl (fun _ => 0))))] H) (hD : va_D A [(x0, .inr (0, [.ref (xq 0), .int 0, .int 108, .ref (xq 1), .int 0, .ref (xq 2), .int 0, .ref (xq 3), .ref (xq 4), .int 1, .ref (xq 5), .ref (xq 6), .ref (xq 7), .ref (xq 8), .ref (xq 9)])), ((xq 6), .inr (2, [.ref (xw 0), .ref (xw 1), .ref (xw 2), .ref (xw 3), .int 0, .int 0])), ((xw 2), .inl (xJ, 64, .inr (.inl (fun _ => 0)))), ((xq 0), .inl (xP, 60, .inr (.inr (.inr (.inr (fun _ => none)))))), ((xq 1), .inl (xO, 5, .inr (.inr (.inr (.inr (fun _ => none)))))), ((xq 3), .inl (xC, 3, .inl xsg)), ((xq 4), .inl (xI, 3, .inl xsf)), (m0, .inr (1, pv_m 0 mq)), ((mq 0), .inl (mI, 60, .inl (fun _ => 0))), ((mq 1), .inl (mT, 60, .inr (.inr (.inr (.inr (fun _ => none)))))), ((mq 2), .inl (mI2, 5, .inl (fun _ => 0))), ((mq 9), .inl (mC, 3, .inl msg)), ((mq 10), .inl (mI3, 3, .inl msf)), (o0, .inl (oL, 1, .inr (.inl (fun _ => 0))))]) (hS : va_S A s.heap H locs) {ls : Array Slot} (hl : lv_has ls 9 [(0, .ref b), (1, .ref x0), (2, .ref m0), (3, .ref o0), (4, .ref d0), (5, .int 0)]) : W p l e room_1 s m #[Value.ref b] below meth c H locs 397 653821 (lw_Z below #[Value.ref b] s) (F0 m 1689 ls []) := by
  obtain ⟨hx, hb, hr, hml, hown, hts0, hX, hbl, hlocks, hgv⟩ := C0
  have hts : ∀ w ∈ pv_W, w.before #[Value.ref b] s = true := fun w h => hts0 w (List.mem_filter.mp h).1
  have hg := fun {w : Cond} (h : w ∈ lw_tbl) (g : goodWord w = true) => hts w (pv_in h g)
  have hP : va_P D pv_cl [(x0, .inr (0, [.ref (xq 0), .int 0, .int 108, .ref (xq 1), .int 0, .ref (xq 2), .int 0, .ref (xq 3), .ref (xq 4), .int 1, .ref (xq 5), .ref (xq 6), .ref (xq 7), .ref (xq 8), .ref (xq 9)])), (m0, .inr (1, pv_m 0 mq))] _ := hP.sub [0, 7] rfl
  have hD : va_D A [(x0, .inr (0, [.ref (xq 0), .int 0, .int 108, .ref (xq 1), .int 0, .ref (xq 2), .int 0, .ref (xq 3), .ref (xq 4), .int 1, .ref (xq 5), .ref (xq 6), .ref (xq 7), .ref (xq 8), .ref (xq 9)])), (m0, .inr (1, pv_m 0 mq))] := hD.sub [0, 7] (by decide) rfl
  have hK : va_K D pv_cl [] s := hK.sub [] rfl
  refine lv_aload_n hx hb dL_law_1689 rfl (lv_at hl 1 rfl) ?_
  refine lv_aload_n hx hb dL_law_1690 rfl (lv_at hl 0 rfl) ?_
  refine lv_iload hx hb dL_law_1691 (lv_at hl 5 rfl) ?_
  refine lv_iconst (v := 1) hx hb dL_law_1693 (by decide) ?_
  refine lv_iadd hx hb dL_law_1694 ?_
  refine pv_setI 1 (by decide) ?_
  refine va_sld hx hb hX hbl hbA hS (by unfold vp_in; decide) dL_law_1695 ?_
  refine pv_setI (xs 1) rfl ?_
  refine lv_aload_n hx hb dL_law_1696 rfl (lv_at hl 0 rfl) ?_
  refine lv_iload hx hb dL_law_1697 (lv_at hl 5 rfl) ?_
  refine lv_iconst (v := 2) hx hb dL_law_1699 (by decide) ?_
  refine lv_iadd hx hb dL_law_1700 ?_
  refine pv_setI 2 (by decide) ?_
  refine va_sld hx hb hX hbl hbA hS (by unfold vp_in; decide) dL_law_1701 ?_
  refine pv_setI (xs 2) rfl ?_
  refine pv_pc 1702 rfl ?_
  refine lv_aload_n hx hb dL_law_1702 rfl (lv_at hl 3 rfl) ?_
  have hF := pv_new hA hS.1
  refine va_calli (vx_runSW (As := [.ref x0, .int (xs 1), .int (xs 2), .ref o0]) (rest := []) ⟨hx, hb, hml, hown, hts⟩ (c_L_remainder l hfl D _ x0 xq (xs 1) (xs 2) o0) (vx_cwSW 4 hts (pv_gSW w6_225 w6_226 w1_0 w6_227) rfl rfl rfl (by decide +kernel) ⟨Nat.le_of_ble_eq_true rfl, Nat.le_of_ble_eq_true rfl⟩) (pv_ps hE hS hF (hP.sub [0] rfl) (hK.sub [] rfl) (hD.sub [0] (by decide) rfl)) rfl rfl hl.1 rfl (lv_room (Nat.le_of_ble_eq_true rfl)) dL_law_1703 ⟨Nat.le_of_ble_eq_true rfl, Nat.le_of_ble_eq_true rfl⟩) hS (fun q _ h => hF q h) hF (fun r_0 u t H1 locs1 ht hvm hw hB hz1 hk1 hS => ?_)
  refine W.widen (k := 398) (n := 653827) (Nat.le_of_ble_eq_true rfl) (Nat.le_of_ble_eq_true rfl) ?_
  have hP := pv_keep hP rfl hk1
  subst hw
  refine lv_istore (lv' := [(6, .int 1), (0, .ref b), (1, .ref x0), (2, .ref m0), (3, .ref o0), (4, .ref d0), (5, .int 0)]) hx hb dL_law_1706 hl (by decide) rfl (fun ls hl => ?_)
  refine lv_aload_n hx hb dL_law_1708 rfl (lv_at hl 3 rfl) ?_
  refine lv_aload_n hx hb dL_law_1709 rfl (lv_at hl 1 rfl) ?_
  refine lv_iload hx hb dL_law_1710 (lv_at hl 6 rfl) ?_
  refine lv_iconst (v := 1) hx hb dL_law_1712 (by decide) ?_
  refine lv_iadd hx hb dL_law_1713 ?_
  refine pv_setI 1 (by decide) ?_
  refine va_sld hx hb hX hbl hbA hS (by unfold vp_in; decide) dL_law_1714 ?_
  refine pv_setI (xs 1) rfl ?_
  refine lv_aload_n hx hb dL_law_1715 rfl (lv_at hl 1 rfl) ?_
  refine lv_iload hx hb dL_law_1716 (lv_at hl 6 rfl) ?_
  refine lv_iconst (v := 2) hx hb dL_law_1718 (by decide) ?_
  refine pv_pc 1719 rfl ?_
  refine lv_iadd hx hb dL_law_1719 ?_
  refine pv_setI 2 (by decide) ?_
  refine va_sld hx hb hX hbl hbA hS (by unfold vp_in; decide) dL_law_1720 ?_
  refine pv_setI (xs 2) rfl ?_
  have hF := va_free (wc := [(m0, .inr (1, pv_m 0 mq))]) hD hS hA [1] rfl
  refine va_calli (va_runV (As := [.int (xs 1), .int (xs 2)]) (rest := []) ⟨hx, hb, hml, hown, hts⟩ (c_X13_remainder l hfl D _ m0 mq (xs 1) (xs 2)) (cwV 2 hts (pv_gV w10_112 w10_113 w10_114 w1_10 w10_115) rfl rfl rfl (by decide +kernel) ⟨Nat.le_of_ble_eq_true rfl, Nat.le_of_ble_eq_true rfl⟩) (pv_pV hE hS hF (hP.sub [1] rfl) (hK.sub [] rfl) (hD.sub [1] (by decide) rfl) (va_recv (ci := 1) (q0 := 1) hK hP rfl rfl)) rfl rfl hl.1 rfl (lv_room (Nat.le_of_ble_eq_true rfl)) dL_law_1721 ⟨Nat.le_of_ble_eq_true rfl, Nat.le_of_ble_eq_true rfl⟩) hS (fun q _ h => hF q h) hF (fun r_1 u t H1 locs1 ht hvm hw hB hz1 hk1 hS => ?_)
  refine W.widen (k := 398) (n := 653827) (Nat.le_of_ble_eq_true rfl) (Nat.le_of_ble_eq_true rfl) ?_
  subst hw
  obtain ⟨fs_3, hf_4, hP1, hK1, hD1⟩ := hB
  rw [ht] at hP1
  have hK1 := va_K.moved hvm.symm hK1
  obtain ⟨hP, hD⟩ := va_join (wr := [(x0, .inr (0, [.ref (xq 0), .int 0, .int 108, .ref (xq 1), .int 0, .ref (xq 2), .int 0, .ref (xq 3), .ref (xq 4), .int 1, .ref (xq 5), .ref (xq 6), .ref (xq 7), .ref (xq 8), .ref (xq 9)]))]) (w1 := [(m0, .inr (1, fs_3))]) hP hD [1] [0] rfl rfl (by decide) (by decide) hk1 hF hP1 hD1
  have hP : va_P D pv_cl [(x0, .inr (0, [.ref (xq 0), .int 0, .int 108, .ref (xq 1), .int 0, .ref (xq 2), .int 0, .ref (xq 3), .ref (xq 4), .int 1, .ref (xq 5), .ref (xq 6), .ref (xq 7), .ref (xq 8), .ref (xq 9)])), (m0, .inr (1, fs_3))] _ := hP
  have hD : va_D A [(x0, .inr (0, [.ref (xq 0), .int 0, .int 108, .ref (xq 1), .int 0, .ref (xq 2), .int 0, .ref (xq 3), .ref (xq 4), .int 1, .ref (xq 5), .ref (xq 6), .ref (xq 7), .ref (xq 8), .ref (xq 9)])), (m0, .inr (1, fs_3))] := hD
  refine lv_istore (lv' := [(7, .int r_1), (6, .int 1), (0, .ref b), (1, .ref x0), (2, .ref m0), (3, .ref o0), (4, .ref d0), (5, .int 0)]) hx hb dL_law_1724 hl (by decide) rfl (fun ls hl => ?_)
  refine lv_aload_n hx hb dL_law_1726 rfl (lv_at hl 4 rfl) ?_
  have hF := pv_new hA hS.1
  refine va_calli (va_runV (As := []) (rest := []) ⟨hx, hb, hml, hown, hts⟩ (c_X13_thrown l hfl D _ m0 fs_3 1 hf_4) (cwV 0 hts (pv_gV w9_102 w9_103 w9_104 w1_10 w9_105) rfl rfl rfl (by decide +kernel) ⟨Nat.le_of_ble_eq_true rfl, Nat.le_of_ble_eq_true rfl⟩) (pv_pV hE hS hF (hP.sub [1] rfl) (hK.sub [] rfl) (hD.sub [1] (by decide) rfl) (va_recv (ci := 1) (q0 := 1) hK hP rfl rfl)) rfl rfl hl.1 rfl (lv_room (Nat.le_of_ble_eq_true rfl)) dL_law_1727 ⟨Nat.le_of_ble_eq_true rfl, Nat.le_of_ble_eq_true rfl⟩) hS (fun q _ h => hF q h) hF (fun r_4 u t H1 locs1 ht hvm hw hB hz1 hk1 hS => ?_)
  refine W.widen (k := 398) (n := 653827) (Nat.le_of_ble_eq_true rfl) (Nat.le_of_ble_eq_true rfl) ?_
  have hP := pv_keep hP rfl hk1
  subst hw
  refine lv_iload hx hb dL_law_1730 (lv_at hl 1 rfl) ?_
  refine lv_icmp_eq (tgt := 1737) hx hb dL_law_1732 (by decide) (fun _ => ?_) (fun c_6 => absurd (by decide) c_6)
  refine lv_iload hx hb dL_law_1737 (lv_at hl 1 rfl) ?_
  refine lv_if_ne (tgt := 1754) hx hb dL_law_1739 (by decide) (fun _ => ?_) (fun c_7 => absurd c_7 (by decide))
  refine lv_goto (tgt := 3721) hx hb dL_law_1754 (by decide) ?_
  refine lv_iinc (v := 7) (lv' := [(5, .int 7), (7, .int r_1), (6, .int 1), (0, .ref b), (1, .ref x0), (2, .ref m0), (3, .ref o0), (4, .ref d0)]) hx hb dL_law_3721 hl (k := 7) rfl (by decide) (by decide) rfl (fun ls hl => ?_)
  refine pv_pc 3724 rfl ?_
  refine lv_goto (tgt := 28) hx hb dL_law_3724 (by decide) ?_
  refine lv_iload hx hb dL_law_28 (lv_at hl 0 rfl) ?_
  refine lv_aload_n hx hb dL_law_30 rfl (lv_at hl 3 rfl) ?_
  refine va_slen hx hb hX hbl hbA hS dL_law_31 ?_
  refine pv_setI 7 rfl ?_
  refine lv_bipush (v := 7) hx hb dL_law_32 (by decide) ?_
  refine lv_isub hx hb dL_law_34 ?_
  refine pv_setI 0 (by decide) ?_
  refine lv_icmp_gt (tgt := 3727) hx hb dL_law_35 (by decide) (fun _ => ?_) (fun c_8 => absurd (by decide) c_8)
  refine lv_iconst (v := 1) hx hb dL_law_3727 (by decide) ?_
  refine va_forget (fun q hq => hAf _ (hS.2.2 q hq)) ?_
  refine W.widen (k := 600006) (n := 7302064) (Nat.le_of_ble_eq_true rfl) (Nat.le_of_ble_eq_true rfl) ?_
  exact lw_ret (d0 := s.drawn) (Drawn.sameBut.refl s.drawn lw_cs) hx hb hr hlocks dL_law_3728

theorem dL_law_1757 : decode cL_law 1757 = .ok (.aload_n 1, 1) := by decide +kernel
theorem dL_law_1758 : decode cL_law 1758 = .ok (.aload_n 0, 1) := by decide +kernel
theorem dL_law_1759 : decode cL_law 1759 = .ok (.iload 5, 2) := by decide +kernel
theorem dL_law_1761 : decode cL_law 1761 = .ok (.iconst 1, 1) := by decide +kernel
theorem dL_law_1762 : decode cL_law 1762 = .ok (.iadd, 1) := by decide +kernel
theorem dL_law_1763 : decode cL_law 1763 = .ok (.iaload, 1) := by decide +kernel
theorem dL_law_1764 : decode cL_law 1764 = .ok (.aload_n 0, 1) := by decide +kernel
theorem dL_law_1765 : decode cL_law 1765 = .ok (.iload 5, 2) := by decide +kernel
theorem dL_law_1767 : decode cL_law 1767 = .ok (.iconst 2, 1) := by decide +kernel
theorem dL_law_1768 : decode cL_law 1768 = .ok (.iadd, 1) := by decide +kernel
theorem dL_law_1769 : decode cL_law 1769 = .ok (.iaload, 1) := by decide +kernel
theorem dL_law_1770 : decode cL_law 1770 = .ok (.aload_n 3, 1) := by decide +kernel
theorem dL_law_1771 : decode cL_law 1771 = .ok (.invokestatic 273, 3) := by decide +kernel
theorem w6_236 : (Jvm.Cond.methodLink "PolyforgeLaw" (273 : Nat) ({ cls := "PolyforgeLaw", name := "divisor", desc := "(LPolyforge;II[J)I" } : Jvm.MethodName)) ∈ lw_tbl := pv_t6 (pv_mg 236 rfl)
theorem w6_238 : (Jvm.Cond.codeWith ({ cls := "PolyforgeLaw", name := "divisor", desc := "(LPolyforge;II[J)I" } : Jvm.MethodName) method_25_code (5 : Nat) (Option.some Jvm.ClassFile.FieldType.int) [((0 : Nat), (10 : Nat), (13 : Nat), (23 : Nat)), ((0 : Nat), (10 : Nat), (17 : Nat), (25 : Nat)), ((0 : Nat), (10 : Nat), (21 : Nat), (15 : Nat))]) ∈ lw_tbl := pv_t6 (pv_mg 238 rfl)
theorem w6_237 : (Jvm.Cond.static ({ cls := "PolyforgeLaw", name := "divisor", desc := "(LPolyforge;II[J)I" } : Jvm.MethodName)) ∈ lw_tbl := pv_t6 (pv_mg 237 rfl)
theorem dL_law_1774 : decode cL_law 1774 = .ok (.istore 6, 2) := by decide +kernel
theorem dL_law_1776 : decode cL_law 1776 = .ok (.aload_n 2, 1) := by decide +kernel
theorem dL_law_1777 : decode cL_law 1777 = .ok (.aload_n 0, 1) := by decide +kernel
theorem dL_law_1778 : decode cL_law 1778 = .ok (.iload 5, 2) := by decide +kernel
theorem dL_law_1780 : decode cL_law 1780 = .ok (.iconst 1, 1) := by decide +kernel
theorem dL_law_1781 : decode cL_law 1781 = .ok (.iadd, 1) := by decide +kernel
theorem dL_law_1782 : decode cL_law 1782 = .ok (.iaload, 1) := by decide +kernel
theorem dL_law_1783 : decode cL_law 1783 = .ok (.aload_n 0, 1) := by decide +kernel
theorem dL_law_1784 : decode cL_law 1784 = .ok (.iload 5, 2) := by decide +kernel
theorem dL_law_1786 : decode cL_law 1786 = .ok (.iconst 2, 1) := by decide +kernel
theorem dL_law_1787 : decode cL_law 1787 = .ok (.iadd, 1) := by decide +kernel
theorem dL_law_1788 : decode cL_law 1788 = .ok (.iaload, 1) := by decide +kernel
theorem dL_law_1789 : decode cL_law 1789 = .ok (.invokevirtual 275, 3) := by decide +kernel
theorem w10_116 : (Jvm.Cond.methodLink "PolyforgeLaw" (275 : Nat) ({ cls := "PolyforgeModel", name := "divisor", desc := "(II)I" } : Jvm.MethodName)) ∈ lw_tbl := pv_t10 (pv_mg 116 rfl)
theorem w10_119 : (Jvm.Cond.code ({ cls := "PolyforgeModel", name := "divisor", desc := "(II)I" } : Jvm.MethodName) prog_14_method_70_code (6 : Nat) (Option.some Jvm.ClassFile.FieldType.int)) ∈ lw_tbl := pv_t10 (pv_mg 119 rfl)
theorem w10_118 : (Jvm.Cond.selects "PolyforgeModel" ({ cls := "PolyforgeModel", name := "divisor", desc := "(II)I" } : Jvm.MethodName) ({ cls := "PolyforgeModel", name := "divisor", desc := "(II)I" } : Jvm.MethodName)) ∈ lw_tbl := pv_t10 (pv_mg 118 rfl)
theorem w10_117 : (Jvm.Cond.instanceMethod ({ cls := "PolyforgeModel", name := "divisor", desc := "(II)I" } : Jvm.MethodName)) ∈ lw_tbl := pv_t10 (pv_mg 117 rfl)
theorem dL_law_1792 : decode cL_law 1792 = .ok (.istore 7, 2) := by decide +kernel
theorem dL_law_1794 : decode cL_law 1794 = .ok (.aload_n 2, 1) := by decide +kernel
theorem dL_law_1795 : decode cL_law 1795 = .ok (.invokevirtual 199, 3) := by decide +kernel
theorem dL_law_1798 : decode cL_law 1798 = .ok (.iload 6, 2) := by decide +kernel
theorem dL_law_1800 : decode cL_law 1800 = .ok (.if_icmp .eq 5, 3) := by decide +kernel
theorem dL_law_1805 : decode cL_law 1805 = .ok (.iload 6, 2) := by decide +kernel
theorem dL_law_1807 : decode cL_law 1807 = .ok (.ifCond .ne 15, 3) := by decide +kernel
theorem dL_law_1822 : decode cL_law 1822 = .ok (.goto 1899, 3) := by decide +kernel
set_option maxHeartbeats 4000000 in
set_option maxRecDepth 100000 in
/-- the law, call 23: divisor -/
theorem law_case_23 {p : Program} {e : Env} {s : State} {m : MethodId} {below : List Frame} {meth : Method} {c : Code} (l : Launch) (hfl : l.stackTraces = false) {b : Nat} {xs : Nat → Int32} (C0 : lw_At p s m meth c b 7 xs) {D : va_G} {A : Nat → Prop} (hA : ∀ q : Nat, s.heap.size ≤ q → A q) (hAf : ∀ q : Nat, A q → s.heap.size ≤ q) (hbA : ¬ A b) (hE : pv_E A s s.heap) {x0 m0 o0 d0 : Nat} {xq xw mq : Nat → Nat} {xJ xP xO xC xI mI mI2 mI3 mT mC oL : ClassId} {xsg xsf msg msf : Nat → Int32} (hxsg : ∀ j, j < 3 → xsg j = 63) (hmsg : ∀ j, j < 3 → msg j = 63) {H : Heap} {locs : List Loc} (hK : va_K D pv_cl [(xJ, .long), (xP, .object "Polyforge$Polynomial"), (xO, .object "Polyforge$Ideal"), (xC, .char), (xI, .int), (mI, .int), (mT, .object "PolyforgeModel$Terms"), (mI2, .int), (mC, .char), (mI3, .int), (oL, .long)] s) (hP : va_P D pv_cl [(x0, .inr (0, [.ref (xq 0), .int 0, .int 108, .ref (xq 1), .int 0, .ref (xq 2), .int 0, .ref (xq 3), .ref (xq 4), .int 1, .ref (xq 5), .ref (xq 6), .ref (xq 7), .ref (xq 8), .ref (xq 9)])), ((xq 6), .inr (2, [.ref (xw 0), .ref (xw 1), .ref (xw 2), .ref (xw 3), .int 0, .int 0])), ((xw 2), .inl (xJ, 64, .inr (.inl (fun _ => 0)))), ((xq 0), .inl (xP, 60, .inr (.inr (.inr (.inr (fun _ => none)))))), ((xq 1), .inl (xO, 5, .inr (.inr (.inr (.inr (fun _ => none)))))), ((xq 3), .inl (xC, 3, .inl xsg)), ((xq 4), .inl (xI, 3, .inl xsf)), (m0, .inr (1, pv_m 0 mq)), ((mq 0), .inl (mI, 60, .inl (fun _ => 0))), ((mq 1), .inl (mT, 60, .inr (.inr (.inr (.inr (fun _ => none)))))), ((mq 2), .inl (mI2, 5, .inl (fun _ => 0))), ((mq 9), .inl (mC, 3, .inl msg)), ((mq 10), .inl (mI3, 3, .inl msf)), (o0, .inl (oL, 1, .inr (.inl (fun _ => 0))))] H) (hD : va_D A [(x0, .inr (0, [.ref (xq 0), .int 0, .int 108, .ref (xq 1), .int 0, .ref (xq 2), .int 0, .ref (xq 3), .ref (xq 4), .int 1, .ref (xq 5), .ref (xq 6), .ref (xq 7), .ref (xq 8), .ref (xq 9)])), ((xq 6), .inr (2, [.ref (xw 0), .ref (xw 1), .ref (xw 2), .ref (xw 3), .int 0, .int 0])), ((xw 2), .inl (xJ, 64, .inr (.inl (fun _ => 0)))), ((xq 0), .inl (xP, 60, .inr (.inr (.inr (.inr (fun _ => none)))))), ((xq 1), .inl (xO, 5, .inr (.inr (.inr (.inr (fun _ => none)))))), ((xq 3), .inl (xC, 3, .inl xsg)), ((xq 4), .inl (xI, 3, .inl xsf)), (m0, .inr (1, pv_m 0 mq)), ((mq 0), .inl (mI, 60, .inl (fun _ => 0))), ((mq 1), .inl (mT, 60, .inr (.inr (.inr (.inr (fun _ => none)))))), ((mq 2), .inl (mI2, 5, .inl (fun _ => 0))), ((mq 9), .inl (mC, 3, .inl msg)), ((mq 10), .inl (mI3, 3, .inl msf)), (o0, .inl (oL, 1, .inr (.inl (fun _ => 0))))]) (hS : va_S A s.heap H locs) {ls : Array Slot} (hl : lv_has ls 9 [(0, .ref b), (1, .ref x0), (2, .ref m0), (3, .ref o0), (4, .ref d0), (5, .int 0)]) : W p l e room_1 s m #[Value.ref b] below meth c H locs 397 653821 (lw_Z below #[Value.ref b] s) (F0 m 1757 ls []) := by
  obtain ⟨hx, hb, hr, hml, hown, hts0, hX, hbl, hlocks, hgv⟩ := C0
  have hts : ∀ w ∈ pv_W, w.before #[Value.ref b] s = true := fun w h => hts0 w (List.mem_filter.mp h).1
  have hg := fun {w : Cond} (h : w ∈ lw_tbl) (g : goodWord w = true) => hts w (pv_in h g)
  have hP : va_P D pv_cl [(x0, .inr (0, [.ref (xq 0), .int 0, .int 108, .ref (xq 1), .int 0, .ref (xq 2), .int 0, .ref (xq 3), .ref (xq 4), .int 1, .ref (xq 5), .ref (xq 6), .ref (xq 7), .ref (xq 8), .ref (xq 9)])), (m0, .inr (1, pv_m 0 mq))] _ := hP.sub [0, 7] rfl
  have hD : va_D A [(x0, .inr (0, [.ref (xq 0), .int 0, .int 108, .ref (xq 1), .int 0, .ref (xq 2), .int 0, .ref (xq 3), .ref (xq 4), .int 1, .ref (xq 5), .ref (xq 6), .ref (xq 7), .ref (xq 8), .ref (xq 9)])), (m0, .inr (1, pv_m 0 mq))] := hD.sub [0, 7] (by decide) rfl
  have hK : va_K D pv_cl [] s := hK.sub [] rfl
  refine lv_aload_n hx hb dL_law_1757 rfl (lv_at hl 1 rfl) ?_
  refine lv_aload_n hx hb dL_law_1758 rfl (lv_at hl 0 rfl) ?_
  refine lv_iload hx hb dL_law_1759 (lv_at hl 5 rfl) ?_
  refine lv_iconst (v := 1) hx hb dL_law_1761 (by decide) ?_
  refine lv_iadd hx hb dL_law_1762 ?_
  refine pv_setI 1 (by decide) ?_
  refine va_sld hx hb hX hbl hbA hS (by unfold vp_in; decide) dL_law_1763 ?_
  refine pv_setI (xs 1) rfl ?_
  refine lv_aload_n hx hb dL_law_1764 rfl (lv_at hl 0 rfl) ?_
  refine lv_iload hx hb dL_law_1765 (lv_at hl 5 rfl) ?_
  refine lv_iconst (v := 2) hx hb dL_law_1767 (by decide) ?_
  refine lv_iadd hx hb dL_law_1768 ?_
  refine pv_setI 2 (by decide) ?_
  refine va_sld hx hb hX hbl hbA hS (by unfold vp_in; decide) dL_law_1769 ?_
  refine pv_setI (xs 2) rfl ?_
  refine pv_pc 1770 rfl ?_
  refine lv_aload_n hx hb dL_law_1770 rfl (lv_at hl 3 rfl) ?_
  have hF := pv_new hA hS.1
  refine va_calli (vx_runSW (As := [.ref x0, .int (xs 1), .int (xs 2), .ref o0]) (rest := []) ⟨hx, hb, hml, hown, hts⟩ (c_L_divisor l hfl D _ x0 xq (xs 1) (xs 2) o0) (vx_cwSW 4 hts (pv_gSW w6_236 w6_237 w1_0 w6_238) rfl rfl rfl (by decide +kernel) ⟨Nat.le_of_ble_eq_true rfl, Nat.le_of_ble_eq_true rfl⟩) (pv_ps hE hS hF (hP.sub [0] rfl) (hK.sub [] rfl) (hD.sub [0] (by decide) rfl)) rfl rfl hl.1 rfl (lv_room (Nat.le_of_ble_eq_true rfl)) dL_law_1771 ⟨Nat.le_of_ble_eq_true rfl, Nat.le_of_ble_eq_true rfl⟩) hS (fun q _ h => hF q h) hF (fun r_0 u t H1 locs1 ht hvm hw hB hz1 hk1 hS => ?_)
  refine W.widen (k := 398) (n := 653827) (Nat.le_of_ble_eq_true rfl) (Nat.le_of_ble_eq_true rfl) ?_
  have hP := pv_keep hP rfl hk1
  subst hw
  refine lv_istore (lv' := [(6, .int 1), (0, .ref b), (1, .ref x0), (2, .ref m0), (3, .ref o0), (4, .ref d0), (5, .int 0)]) hx hb dL_law_1774 hl (by decide) rfl (fun ls hl => ?_)
  refine lv_aload_n hx hb dL_law_1776 rfl (lv_at hl 3 rfl) ?_
  refine lv_aload_n hx hb dL_law_1777 rfl (lv_at hl 1 rfl) ?_
  refine lv_iload hx hb dL_law_1778 (lv_at hl 6 rfl) ?_
  refine lv_iconst (v := 1) hx hb dL_law_1780 (by decide) ?_
  refine lv_iadd hx hb dL_law_1781 ?_
  refine pv_setI 1 (by decide) ?_
  refine va_sld hx hb hX hbl hbA hS (by unfold vp_in; decide) dL_law_1782 ?_
  refine pv_setI (xs 1) rfl ?_
  refine lv_aload_n hx hb dL_law_1783 rfl (lv_at hl 1 rfl) ?_
  refine lv_iload hx hb dL_law_1784 (lv_at hl 6 rfl) ?_
  refine lv_iconst (v := 2) hx hb dL_law_1786 (by decide) ?_
  refine pv_pc 1787 rfl ?_
  refine lv_iadd hx hb dL_law_1787 ?_
  refine pv_setI 2 (by decide) ?_
  refine va_sld hx hb hX hbl hbA hS (by unfold vp_in; decide) dL_law_1788 ?_
  refine pv_setI (xs 2) rfl ?_
  have hF := va_free (wc := [(m0, .inr (1, pv_m 0 mq))]) hD hS hA [1] rfl
  refine va_calli (va_runV (As := [.int (xs 1), .int (xs 2)]) (rest := []) ⟨hx, hb, hml, hown, hts⟩ (c_X13_divisor l hfl D _ m0 mq (xs 1) (xs 2)) (cwV 2 hts (pv_gV w10_116 w10_117 w10_118 w1_10 w10_119) rfl rfl rfl (by decide +kernel) ⟨Nat.le_of_ble_eq_true rfl, Nat.le_of_ble_eq_true rfl⟩) (pv_pV hE hS hF (hP.sub [1] rfl) (hK.sub [] rfl) (hD.sub [1] (by decide) rfl) (va_recv (ci := 1) (q0 := 1) hK hP rfl rfl)) rfl rfl hl.1 rfl (lv_room (Nat.le_of_ble_eq_true rfl)) dL_law_1789 ⟨Nat.le_of_ble_eq_true rfl, Nat.le_of_ble_eq_true rfl⟩) hS (fun q _ h => hF q h) hF (fun r_1 u t H1 locs1 ht hvm hw hB hz1 hk1 hS => ?_)
  refine W.widen (k := 398) (n := 653827) (Nat.le_of_ble_eq_true rfl) (Nat.le_of_ble_eq_true rfl) ?_
  subst hw
  obtain ⟨fs_3, hf_4, hP1, hK1, hD1⟩ := hB
  rw [ht] at hP1
  have hK1 := va_K.moved hvm.symm hK1
  obtain ⟨hP, hD⟩ := va_join (wr := [(x0, .inr (0, [.ref (xq 0), .int 0, .int 108, .ref (xq 1), .int 0, .ref (xq 2), .int 0, .ref (xq 3), .ref (xq 4), .int 1, .ref (xq 5), .ref (xq 6), .ref (xq 7), .ref (xq 8), .ref (xq 9)]))]) (w1 := [(m0, .inr (1, fs_3))]) hP hD [1] [0] rfl rfl (by decide) (by decide) hk1 hF hP1 hD1
  have hP : va_P D pv_cl [(x0, .inr (0, [.ref (xq 0), .int 0, .int 108, .ref (xq 1), .int 0, .ref (xq 2), .int 0, .ref (xq 3), .ref (xq 4), .int 1, .ref (xq 5), .ref (xq 6), .ref (xq 7), .ref (xq 8), .ref (xq 9)])), (m0, .inr (1, fs_3))] _ := hP
  have hD : va_D A [(x0, .inr (0, [.ref (xq 0), .int 0, .int 108, .ref (xq 1), .int 0, .ref (xq 2), .int 0, .ref (xq 3), .ref (xq 4), .int 1, .ref (xq 5), .ref (xq 6), .ref (xq 7), .ref (xq 8), .ref (xq 9)])), (m0, .inr (1, fs_3))] := hD
  refine lv_istore (lv' := [(7, .int r_1), (6, .int 1), (0, .ref b), (1, .ref x0), (2, .ref m0), (3, .ref o0), (4, .ref d0), (5, .int 0)]) hx hb dL_law_1792 hl (by decide) rfl (fun ls hl => ?_)
  refine lv_aload_n hx hb dL_law_1794 rfl (lv_at hl 4 rfl) ?_
  have hF := pv_new hA hS.1
  refine va_calli (va_runV (As := []) (rest := []) ⟨hx, hb, hml, hown, hts⟩ (c_X13_thrown l hfl D _ m0 fs_3 1 hf_4) (cwV 0 hts (pv_gV w9_102 w9_103 w9_104 w1_10 w9_105) rfl rfl rfl (by decide +kernel) ⟨Nat.le_of_ble_eq_true rfl, Nat.le_of_ble_eq_true rfl⟩) (pv_pV hE hS hF (hP.sub [1] rfl) (hK.sub [] rfl) (hD.sub [1] (by decide) rfl) (va_recv (ci := 1) (q0 := 1) hK hP rfl rfl)) rfl rfl hl.1 rfl (lv_room (Nat.le_of_ble_eq_true rfl)) dL_law_1795 ⟨Nat.le_of_ble_eq_true rfl, Nat.le_of_ble_eq_true rfl⟩) hS (fun q _ h => hF q h) hF (fun r_4 u t H1 locs1 ht hvm hw hB hz1 hk1 hS => ?_)
  refine W.widen (k := 398) (n := 653827) (Nat.le_of_ble_eq_true rfl) (Nat.le_of_ble_eq_true rfl) ?_
  have hP := pv_keep hP rfl hk1
  subst hw
  refine lv_iload hx hb dL_law_1798 (lv_at hl 1 rfl) ?_
  refine lv_icmp_eq (tgt := 1805) hx hb dL_law_1800 (by decide) (fun _ => ?_) (fun c_6 => absurd (by decide) c_6)
  refine lv_iload hx hb dL_law_1805 (lv_at hl 1 rfl) ?_
  refine lv_if_ne (tgt := 1822) hx hb dL_law_1807 (by decide) (fun _ => ?_) (fun c_7 => absurd c_7 (by decide))
  refine lv_goto (tgt := 3721) hx hb dL_law_1822 (by decide) ?_
  refine lv_iinc (v := 7) (lv' := [(5, .int 7), (7, .int r_1), (6, .int 1), (0, .ref b), (1, .ref x0), (2, .ref m0), (3, .ref o0), (4, .ref d0)]) hx hb dL_law_3721 hl (k := 7) rfl (by decide) (by decide) rfl (fun ls hl => ?_)
  refine pv_pc 3724 rfl ?_
  refine lv_goto (tgt := 28) hx hb dL_law_3724 (by decide) ?_
  refine lv_iload hx hb dL_law_28 (lv_at hl 0 rfl) ?_
  refine lv_aload_n hx hb dL_law_30 rfl (lv_at hl 3 rfl) ?_
  refine va_slen hx hb hX hbl hbA hS dL_law_31 ?_
  refine pv_setI 7 rfl ?_
  refine lv_bipush (v := 7) hx hb dL_law_32 (by decide) ?_
  refine lv_isub hx hb dL_law_34 ?_
  refine pv_setI 0 (by decide) ?_
  refine lv_icmp_gt (tgt := 3727) hx hb dL_law_35 (by decide) (fun _ => ?_) (fun c_8 => absurd (by decide) c_8)
  refine lv_iconst (v := 1) hx hb dL_law_3727 (by decide) ?_
  refine va_forget (fun q hq => hAf _ (hS.2.2 q hq)) ?_
  refine W.widen (k := 600006) (n := 7302064) (Nat.le_of_ble_eq_true rfl) (Nat.le_of_ble_eq_true rfl) ?_
  exact lw_ret (d0 := s.drawn) (Drawn.sameBut.refl s.drawn lw_cs) hx hb hr hlocks dL_law_3728

theorem dL_law_1825 : decode cL_law 1825 = .ok (.aload_n 1, 1) := by decide +kernel
theorem dL_law_1826 : decode cL_law 1826 = .ok (.aload_n 0, 1) := by decide +kernel
theorem dL_law_1827 : decode cL_law 1827 = .ok (.iload 5, 2) := by decide +kernel
theorem dL_law_1829 : decode cL_law 1829 = .ok (.iconst 1, 1) := by decide +kernel
theorem dL_law_1830 : decode cL_law 1830 = .ok (.iadd, 1) := by decide +kernel
theorem dL_law_1831 : decode cL_law 1831 = .ok (.iaload, 1) := by decide +kernel
theorem dL_law_1832 : decode cL_law 1832 = .ok (.aload_n 3, 1) := by decide +kernel
theorem dL_law_1833 : decode cL_law 1833 = .ok (.invokestatic 276, 3) := by decide +kernel
theorem w7_7 : (Jvm.Cond.methodLink "PolyforgeLaw" (276 : Nat) ({ cls := "PolyforgeLaw", name := "factors", desc := "(LPolyforge;I[J)I" } : Jvm.MethodName)) ∈ lw_tbl := pv_t7 (pv_mg 7 rfl)
theorem w7_9 : (Jvm.Cond.codeWith ({ cls := "PolyforgeLaw", name := "factors", desc := "(LPolyforge;I[J)I" } : Jvm.MethodName) method_26_code (4 : Nat) (Option.some Jvm.ClassFile.FieldType.int) [((0 : Nat), (9 : Nat), (12 : Nat), (23 : Nat)), ((0 : Nat), (9 : Nat), (15 : Nat), (25 : Nat))]) ∈ lw_tbl := pv_t7 (pv_mg 9 rfl)
theorem w7_8 : (Jvm.Cond.static ({ cls := "PolyforgeLaw", name := "factors", desc := "(LPolyforge;I[J)I" } : Jvm.MethodName)) ∈ lw_tbl := pv_t7 (pv_mg 8 rfl)
theorem dL_law_1836 : decode cL_law 1836 = .ok (.istore 6, 2) := by decide +kernel
theorem dL_law_1838 : decode cL_law 1838 = .ok (.aload_n 2, 1) := by decide +kernel
theorem dL_law_1839 : decode cL_law 1839 = .ok (.aload_n 0, 1) := by decide +kernel
theorem dL_law_1840 : decode cL_law 1840 = .ok (.iload 5, 2) := by decide +kernel
theorem dL_law_1842 : decode cL_law 1842 = .ok (.iconst 1, 1) := by decide +kernel
theorem dL_law_1843 : decode cL_law 1843 = .ok (.iadd, 1) := by decide +kernel
theorem dL_law_1844 : decode cL_law 1844 = .ok (.iaload, 1) := by decide +kernel
theorem dL_law_1845 : decode cL_law 1845 = .ok (.invokevirtual 278, 3) := by decide +kernel
theorem w10_123 : (Jvm.Cond.methodLink "PolyforgeLaw" (278 : Nat) ({ cls := "PolyforgeModel", name := "factors", desc := "(I)I" } : Jvm.MethodName)) ∈ lw_tbl := pv_t10 (pv_mg 123 rfl)
theorem dL_law_1848 : decode cL_law 1848 = .ok (.istore 7, 2) := by decide +kernel
theorem dL_law_1850 : decode cL_law 1850 = .ok (.aload_n 2, 1) := by decide +kernel
theorem dL_law_1851 : decode cL_law 1851 = .ok (.invokevirtual 199, 3) := by decide +kernel
theorem dL_law_1854 : decode cL_law 1854 = .ok (.iload 6, 2) := by decide +kernel
theorem dL_law_1856 : decode cL_law 1856 = .ok (.if_icmp .eq 5, 3) := by decide +kernel
theorem dL_law_1861 : decode cL_law 1861 = .ok (.iload 6, 2) := by decide +kernel
theorem dL_law_1863 : decode cL_law 1863 = .ok (.ifCond .ne 15, 3) := by decide +kernel
theorem dL_law_1878 : decode cL_law 1878 = .ok (.goto 1843, 3) := by decide +kernel
set_option maxHeartbeats 4000000 in
set_option maxRecDepth 100000 in
/-- the law, call 24: factors -/
theorem law_case_24 {p : Program} {e : Env} {s : State} {m : MethodId} {below : List Frame} {meth : Method} {c : Code} (l : Launch) (hfl : l.stackTraces = false) {b : Nat} {xs : Nat → Int32} (C0 : lw_At p s m meth c b 7 xs) {D : va_G} {A : Nat → Prop} (hA : ∀ q : Nat, s.heap.size ≤ q → A q) (hAf : ∀ q : Nat, A q → s.heap.size ≤ q) (hbA : ¬ A b) (hE : pv_E A s s.heap) {x0 m0 o0 d0 : Nat} {xq xw mq : Nat → Nat} {xJ xP xO xC xI mI mI2 mI3 mT mC oL : ClassId} {xsg xsf msg msf : Nat → Int32} (hxsg : ∀ j, j < 3 → xsg j = 63) (hmsg : ∀ j, j < 3 → msg j = 63) {H : Heap} {locs : List Loc} (hK : va_K D pv_cl [(xJ, .long), (xP, .object "Polyforge$Polynomial"), (xO, .object "Polyforge$Ideal"), (xC, .char), (xI, .int), (mI, .int), (mT, .object "PolyforgeModel$Terms"), (mI2, .int), (mC, .char), (mI3, .int), (oL, .long)] s) (hP : va_P D pv_cl [(x0, .inr (0, [.ref (xq 0), .int 0, .int 108, .ref (xq 1), .int 0, .ref (xq 2), .int 0, .ref (xq 3), .ref (xq 4), .int 1, .ref (xq 5), .ref (xq 6), .ref (xq 7), .ref (xq 8), .ref (xq 9)])), ((xq 6), .inr (2, [.ref (xw 0), .ref (xw 1), .ref (xw 2), .ref (xw 3), .int 0, .int 0])), ((xw 2), .inl (xJ, 64, .inr (.inl (fun _ => 0)))), ((xq 0), .inl (xP, 60, .inr (.inr (.inr (.inr (fun _ => none)))))), ((xq 1), .inl (xO, 5, .inr (.inr (.inr (.inr (fun _ => none)))))), ((xq 3), .inl (xC, 3, .inl xsg)), ((xq 4), .inl (xI, 3, .inl xsf)), (m0, .inr (1, pv_m 0 mq)), ((mq 0), .inl (mI, 60, .inl (fun _ => 0))), ((mq 1), .inl (mT, 60, .inr (.inr (.inr (.inr (fun _ => none)))))), ((mq 2), .inl (mI2, 5, .inl (fun _ => 0))), ((mq 9), .inl (mC, 3, .inl msg)), ((mq 10), .inl (mI3, 3, .inl msf)), (o0, .inl (oL, 1, .inr (.inl (fun _ => 0))))] H) (hD : va_D A [(x0, .inr (0, [.ref (xq 0), .int 0, .int 108, .ref (xq 1), .int 0, .ref (xq 2), .int 0, .ref (xq 3), .ref (xq 4), .int 1, .ref (xq 5), .ref (xq 6), .ref (xq 7), .ref (xq 8), .ref (xq 9)])), ((xq 6), .inr (2, [.ref (xw 0), .ref (xw 1), .ref (xw 2), .ref (xw 3), .int 0, .int 0])), ((xw 2), .inl (xJ, 64, .inr (.inl (fun _ => 0)))), ((xq 0), .inl (xP, 60, .inr (.inr (.inr (.inr (fun _ => none)))))), ((xq 1), .inl (xO, 5, .inr (.inr (.inr (.inr (fun _ => none)))))), ((xq 3), .inl (xC, 3, .inl xsg)), ((xq 4), .inl (xI, 3, .inl xsf)), (m0, .inr (1, pv_m 0 mq)), ((mq 0), .inl (mI, 60, .inl (fun _ => 0))), ((mq 1), .inl (mT, 60, .inr (.inr (.inr (.inr (fun _ => none)))))), ((mq 2), .inl (mI2, 5, .inl (fun _ => 0))), ((mq 9), .inl (mC, 3, .inl msg)), ((mq 10), .inl (mI3, 3, .inl msf)), (o0, .inl (oL, 1, .inr (.inl (fun _ => 0))))]) (hS : va_S A s.heap H locs) {ls : Array Slot} (hl : lv_has ls 9 [(0, .ref b), (1, .ref x0), (2, .ref m0), (3, .ref o0), (4, .ref d0), (5, .int 0)]) : W p l e room_1 s m #[Value.ref b] below meth c H locs 397 653821 (lw_Z below #[Value.ref b] s) (F0 m 1825 ls []) := by
  obtain ⟨hx, hb, hr, hml, hown, hts0, hX, hbl, hlocks, hgv⟩ := C0
  have hts : ∀ w ∈ pv_W, w.before #[Value.ref b] s = true := fun w h => hts0 w (List.mem_filter.mp h).1
  have hg := fun {w : Cond} (h : w ∈ lw_tbl) (g : goodWord w = true) => hts w (pv_in h g)
  have hP : va_P D pv_cl [(x0, .inr (0, [.ref (xq 0), .int 0, .int 108, .ref (xq 1), .int 0, .ref (xq 2), .int 0, .ref (xq 3), .ref (xq 4), .int 1, .ref (xq 5), .ref (xq 6), .ref (xq 7), .ref (xq 8), .ref (xq 9)])), (m0, .inr (1, pv_m 0 mq))] _ := hP.sub [0, 7] rfl
  have hD : va_D A [(x0, .inr (0, [.ref (xq 0), .int 0, .int 108, .ref (xq 1), .int 0, .ref (xq 2), .int 0, .ref (xq 3), .ref (xq 4), .int 1, .ref (xq 5), .ref (xq 6), .ref (xq 7), .ref (xq 8), .ref (xq 9)])), (m0, .inr (1, pv_m 0 mq))] := hD.sub [0, 7] (by decide) rfl
  have hK : va_K D pv_cl [] s := hK.sub [] rfl
  refine lv_aload_n hx hb dL_law_1825 rfl (lv_at hl 1 rfl) ?_
  refine lv_aload_n hx hb dL_law_1826 rfl (lv_at hl 0 rfl) ?_
  refine lv_iload hx hb dL_law_1827 (lv_at hl 5 rfl) ?_
  refine lv_iconst (v := 1) hx hb dL_law_1829 (by decide) ?_
  refine lv_iadd hx hb dL_law_1830 ?_
  refine pv_setI 1 (by decide) ?_
  refine va_sld hx hb hX hbl hbA hS (by unfold vp_in; decide) dL_law_1831 ?_
  refine pv_setI (xs 1) rfl ?_
  refine lv_aload_n hx hb dL_law_1832 rfl (lv_at hl 3 rfl) ?_
  have hF := pv_new hA hS.1
  refine va_calli (vx_runSW (As := [.ref x0, .int (xs 1), .ref o0]) (rest := []) ⟨hx, hb, hml, hown, hts⟩ (c_L_factors l hfl D _ x0 xq (xs 1) o0) (vx_cwSW 3 hts (pv_gSW w7_7 w7_8 w1_0 w7_9) rfl rfl rfl (by decide +kernel) ⟨Nat.le_of_ble_eq_true rfl, Nat.le_of_ble_eq_true rfl⟩) (pv_ps hE hS hF (hP.sub [0] rfl) (hK.sub [] rfl) (hD.sub [0] (by decide) rfl)) rfl rfl hl.1 rfl (lv_room (Nat.le_of_ble_eq_true rfl)) dL_law_1833 ⟨Nat.le_of_ble_eq_true rfl, Nat.le_of_ble_eq_true rfl⟩) hS (fun q _ h => hF q h) hF (fun r_0 u t H1 locs1 ht hvm hw hB hz1 hk1 hS => ?_)
  refine W.widen (k := 398) (n := 653827) (Nat.le_of_ble_eq_true rfl) (Nat.le_of_ble_eq_true rfl) ?_
  have hP := pv_keep hP rfl hk1
  subst hw
  refine lv_istore (lv' := [(6, .int 1), (0, .ref b), (1, .ref x0), (2, .ref m0), (3, .ref o0), (4, .ref d0), (5, .int 0)]) hx hb dL_law_1836 hl (by decide) rfl (fun ls hl => ?_)
  refine lv_aload_n hx hb dL_law_1838 rfl (lv_at hl 3 rfl) ?_
  refine lv_aload_n hx hb dL_law_1839 rfl (lv_at hl 1 rfl) ?_
  refine pv_pc 1840 rfl ?_
  refine lv_iload hx hb dL_law_1840 (lv_at hl 6 rfl) ?_
  refine lv_iconst (v := 1) hx hb dL_law_1842 (by decide) ?_
  refine lv_iadd hx hb dL_law_1843 ?_
  refine pv_setI 1 (by decide) ?_
  refine va_sld hx hb hX hbl hbA hS (by unfold vp_in; decide) dL_law_1844 ?_
  refine pv_setI (xs 1) rfl ?_
  have hF := va_free (wc := [(m0, .inr (1, pv_m 0 mq))]) hD hS hA [1] rfl
  refine va_calli (va_runV (As := [.int (xs 1)]) (rest := []) ⟨hx, hb, hml, hown, hts⟩ (c_X13_factors l hfl D _ m0 mq (xs 1)) (cwV 1 hts (pv_gV w10_123 w10_124 w10_125 w1_10 w10_126) rfl rfl rfl (by decide +kernel) ⟨Nat.le_of_ble_eq_true rfl, Nat.le_of_ble_eq_true rfl⟩) (pv_pV hE hS hF (hP.sub [1] rfl) (hK.sub [] rfl) (hD.sub [1] (by decide) rfl) (va_recv (ci := 1) (q0 := 1) hK hP rfl rfl)) rfl rfl hl.1 rfl (lv_room (Nat.le_of_ble_eq_true rfl)) dL_law_1845 ⟨Nat.le_of_ble_eq_true rfl, Nat.le_of_ble_eq_true rfl⟩) hS (fun q _ h => hF q h) hF (fun r_1 u t H1 locs1 ht hvm hw hB hz1 hk1 hS => ?_)
  refine W.widen (k := 398) (n := 653827) (Nat.le_of_ble_eq_true rfl) (Nat.le_of_ble_eq_true rfl) ?_
  subst hw
  obtain ⟨fs_3, hf_4, hP1, hK1, hD1⟩ := hB
  rw [ht] at hP1
  have hK1 := va_K.moved hvm.symm hK1
  obtain ⟨hP, hD⟩ := va_join (wr := [(x0, .inr (0, [.ref (xq 0), .int 0, .int 108, .ref (xq 1), .int 0, .ref (xq 2), .int 0, .ref (xq 3), .ref (xq 4), .int 1, .ref (xq 5), .ref (xq 6), .ref (xq 7), .ref (xq 8), .ref (xq 9)]))]) (w1 := [(m0, .inr (1, fs_3))]) hP hD [1] [0] rfl rfl (by decide) (by decide) hk1 hF hP1 hD1
  have hP : va_P D pv_cl [(x0, .inr (0, [.ref (xq 0), .int 0, .int 108, .ref (xq 1), .int 0, .ref (xq 2), .int 0, .ref (xq 3), .ref (xq 4), .int 1, .ref (xq 5), .ref (xq 6), .ref (xq 7), .ref (xq 8), .ref (xq 9)])), (m0, .inr (1, fs_3))] _ := hP
  have hD : va_D A [(x0, .inr (0, [.ref (xq 0), .int 0, .int 108, .ref (xq 1), .int 0, .ref (xq 2), .int 0, .ref (xq 3), .ref (xq 4), .int 1, .ref (xq 5), .ref (xq 6), .ref (xq 7), .ref (xq 8), .ref (xq 9)])), (m0, .inr (1, fs_3))] := hD
  refine lv_istore (lv' := [(7, .int r_1), (6, .int 1), (0, .ref b), (1, .ref x0), (2, .ref m0), (3, .ref o0), (4, .ref d0), (5, .int 0)]) hx hb dL_law_1848 hl (by decide) rfl (fun ls hl => ?_)
  refine lv_aload_n hx hb dL_law_1850 rfl (lv_at hl 4 rfl) ?_
  have hF := pv_new hA hS.1
  refine va_calli (va_runV (As := []) (rest := []) ⟨hx, hb, hml, hown, hts⟩ (c_X13_thrown l hfl D _ m0 fs_3 1 hf_4) (cwV 0 hts (pv_gV w9_102 w9_103 w9_104 w1_10 w9_105) rfl rfl rfl (by decide +kernel) ⟨Nat.le_of_ble_eq_true rfl, Nat.le_of_ble_eq_true rfl⟩) (pv_pV hE hS hF (hP.sub [1] rfl) (hK.sub [] rfl) (hD.sub [1] (by decide) rfl) (va_recv (ci := 1) (q0 := 1) hK hP rfl rfl)) rfl rfl hl.1 rfl (lv_room (Nat.le_of_ble_eq_true rfl)) dL_law_1851 ⟨Nat.le_of_ble_eq_true rfl, Nat.le_of_ble_eq_true rfl⟩) hS (fun q _ h => hF q h) hF (fun r_4 u t H1 locs1 ht hvm hw hB hz1 hk1 hS => ?_)
  refine W.widen (k := 398) (n := 653827) (Nat.le_of_ble_eq_true rfl) (Nat.le_of_ble_eq_true rfl) ?_
  have hP := pv_keep hP rfl hk1
  subst hw
  refine lv_iload hx hb dL_law_1854 (lv_at hl 1 rfl) ?_
  refine lv_icmp_eq (tgt := 1861) hx hb dL_law_1856 (by decide) (fun _ => ?_) (fun c_6 => absurd (by decide) c_6)
  refine lv_iload hx hb dL_law_1861 (lv_at hl 1 rfl) ?_
  refine lv_if_ne (tgt := 1878) hx hb dL_law_1863 (by decide) (fun _ => ?_) (fun c_7 => absurd c_7 (by decide))
  refine pv_pc 1878 rfl ?_
  refine lv_goto (tgt := 3721) hx hb dL_law_1878 (by decide) ?_
  refine lv_iinc (v := 7) (lv' := [(5, .int 7), (7, .int r_1), (6, .int 1), (0, .ref b), (1, .ref x0), (2, .ref m0), (3, .ref o0), (4, .ref d0)]) hx hb dL_law_3721 hl (k := 7) rfl (by decide) (by decide) rfl (fun ls hl => ?_)
  refine lv_goto (tgt := 28) hx hb dL_law_3724 (by decide) ?_
  refine lv_iload hx hb dL_law_28 (lv_at hl 0 rfl) ?_
  refine lv_aload_n hx hb dL_law_30 rfl (lv_at hl 3 rfl) ?_
  refine va_slen hx hb hX hbl hbA hS dL_law_31 ?_
  refine pv_setI 7 rfl ?_
  refine lv_bipush (v := 7) hx hb dL_law_32 (by decide) ?_
  refine lv_isub hx hb dL_law_34 ?_
  refine pv_setI 0 (by decide) ?_
  refine lv_icmp_gt (tgt := 3727) hx hb dL_law_35 (by decide) (fun _ => ?_) (fun c_8 => absurd (by decide) c_8)
  refine lv_iconst (v := 1) hx hb dL_law_3727 (by decide) ?_
  refine va_forget (fun q hq => hAf _ (hS.2.2 q hq)) ?_
  refine W.widen (k := 600006) (n := 7302064) (Nat.le_of_ble_eq_true rfl) (Nat.le_of_ble_eq_true rfl) ?_
  exact lw_ret (d0 := s.drawn) (Drawn.sameBut.refl s.drawn lw_cs) hx hb hr hlocks dL_law_3728

theorem dL_law_1881 : decode cL_law 1881 = .ok (.aload_n 1, 1) := by decide +kernel
theorem dL_law_1882 : decode cL_law 1882 = .ok (.aload_n 0, 1) := by decide +kernel
theorem dL_law_1883 : decode cL_law 1883 = .ok (.iload 5, 2) := by decide +kernel
theorem dL_law_1885 : decode cL_law 1885 = .ok (.iconst 1, 1) := by decide +kernel
theorem dL_law_1886 : decode cL_law 1886 = .ok (.iadd, 1) := by decide +kernel
theorem dL_law_1887 : decode cL_law 1887 = .ok (.iaload, 1) := by decide +kernel
theorem dL_law_1888 : decode cL_law 1888 = .ok (.aload_n 0, 1) := by decide +kernel
theorem dL_law_1889 : decode cL_law 1889 = .ok (.iload 5, 2) := by decide +kernel
theorem dL_law_1891 : decode cL_law 1891 = .ok (.iconst 2, 1) := by decide +kernel
theorem dL_law_1892 : decode cL_law 1892 = .ok (.iadd, 1) := by decide +kernel
theorem dL_law_1893 : decode cL_law 1893 = .ok (.iaload, 1) := by decide +kernel
theorem dL_law_1894 : decode cL_law 1894 = .ok (.aload_n 3, 1) := by decide +kernel
theorem dL_law_1895 : decode cL_law 1895 = .ok (.invokestatic 279, 3) := by decide +kernel
theorem w7_18 : (Jvm.Cond.methodLink "PolyforgeLaw" (279 : Nat) ({ cls := "PolyforgeLaw", name := "factorAt", desc := "(LPolyforge;II[J)I" } : Jvm.MethodName)) ∈ lw_tbl := pv_t7 (pv_mg 18 rfl)
theorem w7_20 : (Jvm.Cond.codeWith ({ cls := "PolyforgeLaw", name := "factorAt", desc := "(LPolyforge;II[J)I" } : Jvm.MethodName) method_27_code (5 : Nat) (Option.some Jvm.ClassFile.FieldType.int) [((0 : Nat), (10 : Nat), (13 : Nat), (23 : Nat)), ((0 : Nat), (10 : Nat), (17 : Nat), (25 : Nat)), ((0 : Nat), (10 : Nat), (21 : Nat), (55 : Nat)), ((0 : Nat), (10 : Nat), (25 : Nat), (15 : Nat))]) ∈ lw_tbl := pv_t7 (pv_mg 20 rfl)
theorem w7_19 : (Jvm.Cond.static ({ cls := "PolyforgeLaw", name := "factorAt", desc := "(LPolyforge;II[J)I" } : Jvm.MethodName)) ∈ lw_tbl := pv_t7 (pv_mg 19 rfl)
theorem dL_law_1898 : decode cL_law 1898 = .ok (.istore 6, 2) := by decide +kernel
theorem dL_law_1900 : decode cL_law 1900 = .ok (.aload_n 2, 1) := by decide +kernel
theorem dL_law_1901 : decode cL_law 1901 = .ok (.aload_n 0, 1) := by decide +kernel
theorem dL_law_1902 : decode cL_law 1902 = .ok (.iload 5, 2) := by decide +kernel
theorem dL_law_1904 : decode cL_law 1904 = .ok (.iconst 1, 1) := by decide +kernel
theorem dL_law_1905 : decode cL_law 1905 = .ok (.iadd, 1) := by decide +kernel
theorem dL_law_1906 : decode cL_law 1906 = .ok (.iaload, 1) := by decide +kernel
theorem dL_law_1907 : decode cL_law 1907 = .ok (.aload_n 0, 1) := by decide +kernel
theorem dL_law_1908 : decode cL_law 1908 = .ok (.iload 5, 2) := by decide +kernel
theorem dL_law_1910 : decode cL_law 1910 = .ok (.iconst 2, 1) := by decide +kernel
theorem dL_law_1911 : decode cL_law 1911 = .ok (.iadd, 1) := by decide +kernel
theorem dL_law_1912 : decode cL_law 1912 = .ok (.iaload, 1) := by decide +kernel
theorem dL_law_1913 : decode cL_law 1913 = .ok (.invokevirtual 281, 3) := by decide +kernel
theorem w10_145 : (Jvm.Cond.methodLink "PolyforgeLaw" (281 : Nat) ({ cls := "PolyforgeModel", name := "factorAt", desc := "(II)I" } : Jvm.MethodName)) ∈ lw_tbl := pv_t10 (pv_mg 145 rfl)
theorem w10_148 : (Jvm.Cond.code ({ cls := "PolyforgeModel", name := "factorAt", desc := "(II)I" } : Jvm.MethodName) prog_14_method_76_code (4 : Nat) (Option.some Jvm.ClassFile.FieldType.int)) ∈ lw_tbl := pv_t10 (pv_mg 148 rfl)
theorem w10_147 : (Jvm.Cond.selects "PolyforgeModel" ({ cls := "PolyforgeModel", name := "factorAt", desc := "(II)I" } : Jvm.MethodName) ({ cls := "PolyforgeModel", name := "factorAt", desc := "(II)I" } : Jvm.MethodName)) ∈ lw_tbl := pv_t10 (pv_mg 147 rfl)
theorem w10_146 : (Jvm.Cond.instanceMethod ({ cls := "PolyforgeModel", name := "factorAt", desc := "(II)I" } : Jvm.MethodName)) ∈ lw_tbl := pv_t10 (pv_mg 146 rfl)
theorem dL_law_1916 : decode cL_law 1916 = .ok (.istore 7, 2) := by decide +kernel
theorem dL_law_1918 : decode cL_law 1918 = .ok (.aload_n 2, 1) := by decide +kernel
theorem dL_law_1919 : decode cL_law 1919 = .ok (.invokevirtual 199, 3) := by decide +kernel
theorem dL_law_1922 : decode cL_law 1922 = .ok (.iload 6, 2) := by decide +kernel
theorem dL_law_1924 : decode cL_law 1924 = .ok (.if_icmp .eq 5, 3) := by decide +kernel
theorem dL_law_1929 : decode cL_law 1929 = .ok (.iload 6, 2) := by decide +kernel
theorem dL_law_1931 : decode cL_law 1931 = .ok (.ifCond .ne 15, 3) := by decide +kernel
theorem dL_law_1946 : decode cL_law 1946 = .ok (.goto 1775, 3) := by decide +kernel
set_option maxHeartbeats 4000000 in
set_option maxRecDepth 100000 in
/-- the law, call 25: factorAt -/
theorem law_case_25 {p : Program} {e : Env} {s : State} {m : MethodId} {below : List Frame} {meth : Method} {c : Code} (l : Launch) (hfl : l.stackTraces = false) {b : Nat} {xs : Nat → Int32} (C0 : lw_At p s m meth c b 7 xs) {D : va_G} {A : Nat → Prop} (hA : ∀ q : Nat, s.heap.size ≤ q → A q) (hAf : ∀ q : Nat, A q → s.heap.size ≤ q) (hbA : ¬ A b) (hE : pv_E A s s.heap) {x0 m0 o0 d0 : Nat} {xq xw mq : Nat → Nat} {xJ xP xO xC xI mI mI2 mI3 mT mC oL : ClassId} {xsg xsf msg msf : Nat → Int32} (hxsg : ∀ j, j < 3 → xsg j = 63) (hmsg : ∀ j, j < 3 → msg j = 63) {H : Heap} {locs : List Loc} (hK : va_K D pv_cl [(xJ, .long), (xP, .object "Polyforge$Polynomial"), (xO, .object "Polyforge$Ideal"), (xC, .char), (xI, .int), (mI, .int), (mT, .object "PolyforgeModel$Terms"), (mI2, .int), (mC, .char), (mI3, .int), (oL, .long)] s) (hP : va_P D pv_cl [(x0, .inr (0, [.ref (xq 0), .int 0, .int 108, .ref (xq 1), .int 0, .ref (xq 2), .int 0, .ref (xq 3), .ref (xq 4), .int 1, .ref (xq 5), .ref (xq 6), .ref (xq 7), .ref (xq 8), .ref (xq 9)])), ((xq 6), .inr (2, [.ref (xw 0), .ref (xw 1), .ref (xw 2), .ref (xw 3), .int 0, .int 0])), ((xw 2), .inl (xJ, 64, .inr (.inl (fun _ => 0)))), ((xq 0), .inl (xP, 60, .inr (.inr (.inr (.inr (fun _ => none)))))), ((xq 1), .inl (xO, 5, .inr (.inr (.inr (.inr (fun _ => none)))))), ((xq 3), .inl (xC, 3, .inl xsg)), ((xq 4), .inl (xI, 3, .inl xsf)), (m0, .inr (1, pv_m 0 mq)), ((mq 0), .inl (mI, 60, .inl (fun _ => 0))), ((mq 1), .inl (mT, 60, .inr (.inr (.inr (.inr (fun _ => none)))))), ((mq 2), .inl (mI2, 5, .inl (fun _ => 0))), ((mq 9), .inl (mC, 3, .inl msg)), ((mq 10), .inl (mI3, 3, .inl msf)), (o0, .inl (oL, 1, .inr (.inl (fun _ => 0))))] H) (hD : va_D A [(x0, .inr (0, [.ref (xq 0), .int 0, .int 108, .ref (xq 1), .int 0, .ref (xq 2), .int 0, .ref (xq 3), .ref (xq 4), .int 1, .ref (xq 5), .ref (xq 6), .ref (xq 7), .ref (xq 8), .ref (xq 9)])), ((xq 6), .inr (2, [.ref (xw 0), .ref (xw 1), .ref (xw 2), .ref (xw 3), .int 0, .int 0])), ((xw 2), .inl (xJ, 64, .inr (.inl (fun _ => 0)))), ((xq 0), .inl (xP, 60, .inr (.inr (.inr (.inr (fun _ => none)))))), ((xq 1), .inl (xO, 5, .inr (.inr (.inr (.inr (fun _ => none)))))), ((xq 3), .inl (xC, 3, .inl xsg)), ((xq 4), .inl (xI, 3, .inl xsf)), (m0, .inr (1, pv_m 0 mq)), ((mq 0), .inl (mI, 60, .inl (fun _ => 0))), ((mq 1), .inl (mT, 60, .inr (.inr (.inr (.inr (fun _ => none)))))), ((mq 2), .inl (mI2, 5, .inl (fun _ => 0))), ((mq 9), .inl (mC, 3, .inl msg)), ((mq 10), .inl (mI3, 3, .inl msf)), (o0, .inl (oL, 1, .inr (.inl (fun _ => 0))))]) (hS : va_S A s.heap H locs) {ls : Array Slot} (hl : lv_has ls 9 [(0, .ref b), (1, .ref x0), (2, .ref m0), (3, .ref o0), (4, .ref d0), (5, .int 0)]) : W p l e room_1 s m #[Value.ref b] below meth c H locs 397 653821 (lw_Z below #[Value.ref b] s) (F0 m 1881 ls []) := by
  obtain ⟨hx, hb, hr, hml, hown, hts0, hX, hbl, hlocks, hgv⟩ := C0
  have hts : ∀ w ∈ pv_W, w.before #[Value.ref b] s = true := fun w h => hts0 w (List.mem_filter.mp h).1
  have hg := fun {w : Cond} (h : w ∈ lw_tbl) (g : goodWord w = true) => hts w (pv_in h g)
  have hP : va_P D pv_cl [(x0, .inr (0, [.ref (xq 0), .int 0, .int 108, .ref (xq 1), .int 0, .ref (xq 2), .int 0, .ref (xq 3), .ref (xq 4), .int 1, .ref (xq 5), .ref (xq 6), .ref (xq 7), .ref (xq 8), .ref (xq 9)])), (m0, .inr (1, pv_m 0 mq))] _ := hP.sub [0, 7] rfl
  have hD : va_D A [(x0, .inr (0, [.ref (xq 0), .int 0, .int 108, .ref (xq 1), .int 0, .ref (xq 2), .int 0, .ref (xq 3), .ref (xq 4), .int 1, .ref (xq 5), .ref (xq 6), .ref (xq 7), .ref (xq 8), .ref (xq 9)])), (m0, .inr (1, pv_m 0 mq))] := hD.sub [0, 7] (by decide) rfl
  have hK : va_K D pv_cl [] s := hK.sub [] rfl
  refine lv_aload_n hx hb dL_law_1881 rfl (lv_at hl 1 rfl) ?_
  refine lv_aload_n hx hb dL_law_1882 rfl (lv_at hl 0 rfl) ?_
  refine lv_iload hx hb dL_law_1883 (lv_at hl 5 rfl) ?_
  refine lv_iconst (v := 1) hx hb dL_law_1885 (by decide) ?_
  refine lv_iadd hx hb dL_law_1886 ?_
  refine pv_setI 1 (by decide) ?_
  refine va_sld hx hb hX hbl hbA hS (by unfold vp_in; decide) dL_law_1887 ?_
  refine pv_setI (xs 1) rfl ?_
  refine lv_aload_n hx hb dL_law_1888 rfl (lv_at hl 0 rfl) ?_
  refine lv_iload hx hb dL_law_1889 (lv_at hl 5 rfl) ?_
  refine lv_iconst (v := 2) hx hb dL_law_1891 (by decide) ?_
  refine lv_iadd hx hb dL_law_1892 ?_
  refine pv_setI 2 (by decide) ?_
  refine va_sld hx hb hX hbl hbA hS (by unfold vp_in; decide) dL_law_1893 ?_
  refine pv_setI (xs 2) rfl ?_
  refine pv_pc 1894 rfl ?_
  refine lv_aload_n hx hb dL_law_1894 rfl (lv_at hl 3 rfl) ?_
  have hF := pv_new hA hS.1
  refine va_calli (vx_runSW (As := [.ref x0, .int (xs 1), .int (xs 2), .ref o0]) (rest := []) ⟨hx, hb, hml, hown, hts⟩ (c_L_factorAt l hfl D _ x0 xq (xs 1) (xs 2) o0) (vx_cwSW 4 hts (pv_gSW w7_18 w7_19 w1_0 w7_20) rfl rfl rfl (by decide +kernel) ⟨Nat.le_of_ble_eq_true rfl, Nat.le_of_ble_eq_true rfl⟩) (pv_ps hE hS hF (hP.sub [0] rfl) (hK.sub [] rfl) (hD.sub [0] (by decide) rfl)) rfl rfl hl.1 rfl (lv_room (Nat.le_of_ble_eq_true rfl)) dL_law_1895 ⟨Nat.le_of_ble_eq_true rfl, Nat.le_of_ble_eq_true rfl⟩) hS (fun q _ h => hF q h) hF (fun r_0 u t H1 locs1 ht hvm hw hB hz1 hk1 hS => ?_)
  refine W.widen (k := 398) (n := 653827) (Nat.le_of_ble_eq_true rfl) (Nat.le_of_ble_eq_true rfl) ?_
  have hP := pv_keep hP rfl hk1
  subst hw
  refine lv_istore (lv' := [(6, .int 1), (0, .ref b), (1, .ref x0), (2, .ref m0), (3, .ref o0), (4, .ref d0), (5, .int 0)]) hx hb dL_law_1898 hl (by decide) rfl (fun ls hl => ?_)
  refine lv_aload_n hx hb dL_law_1900 rfl (lv_at hl 3 rfl) ?_
  refine lv_aload_n hx hb dL_law_1901 rfl (lv_at hl 1 rfl) ?_
  refine lv_iload hx hb dL_law_1902 (lv_at hl 6 rfl) ?_
  refine lv_iconst (v := 1) hx hb dL_law_1904 (by decide) ?_
  refine lv_iadd hx hb dL_law_1905 ?_
  refine pv_setI 1 (by decide) ?_
  refine va_sld hx hb hX hbl hbA hS (by unfold vp_in; decide) dL_law_1906 ?_
  refine pv_setI (xs 1) rfl ?_
  refine lv_aload_n hx hb dL_law_1907 rfl (lv_at hl 1 rfl) ?_
  refine lv_iload hx hb dL_law_1908 (lv_at hl 6 rfl) ?_
  refine lv_iconst (v := 2) hx hb dL_law_1910 (by decide) ?_
  refine pv_pc 1911 rfl ?_
  refine lv_iadd hx hb dL_law_1911 ?_
  refine pv_setI 2 (by decide) ?_
  refine va_sld hx hb hX hbl hbA hS (by unfold vp_in; decide) dL_law_1912 ?_
  refine pv_setI (xs 2) rfl ?_
  have hF := va_free (wc := [(m0, .inr (1, pv_m 0 mq))]) hD hS hA [1] rfl
  refine va_calli (va_runV (As := [.int (xs 1), .int (xs 2)]) (rest := []) ⟨hx, hb, hml, hown, hts⟩ (c_X13_factorAt l hfl D _ m0 mq (xs 1) (xs 2)) (cwV 2 hts (pv_gV w10_145 w10_146 w10_147 w1_10 w10_148) rfl rfl rfl (by decide +kernel) ⟨Nat.le_of_ble_eq_true rfl, Nat.le_of_ble_eq_true rfl⟩) (pv_pV hE hS hF (hP.sub [1] rfl) (hK.sub [] rfl) (hD.sub [1] (by decide) rfl) (va_recv (ci := 1) (q0 := 1) hK hP rfl rfl)) rfl rfl hl.1 rfl (lv_room (Nat.le_of_ble_eq_true rfl)) dL_law_1913 ⟨Nat.le_of_ble_eq_true rfl, Nat.le_of_ble_eq_true rfl⟩) hS (fun q _ h => hF q h) hF (fun r_1 u t H1 locs1 ht hvm hw hB hz1 hk1 hS => ?_)
  refine W.widen (k := 398) (n := 653827) (Nat.le_of_ble_eq_true rfl) (Nat.le_of_ble_eq_true rfl) ?_
  subst hw
  obtain ⟨fs_3, hf_4, hP1, hK1, hD1⟩ := hB
  rw [ht] at hP1
  have hK1 := va_K.moved hvm.symm hK1
  obtain ⟨hP, hD⟩ := va_join (wr := [(x0, .inr (0, [.ref (xq 0), .int 0, .int 108, .ref (xq 1), .int 0, .ref (xq 2), .int 0, .ref (xq 3), .ref (xq 4), .int 1, .ref (xq 5), .ref (xq 6), .ref (xq 7), .ref (xq 8), .ref (xq 9)]))]) (w1 := [(m0, .inr (1, fs_3))]) hP hD [1] [0] rfl rfl (by decide) (by decide) hk1 hF hP1 hD1
  have hP : va_P D pv_cl [(x0, .inr (0, [.ref (xq 0), .int 0, .int 108, .ref (xq 1), .int 0, .ref (xq 2), .int 0, .ref (xq 3), .ref (xq 4), .int 1, .ref (xq 5), .ref (xq 6), .ref (xq 7), .ref (xq 8), .ref (xq 9)])), (m0, .inr (1, fs_3))] _ := hP
  have hD : va_D A [(x0, .inr (0, [.ref (xq 0), .int 0, .int 108, .ref (xq 1), .int 0, .ref (xq 2), .int 0, .ref (xq 3), .ref (xq 4), .int 1, .ref (xq 5), .ref (xq 6), .ref (xq 7), .ref (xq 8), .ref (xq 9)])), (m0, .inr (1, fs_3))] := hD
  refine lv_istore (lv' := [(7, .int r_1), (6, .int 1), (0, .ref b), (1, .ref x0), (2, .ref m0), (3, .ref o0), (4, .ref d0), (5, .int 0)]) hx hb dL_law_1916 hl (by decide) rfl (fun ls hl => ?_)
  refine lv_aload_n hx hb dL_law_1918 rfl (lv_at hl 4 rfl) ?_
  have hF := pv_new hA hS.1
  refine va_calli (va_runV (As := []) (rest := []) ⟨hx, hb, hml, hown, hts⟩ (c_X13_thrown l hfl D _ m0 fs_3 1 hf_4) (cwV 0 hts (pv_gV w9_102 w9_103 w9_104 w1_10 w9_105) rfl rfl rfl (by decide +kernel) ⟨Nat.le_of_ble_eq_true rfl, Nat.le_of_ble_eq_true rfl⟩) (pv_pV hE hS hF (hP.sub [1] rfl) (hK.sub [] rfl) (hD.sub [1] (by decide) rfl) (va_recv (ci := 1) (q0 := 1) hK hP rfl rfl)) rfl rfl hl.1 rfl (lv_room (Nat.le_of_ble_eq_true rfl)) dL_law_1919 ⟨Nat.le_of_ble_eq_true rfl, Nat.le_of_ble_eq_true rfl⟩) hS (fun q _ h => hF q h) hF (fun r_4 u t H1 locs1 ht hvm hw hB hz1 hk1 hS => ?_)
  refine W.widen (k := 398) (n := 653827) (Nat.le_of_ble_eq_true rfl) (Nat.le_of_ble_eq_true rfl) ?_
  have hP := pv_keep hP rfl hk1
  subst hw
  refine lv_iload hx hb dL_law_1922 (lv_at hl 1 rfl) ?_
  refine lv_icmp_eq (tgt := 1929) hx hb dL_law_1924 (by decide) (fun _ => ?_) (fun c_6 => absurd (by decide) c_6)
  refine lv_iload hx hb dL_law_1929 (lv_at hl 1 rfl) ?_
  refine lv_if_ne (tgt := 1946) hx hb dL_law_1931 (by decide) (fun _ => ?_) (fun c_7 => absurd c_7 (by decide))
  refine lv_goto (tgt := 3721) hx hb dL_law_1946 (by decide) ?_
  refine lv_iinc (v := 7) (lv' := [(5, .int 7), (7, .int r_1), (6, .int 1), (0, .ref b), (1, .ref x0), (2, .ref m0), (3, .ref o0), (4, .ref d0)]) hx hb dL_law_3721 hl (k := 7) rfl (by decide) (by decide) rfl (fun ls hl => ?_)
  refine pv_pc 3724 rfl ?_
  refine lv_goto (tgt := 28) hx hb dL_law_3724 (by decide) ?_
  refine lv_iload hx hb dL_law_28 (lv_at hl 0 rfl) ?_
  refine lv_aload_n hx hb dL_law_30 rfl (lv_at hl 3 rfl) ?_
  refine va_slen hx hb hX hbl hbA hS dL_law_31 ?_
  refine pv_setI 7 rfl ?_
  refine lv_bipush (v := 7) hx hb dL_law_32 (by decide) ?_
  refine lv_isub hx hb dL_law_34 ?_
  refine pv_setI 0 (by decide) ?_
  refine lv_icmp_gt (tgt := 3727) hx hb dL_law_35 (by decide) (fun _ => ?_) (fun c_8 => absurd (by decide) c_8)
  refine lv_iconst (v := 1) hx hb dL_law_3727 (by decide) ?_
  refine va_forget (fun q hq => hAf _ (hS.2.2 q hq)) ?_
  refine W.widen (k := 600006) (n := 7302064) (Nat.le_of_ble_eq_true rfl) (Nat.le_of_ble_eq_true rfl) ?_
  exact lw_ret (d0 := s.drawn) (Drawn.sameBut.refl s.drawn lw_cs) hx hb hr hlocks dL_law_3728

