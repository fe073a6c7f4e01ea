theorem dL_law_2760 : decode cL_law 2760 = .ok (.aload_n 1, 1) := by decide +kernel
theorem dL_law_2761 : decode cL_law 2761 = .ok (.aload_n 0, 1) := by decide +kernel
theorem dL_law_2762 : decode cL_law 2762 = .ok (.iload 5, 2) := by decide +kernel
theorem dL_law_2764 : decode cL_law 2764 = .ok (.iconst 1, 1) := by decide +kernel
theorem dL_law_2765 : decode cL_law 2765 = .ok (.iadd, 1) := by decide +kernel
theorem dL_law_2766 : decode cL_law 2766 = .ok (.iaload, 1) := by decide +kernel
theorem dL_law_2767 : decode cL_law 2767 = .ok (.aload_n 0, 1) := by decide +kernel
theorem dL_law_2768 : decode cL_law 2768 = .ok (.iload 5, 2) := by decide +kernel
theorem dL_law_2770 : decode cL_law 2770 = .ok (.iconst 2, 1) := by decide +kernel
theorem dL_law_2771 : decode cL_law 2771 = .ok (.iadd, 1) := by decide +kernel
theorem dL_law_2772 : decode cL_law 2772 = .ok (.iaload, 1) := by decide +kernel
theorem dL_law_2773 : decode cL_law 2773 = .ok (.aload_n 0, 1) := by decide +kernel
theorem dL_law_2774 : decode cL_law 2774 = .ok (.iload 5, 2) := by decide +kernel
theorem dL_law_2776 : decode cL_law 2776 = .ok (.iconst 3, 1) := by decide +kernel
theorem dL_law_2777 : decode cL_law 2777 = .ok (.iadd, 1) := by decide +kernel
theorem dL_law_2778 : decode cL_law 2778 = .ok (.iaload, 1) := by decide +kernel
theorem dL_law_2779 : decode cL_law 2779 = .ok (.aload_n 3, 1) := by decide +kernel
theorem dL_law_2780 : decode cL_law 2780 = .ok (.invokestatic 318, 3) := by decide +kernel
theorem w7_223 : (Jvm.Cond.methodLink "PolyforgeLaw" (318 : Nat) ({ cls := "PolyforgeLaw", name := "basisCoefficient", desc := "(LPolyforge;III[J)I" } : Jvm.MethodName)) ∈ lw_tbl := pv_t7 (pv_mg 223 rfl)
theorem w7_225 : (Jvm.Cond.codeWith ({ cls := "PolyforgeLaw", name := "basisCoefficient", desc := "(LPolyforge;III[J)I" } : Jvm.MethodName) method_40_code (6 : Nat) (Option.some Jvm.ClassFile.FieldType.int) [((0 : Nat), (12 : Nat), (15 : Nat), (55 : Nat)), ((0 : Nat), (12 : Nat), (19 : Nat), (23 : Nat))]) ∈ lw_tbl := pv_t7 (pv_mg 225 rfl)
theorem w7_224 : (Jvm.Cond.static ({ cls := "PolyforgeLaw", name := "basisCoefficient", desc := "(LPolyforge;III[J)I" } : Jvm.MethodName)) ∈ lw_tbl := pv_t7 (pv_mg 224 rfl)
theorem dL_law_2783 : decode cL_law 2783 = .ok (.istore 6, 2) := by decide +kernel
theorem dL_law_2785 : decode cL_law 2785 = .ok (.aload_n 2, 1) := by decide +kernel
theorem dL_law_2786 : decode cL_law 2786 = .ok (.aload_n 0, 1) := by decide +kernel
theorem dL_law_2787 : decode cL_law 2787 = .ok (.iload 5, 2) := by decide +kernel
theorem dL_law_2789 : decode cL_law 2789 = .ok (.iconst 1, 1) := by decide +kernel
theorem dL_law_2790 : decode cL_law 2790 = .ok (.iadd, 1) := by decide +kernel
theorem dL_law_2791 : decode cL_law 2791 = .ok (.iaload, 1) := by decide +kernel
theorem dL_law_2792 : decode cL_law 2792 = .ok (.aload_n 0, 1) := by decide +kernel
theorem dL_law_2793 : decode cL_law 2793 = .ok (.iload 5, 2) := by decide +kernel
theorem dL_law_2795 : decode cL_law 2795 = .ok (.iconst 2, 1) := by decide +kernel
theorem dL_law_2796 : decode cL_law 2796 = .ok (.iadd, 1) := by decide +kernel
theorem dL_law_2797 : decode cL_law 2797 = .ok (.iaload, 1) := by decide +kernel
theorem dL_law_2798 : decode cL_law 2798 = .ok (.aload_n 0, 1) := by decide +kernel
theorem dL_law_2799 : decode cL_law 2799 = .ok (.iload 5, 2) := by decide +kernel
theorem dL_law_2801 : decode cL_law 2801 = .ok (.iconst 3, 1) := by decide +kernel
theorem dL_law_2802 : decode cL_law 2802 = .ok (.iadd, 1) := by decide +kernel
theorem dL_law_2803 : decode cL_law 2803 = .ok (.iaload, 1) := by decide +kernel
theorem dL_law_2804 : decode cL_law 2804 = .ok (.invokevirtual 320, 3) := by decide +kernel
theorem w11_26 : (Jvm.Cond.methodLink "PolyforgeLaw" (320 : Nat) ({ cls := "PolyforgeModel", name := "basisCoefficient", desc := "(III)I" } : Jvm.MethodName)) ∈ lw_tbl := pv_t11 (pv_mg 26 rfl)
theorem w11_29 : (Jvm.Cond.code ({ cls := "PolyforgeModel", name := "basisCoefficient", desc := "(III)I" } : Jvm.MethodName) prog_14_method_102_code (5 : Nat) (Option.some Jvm.ClassFile.FieldType.int)) ∈ lw_tbl := pv_t11 (pv_mg 29 rfl)
theorem w11_28 : (Jvm.Cond.selects "PolyforgeModel" ({ cls := "PolyforgeModel", name := "basisCoefficient", desc := "(III)I" } : Jvm.MethodName) ({ cls := "PolyforgeModel", name := "basisCoefficient", desc := "(III)I" } : Jvm.MethodName)) ∈ lw_tbl := pv_t11 (pv_mg 28 rfl)
theorem w11_27 : (Jvm.Cond.instanceMethod ({ cls := "PolyforgeModel", name := "basisCoefficient", desc := "(III)I" } : Jvm.MethodName)) ∈ lw_tbl := pv_t11 (pv_mg 27 rfl)
theorem dL_law_2807 : decode cL_law 2807 = .ok (.istore 7, 2) := by decide +kernel
theorem dL_law_2809 : decode cL_law 2809 = .ok (.aload_n 2, 1) := by decide +kernel
theorem dL_law_2810 : decode cL_law 2810 = .ok (.invokevirtual 199, 3) := by decide +kernel
theorem dL_law_2813 : decode cL_law 2813 = .ok (.iload 6, 2) := by decide +kernel
theorem dL_law_2815 : decode cL_law 2815 = .ok (.if_icmp .eq 5, 3) := by decide +kernel
theorem dL_law_2820 : decode cL_law 2820 = .ok (.iload 6, 2) := by decide +kernel
theorem dL_law_2822 : decode cL_law 2822 = .ok (.ifCond .ne 15, 3) := by decide +kernel
theorem dL_law_2837 : decode cL_law 2837 = .ok (.goto 884, 3) := by decide +kernel
set_option maxHeartbeats 4000000 in
set_option maxRecDepth 100000 in
/-- the law, call 38: basisCoefficient -/
theorem law_case_38 {p : Program} {e : Env} {s : State} {m : MethodId} {below : List Frame} {meth : Method} {c : Code} (l : Launch) (hfl : l.stackTraces = false) {b : Nat} {xs : Nat → Int32} (C0 : lw_At p s m meth c b 7 xs) {D : va_G} {A : Nat → Prop} (hA : ∀ q : Nat, s.heap.size ≤ q → A q) (hAf : ∀ q : Nat, A q → s.heap.size ≤ q) (hbA : ¬ A b) (hE : pv_E A s s.heap) {x0 m0 o0 d0 : Nat} {xq xw mq : Nat → Nat} {xJ xP xO xC xI mI mI2 mI3 mT mC oL : ClassId} {xsg xsf msg msf : Nat → Int32} (hxsg : ∀ j, j < 3 → xsg j = 63) (hmsg : ∀ j, j < 3 → msg j = 63) {H : Heap} {locs : List Loc} (hK : va_K D pv_cl [(xJ, .long), (xP, .object "Polyforge$Polynomial"), (xO, .object "Polyforge$Ideal"), (xC, .char), (xI, .int), (mI, .int), (mT, .object "PolyforgeModel$Terms"), (mI2, .int), (mC, .char), (mI3, .int), (oL, .long)] s) (hP : va_P D pv_cl [(x0, .inr (0, [.ref (xq 0), .int 0, .int 108, .ref (xq 1), .int 0, .ref (xq 2), .int 0, .ref (xq 3), .ref (xq 4), .int 1, .ref (xq 5), .ref (xq 6), .ref (xq 7), .ref (xq 8), .ref (xq 9)])), ((xq 6), .inr (2, [.ref (xw 0), .ref (xw 1), .ref (xw 2), .ref (xw 3), .int 0, .int 0])), ((xw 2), .inl (xJ, 64, .inr (.inl (fun _ => 0)))), ((xq 0), .inl (xP, 60, .inr (.inr (.inr (.inr (fun _ => none)))))), ((xq 1), .inl (xO, 5, .inr (.inr (.inr (.inr (fun _ => none)))))), ((xq 3), .inl (xC, 3, .inl xsg)), ((xq 4), .inl (xI, 3, .inl xsf)), (m0, .inr (1, pv_m 0 mq)), ((mq 0), .inl (mI, 60, .inl (fun _ => 0))), ((mq 1), .inl (mT, 60, .inr (.inr (.inr (.inr (fun _ => none)))))), ((mq 2), .inl (mI2, 5, .inl (fun _ => 0))), ((mq 9), .inl (mC, 3, .inl msg)), ((mq 10), .inl (mI3, 3, .inl msf)), (o0, .inl (oL, 1, .inr (.inl (fun _ => 0))))] H) (hD : va_D A [(x0, .inr (0, [.ref (xq 0), .int 0, .int 108, .ref (xq 1), .int 0, .ref (xq 2), .int 0, .ref (xq 3), .ref (xq 4), .int 1, .ref (xq 5), .ref (xq 6), .ref (xq 7), .ref (xq 8), .ref (xq 9)])), ((xq 6), .inr (2, [.ref (xw 0), .ref (xw 1), .ref (xw 2), .ref (xw 3), .int 0, .int 0])), ((xw 2), .inl (xJ, 64, .inr (.inl (fun _ => 0)))), ((xq 0), .inl (xP, 60, .inr (.inr (.inr (.inr (fun _ => none)))))), ((xq 1), .inl (xO, 5, .inr (.inr (.inr (.inr (fun _ => none)))))), ((xq 3), .inl (xC, 3, .inl xsg)), ((xq 4), .inl (xI, 3, .inl xsf)), (m0, .inr (1, pv_m 0 mq)), ((mq 0), .inl (mI, 60, .inl (fun _ => 0))), ((mq 1), .inl (mT, 60, .inr (.inr (.inr (.inr (fun _ => none)))))), ((mq 2), .inl (mI2, 5, .inl (fun _ => 0))), ((mq 9), .inl (mC, 3, .inl msg)), ((mq 10), .inl (mI3, 3, .inl msf)), (o0, .inl (oL, 1, .inr (.inl (fun _ => 0))))]) (hS : va_S A s.heap H locs) {ls : Array Slot} (hl : lv_has ls 9 [(0, .ref b), (1, .ref x0), (2, .ref m0), (3, .ref o0), (4, .ref d0), (5, .int 0)]) : W p l e room_1 s m #[Value.ref b] below meth c H locs 397 653821 (lw_Z below #[Value.ref b] s) (F0 m 2760 ls []) := by
  obtain ⟨hx, hb, hr, hml, hown, hts0, hX, hbl, hlocks, hgv⟩ := C0
  have hts : ∀ w ∈ pv_W, w.before #[Value.ref b] s = true := fun w h => hts0 w (List.mem_filter.mp h).1
  have hg := fun {w : Cond} (h : w ∈ lw_tbl) (g : goodWord w = true) => hts w (pv_in h g)
  have hP : va_P D pv_cl [(x0, .inr (0, [.ref (xq 0), .int 0, .int 108, .ref (xq 1), .int 0, .ref (xq 2), .int 0, .ref (xq 3), .ref (xq 4), .int 1, .ref (xq 5), .ref (xq 6), .ref (xq 7), .ref (xq 8), .ref (xq 9)])), (m0, .inr (1, pv_m 0 mq))] _ := hP.sub [0, 7] rfl
  have hD : va_D A [(x0, .inr (0, [.ref (xq 0), .int 0, .int 108, .ref (xq 1), .int 0, .ref (xq 2), .int 0, .ref (xq 3), .ref (xq 4), .int 1, .ref (xq 5), .ref (xq 6), .ref (xq 7), .ref (xq 8), .ref (xq 9)])), (m0, .inr (1, pv_m 0 mq))] := hD.sub [0, 7] (by decide) rfl
  have hK : va_K D pv_cl [] s := hK.sub [] rfl
  refine lv_aload_n hx hb dL_law_2760 rfl (lv_at hl 1 rfl) ?_
  refine lv_aload_n hx hb dL_law_2761 rfl (lv_at hl 0 rfl) ?_
  refine lv_iload hx hb dL_law_2762 (lv_at hl 5 rfl) ?_
  refine lv_iconst (v := 1) hx hb dL_law_2764 (by decide) ?_
  refine lv_iadd hx hb dL_law_2765 ?_
  refine pv_setI 1 (by decide) ?_
  refine va_sld hx hb hX hbl hbA hS (by unfold vp_in; decide) dL_law_2766 ?_
  refine pv_setI (xs 1) rfl ?_
  refine lv_aload_n hx hb dL_law_2767 rfl (lv_at hl 0 rfl) ?_
  refine lv_iload hx hb dL_law_2768 (lv_at hl 5 rfl) ?_
  refine lv_iconst (v := 2) hx hb dL_law_2770 (by decide) ?_
  refine lv_iadd hx hb dL_law_2771 ?_
  refine pv_setI 2 (by decide) ?_
  refine va_sld hx hb hX hbl hbA hS (by unfold vp_in; decide) dL_law_2772 ?_
  refine pv_setI (xs 2) rfl ?_
  refine pv_pc 2773 rfl ?_
  refine lv_aload_n hx hb dL_law_2773 rfl (lv_at hl 0 rfl) ?_
  refine lv_iload hx hb dL_law_2774 (lv_at hl 5 rfl) ?_
  refine lv_iconst (v := 3) hx hb dL_law_2776 (by decide) ?_
  refine lv_iadd hx hb dL_law_2777 ?_
  refine pv_setI 3 (by decide) ?_
  refine va_sld hx hb hX hbl hbA hS (by unfold vp_in; decide) dL_law_2778 ?_
  refine pv_setI (xs 3) rfl ?_
  refine lv_aload_n hx hb dL_law_2779 rfl (lv_at hl 3 rfl) ?_
  have hF := pv_new hA hS.1
  refine va_calli (vx_runSW (As := [.ref x0, .int (xs 1), .int (xs 2), .int (xs 3), .ref o0]) (rest := []) ⟨hx, hb, hml, hown, hts⟩ (c_L_basisCoefficient l hfl D _ x0 xq (xs 1) (xs 2) (xs 3) o0) (vx_cwSW 5 hts (pv_gSW w7_223 w7_224 w1_0 w7_225) rfl rfl rfl (by decide +kernel) ⟨Nat.le_of_ble_eq_true rfl, Nat.le_of_ble_eq_true rfl⟩) (pv_ps hE hS hF (hP.sub [0] rfl) (hK.sub [] rfl) (hD.sub [0] (by decide) rfl)) rfl rfl hl.1 rfl (lv_room (Nat.le_of_ble_eq_true rfl)) dL_law_2780 ⟨Nat.le_of_ble_eq_true rfl, Nat.le_of_ble_eq_true rfl⟩) hS (fun q _ h => hF q h) hF (fun r_0 u t H1 locs1 ht hvm hw hB hz1 hk1 hS => ?_)
  refine W.widen (k := 398) (n := 653827) (Nat.le_of_ble_eq_true rfl) (Nat.le_of_ble_eq_true rfl) ?_
  have hP := pv_keep hP rfl hk1
  subst hw
  refine lv_istore (lv' := [(6, .int 1), (0, .ref b), (1, .ref x0), (2, .ref m0), (3, .ref o0), (4, .ref d0), (5, .int 0)]) hx hb dL_law_2783 hl (by decide) rfl (fun ls hl => ?_)
  refine lv_aload_n hx hb dL_law_2785 rfl (lv_at hl 3 rfl) ?_
  refine lv_aload_n hx hb dL_law_2786 rfl (lv_at hl 1 rfl) ?_
  refine lv_iload hx hb dL_law_2787 (lv_at hl 6 rfl) ?_
  refine lv_iconst (v := 1) hx hb dL_law_2789 (by decide) ?_
  refine pv_pc 2790 rfl ?_
  refine lv_iadd hx hb dL_law_2790 ?_
  refine pv_setI 1 (by decide) ?_
  refine va_sld hx hb hX hbl hbA hS (by unfold vp_in; decide) dL_law_2791 ?_
  refine pv_setI (xs 1) rfl ?_
  refine lv_aload_n hx hb dL_law_2792 rfl (lv_at hl 1 rfl) ?_
  refine lv_iload hx hb dL_law_2793 (lv_at hl 6 rfl) ?_
  refine lv_iconst (v := 2) hx hb dL_law_2795 (by decide) ?_
  refine lv_iadd hx hb dL_law_2796 ?_
  refine pv_setI 2 (by decide) ?_
  refine va_sld hx hb hX hbl hbA hS (by unfold vp_in; decide) dL_law_2797 ?_
  refine pv_setI (xs 2) rfl ?_
  refine lv_aload_n hx hb dL_law_2798 rfl (lv_at hl 1 rfl) ?_
  refine lv_iload hx hb dL_law_2799 (lv_at hl 6 rfl) ?_
  refine lv_iconst (v := 3) hx hb dL_law_2801 (by decide) ?_
  refine lv_iadd hx hb dL_law_2802 ?_
  refine pv_setI 3 (by decide) ?_
  refine va_sld hx hb hX hbl hbA hS (by unfold vp_in; decide) dL_law_2803 ?_
  refine pv_setI (xs 3) rfl ?_
  refine pv_pc 2804 rfl ?_
  have hF := va_free (wc := [(m0, .inr (1, pv_m 0 mq))]) hD hS hA [1] rfl
  refine va_calli (va_runV (As := [.int (xs 1), .int (xs 2), .int (xs 3)]) (rest := []) ⟨hx, hb, hml, hown, hts⟩ (c_X13_basisCoefficient l hfl D _ m0 mq (xs 1) (xs 2) (xs 3)) (cwV 3 hts (pv_gV w11_26 w11_27 w11_28 w1_10 w11_29) rfl rfl rfl (by decide +kernel) ⟨Nat.le_of_ble_eq_true rfl, Nat.le_of_ble_eq_true rfl⟩) (pv_pV hE hS hF (hP.sub [1] rfl) (hK.sub [] rfl) (hD.sub [1] (by decide) rfl) (va_recv (ci := 1) (q0 := 1) hK hP rfl rfl)) rfl rfl hl.1 rfl (lv_room (Nat.le_of_ble_eq_true rfl)) dL_law_2804 ⟨Nat.le_of_ble_eq_true rfl, Nat.le_of_ble_eq_true rfl⟩) hS (fun q _ h => hF q h) hF (fun r_1 u t H1 locs1 ht hvm hw hB hz1 hk1 hS => ?_)
  refine W.widen (k := 398) (n := 653827) (Nat.le_of_ble_eq_true rfl) (Nat.le_of_ble_eq_true rfl) ?_
  subst hw
  obtain ⟨fs_3, hf_4, hP1, hK1, hD1⟩ := hB
  rw [ht] at hP1
  have hK1 := va_K.moved hvm.symm hK1
  obtain ⟨hP, hD⟩ := va_join (wr := [(x0, .inr (0, [.ref (xq 0), .int 0, .int 108, .ref (xq 1), .int 0, .ref (xq 2), .int 0, .ref (xq 3), .ref (xq 4), .int 1, .ref (xq 5), .ref (xq 6), .ref (xq 7), .ref (xq 8), .ref (xq 9)]))]) (w1 := [(m0, .inr (1, fs_3))]) hP hD [1] [0] rfl rfl (by decide) (by decide) hk1 hF hP1 hD1
  have hP : va_P D pv_cl [(x0, .inr (0, [.ref (xq 0), .int 0, .int 108, .ref (xq 1), .int 0, .ref (xq 2), .int 0, .ref (xq 3), .ref (xq 4), .int 1, .ref (xq 5), .ref (xq 6), .ref (xq 7), .ref (xq 8), .ref (xq 9)])), (m0, .inr (1, fs_3))] _ := hP
  have hD : va_D A [(x0, .inr (0, [.ref (xq 0), .int 0, .int 108, .ref (xq 1), .int 0, .ref (xq 2), .int 0, .ref (xq 3), .ref (xq 4), .int 1, .ref (xq 5), .ref (xq 6), .ref (xq 7), .ref (xq 8), .ref (xq 9)])), (m0, .inr (1, fs_3))] := hD
  refine lv_istore (lv' := [(7, .int r_1), (6, .int 1), (0, .ref b), (1, .ref x0), (2, .ref m0), (3, .ref o0), (4, .ref d0), (5, .int 0)]) hx hb dL_law_2807 hl (by decide) rfl (fun ls hl => ?_)
  refine lv_aload_n hx hb dL_law_2809 rfl (lv_at hl 4 rfl) ?_
  have hF := pv_new hA hS.1
  refine va_calli (va_runV (As := []) (rest := []) ⟨hx, hb, hml, hown, hts⟩ (c_X13_thrown l hfl D _ m0 fs_3 1 hf_4) (cwV 0 hts (pv_gV w9_102 w9_103 w9_104 w1_10 w9_105) rfl rfl rfl (by decide +kernel) ⟨Nat.le_of_ble_eq_true rfl, Nat.le_of_ble_eq_true rfl⟩) (pv_pV hE hS hF (hP.sub [1] rfl) (hK.sub [] rfl) (hD.sub [1] (by decide) rfl) (va_recv (ci := 1) (q0 := 1) hK hP rfl rfl)) rfl rfl hl.1 rfl (lv_room (Nat.le_of_ble_eq_true rfl)) dL_law_2810 ⟨Nat.le_of_ble_eq_true rfl, Nat.le_of_ble_eq_true rfl⟩) hS (fun q _ h => hF q h) hF (fun r_4 u t H1 locs1 ht hvm hw hB hz1 hk1 hS => ?_)
  refine W.widen (k := 398) (n := 653827) (Nat.le_of_ble_eq_true rfl) (Nat.le_of_ble_eq_true rfl) ?_
  have hP := pv_keep hP rfl hk1
  subst hw
  refine lv_iload hx hb dL_law_2813 (lv_at hl 1 rfl) ?_
  refine lv_icmp_eq (tgt := 2820) hx hb dL_law_2815 (by decide) (fun _ => ?_) (fun c_6 => absurd (by decide) c_6)
  refine lv_iload hx hb dL_law_2820 (lv_at hl 1 rfl) ?_
  refine lv_if_ne (tgt := 2837) hx hb dL_law_2822 (by decide) (fun _ => ?_) (fun c_7 => absurd c_7 (by decide))
  refine lv_goto (tgt := 3721) hx hb dL_law_2837 (by decide) ?_
  refine lv_iinc (v := 7) (lv' := [(5, .int 7), (7, .int r_1), (6, .int 1), (0, .ref b), (1, .ref x0), (2, .ref m0), (3, .ref o0), (4, .ref d0)]) hx hb dL_law_3721 hl (k := 7) rfl (by decide) (by decide) rfl (fun ls hl => ?_)
  refine lv_goto (tgt := 28) hx hb dL_law_3724 (by decide) ?_
  refine lv_iload hx hb dL_law_28 (lv_at hl 0 rfl) ?_
  refine pv_pc 30 rfl ?_
  refine lv_aload_n hx hb dL_law_30 rfl (lv_at hl 3 rfl) ?_
  refine va_slen hx hb hX hbl hbA hS dL_law_31 ?_
  refine pv_setI 7 rfl ?_
  refine lv_bipush (v := 7) hx hb dL_law_32 (by decide) ?_
  refine lv_isub hx hb dL_law_34 ?_
  refine pv_setI 0 (by decide) ?_
  refine lv_icmp_gt (tgt := 3727) hx hb dL_law_35 (by decide) (fun _ => ?_) (fun c_8 => absurd (by decide) c_8)
  refine lv_iconst (v := 1) hx hb dL_law_3727 (by decide) ?_
  refine va_forget (fun q hq => hAf _ (hS.2.2 q hq)) ?_
  refine W.widen (k := 600006) (n := 7302064) (Nat.le_of_ble_eq_true rfl) (Nat.le_of_ble_eq_true rfl) ?_
  exact lw_ret (d0 := s.drawn) (Drawn.sameBut.refl s.drawn lw_cs) hx hb hr hlocks dL_law_3728

theorem dL_law_2840 : decode cL_law 2840 = .ok (.aload_n 1, 1) := by decide +kernel
theorem dL_law_2841 : decode cL_law 2841 = .ok (.aload_n 0, 1) := by decide +kernel
theorem dL_law_2842 : decode cL_law 2842 = .ok (.iload 5, 2) := by decide +kernel
theorem dL_law_2844 : decode cL_law 2844 = .ok (.iconst 1, 1) := by decide +kernel
theorem dL_law_2845 : decode cL_law 2845 = .ok (.iadd, 1) := by decide +kernel
theorem dL_law_2846 : decode cL_law 2846 = .ok (.iaload, 1) := by decide +kernel
theorem dL_law_2847 : decode cL_law 2847 = .ok (.aload_n 0, 1) := by decide +kernel
theorem dL_law_2848 : decode cL_law 2848 = .ok (.iload 5, 2) := by decide +kernel
theorem dL_law_2850 : decode cL_law 2850 = .ok (.iconst 2, 1) := by decide +kernel
theorem dL_law_2851 : decode cL_law 2851 = .ok (.iadd, 1) := by decide +kernel
theorem dL_law_2852 : decode cL_law 2852 = .ok (.iaload, 1) := by decide +kernel
theorem dL_law_2853 : decode cL_law 2853 = .ok (.aload_n 0, 1) := by decide +kernel
theorem dL_law_2854 : decode cL_law 2854 = .ok (.iload 5, 2) := by decide +kernel
theorem dL_law_2856 : decode cL_law 2856 = .ok (.iconst 3, 1) := by decide +kernel
theorem dL_law_2857 : decode cL_law 2857 = .ok (.iadd, 1) := by decide +kernel
theorem dL_law_2858 : decode cL_law 2858 = .ok (.iaload, 1) := by decide +kernel
theorem dL_law_2859 : decode cL_law 2859 = .ok (.aload_n 0, 1) := by decide +kernel
theorem dL_law_2860 : decode cL_law 2860 = .ok (.iload 5, 2) := by decide +kernel
theorem dL_law_2862 : decode cL_law 2862 = .ok (.iconst 4, 1) := by decide +kernel
theorem dL_law_2863 : decode cL_law 2863 = .ok (.iadd, 1) := by decide +kernel
theorem dL_law_2864 : decode cL_law 2864 = .ok (.iaload, 1) := by decide +kernel
theorem dL_law_2865 : decode cL_law 2865 = .ok (.aload_n 3, 1) := by decide +kernel
theorem dL_law_2866 : decode cL_law 2866 = .ok (.invokestatic 321, 3) := by decide +kernel
theorem w7_234 : (Jvm.Cond.methodLink "PolyforgeLaw" (321 : Nat) ({ cls := "PolyforgeLaw", name := "basisExponent", desc := "(LPolyforge;IIII[J)I" } : Jvm.MethodName)) ∈ lw_tbl := pv_t7 (pv_mg 234 rfl)
theorem w7_236 : (Jvm.Cond.codeWith ({ cls := "PolyforgeLaw", name := "basisExponent", desc := "(LPolyforge;IIII[J)I" } : Jvm.MethodName) method_41_code (7 : Nat) (Option.some Jvm.ClassFile.FieldType.int) [((0 : Nat), (14 : Nat), (17 : Nat), (55 : Nat)), ((0 : Nat), (14 : Nat), (21 : Nat), (13 : Nat)), ((0 : Nat), (14 : Nat), (25 : Nat), (23 : Nat))]) ∈ lw_tbl := pv_t7 (pv_mg 236 rfl)
theorem w7_235 : (Jvm.Cond.static ({ cls := "PolyforgeLaw", name := "basisExponent", desc := "(LPolyforge;IIII[J)I" } : Jvm.MethodName)) ∈ lw_tbl := pv_t7 (pv_mg 235 rfl)
theorem dL_law_2869 : decode cL_law 2869 = .ok (.istore 6, 2) := by decide +kernel
theorem dL_law_2871 : decode cL_law 2871 = .ok (.aload_n 2, 1) := by decide +kernel
theorem dL_law_2872 : decode cL_law 2872 = .ok (.aload_n 0, 1) := by decide +kernel
theorem dL_law_2873 : decode cL_law 2873 = .ok (.iload 5, 2) := by decide +kernel
theorem dL_law_2875 : decode cL_law 2875 = .ok (.iconst 1, 1) := by decide +kernel
theorem dL_law_2876 : decode cL_law 2876 = .ok (.iadd, 1) := by decide +kernel
theorem dL_law_2877 : decode cL_law 2877 = .ok (.iaload, 1) := by decide +kernel
theorem dL_law_2878 : decode cL_law 2878 = .ok (.aload_n 0, 1) := by decide +kernel
theorem dL_law_2879 : decode cL_law 2879 = .ok (.iload 5, 2) := by decide +kernel
theorem dL_law_2881 : decode cL_law 2881 = .ok (.iconst 2, 1) := by decide +kernel
theorem dL_law_2882 : decode cL_law 2882 = .ok (.iadd, 1) := by decide +kernel
theorem dL_law_2883 : decode cL_law 2883 = .ok (.iaload, 1) := by decide +kernel
theorem dL_law_2884 : decode cL_law 2884 = .ok (.aload_n 0, 1) := by decide +kernel
theorem dL_law_2885 : decode cL_law 2885 = .ok (.iload 5, 2) := by decide +kernel
theorem dL_law_2887 : decode cL_law 2887 = .ok (.iconst 3, 1) := by decide +kernel
theorem dL_law_2888 : decode cL_law 2888 = .ok (.iadd, 1) := by decide +kernel
theorem dL_law_2889 : decode cL_law 2889 = .ok (.iaload, 1) := by decide +kernel
theorem dL_law_2890 : decode cL_law 2890 = .ok (.aload_n 0, 1) := by decide +kernel
theorem dL_law_2891 : decode cL_law 2891 = .ok (.iload 5, 2) := by decide +kernel
theorem dL_law_2893 : decode cL_law 2893 = .ok (.iconst 4, 1) := by decide +kernel
theorem dL_law_2894 : decode cL_law 2894 = .ok (.iadd, 1) := by decide +kernel
theorem dL_law_2895 : decode cL_law 2895 = .ok (.iaload, 1) := by decide +kernel
theorem dL_law_2896 : decode cL_law 2896 = .ok (.invokevirtual 323, 3) := by decide +kernel
theorem w11_31 : (Jvm.Cond.methodLink "PolyforgeLaw" (323 : Nat) ({ cls := "PolyforgeModel", name := "basisExponent", desc := "(IIII)I" } : Jvm.MethodName)) ∈ lw_tbl := pv_t11 (pv_mg 31 rfl)
theorem w11_34 : (Jvm.Cond.code ({ cls := "PolyforgeModel", name := "basisExponent", desc := "(IIII)I" } : Jvm.MethodName) prog_14_method_103_code (6 : Nat) (Option.some Jvm.ClassFile.FieldType.int)) ∈ lw_tbl := pv_t11 (pv_mg 34 rfl)
theorem w11_33 : (Jvm.Cond.selects "PolyforgeModel" ({ cls := "PolyforgeModel", name := "basisExponent", desc := "(IIII)I" } : Jvm.MethodName) ({ cls := "PolyforgeModel", name := "basisExponent", desc := "(IIII)I" } : Jvm.MethodName)) ∈ lw_tbl := pv_t11 (pv_mg 33 rfl)
theorem w11_32 : (Jvm.Cond.instanceMethod ({ cls := "PolyforgeModel", name := "basisExponent", desc := "(IIII)I" } : Jvm.MethodName)) ∈ lw_tbl := pv_t11 (pv_mg 32 rfl)
theorem dL_law_2899 : decode cL_law 2899 = .ok (.istore 7, 2) := by decide +kernel
theorem dL_law_2901 : decode cL_law 2901 = .ok (.aload_n 2, 1) := by decide +kernel
theorem dL_law_2902 : decode cL_law 2902 = .ok (.invokevirtual 199, 3) := by decide +kernel
theorem dL_law_2905 : decode cL_law 2905 = .ok (.iload 6, 2) := by decide +kernel
theorem dL_law_2907 : decode cL_law 2907 = .ok (.if_icmp .eq 5, 3) := by decide +kernel
theorem dL_law_2912 : decode cL_law 2912 = .ok (.iload 6, 2) := by decide +kernel
theorem dL_law_2914 : decode cL_law 2914 = .ok (.ifCond .ne 15, 3) := by decide +kernel
theorem dL_law_2929 : decode cL_law 2929 = .ok (.goto 792, 3) := by decide +kernel
set_option maxHeartbeats 4000000 in
set_option maxRecDepth 100000 in
/-- the law, call 39: basisExponent -/
theorem law_case_39 {p : Program} {e : Env} {s : State} {m : MethodId} {below : List Frame} {meth : Method} {c : Code} (l : Launch) (hfl : l.stackTraces = false) {b : Nat} {xs : Nat → Int32} (C0 : lw_At p s m meth c b 7 xs) {D : va_G} {A : Nat → Prop} (hA : ∀ q : Nat, s.heap.size ≤ q → A q) (hAf : ∀ q : Nat, A q → s.heap.size ≤ q) (hbA : ¬ A b) (hE : pv_E A s s.heap) {x0 m0 o0 d0 : Nat} {xq xw mq : Nat → Nat} {xJ xP xO xC xI mI mI2 mI3 mT mC oL : ClassId} {xsg xsf msg msf : Nat → Int32} (hxsg : ∀ j, j < 3 → xsg j = 63) (hmsg : ∀ j, j < 3 → msg j = 63) {H : Heap} {locs : List Loc} (hK : va_K D pv_cl [(xJ, .long), (xP, .object "Polyforge$Polynomial"), (xO, .object "Polyforge$Ideal"), (xC, .char), (xI, .int), (mI, .int), (mT, .object "PolyforgeModel$Terms"), (mI2, .int), (mC, .char), (mI3, .int), (oL, .long)] s) (hP : va_P D pv_cl [(x0, .inr (0, [.ref (xq 0), .int 0, .int 108, .ref (xq 1), .int 0, .ref (xq 2), .int 0, .ref (xq 3), .ref (xq 4), .int 1, .ref (xq 5), .ref (xq 6), .ref (xq 7), .ref (xq 8), .ref (xq 9)])), ((xq 6), .inr (2, [.ref (xw 0), .ref (xw 1), .ref (xw 2), .ref (xw 3), .int 0, .int 0])), ((xw 2), .inl (xJ, 64, .inr (.inl (fun _ => 0)))), ((xq 0), .inl (xP, 60, .inr (.inr (.inr (.inr (fun _ => none)))))), ((xq 1), .inl (xO, 5, .inr (.inr (.inr (.inr (fun _ => none)))))), ((xq 3), .inl (xC, 3, .inl xsg)), ((xq 4), .inl (xI, 3, .inl xsf)), (m0, .inr (1, pv_m 0 mq)), ((mq 0), .inl (mI, 60, .inl (fun _ => 0))), ((mq 1), .inl (mT, 60, .inr (.inr (.inr (.inr (fun _ => none)))))), ((mq 2), .inl (mI2, 5, .inl (fun _ => 0))), ((mq 9), .inl (mC, 3, .inl msg)), ((mq 10), .inl (mI3, 3, .inl msf)), (o0, .inl (oL, 1, .inr (.inl (fun _ => 0))))] H) (hD : va_D A [(x0, .inr (0, [.ref (xq 0), .int 0, .int 108, .ref (xq 1), .int 0, .ref (xq 2), .int 0, .ref (xq 3), .ref (xq 4), .int 1, .ref (xq 5), .ref (xq 6), .ref (xq 7), .ref (xq 8), .ref (xq 9)])), ((xq 6), .inr (2, [.ref (xw 0), .ref (xw 1), .ref (xw 2), .ref (xw 3), .int 0, .int 0])), ((xw 2), .inl (xJ, 64, .inr (.inl (fun _ => 0)))), ((xq 0), .inl (xP, 60, .inr (.inr (.inr (.inr (fun _ => none)))))), ((xq 1), .inl (xO, 5, .inr (.inr (.inr (.inr (fun _ => none)))))), ((xq 3), .inl (xC, 3, .inl xsg)), ((xq 4), .inl (xI, 3, .inl xsf)), (m0, .inr (1, pv_m 0 mq)), ((mq 0), .inl (mI, 60, .inl (fun _ => 0))), ((mq 1), .inl (mT, 60, .inr (.inr (.inr (.inr (fun _ => none)))))), ((mq 2), .inl (mI2, 5, .inl (fun _ => 0))), ((mq 9), .inl (mC, 3, .inl msg)), ((mq 10), .inl (mI3, 3, .inl msf)), (o0, .inl (oL, 1, .inr (.inl (fun _ => 0))))]) (hS : va_S A s.heap H locs) {ls : Array Slot} (hl : lv_has ls 9 [(0, .ref b), (1, .ref x0), (2, .ref m0), (3, .ref o0), (4, .ref d0), (5, .int 0)]) : W p l e room_1 s m #[Value.ref b] below meth c H locs 397 653821 (lw_Z below #[Value.ref b] s) (F0 m 2840 ls []) := by
  obtain ⟨hx, hb, hr, hml, hown, hts0, hX, hbl, hlocks, hgv⟩ := C0
  have hts : ∀ w ∈ pv_W, w.before #[Value.ref b] s = true := fun w h => hts0 w (List.mem_filter.mp h).1
  have hg := fun {w : Cond} (h : w ∈ lw_tbl) (g : goodWord w = true) => hts w (pv_in h g)
  have hP : va_P D pv_cl [(x0, .inr (0, [.ref (xq 0), .int 0, .int 108, .ref (xq 1), .int 0, .ref (xq 2), .int 0, .ref (xq 3), .ref (xq 4), .int 1, .ref (xq 5), .ref (xq 6), .ref (xq 7), .ref (xq 8), .ref (xq 9)])), (m0, .inr (1, pv_m 0 mq))] _ := hP.sub [0, 7] rfl
  have hD : va_D A [(x0, .inr (0, [.ref (xq 0), .int 0, .int 108, .ref (xq 1), .int 0, .ref (xq 2), .int 0, .ref (xq 3), .ref (xq 4), .int 1, .ref (xq 5), .ref (xq 6), .ref (xq 7), .ref (xq 8), .ref (xq 9)])), (m0, .inr (1, pv_m 0 mq))] := hD.sub [0, 7] (by decide) rfl
  have hK : va_K D pv_cl [] s := hK.sub [] rfl
  refine lv_aload_n hx hb dL_law_2840 rfl (lv_at hl 1 rfl) ?_
  refine lv_aload_n hx hb dL_law_2841 rfl (lv_at hl 0 rfl) ?_
  refine lv_iload hx hb dL_law_2842 (lv_at hl 5 rfl) ?_
  refine lv_iconst (v := 1) hx hb dL_law_2844 (by decide) ?_
  refine lv_iadd hx hb dL_law_2845 ?_
  refine pv_setI 1 (by decide) ?_
  refine va_sld hx hb hX hbl hbA hS (by unfold vp_in; decide) dL_law_2846 ?_
  refine pv_setI (xs 1) rfl ?_
  refine lv_aload_n hx hb dL_law_2847 rfl (lv_at hl 0 rfl) ?_
  refine lv_iload hx hb dL_law_2848 (lv_at hl 5 rfl) ?_
  refine lv_iconst (v := 2) hx hb dL_law_2850 (by decide) ?_
  refine lv_iadd hx hb dL_law_2851 ?_
  refine pv_setI 2 (by decide) ?_
  refine va_sld hx hb hX hbl hbA hS (by unfold vp_in; decide) dL_law_2852 ?_
  refine pv_setI (xs 2) rfl ?_
  refine pv_pc 2853 rfl ?_
  refine lv_aload_n hx hb dL_law_2853 rfl (lv_at hl 0 rfl) ?_
  refine lv_iload hx hb dL_law_2854 (lv_at hl 5 rfl) ?_
  refine lv_iconst (v := 3) hx hb dL_law_2856 (by decide) ?_
  refine lv_iadd hx hb dL_law_2857 ?_
  refine pv_setI 3 (by decide) ?_
  refine va_sld hx hb hX hbl hbA hS (by unfold vp_in; decide) dL_law_2858 ?_
  refine pv_setI (xs 3) rfl ?_
  refine lv_aload_n hx hb dL_law_2859 rfl (lv_at hl 0 rfl) ?_
  refine lv_iload hx hb dL_law_2860 (lv_at hl 5 rfl) ?_
  refine lv_iconst (v := 4) hx hb dL_law_2862 (by decide) ?_
  refine lv_iadd hx hb dL_law_2863 ?_
  refine pv_setI 4 (by decide) ?_
  refine va_sld hx hb hX hbl hbA hS (by unfold vp_in; decide) dL_law_2864 ?_
  refine pv_setI (xs 4) rfl ?_
  refine lv_aload_n hx hb dL_law_2865 rfl (lv_at hl 3 rfl) ?_
  have hF := pv_new hA hS.1
  refine va_calli (vx_runSW (As := [.ref x0, .int (xs 1), .int (xs 2), .int (xs 3), .int (xs 4), .ref o0]) (rest := []) ⟨hx, hb, hml, hown, hts⟩ (c_L_basisExponent l hfl D _ x0 xq (xs 1) (xs 2) (xs 3) (xs 4) o0) (vx_cwSW 6 hts (pv_gSW w7_234 w7_235 w1_0 w7_236) rfl rfl rfl (by decide +kernel) ⟨Nat.le_of_ble_eq_true rfl, Nat.le_of_ble_eq_true rfl⟩) (pv_ps hE hS hF (hP.sub [0] rfl) (hK.sub [] rfl) (hD.sub [0] (by decide) rfl)) rfl rfl hl.1 rfl (lv_room (Nat.le_of_ble_eq_true rfl)) dL_law_2866 ⟨Nat.le_of_ble_eq_true rfl, Nat.le_of_ble_eq_true rfl⟩) hS (fun q _ h => hF q h) hF (fun r_0 u t H1 locs1 ht hvm hw hB hz1 hk1 hS => ?_)
  refine W.widen (k := 398) (n := 653827) (Nat.le_of_ble_eq_true rfl) (Nat.le_of_ble_eq_true rfl) ?_
  have hP := pv_keep hP rfl hk1
  subst hw
  refine pv_pc 2869 rfl ?_
  refine lv_istore (lv' := [(6, .int 1), (0, .ref b), (1, .ref x0), (2, .ref m0), (3, .ref o0), (4, .ref d0), (5, .int 0)]) hx hb dL_law_2869 hl (by decide) rfl (fun ls hl => ?_)
  refine lv_aload_n hx hb dL_law_2871 rfl (lv_at hl 3 rfl) ?_
  refine lv_aload_n hx hb dL_law_2872 rfl (lv_at hl 1 rfl) ?_
  refine lv_iload hx hb dL_law_2873 (lv_at hl 6 rfl) ?_
  refine lv_iconst (v := 1) hx hb dL_law_2875 (by decide) ?_
  refine lv_iadd hx hb dL_law_2876 ?_
  refine pv_setI 1 (by decide) ?_
  refine va_sld hx hb hX hbl hbA hS (by unfold vp_in; decide) dL_law_2877 ?_
  refine pv_setI (xs 1) rfl ?_
  refine lv_aload_n hx hb dL_law_2878 rfl (lv_at hl 1 rfl) ?_
  refine lv_iload hx hb dL_law_2879 (lv_at hl 6 rfl) ?_
  refine lv_iconst (v := 2) hx hb dL_law_2881 (by decide) ?_
  refine lv_iadd hx hb dL_law_2882 ?_
  refine pv_setI 2 (by decide) ?_
  refine va_sld hx hb hX hbl hbA hS (by unfold vp_in; decide) dL_law_2883 ?_
  refine pv_setI (xs 2) rfl ?_
  refine pv_pc 2884 rfl ?_
  refine lv_aload_n hx hb dL_law_2884 rfl (lv_at hl 1 rfl) ?_
  refine lv_iload hx hb dL_law_2885 (lv_at hl 6 rfl) ?_
  refine lv_iconst (v := 3) hx hb dL_law_2887 (by decide) ?_
  refine lv_iadd hx hb dL_law_2888 ?_
  refine pv_setI 3 (by decide) ?_
  refine va_sld hx hb hX hbl hbA hS (by unfold vp_in; decide) dL_law_2889 ?_
  refine pv_setI (xs 3) rfl ?_
  refine lv_aload_n hx hb dL_law_2890 rfl (lv_at hl 1 rfl) ?_
  refine lv_iload hx hb dL_law_2891 (lv_at hl 6 rfl) ?_
  refine lv_iconst (v := 4) hx hb dL_law_2893 (by decide) ?_
  refine lv_iadd hx hb dL_law_2894 ?_
  refine pv_setI 4 (by decide) ?_
  refine va_sld hx hb hX hbl hbA hS (by unfold vp_in; decide) dL_law_2895 ?_
  refine pv_setI (xs 4) rfl ?_
  have hF := va_free (wc := [(m0, .inr (1, pv_m 0 mq))]) hD hS hA [1] rfl
  refine va_calli (va_runV (As := [.int (xs 1), .int (xs 2), .int (xs 3), .int (xs 4)]) (rest := []) ⟨hx, hb, hml, hown, hts⟩ (c_X13_basisExponent l hfl D _ m0 mq (xs 1) (xs 2) (xs 3) (xs 4)) (cwV 4 hts (pv_gV w11_31 w11_32 w11_33 w1_10 w11_34) rfl rfl rfl (by decide +kernel) ⟨Nat.le_of_ble_eq_true rfl, Nat.le_of_ble_eq_true rfl⟩) (pv_pV hE hS hF (hP.sub [1] rfl) (hK.sub [] rfl) (hD.sub [1] (by decide) rfl) (va_recv (ci := 1) (q0 := 1) hK hP rfl rfl)) rfl rfl hl.1 rfl (lv_room (Nat.le_of_ble_eq_true rfl)) dL_law_2896 ⟨Nat.le_of_ble_eq_true rfl, Nat.le_of_ble_eq_true rfl⟩) hS (fun q _ h => hF q h) hF (fun r_1 u t H1 locs1 ht hvm hw hB hz1 hk1 hS => ?_)
  refine W.widen (k := 398) (n := 653827) (Nat.le_of_ble_eq_true rfl) (Nat.le_of_ble_eq_true rfl) ?_
  subst hw
  obtain ⟨fs_3, hf_4, hP1, hK1, hD1⟩ := hB
  rw [ht] at hP1
  have hK1 := va_K.moved hvm.symm hK1
  obtain ⟨hP, hD⟩ := va_join (wr := [(x0, .inr (0, [.ref (xq 0), .int 0, .int 108, .ref (xq 1), .int 0, .ref (xq 2), .int 0, .ref (xq 3), .ref (xq 4), .int 1, .ref (xq 5), .ref (xq 6), .ref (xq 7), .ref (xq 8), .ref (xq 9)]))]) (w1 := [(m0, .inr (1, fs_3))]) hP hD [1] [0] rfl rfl (by decide) (by decide) hk1 hF hP1 hD1
  have hP : va_P D pv_cl [(x0, .inr (0, [.ref (xq 0), .int 0, .int 108, .ref (xq 1), .int 0, .ref (xq 2), .int 0, .ref (xq 3), .ref (xq 4), .int 1, .ref (xq 5), .ref (xq 6), .ref (xq 7), .ref (xq 8), .ref (xq 9)])), (m0, .inr (1, fs_3))] _ := hP
  have hD : va_D A [(x0, .inr (0, [.ref (xq 0), .int 0, .int 108, .ref (xq 1), .int 0, .ref (xq 2), .int 0, .ref (xq 3), .ref (xq 4), .int 1, .ref (xq 5), .ref (xq 6), .ref (xq 7), .ref (xq 8), .ref (xq 9)])), (m0, .inr (1, fs_3))] := hD
  refine lv_istore (lv' := [(7, .int r_1), (6, .int 1), (0, .ref b), (1, .ref x0), (2, .ref m0), (3, .ref o0), (4, .ref d0), (5, .int 0)]) hx hb dL_law_2899 hl (by decide) rfl (fun ls hl => ?_)
  refine pv_pc 2901 rfl ?_
  refine lv_aload_n hx hb dL_law_2901 rfl (lv_at hl 4 rfl) ?_
  have hF := pv_new hA hS.1
  refine va_calli (va_runV (As := []) (rest := []) ⟨hx, hb, hml, hown, hts⟩ (c_X13_thrown l hfl D _ m0 fs_3 1 hf_4) (cwV 0 hts (pv_gV w9_102 w9_103 w9_104 w1_10 w9_105) rfl rfl rfl (by decide +kernel) ⟨Nat.le_of_ble_eq_true rfl, Nat.le_of_ble_eq_true rfl⟩) (pv_pV hE hS hF (hP.sub [1] rfl) (hK.sub [] rfl) (hD.sub [1] (by decide) rfl) (va_recv (ci := 1) (q0 := 1) hK hP rfl rfl)) rfl rfl hl.1 rfl (lv_room (Nat.le_of_ble_eq_true rfl)) dL_law_2902 ⟨Nat.le_of_ble_eq_true rfl, Nat.le_of_ble_eq_true rfl⟩) hS (fun q _ h => hF q h) hF (fun r_4 u t H1 locs1 ht hvm hw hB hz1 hk1 hS => ?_)
  refine W.widen (k := 398) (n := 653827) (Nat.le_of_ble_eq_true rfl) (Nat.le_of_ble_eq_true rfl) ?_
  have hP := pv_keep hP rfl hk1
  subst hw
  refine lv_iload hx hb dL_law_2905 (lv_at hl 1 rfl) ?_
  refine lv_icmp_eq (tgt := 2912) hx hb dL_law_2907 (by decide) (fun _ => ?_) (fun c_6 => absurd (by decide) c_6)
  refine lv_iload hx hb dL_law_2912 (lv_at hl 1 rfl) ?_
  refine lv_if_ne (tgt := 2929) hx hb dL_law_2914 (by decide) (fun _ => ?_) (fun c_7 => absurd c_7 (by decide))
  refine lv_goto (tgt := 3721) hx hb dL_law_2929 (by decide) ?_
  refine lv_iinc (v := 7) (lv' := [(5, .int 7), (7, .int r_1), (6, .int 1), (0, .ref b), (1, .ref x0), (2, .ref m0), (3, .ref o0), (4, .ref d0)]) hx hb dL_law_3721 hl (k := 7) rfl (by decide) (by decide) rfl (fun ls hl => ?_)
  refine lv_goto (tgt := 28) hx hb dL_law_3724 (by decide) ?_
  refine lv_iload hx hb dL_law_28 (lv_at hl 0 rfl) ?_
  refine lv_aload_n hx hb dL_law_30 rfl (lv_at hl 3 rfl) ?_
  refine va_slen hx hb hX hbl hbA hS dL_law_31 ?_
  refine pv_setI 7 rfl ?_
  refine pv_pc 32 rfl ?_
  refine lv_bipush (v := 7) hx hb dL_law_32 (by decide) ?_
  refine lv_isub hx hb dL_law_34 ?_
  refine pv_setI 0 (by decide) ?_
  refine lv_icmp_gt (tgt := 3727) hx hb dL_law_35 (by decide) (fun _ => ?_) (fun c_8 => absurd (by decide) c_8)
  refine lv_iconst (v := 1) hx hb dL_law_3727 (by decide) ?_
  refine va_forget (fun q hq => hAf _ (hS.2.2 q hq)) ?_
  refine W.widen (k := 600006) (n := 7302064) (Nat.le_of_ble_eq_true rfl) (Nat.le_of_ble_eq_true rfl) ?_
  exact lw_ret (d0 := s.drawn) (Drawn.sameBut.refl s.drawn lw_cs) hx hb hr hlocks dL_law_3728

theorem dL_law_2932 : decode cL_law 2932 = .ok (.aload_n 1, 1) := by decide +kernel
theorem dL_law_2933 : decode cL_law 2933 = .ok (.aload_n 0, 1) := by decide +kernel
theorem dL_law_2934 : decode cL_law 2934 = .ok (.iload 5, 2) := by decide +kernel
theorem dL_law_2936 : decode cL_law 2936 = .ok (.iconst 1, 1) := by decide +kernel
theorem dL_law_2937 : decode cL_law 2937 = .ok (.iadd, 1) := by decide +kernel
theorem dL_law_2938 : decode cL_law 2938 = .ok (.iaload, 1) := by decide +kernel
theorem dL_law_2939 : decode cL_law 2939 = .ok (.aload_n 0, 1) := by decide +kernel
theorem dL_law_2940 : decode cL_law 2940 = .ok (.iload 5, 2) := by decide +kernel
theorem dL_law_2942 : decode cL_law 2942 = .ok (.iconst 2, 1) := by decide +kernel
theorem dL_law_2943 : decode cL_law 2943 = .ok (.iadd, 1) := by decide +kernel
theorem dL_law_2944 : decode cL_law 2944 = .ok (.iaload, 1) := by decide +kernel
theorem dL_law_2945 : decode cL_law 2945 = .ok (.aload_n 3, 1) := by decide +kernel
theorem dL_law_2946 : decode cL_law 2946 = .ok (.invokestatic 324, 3) := by decide +kernel
theorem w8_3 : (Jvm.Cond.methodLink "PolyforgeLaw" (324 : Nat) ({ cls := "PolyforgeLaw", name := "normalForm", desc := "(LPolyforge;II[J)I" } : Jvm.MethodName)) ∈ lw_tbl := pv_t8 (pv_mg 3 rfl)
theorem w8_5 : (Jvm.Cond.codeWith ({ cls := "PolyforgeLaw", name := "normalForm", desc := "(LPolyforge;II[J)I" } : Jvm.MethodName) method_42_code (5 : Nat) (Option.some Jvm.ClassFile.FieldType.int) [((0 : Nat), (10 : Nat), (13 : Nat), (55 : Nat)), ((0 : Nat), (10 : Nat), (17 : Nat), (23 : Nat)), ((0 : Nat), (10 : Nat), (21 : Nat), (25 : Nat)), ((0 : Nat), (10 : Nat), (25 : Nat), (27 : Nat)), ((0 : Nat), (10 : Nat), (29 : Nat), (15 : Nat))]) ∈ lw_tbl := pv_t8 (pv_mg 5 rfl)
theorem w8_4 : (Jvm.Cond.static ({ cls := "PolyforgeLaw", name := "normalForm", desc := "(LPolyforge;II[J)I" } : Jvm.MethodName)) ∈ lw_tbl := pv_t8 (pv_mg 4 rfl)
theorem dL_law_2949 : decode cL_law 2949 = .ok (.istore 6, 2) := by decide +kernel
theorem dL_law_2951 : decode cL_law 2951 = .ok (.aload_n 2, 1) := by decide +kernel
theorem dL_law_2952 : decode cL_law 2952 = .ok (.aload_n 0, 1) := by decide +kernel
theorem dL_law_2953 : decode cL_law 2953 = .ok (.iload 5, 2) := by decide +kernel
theorem dL_law_2955 : decode cL_law 2955 = .ok (.iconst 1, 1) := by decide +kernel
theorem dL_law_2956 : decode cL_law 2956 = .ok (.iadd, 1) := by decide +kernel
theorem dL_law_2957 : decode cL_law 2957 = .ok (.iaload, 1) := by decide +kernel
theorem dL_law_2958 : decode cL_law 2958 = .ok (.aload_n 0, 1) := by decide +kernel
theorem dL_law_2959 : decode cL_law 2959 = .ok (.iload 5, 2) := by decide +kernel
theorem dL_law_2961 : decode cL_law 2961 = .ok (.iconst 2, 1) := by decide +kernel
theorem dL_law_2962 : decode cL_law 2962 = .ok (.iadd, 1) := by decide +kernel
theorem dL_law_2963 : decode cL_law 2963 = .ok (.iaload, 1) := by decide +kernel
theorem dL_law_2964 : decode cL_law 2964 = .ok (.invokevirtual 326, 3) := by decide +kernel
theorem w11_35 : (Jvm.Cond.methodLink "PolyforgeLaw" (326 : Nat) ({ cls := "PolyforgeModel", name := "normalForm", desc := "(II)I" } : Jvm.MethodName)) ∈ lw_tbl := pv_t11 (pv_mg 35 rfl)
theorem w11_38 : (Jvm.Cond.code ({ cls := "PolyforgeModel", name := "normalForm", desc := "(II)I" } : Jvm.MethodName) prog_14_method_106_code (3 : Nat) (Option.some Jvm.ClassFile.FieldType.int)) ∈ lw_tbl := pv_t11 (pv_mg 38 rfl)
theorem w11_37 : (Jvm.Cond.selects "PolyforgeModel" ({ cls := "PolyforgeModel", name := "normalForm", desc := "(II)I" } : Jvm.MethodName) ({ cls := "PolyforgeModel", name := "normalForm", desc := "(II)I" } : Jvm.MethodName)) ∈ lw_tbl := pv_t11 (pv_mg 37 rfl)
theorem w11_36 : (Jvm.Cond.instanceMethod ({ cls := "PolyforgeModel", name := "normalForm", desc := "(II)I" } : Jvm.MethodName)) ∈ lw_tbl := pv_t11 (pv_mg 36 rfl)
theorem dL_law_2967 : decode cL_law 2967 = .ok (.istore 7, 2) := by decide +kernel
theorem dL_law_2969 : decode cL_law 2969 = .ok (.aload_n 2, 1) := by decide +kernel
theorem dL_law_2970 : decode cL_law 2970 = .ok (.invokevirtual 199, 3) := by decide +kernel
theorem dL_law_2973 : decode cL_law 2973 = .ok (.iload 6, 2) := by decide +kernel
theorem dL_law_2975 : decode cL_law 2975 = .ok (.if_icmp .eq 5, 3) := by decide +kernel
theorem dL_law_2980 : decode cL_law 2980 = .ok (.iload 6, 2) := by decide +kernel
theorem dL_law_2982 : decode cL_law 2982 = .ok (.ifCond .ne 15, 3) := by decide +kernel
theorem dL_law_2997 : decode cL_law 2997 = .ok (.goto 724, 3) := by decide +kernel
set_option maxHeartbeats 4000000 in
set_option maxRecDepth 100000 in
/-- the law, call 40: normalForm -/
theorem law_case_40 {p : Program} {e : Env} {s : State} {m : MethodId} {below : List Frame} {meth : Method} {c : Code} (l : Launch) (hfl : l.stackTraces = false) {b : Nat} {xs : Nat → Int32} (C0 : lw_At p s m meth c b 7 xs) {D : va_G} {A : Nat → Prop} (hA : ∀ q : Nat, s.heap.size ≤ q → A q) (hAf : ∀ q : Nat, A q → s.heap.size ≤ q) (hbA : ¬ A b) (hE : pv_E A s s.heap) {x0 m0 o0 d0 : Nat} {xq xw mq : Nat → Nat} {xJ xP xO xC xI mI mI2 mI3 mT mC oL : ClassId} {xsg xsf msg msf : Nat → Int32} (hxsg : ∀ j, j < 3 → xsg j = 63) (hmsg : ∀ j, j < 3 → msg j = 63) {H : Heap} {locs : List Loc} (hK : va_K D pv_cl [(xJ, .long), (xP, .object "Polyforge$Polynomial"), (xO, .object "Polyforge$Ideal"), (xC, .char), (xI, .int), (mI, .int), (mT, .object "PolyforgeModel$Terms"), (mI2, .int), (mC, .char), (mI3, .int), (oL, .long)] s) (hP : va_P D pv_cl [(x0, .inr (0, [.ref (xq 0), .int 0, .int 108, .ref (xq 1), .int 0, .ref (xq 2), .int 0, .ref (xq 3), .ref (xq 4), .int 1, .ref (xq 5), .ref (xq 6), .ref (xq 7), .ref (xq 8), .ref (xq 9)])), ((xq 6), .inr (2, [.ref (xw 0), .ref (xw 1), .ref (xw 2), .ref (xw 3), .int 0, .int 0])), ((xw 2), .inl (xJ, 64, .inr (.inl (fun _ => 0)))), ((xq 0), .inl (xP, 60, .inr (.inr (.inr (.inr (fun _ => none)))))), ((xq 1), .inl (xO, 5, .inr (.inr (.inr (.inr (fun _ => none)))))), ((xq 3), .inl (xC, 3, .inl xsg)), ((xq 4), .inl (xI, 3, .inl xsf)), (m0, .inr (1, pv_m 0 mq)), ((mq 0), .inl (mI, 60, .inl (fun _ => 0))), ((mq 1), .inl (mT, 60, .inr (.inr (.inr (.inr (fun _ => none)))))), ((mq 2), .inl (mI2, 5, .inl (fun _ => 0))), ((mq 9), .inl (mC, 3, .inl msg)), ((mq 10), .inl (mI3, 3, .inl msf)), (o0, .inl (oL, 1, .inr (.inl (fun _ => 0))))] H) (hD : va_D A [(x0, .inr (0, [.ref (xq 0), .int 0, .int 108, .ref (xq 1), .int 0, .ref (xq 2), .int 0, .ref (xq 3), .ref (xq 4), .int 1, .ref (xq 5), .ref (xq 6), .ref (xq 7), .ref (xq 8), .ref (xq 9)])), ((xq 6), .inr (2, [.ref (xw 0), .ref (xw 1), .ref (xw 2), .ref (xw 3), .int 0, .int 0])), ((xw 2), .inl (xJ, 64, .inr (.inl (fun _ => 0)))), ((xq 0), .inl (xP, 60, .inr (.inr (.inr (.inr (fun _ => none)))))), ((xq 1), .inl (xO, 5, .inr (.inr (.inr (.inr (fun _ => none)))))), ((xq 3), .inl (xC, 3, .inl xsg)), ((xq 4), .inl (xI, 3, .inl xsf)), (m0, .inr (1, pv_m 0 mq)), ((mq 0), .inl (mI, 60, .inl (fun _ => 0))), ((mq 1), .inl (mT, 60, .inr (.inr (.inr (.inr (fun _ => none)))))), ((mq 2), .inl (mI2, 5, .inl (fun _ => 0))), ((mq 9), .inl (mC, 3, .inl msg)), ((mq 10), .inl (mI3, 3, .inl msf)), (o0, .inl (oL, 1, .inr (.inl (fun _ => 0))))]) (hS : va_S A s.heap H locs) {ls : Array Slot} (hl : lv_has ls 9 [(0, .ref b), (1, .ref x0), (2, .ref m0), (3, .ref o0), (4, .ref d0), (5, .int 0)]) : W p l e room_1 s m #[Value.ref b] below meth c H locs 397 653821 (lw_Z below #[Value.ref b] s) (F0 m 2932 ls []) := by
  obtain ⟨hx, hb, hr, hml, hown, hts0, hX, hbl, hlocks, hgv⟩ := C0
  have hts : ∀ w ∈ pv_W, w.before #[Value.ref b] s = true := fun w h => hts0 w (List.mem_filter.mp h).1
  have hg := fun {w : Cond} (h : w ∈ lw_tbl) (g : goodWord w = true) => hts w (pv_in h g)
  have hP : va_P D pv_cl [(x0, .inr (0, [.ref (xq 0), .int 0, .int 108, .ref (xq 1), .int 0, .ref (xq 2), .int 0, .ref (xq 3), .ref (xq 4), .int 1, .ref (xq 5), .ref (xq 6), .ref (xq 7), .ref (xq 8), .ref (xq 9)])), (m0, .inr (1, pv_m 0 mq))] _ := hP.sub [0, 7] rfl
  have hD : va_D A [(x0, .inr (0, [.ref (xq 0), .int 0, .int 108, .ref (xq 1), .int 0, .ref (xq 2), .int 0, .ref (xq 3), .ref (xq 4), .int 1, .ref (xq 5), .ref (xq 6), .ref (xq 7), .ref (xq 8), .ref (xq 9)])), (m0, .inr (1, pv_m 0 mq))] := hD.sub [0, 7] (by decide) rfl
  have hK : va_K D pv_cl [] s := hK.sub [] rfl
  refine lv_aload_n hx hb dL_law_2932 rfl (lv_at hl 1 rfl) ?_
  refine lv_aload_n hx hb dL_law_2933 rfl (lv_at hl 0 rfl) ?_
  refine lv_iload hx hb dL_law_2934 (lv_at hl 5 rfl) ?_
  refine lv_iconst (v := 1) hx hb dL_law_2936 (by decide) ?_
  refine lv_iadd hx hb dL_law_2937 ?_
  refine pv_setI 1 (by decide) ?_
  refine va_sld hx hb hX hbl hbA hS (by unfold vp_in; decide) dL_law_2938 ?_
  refine pv_setI (xs 1) rfl ?_
  refine lv_aload_n hx hb dL_law_2939 rfl (lv_at hl 0 rfl) ?_
  refine lv_iload hx hb dL_law_2940 (lv_at hl 5 rfl) ?_
  refine lv_iconst (v := 2) hx hb dL_law_2942 (by decide) ?_
  refine lv_iadd hx hb dL_law_2943 ?_
  refine pv_setI 2 (by decide) ?_
  refine va_sld hx hb hX hbl hbA hS (by unfold vp_in; decide) dL_law_2944 ?_
  refine pv_setI (xs 2) rfl ?_
  refine pv_pc 2945 rfl ?_
  refine lv_aload_n hx hb dL_law_2945 rfl (lv_at hl 3 rfl) ?_
  have hF := pv_new hA hS.1
  refine va_calli (vx_runSW (As := [.ref x0, .int (xs 1), .int (xs 2), .ref o0]) (rest := []) ⟨hx, hb, hml, hown, hts⟩ (c_L_normalForm l hfl D _ x0 xq (xs 1) (xs 2) o0) (vx_cwSW 4 hts (pv_gSW w8_3 w8_4 w1_0 w8_5) rfl rfl rfl (by decide +kernel) ⟨Nat.le_of_ble_eq_true rfl, Nat.le_of_ble_eq_true rfl⟩) (pv_ps hE hS hF (hP.sub [0] rfl) (hK.sub [] rfl) (hD.sub [0] (by decide) rfl)) rfl rfl hl.1 rfl (lv_room (Nat.le_of_ble_eq_true rfl)) dL_law_2946 ⟨Nat.le_of_ble_eq_true rfl, Nat.le_of_ble_eq_true rfl⟩) hS (fun q _ h => hF q h) hF (fun r_0 u t H1 locs1 ht hvm hw hB hz1 hk1 hS => ?_)
  refine W.widen (k := 398) (n := 653827) (Nat.le_of_ble_eq_true rfl) (Nat.le_of_ble_eq_true rfl) ?_
  have hP := pv_keep hP rfl hk1
  subst hw
  refine lv_istore (lv' := [(6, .int 1), (0, .ref b), (1, .ref x0), (2, .ref m0), (3, .ref o0), (4, .ref d0), (5, .int 0)]) hx hb dL_law_2949 hl (by decide) rfl (fun ls hl => ?_)
  refine lv_aload_n hx hb dL_law_2951 rfl (lv_at hl 3 rfl) ?_
  refine lv_aload_n hx hb dL_law_2952 rfl (lv_at hl 1 rfl) ?_
  refine lv_iload hx hb dL_law_2953 (lv_at hl 6 rfl) ?_
  refine lv_iconst (v := 1) hx hb dL_law_2955 (by decide) ?_
  refine lv_iadd hx hb dL_law_2956 ?_
  refine pv_setI 1 (by decide) ?_
  refine va_sld hx hb hX hbl hbA hS (by unfold vp_in; decide) dL_law_2957 ?_
  refine pv_setI (xs 1) rfl ?_
  refine lv_aload_n hx hb dL_law_2958 rfl (lv_at hl 1 rfl) ?_
  refine lv_iload hx hb dL_law_2959 (lv_at hl 6 rfl) ?_
  refine lv_iconst (v := 2) hx hb dL_law_2961 (by decide) ?_
  refine pv_pc 2962 rfl ?_
  refine lv_iadd hx hb dL_law_2962 ?_
  refine pv_setI 2 (by decide) ?_
  refine va_sld hx hb hX hbl hbA hS (by unfold vp_in; decide) dL_law_2963 ?_
  refine pv_setI (xs 2) rfl ?_
  have hF := va_free (wc := [(m0, .inr (1, pv_m 0 mq))]) hD hS hA [1] rfl
  refine va_calli (va_runV (As := [.int (xs 1), .int (xs 2)]) (rest := []) ⟨hx, hb, hml, hown, hts⟩ (c_X13_normalForm l hfl D _ m0 mq (xs 1) (xs 2)) (cwV 2 hts (pv_gV w11_35 w11_36 w11_37 w1_10 w11_38) rfl rfl rfl (by decide +kernel) ⟨Nat.le_of_ble_eq_true rfl, Nat.le_of_ble_eq_true rfl⟩) (pv_pV hE hS hF (hP.sub [1] rfl) (hK.sub [] rfl) (hD.sub [1] (by decide) rfl) (va_recv (ci := 1) (q0 := 1) hK hP rfl rfl)) rfl rfl hl.1 rfl (lv_room (Nat.le_of_ble_eq_true rfl)) dL_law_2964 ⟨Nat.le_of_ble_eq_true rfl, Nat.le_of_ble_eq_true rfl⟩) hS (fun q _ h => hF q h) hF (fun r_1 u t H1 locs1 ht hvm hw hB hz1 hk1 hS => ?_)
  refine W.widen (k := 398) (n := 653827) (Nat.le_of_ble_eq_true rfl) (Nat.le_of_ble_eq_true rfl) ?_
  subst hw
  obtain ⟨fs_3, hf_4, hP1, hK1, hD1⟩ := hB
  rw [ht] at hP1
  have hK1 := va_K.moved hvm.symm hK1
  obtain ⟨hP, hD⟩ := va_join (wr := [(x0, .inr (0, [.ref (xq 0), .int 0, .int 108, .ref (xq 1), .int 0, .ref (xq 2), .int 0, .ref (xq 3), .ref (xq 4), .int 1, .ref (xq 5), .ref (xq 6), .ref (xq 7), .ref (xq 8), .ref (xq 9)]))]) (w1 := [(m0, .inr (1, fs_3))]) hP hD [1] [0] rfl rfl (by decide) (by decide) hk1 hF hP1 hD1
  have hP : va_P D pv_cl [(x0, .inr (0, [.ref (xq 0), .int 0, .int 108, .ref (xq 1), .int 0, .ref (xq 2), .int 0, .ref (xq 3), .ref (xq 4), .int 1, .ref (xq 5), .ref (xq 6), .ref (xq 7), .ref (xq 8), .ref (xq 9)])), (m0, .inr (1, fs_3))] _ := hP
  have hD : va_D A [(x0, .inr (0, [.ref (xq 0), .int 0, .int 108, .ref (xq 1), .int 0, .ref (xq 2), .int 0, .ref (xq 3), .ref (xq 4), .int 1, .ref (xq 5), .ref (xq 6), .ref (xq 7), .ref (xq 8), .ref (xq 9)])), (m0, .inr (1, fs_3))] := hD
  refine lv_istore (lv' := [(7, .int r_1), (6, .int 1), (0, .ref b), (1, .ref x0), (2, .ref m0), (3, .ref o0), (4, .ref d0), (5, .int 0)]) hx hb dL_law_2967 hl (by decide) rfl (fun ls hl => ?_)
  refine lv_aload_n hx hb dL_law_2969 rfl (lv_at hl 4 rfl) ?_
  have hF := pv_new hA hS.1
  refine va_calli (va_runV (As := []) (rest := []) ⟨hx, hb, hml, hown, hts⟩ (c_X13_thrown l hfl D _ m0 fs_3 1 hf_4) (cwV 0 hts (pv_gV w9_102 w9_103 w9_104 w1_10 w9_105) rfl rfl rfl (by decide +kernel) ⟨Nat.le_of_ble_eq_true rfl, Nat.le_of_ble_eq_true rfl⟩) (pv_pV hE hS hF (hP.sub [1] rfl) (hK.sub [] rfl) (hD.sub [1] (by decide) rfl) (va_recv (ci := 1) (q0 := 1) hK hP rfl rfl)) rfl rfl hl.1 rfl (lv_room (Nat.le_of_ble_eq_true rfl)) dL_law_2970 ⟨Nat.le_of_ble_eq_true rfl, Nat.le_of_ble_eq_true rfl⟩) hS (fun q _ h => hF q h) hF (fun r_4 u t H1 locs1 ht hvm hw hB hz1 hk1 hS => ?_)
  refine W.widen (k := 398) (n := 653827) (Nat.le_of_ble_eq_true rfl) (Nat.le_of_ble_eq_true rfl) ?_
  have hP := pv_keep hP rfl hk1
  subst hw
  refine lv_iload hx hb dL_law_2973 (lv_at hl 1 rfl) ?_
  refine lv_icmp_eq (tgt := 2980) hx hb dL_law_2975 (by decide) (fun _ => ?_) (fun c_6 => absurd (by decide) c_6)
  refine lv_iload hx hb dL_law_2980 (lv_at hl 1 rfl) ?_
  refine lv_if_ne (tgt := 2997) hx hb dL_law_2982 (by decide) (fun _ => ?_) (fun c_7 => absurd c_7 (by decide))
  refine lv_goto (tgt := 3721) hx hb dL_law_2997 (by decide) ?_
  refine lv_iinc (v := 7) (lv' := [(5, .int 7), (7, .int r_1), (6, .int 1), (0, .ref b), (1, .ref x0), (2, .ref m0), (3, .ref o0), (4, .ref d0)]) hx hb dL_law_3721 hl (k := 7) rfl (by decide) (by decide) rfl (fun ls hl => ?_)
  refine pv_pc 3724 rfl ?_
  refine lv_goto (tgt := 28) hx hb dL_law_3724 (by decide) ?_
  refine lv_iload hx hb dL_law_28 (lv_at hl 0 rfl) ?_
  refine lv_aload_n hx hb dL_law_30 rfl (lv_at hl 3 rfl) ?_
  refine va_slen hx hb hX hbl hbA hS dL_law_31 ?_
  refine pv_setI 7 rfl ?_
  refine lv_bipush (v := 7) hx hb dL_law_32 (by decide) ?_
  refine lv_isub hx hb dL_law_34 ?_
  refine pv_setI 0 (by decide) ?_
  refine lv_icmp_gt (tgt := 3727) hx hb dL_law_35 (by decide) (fun _ => ?_) (fun c_8 => absurd (by decide) c_8)
  refine lv_iconst (v := 1) hx hb dL_law_3727 (by decide) ?_
  refine va_forget (fun q hq => hAf _ (hS.2.2 q hq)) ?_
  refine W.widen (k := 600006) (n := 7302064) (Nat.le_of_ble_eq_true rfl) (Nat.le_of_ble_eq_true rfl) ?_
  exact lw_ret (d0 := s.drawn) (Drawn.sameBut.refl s.drawn lw_cs) hx hb hr hlocks dL_law_3728

theorem dL_law_3000 : decode cL_law 3000 = .ok (.aload_n 1, 1) := by decide +kernel
theorem dL_law_3001 : decode cL_law 3001 = .ok (.aload_n 0, 1) := by decide +kernel
theorem dL_law_3002 : decode cL_law 3002 = .ok (.iload 5, 2) := by decide +kernel
theorem dL_law_3004 : decode cL_law 3004 = .ok (.iconst 1, 1) := by decide +kernel
theorem dL_law_3005 : decode cL_law 3005 = .ok (.iadd, 1) := by decide +kernel
theorem dL_law_3006 : decode cL_law 3006 = .ok (.iaload, 1) := by decide +kernel
theorem dL_law_3007 : decode cL_law 3007 = .ok (.aload_n 0, 1) := by decide +kernel
theorem dL_law_3008 : decode cL_law 3008 = .ok (.iload 5, 2) := by decide +kernel
theorem dL_law_3010 : decode cL_law 3010 = .ok (.iconst 2, 1) := by decide +kernel
theorem dL_law_3011 : decode cL_law 3011 = .ok (.iadd, 1) := by decide +kernel
theorem dL_law_3012 : decode cL_law 3012 = .ok (.iaload, 1) := by decide +kernel
theorem dL_law_3013 : decode cL_law 3013 = .ok (.aload_n 3, 1) := by decide +kernel
theorem dL_law_3014 : decode cL_law 3014 = .ok (.invokestatic 327, 3) := by decide +kernel
theorem w8_22 : (Jvm.Cond.methodLink "PolyforgeLaw" (327 : Nat) ({ cls := "PolyforgeLaw", name := "isIn", desc := "(LPolyforge;II[J)I" } : Jvm.MethodName)) ∈ lw_tbl := pv_t8 (pv_mg 22 rfl)
theorem w8_24 : (Jvm.Cond.codeWith ({ cls := "PolyforgeLaw", name := "isIn", desc := "(LPolyforge;II[J)I" } : Jvm.MethodName) method_43_code (5 : Nat) (Option.some Jvm.ClassFile.FieldType.int) [((0 : Nat), (17 : Nat), (20 : Nat), (55 : Nat)), ((0 : Nat), (17 : Nat), (24 : Nat), (23 : Nat)), ((0 : Nat), (17 : Nat), (28 : Nat), (25 : Nat))]) ∈ lw_tbl := pv_t8 (pv_mg 24 rfl)
theorem w8_23 : (Jvm.Cond.static ({ cls := "PolyforgeLaw", name := "isIn", desc := "(LPolyforge;II[J)I" } : Jvm.MethodName)) ∈ lw_tbl := pv_t8 (pv_mg 23 rfl)
theorem dL_law_3017 : decode cL_law 3017 = .ok (.istore 6, 2) := by decide +kernel
theorem dL_law_3019 : decode cL_law 3019 = .ok (.aload_n 2, 1) := by decide +kernel
theorem dL_law_3020 : decode cL_law 3020 = .ok (.aload_n 0, 1) := by decide +kernel
theorem dL_law_3021 : decode cL_law 3021 = .ok (.iload 5, 2) := by decide +kernel
theorem dL_law_3023 : decode cL_law 3023 = .ok (.iconst 1, 1) := by decide +kernel
theorem dL_law_3024 : decode cL_law 3024 = .ok (.iadd, 1) := by decide +kernel
theorem dL_law_3025 : decode cL_law 3025 = .ok (.iaload, 1) := by decide +kernel
theorem dL_law_3026 : decode cL_law 3026 = .ok (.aload_n 0, 1) := by decide +kernel
theorem dL_law_3027 : decode cL_law 3027 = .ok (.iload 5, 2) := by decide +kernel
theorem dL_law_3029 : decode cL_law 3029 = .ok (.iconst 2, 1) := by decide +kernel
theorem dL_law_3030 : decode cL_law 3030 = .ok (.iadd, 1) := by decide +kernel
theorem dL_law_3031 : decode cL_law 3031 = .ok (.iaload, 1) := by decide +kernel
theorem dL_law_3032 : decode cL_law 3032 = .ok (.invokevirtual 329, 3) := by decide +kernel
theorem w11_51 : (Jvm.Cond.methodLink "PolyforgeLaw" (329 : Nat) ({ cls := "PolyforgeModel", name := "isIn", desc := "(II)Z" } : Jvm.MethodName)) ∈ lw_tbl := pv_t11 (pv_mg 51 rfl)
theorem w11_54 : (Jvm.Cond.code ({ cls := "PolyforgeModel", name := "isIn", desc := "(II)Z" } : Jvm.MethodName) prog_14_method_108_code (3 : Nat) (Option.some Jvm.ClassFile.FieldType.boolean)) ∈ lw_tbl := pv_t11 (pv_mg 54 rfl)
theorem w11_53 : (Jvm.Cond.selects "PolyforgeModel" ({ cls := "PolyforgeModel", name := "isIn", desc := "(II)Z" } : Jvm.MethodName) ({ cls := "PolyforgeModel", name := "isIn", desc := "(II)Z" } : Jvm.MethodName)) ∈ lw_tbl := pv_t11 (pv_mg 53 rfl)
theorem w11_52 : (Jvm.Cond.instanceMethod ({ cls := "PolyforgeModel", name := "isIn", desc := "(II)Z" } : Jvm.MethodName)) ∈ lw_tbl := pv_t11 (pv_mg 52 rfl)
theorem dL_law_3035 : decode cL_law 3035 = .ok (.istore 7, 2) := by decide +kernel
theorem dL_law_3037 : decode cL_law 3037 = .ok (.aload_n 2, 1) := by decide +kernel
theorem dL_law_3038 : decode cL_law 3038 = .ok (.invokevirtual 199, 3) := by decide +kernel
theorem dL_law_3041 : decode cL_law 3041 = .ok (.iload 6, 2) := by decide +kernel
theorem dL_law_3043 : decode cL_law 3043 = .ok (.if_icmp .eq 5, 3) := by decide +kernel
theorem dL_law_3048 : decode cL_law 3048 = .ok (.iload 6, 2) := by decide +kernel
theorem dL_law_3050 : decode cL_law 3050 = .ok (.ifCond .ne 22, 3) := by decide +kernel
theorem dL_law_3072 : decode cL_law 3072 = .ok (.goto 649, 3) := by decide +kernel
set_option maxHeartbeats 4000000 in
set_option maxRecDepth 100000 in
/-- the law, call 41: isIn -/
theorem law_case_41 {p : Program} {e : Env} {s : State} {m : MethodId} {below : List Frame} {meth : Method} {c : Code} (l : Launch) (hfl : l.stackTraces = false) {b : Nat} {xs : Nat → Int32} (C0 : lw_At p s m meth c b 7 xs) {D : va_G} {A : Nat → Prop} (hA : ∀ q : Nat, s.heap.size ≤ q → A q) (hAf : ∀ q : Nat, A q → s.heap.size ≤ q) (hbA : ¬ A b) (hE : pv_E A s s.heap) {x0 m0 o0 d0 : Nat} {xq xw mq : Nat → Nat} {xJ xP xO xC xI mI mI2 mI3 mT mC oL : ClassId} {xsg xsf msg msf : Nat → Int32} (hxsg : ∀ j, j < 3 → xsg j = 63) (hmsg : ∀ j, j < 3 → msg j = 63) {H : Heap} {locs : List Loc} (hK : va_K D pv_cl [(xJ, .long), (xP, .object "Polyforge$Polynomial"), (xO, .object "Polyforge$Ideal"), (xC, .char), (xI, .int), (mI, .int), (mT, .object "PolyforgeModel$Terms"), (mI2, .int), (mC, .char), (mI3, .int), (oL, .long)] s) (hP : va_P D pv_cl [(x0, .inr (0, [.ref (xq 0), .int 0, .int 108, .ref (xq 1), .int 0, .ref (xq 2), .int 0, .ref (xq 3), .ref (xq 4), .int 1, .ref (xq 5), .ref (xq 6), .ref (xq 7), .ref (xq 8), .ref (xq 9)])), ((xq 6), .inr (2, [.ref (xw 0), .ref (xw 1), .ref (xw 2), .ref (xw 3), .int 0, .int 0])), ((xw 2), .inl (xJ, 64, .inr (.inl (fun _ => 0)))), ((xq 0), .inl (xP, 60, .inr (.inr (.inr (.inr (fun _ => none)))))), ((xq 1), .inl (xO, 5, .inr (.inr (.inr (.inr (fun _ => none)))))), ((xq 3), .inl (xC, 3, .inl xsg)), ((xq 4), .inl (xI, 3, .inl xsf)), (m0, .inr (1, pv_m 0 mq)), ((mq 0), .inl (mI, 60, .inl (fun _ => 0))), ((mq 1), .inl (mT, 60, .inr (.inr (.inr (.inr (fun _ => none)))))), ((mq 2), .inl (mI2, 5, .inl (fun _ => 0))), ((mq 9), .inl (mC, 3, .inl msg)), ((mq 10), .inl (mI3, 3, .inl msf)), (o0, .inl (oL, 1, .inr (.inl (fun _ => 0))))] H) (hD : va_D A [(x0, .inr (0, [.ref (xq 0), .int 0, .int 108, .ref (xq 1), .int 0, .ref (xq 2), .int 0, .ref (xq 3), .ref (xq 4), .int 1, .ref (xq 5), .ref (xq 6), .ref (xq 7), .ref (xq 8), .ref (xq 9)])), ((xq 6), .inr (2, [.ref (xw 0), .ref (xw 1), .ref (xw 2), .ref (xw 3), .int 0, .int 0])), ((xw 2), .inl (xJ, 64, .inr (.inl (fun _ => 0)))), ((xq 0), .inl (xP, 60, .inr (.inr (.inr (.inr (fun _ => none)))))), ((xq 1), .inl (xO, 5, .inr (.inr (.inr (.inr (fun _ => none)))))), ((xq 3), .inl (xC, 3, .inl xsg)), ((xq 4), .inl (xI, 3, .inl xsf)), (m0, .inr (1, pv_m 0 mq)), ((mq 0), .inl (mI, 60, .inl (fun _ => 0))), ((mq 1), .inl (mT, 60, .inr (.inr (.inr (.inr (fun _ => none)))))), ((mq 2), .inl (mI2, 5, .inl (fun _ => 0))), ((mq 9), .inl (mC, 3, .inl msg)), ((mq 10), .inl (mI3, 3, .inl msf)), (o0, .inl (oL, 1, .inr (.inl (fun _ => 0))))]) (hS : va_S A s.heap H locs) {ls : Array Slot} (hl : lv_has ls 9 [(0, .ref b), (1, .ref x0), (2, .ref m0), (3, .ref o0), (4, .ref d0), (5, .int 0)]) : W p l e room_1 s m #[Value.ref b] below meth c H locs 397 653821 (lw_Z below #[Value.ref b] s) (F0 m 3000 ls []) := by
  obtain ⟨hx, hb, hr, hml, hown, hts0, hX, hbl, hlocks, hgv⟩ := C0
  have hts : ∀ w ∈ pv_W, w.before #[Value.ref b] s = true := fun w h => hts0 w (List.mem_filter.mp h).1
  have hg := fun {w : Cond} (h : w ∈ lw_tbl) (g : goodWord w = true) => hts w (pv_in h g)
  have hP : va_P D pv_cl [(x0, .inr (0, [.ref (xq 0), .int 0, .int 108, .ref (xq 1), .int 0, .ref (xq 2), .int 0, .ref (xq 3), .ref (xq 4), .int 1, .ref (xq 5), .ref (xq 6), .ref (xq 7), .ref (xq 8), .ref (xq 9)])), (m0, .inr (1, pv_m 0 mq))] _ := hP.sub [0, 7] rfl
  have hD : va_D A [(x0, .inr (0, [.ref (xq 0), .int 0, .int 108, .ref (xq 1), .int 0, .ref (xq 2), .int 0, .ref (xq 3), .ref (xq 4), .int 1, .ref (xq 5), .ref (xq 6), .ref (xq 7), .ref (xq 8), .ref (xq 9)])), (m0, .inr (1, pv_m 0 mq))] := hD.sub [0, 7] (by decide) rfl
  have hK : va_K D pv_cl [] s := hK.sub [] rfl
  refine lv_aload_n hx hb dL_law_3000 rfl (lv_at hl 1 rfl) ?_
  refine lv_aload_n hx hb dL_law_3001 rfl (lv_at hl 0 rfl) ?_
  refine lv_iload hx hb dL_law_3002 (lv_at hl 5 rfl) ?_
  refine lv_iconst (v := 1) hx hb dL_law_3004 (by decide) ?_
  refine lv_iadd hx hb dL_law_3005 ?_
  refine pv_setI 1 (by decide) ?_
  refine va_sld hx hb hX hbl hbA hS (by unfold vp_in; decide) dL_law_3006 ?_
  refine pv_setI (xs 1) rfl ?_
  refine lv_aload_n hx hb dL_law_3007 rfl (lv_at hl 0 rfl) ?_
  refine lv_iload hx hb dL_law_3008 (lv_at hl 5 rfl) ?_
  refine lv_iconst (v := 2) hx hb dL_law_3010 (by decide) ?_
  refine lv_iadd hx hb dL_law_3011 ?_
  refine pv_setI 2 (by decide) ?_
  refine va_sld hx hb hX hbl hbA hS (by unfold vp_in; decide) dL_law_3012 ?_
  refine pv_setI (xs 2) rfl ?_
  refine pv_pc 3013 rfl ?_
  refine lv_aload_n hx hb dL_law_3013 rfl (lv_at hl 3 rfl) ?_
  have hF := pv_new hA hS.1
  refine va_calli (vx_runSW (As := [.ref x0, .int (xs 1), .int (xs 2), .ref o0]) (rest := []) ⟨hx, hb, hml, hown, hts⟩ (c_L_isIn l hfl D _ x0 xq (xs 1) (xs 2) o0) (vx_cwSW 4 hts (pv_gSW w8_22 w8_23 w1_0 w8_24) rfl rfl rfl (by decide +kernel) ⟨Nat.le_of_ble_eq_true rfl, Nat.le_of_ble_eq_true rfl⟩) (pv_ps hE hS hF (hP.sub [0] rfl) (hK.sub [] rfl) (hD.sub [0] (by decide) rfl)) rfl rfl hl.1 rfl (lv_room (Nat.le_of_ble_eq_true rfl)) dL_law_3014 ⟨Nat.le_of_ble_eq_true rfl, Nat.le_of_ble_eq_true rfl⟩) hS (fun q _ h => hF q h) hF (fun r_0 u t H1 locs1 ht hvm hw hB hz1 hk1 hS => ?_)
  refine W.widen (k := 398) (n := 653827) (Nat.le_of_ble_eq_true rfl) (Nat.le_of_ble_eq_true rfl) ?_
  have hP := pv_keep hP rfl hk1
  subst hw
  refine lv_istore (lv' := [(6, .int 1), (0, .ref b), (1, .ref x0), (2, .ref m0), (3, .ref o0), (4, .ref d0), (5, .int 0)]) hx hb dL_law_3017 hl (by decide) rfl (fun ls hl => ?_)
  refine lv_aload_n hx hb dL_law_3019 rfl (lv_at hl 3 rfl) ?_
  refine lv_aload_n hx hb dL_law_3020 rfl (lv_at hl 1 rfl) ?_
  refine lv_iload hx hb dL_law_3021 (lv_at hl 6 rfl) ?_
  refine lv_iconst (v := 1) hx hb dL_law_3023 (by decide) ?_
  refine lv_iadd hx hb dL_law_3024 ?_
  refine pv_setI 1 (by decide) ?_
  refine va_sld hx hb hX hbl hbA hS (by unfold vp_in; decide) dL_law_3025 ?_
  refine pv_setI (xs 1) rfl ?_
  refine lv_aload_n hx hb dL_law_3026 rfl (lv_at hl 1 rfl) ?_
  refine lv_iload hx hb dL_law_3027 (lv_at hl 6 rfl) ?_
  refine lv_iconst (v := 2) hx hb dL_law_3029 (by decide) ?_
  refine pv_pc 3030 rfl ?_
  refine lv_iadd hx hb dL_law_3030 ?_
  refine pv_setI 2 (by decide) ?_
  refine va_sld hx hb hX hbl hbA hS (by unfold vp_in; decide) dL_law_3031 ?_
  refine pv_setI (xs 2) rfl ?_
  have hF := va_free (wc := [(m0, .inr (1, pv_m 0 mq))]) hD hS hA [1] rfl
  refine va_calli (va_runV (As := [.int (xs 1), .int (xs 2)]) (rest := []) ⟨hx, hb, hml, hown, hts⟩ (c_X13_isIn l hfl D _ m0 mq (xs 1) (xs 2)) (cwV 2 hts (pv_gV w11_51 w11_52 w11_53 w1_10 w11_54) rfl rfl rfl (by decide +kernel) ⟨Nat.le_of_ble_eq_true rfl, Nat.le_of_ble_eq_true rfl⟩) (pv_pV hE hS hF (hP.sub [1] rfl) (hK.sub [] rfl) (hD.sub [1] (by decide) rfl) (va_recv (ci := 1) (q0 := 1) hK hP rfl rfl)) rfl rfl hl.1 rfl (lv_room (Nat.le_of_ble_eq_true rfl)) dL_law_3032 ⟨Nat.le_of_ble_eq_true rfl, Nat.le_of_ble_eq_true rfl⟩) hS (fun q _ h => hF q h) hF (fun r_1 u t H1 locs1 ht hvm hw hB hz1 hk1 hS => ?_)
  refine W.widen (k := 398) (n := 653827) (Nat.le_of_ble_eq_true rfl) (Nat.le_of_ble_eq_true rfl) ?_
  subst hw
  obtain ⟨fs_3, hf_4, hP1, hK1, hD1⟩ := hB
  rw [ht] at hP1
  have hK1 := va_K.moved hvm.symm hK1
  obtain ⟨hP, hD⟩ := va_join (wr := [(x0, .inr (0, [.ref (xq 0), .int 0, .int 108, .ref (xq 1), .int 0, .ref (xq 2), .int 0, .ref (xq 3), .ref (xq 4), .int 1, .ref (xq 5), .ref (xq 6), .ref (xq 7), .ref (xq 8), .ref (xq 9)]))]) (w1 := [(m0, .inr (1, fs_3))]) hP hD [1] [0] rfl rfl (by decide) (by decide) hk1 hF hP1 hD1
  have hP : va_P D pv_cl [(x0, .inr (0, [.ref (xq 0), .int 0, .int 108, .ref (xq 1), .int 0, .ref (xq 2), .int 0, .ref (xq 3), .ref (xq 4), .int 1, .ref (xq 5), .ref (xq 6), .ref (xq 7), .ref (xq 8), .ref (xq 9)])), (m0, .inr (1, fs_3))] _ := hP
  have hD : va_D A [(x0, .inr (0, [.ref (xq 0), .int 0, .int 108, .ref (xq 1), .int 0, .ref (xq 2), .int 0, .ref (xq 3), .ref (xq 4), .int 1, .ref (xq 5), .ref (xq 6), .ref (xq 7), .ref (xq 8), .ref (xq 9)])), (m0, .inr (1, fs_3))] := hD
  refine lv_istore (lv' := [(7, .int r_1), (6, .int 1), (0, .ref b), (1, .ref x0), (2, .ref m0), (3, .ref o0), (4, .ref d0), (5, .int 0)]) hx hb dL_law_3035 hl (by decide) rfl (fun ls hl => ?_)
  refine lv_aload_n hx hb dL_law_3037 rfl (lv_at hl 4 rfl) ?_
  have hF := pv_new hA hS.1
  refine va_calli (va_runV (As := []) (rest := []) ⟨hx, hb, hml, hown, hts⟩ (c_X13_thrown l hfl D _ m0 fs_3 1 hf_4) (cwV 0 hts (pv_gV w9_102 w9_103 w9_104 w1_10 w9_105) rfl rfl rfl (by decide +kernel) ⟨Nat.le_of_ble_eq_true rfl, Nat.le_of_ble_eq_true rfl⟩) (pv_pV hE hS hF (hP.sub [1] rfl) (hK.sub [] rfl) (hD.sub [1] (by decide) rfl) (va_recv (ci := 1) (q0 := 1) hK hP rfl rfl)) rfl rfl hl.1 rfl (lv_room (Nat.le_of_ble_eq_true rfl)) dL_law_3038 ⟨Nat.le_of_ble_eq_true rfl, Nat.le_of_ble_eq_true rfl⟩) hS (fun q _ h => hF q h) hF (fun r_4 u t H1 locs1 ht hvm hw hB hz1 hk1 hS => ?_)
  refine W.widen (k := 398) (n := 653827) (Nat.le_of_ble_eq_true rfl) (Nat.le_of_ble_eq_true rfl) ?_
  have hP := pv_keep hP rfl hk1
  subst hw
  refine lv_iload hx hb dL_law_3041 (lv_at hl 1 rfl) ?_
  refine lv_icmp_eq (tgt := 3048) hx hb dL_law_3043 (by decide) (fun _ => ?_) (fun c_6 => absurd (by decide) c_6)
  refine lv_iload hx hb dL_law_3048 (lv_at hl 1 rfl) ?_
  refine lv_if_ne (tgt := 3072) hx hb dL_law_3050 (by decide) (fun _ => ?_) (fun c_7 => absurd c_7 (by decide))
  refine lv_goto (tgt := 3721) hx hb dL_law_3072 (by decide) ?_
  refine lv_iinc (v := 7) (lv' := [(5, .int 7), (7, .int r_1), (6, .int 1), (0, .ref b), (1, .ref x0), (2, .ref m0), (3, .ref o0), (4, .ref d0)]) hx hb dL_law_3721 hl (k := 7) rfl (by decide) (by decide) rfl (fun ls hl => ?_)
  refine pv_pc 3724 rfl ?_
  refine lv_goto (tgt := 28) hx hb dL_law_3724 (by decide) ?_
  refine lv_iload hx hb dL_law_28 (lv_at hl 0 rfl) ?_
  refine lv_aload_n hx hb dL_law_30 rfl (lv_at hl 3 rfl) ?_
  refine va_slen hx hb hX hbl hbA hS dL_law_31 ?_
  refine pv_setI 7 rfl ?_
  refine lv_bipush (v := 7) hx hb dL_law_32 (by decide) ?_
  refine lv_isub hx hb dL_law_34 ?_
  refine pv_setI 0 (by decide) ?_
  refine lv_icmp_gt (tgt := 3727) hx hb dL_law_35 (by decide) (fun _ => ?_) (fun c_8 => absurd (by decide) c_8)
  refine lv_iconst (v := 1) hx hb dL_law_3727 (by decide) ?_
  refine va_forget (fun q hq => hAf _ (hS.2.2 q hq)) ?_
  refine W.widen (k := 600006) (n := 7302064) (Nat.le_of_ble_eq_true rfl) (Nat.le_of_ble_eq_true rfl) ?_
  exact lw_ret (d0 := s.drawn) (Drawn.sameBut.refl s.drawn lw_cs) hx hb hr hlocks dL_law_3728

theorem dL_law_3075 : decode cL_law 3075 = .ok (.aload_n 1, 1) := by decide +kernel
theorem dL_law_3076 : decode cL_law 3076 = .ok (.aload_n 0, 1) := by decide +kernel
theorem dL_law_3077 : decode cL_law 3077 = .ok (.iload 5, 2) := by decide +kernel
theorem dL_law_3079 : decode cL_law 3079 = .ok (.iconst 1, 1) := by decide +kernel
theorem dL_law_3080 : decode cL_law 3080 = .ok (.iadd, 1) := by decide +kernel
theorem dL_law_3081 : decode cL_law 3081 = .ok (.iaload, 1) := by decide +kernel
theorem dL_law_3082 : decode cL_law 3082 = .ok (.aload_n 3, 1) := by decide +kernel
theorem dL_law_3083 : decode cL_law 3083 = .ok (.invokestatic 330, 3) := by decide +kernel
theorem w8_29 : (Jvm.Cond.methodLink "PolyforgeLaw" (330 : Nat) ({ cls := "PolyforgeLaw", name := "size", desc := "(LPolyforge;I[J)I" } : Jvm.MethodName)) ∈ lw_tbl := pv_t8 (pv_mg 29 rfl)
theorem w8_31 : (Jvm.Cond.codeWith ({ cls := "PolyforgeLaw", name := "size", desc := "(LPolyforge;I[J)I" } : Jvm.MethodName) method_44_code (4 : Nat) (Option.some Jvm.ClassFile.FieldType.int) [((0 : Nat), (9 : Nat), (12 : Nat), (55 : Nat))]) ∈ lw_tbl := pv_t8 (pv_mg 31 rfl)
theorem w8_30 : (Jvm.Cond.static ({ cls := "PolyforgeLaw", name := "size", desc := "(LPolyforge;I[J)I" } : Jvm.MethodName)) ∈ lw_tbl := pv_t8 (pv_mg 30 rfl)
theorem dL_law_3086 : decode cL_law 3086 = .ok (.istore 6, 2) := by decide +kernel
theorem dL_law_3088 : decode cL_law 3088 = .ok (.aload_n 2, 1) := by decide +kernel
theorem dL_law_3089 : decode cL_law 3089 = .ok (.aload_n 0, 1) := by decide +kernel
theorem dL_law_3090 : decode cL_law 3090 = .ok (.iload 5, 2) := by decide +kernel
theorem dL_law_3092 : decode cL_law 3092 = .ok (.iconst 1, 1) := by decide +kernel
theorem dL_law_3093 : decode cL_law 3093 = .ok (.iadd, 1) := by decide +kernel
theorem dL_law_3094 : decode cL_law 3094 = .ok (.iaload, 1) := by decide +kernel
theorem dL_law_3095 : decode cL_law 3095 = .ok (.invokevirtual 332, 3) := by decide +kernel
theorem w11_55 : (Jvm.Cond.methodLink "PolyforgeLaw" (332 : Nat) ({ cls := "PolyforgeModel", name := "size", desc := "(I)I" } : Jvm.MethodName)) ∈ lw_tbl := pv_t11 (pv_mg 55 rfl)
theorem w11_58 : (Jvm.Cond.code ({ cls := "PolyforgeModel", name := "size", desc := "(I)I" } : Jvm.MethodName) prog_14_method_110_code (11 : Nat) (Option.some Jvm.ClassFile.FieldType.int)) ∈ lw_tbl := pv_t11 (pv_mg 58 rfl)
theorem w11_57 : (Jvm.Cond.selects "PolyforgeModel" ({ cls := "PolyforgeModel", name := "size", desc := "(I)I" } : Jvm.MethodName) ({ cls := "PolyforgeModel", name := "size", desc := "(I)I" } : Jvm.MethodName)) ∈ lw_tbl := pv_t11 (pv_mg 57 rfl)
theorem w11_56 : (Jvm.Cond.instanceMethod ({ cls := "PolyforgeModel", name := "size", desc := "(I)I" } : Jvm.MethodName)) ∈ lw_tbl := pv_t11 (pv_mg 56 rfl)
theorem dL_law_3098 : decode cL_law 3098 = .ok (.istore 7, 2) := by decide +kernel
theorem dL_law_3100 : decode cL_law 3100 = .ok (.aload_n 2, 1) := by decide +kernel
theorem dL_law_3101 : decode cL_law 3101 = .ok (.invokevirtual 199, 3) := by decide +kernel
theorem dL_law_3104 : decode cL_law 3104 = .ok (.iload 6, 2) := by decide +kernel
theorem dL_law_3106 : decode cL_law 3106 = .ok (.if_icmp .eq 5, 3) := by decide +kernel
theorem dL_law_3111 : decode cL_law 3111 = .ok (.iload 6, 2) := by decide +kernel
theorem dL_law_3113 : decode cL_law 3113 = .ok (.ifCond .ne 15, 3) := by decide +kernel
theorem dL_law_3128 : decode cL_law 3128 = .ok (.goto 593, 3) := by decide +kernel
set_option maxHeartbeats 4000000 in
set_option maxRecDepth 100000 in
/-- the law, call 42: size -/
theorem law_case_42 {p : Program} {e : Env} {s : State} {m : MethodId} {below : List Frame} {meth : Method} {c : Code} (l : Launch) (hfl : l.stackTraces = false) {b : Nat} {xs : Nat → Int32} (C0 : lw_At p s m meth c b 7 xs) {D : va_G} {A : Nat → Prop} (hA : ∀ q : Nat, s.heap.size ≤ q → A q) (hAf : ∀ q : Nat, A q → s.heap.size ≤ q) (hbA : ¬ A b) (hE : pv_E A s s.heap) {x0 m0 o0 d0 : Nat} {xq xw mq : Nat → Nat} {xJ xP xO xC xI mI mI2 mI3 mT mC oL : ClassId} {xsg xsf msg msf : Nat → Int32} (hxsg : ∀ j, j < 3 → xsg j = 63) (hmsg : ∀ j, j < 3 → msg j = 63) {H : Heap} {locs : List Loc} (hK : va_K D pv_cl [(xJ, .long), (xP, .object "Polyforge$Polynomial"), (xO, .object "Polyforge$Ideal"), (xC, .char), (xI, .int), (mI, .int), (mT, .object "PolyforgeModel$Terms"), (mI2, .int), (mC, .char), (mI3, .int), (oL, .long)] s) (hP : va_P D pv_cl [(x0, .inr (0, [.ref (xq 0), .int 0, .int 108, .ref (xq 1), .int 0, .ref (xq 2), .int 0, .ref (xq 3), .ref (xq 4), .int 1, .ref (xq 5), .ref (xq 6), .ref (xq 7), .ref (xq 8), .ref (xq 9)])), ((xq 6), .inr (2, [.ref (xw 0), .ref (xw 1), .ref (xw 2), .ref (xw 3), .int 0, .int 0])), ((xw 2), .inl (xJ, 64, .inr (.inl (fun _ => 0)))), ((xq 0), .inl (xP, 60, .inr (.inr (.inr (.inr (fun _ => none)))))), ((xq 1), .inl (xO, 5, .inr (.inr (.inr (.inr (fun _ => none)))))), ((xq 3), .inl (xC, 3, .inl xsg)), ((xq 4), .inl (xI, 3, .inl xsf)), (m0, .inr (1, pv_m 0 mq)), ((mq 0), .inl (mI, 60, .inl (fun _ => 0))), ((mq 1), .inl (mT, 60, .inr (.inr (.inr (.inr (fun _ => none)))))), ((mq 2), .inl (mI2, 5, .inl (fun _ => 0))), ((mq 9), .inl (mC, 3, .inl msg)), ((mq 10), .inl (mI3, 3, .inl msf)), (o0, .inl (oL, 1, .inr (.inl (fun _ => 0))))] H) (hD : va_D A [(x0, .inr (0, [.ref (xq 0), .int 0, .int 108, .ref (xq 1), .int 0, .ref (xq 2), .int 0, .ref (xq 3), .ref (xq 4), .int 1, .ref (xq 5), .ref (xq 6), .ref (xq 7), .ref (xq 8), .ref (xq 9)])), ((xq 6), .inr (2, [.ref (xw 0), .ref (xw 1), .ref (xw 2), .ref (xw 3), .int 0, .int 0])), ((xw 2), .inl (xJ, 64, .inr (.inl (fun _ => 0)))), ((xq 0), .inl (xP, 60, .inr (.inr (.inr (.inr (fun _ => none)))))), ((xq 1), .inl (xO, 5, .inr (.inr (.inr (.inr (fun _ => none)))))), ((xq 3), .inl (xC, 3, .inl xsg)), ((xq 4), .inl (xI, 3, .inl xsf)), (m0, .inr (1, pv_m 0 mq)), ((mq 0), .inl (mI, 60, .inl (fun _ => 0))), ((mq 1), .inl (mT, 60, .inr (.inr (.inr (.inr (fun _ => none)))))), ((mq 2), .inl (mI2, 5, .inl (fun _ => 0))), ((mq 9), .inl (mC, 3, .inl msg)), ((mq 10), .inl (mI3, 3, .inl msf)), (o0, .inl (oL, 1, .inr (.inl (fun _ => 0))))]) (hS : va_S A s.heap H locs) {ls : Array Slot} (hl : lv_has ls 9 [(0, .ref b), (1, .ref x0), (2, .ref m0), (3, .ref o0), (4, .ref d0), (5, .int 0)]) : W p l e room_1 s m #[Value.ref b] below meth c H locs 397 653821 (lw_Z below #[Value.ref b] s) (F0 m 3075 ls []) := by
  obtain ⟨hx, hb, hr, hml, hown, hts0, hX, hbl, hlocks, hgv⟩ := C0
  have hts : ∀ w ∈ pv_W, w.before #[Value.ref b] s = true := fun w h => hts0 w (List.mem_filter.mp h).1
  have hg := fun {w : Cond} (h : w ∈ lw_tbl) (g : goodWord w = true) => hts w (pv_in h g)
  have hP : va_P D pv_cl [(x0, .inr (0, [.ref (xq 0), .int 0, .int 108, .ref (xq 1), .int 0, .ref (xq 2), .int 0, .ref (xq 3), .ref (xq 4), .int 1, .ref (xq 5), .ref (xq 6), .ref (xq 7), .ref (xq 8), .ref (xq 9)])), (m0, .inr (1, pv_m 0 mq))] _ := hP.sub [0, 7] rfl
  have hD : va_D A [(x0, .inr (0, [.ref (xq 0), .int 0, .int 108, .ref (xq 1), .int 0, .ref (xq 2), .int 0, .ref (xq 3), .ref (xq 4), .int 1, .ref (xq 5), .ref (xq 6), .ref (xq 7), .ref (xq 8), .ref (xq 9)])), (m0, .inr (1, pv_m 0 mq))] := hD.sub [0, 7] (by decide) rfl
  have hK : va_K D pv_cl [] s := hK.sub [] rfl
  refine lv_aload_n hx hb dL_law_3075 rfl (lv_at hl 1 rfl) ?_
  refine lv_aload_n hx hb dL_law_3076 rfl (lv_at hl 0 rfl) ?_
  refine lv_iload hx hb dL_law_3077 (lv_at hl 5 rfl) ?_
  refine lv_iconst (v := 1) hx hb dL_law_3079 (by decide) ?_
  refine lv_iadd hx hb dL_law_3080 ?_
  refine pv_setI 1 (by decide) ?_
  refine va_sld hx hb hX hbl hbA hS (by unfold vp_in; decide) dL_law_3081 ?_
  refine pv_setI (xs 1) rfl ?_
  refine lv_aload_n hx hb dL_law_3082 rfl (lv_at hl 3 rfl) ?_
  have hF := pv_new hA hS.1
  refine va_calli (vx_runSW (As := [.ref x0, .int (xs 1), .ref o0]) (rest := []) ⟨hx, hb, hml, hown, hts⟩ (c_L_size l hfl D _ x0 xq (xs 1) o0) (vx_cwSW 3 hts (pv_gSW w8_29 w8_30 w1_0 w8_31) rfl rfl rfl (by decide +kernel) ⟨Nat.le_of_ble_eq_true rfl, Nat.le_of_ble_eq_true rfl⟩) (pv_ps hE hS hF (hP.sub [0] rfl) (hK.sub [] rfl) (hD.sub [0] (by decide) rfl)) rfl rfl hl.1 rfl (lv_room (Nat.le_of_ble_eq_true rfl)) dL_law_3083 ⟨Nat.le_of_ble_eq_true rfl, Nat.le_of_ble_eq_true rfl⟩) hS (fun q _ h => hF q h) hF (fun r_0 u t H1 locs1 ht hvm hw hB hz1 hk1 hS => ?_)
  refine W.widen (k := 398) (n := 653827) (Nat.le_of_ble_eq_true rfl) (Nat.le_of_ble_eq_true rfl) ?_
  have hP := pv_keep hP rfl hk1
  subst hw
  refine lv_istore (lv' := [(6, .int 1), (0, .ref b), (1, .ref x0), (2, .ref m0), (3, .ref o0), (4, .ref d0), (5, .int 0)]) hx hb dL_law_3086 hl (by decide) rfl (fun ls hl => ?_)
  refine lv_aload_n hx hb dL_law_3088 rfl (lv_at hl 3 rfl) ?_
  refine lv_aload_n hx hb dL_law_3089 rfl (lv_at hl 1 rfl) ?_
  refine pv_pc 3090 rfl ?_
  refine lv_iload hx hb dL_law_3090 (lv_at hl 6 rfl) ?_
  refine lv_iconst (v := 1) hx hb dL_law_3092 (by decide) ?_
  refine lv_iadd hx hb dL_law_3093 ?_
  refine pv_setI 1 (by decide) ?_
  refine va_sld hx hb hX hbl hbA hS (by unfold vp_in; decide) dL_law_3094 ?_
  refine pv_setI (xs 1) rfl ?_
  have hF := va_free (wc := [(m0, .inr (1, pv_m 0 mq))]) hD hS hA [1] rfl
  refine va_calli (va_runV (As := [.int (xs 1)]) (rest := []) ⟨hx, hb, hml, hown, hts⟩ (c_X13_size l hfl D _ m0 mq (xs 1)) (cwV 1 hts (pv_gV w11_55 w11_56 w11_57 w1_10 w11_58) rfl rfl rfl (by decide +kernel) ⟨Nat.le_of_ble_eq_true rfl, Nat.le_of_ble_eq_true rfl⟩) (pv_pV hE hS hF (hP.sub [1] rfl) (hK.sub [] rfl) (hD.sub [1] (by decide) rfl) (va_recv (ci := 1) (q0 := 1) hK hP rfl rfl)) rfl rfl hl.1 rfl (lv_room (Nat.le_of_ble_eq_true rfl)) dL_law_3095 ⟨Nat.le_of_ble_eq_true rfl, Nat.le_of_ble_eq_true rfl⟩) hS (fun q _ h => hF q h) hF (fun r_1 u t H1 locs1 ht hvm hw hB hz1 hk1 hS => ?_)
  refine W.widen (k := 398) (n := 653827) (Nat.le_of_ble_eq_true rfl) (Nat.le_of_ble_eq_true rfl) ?_
  subst hw
  obtain ⟨fs_3, hf_4, hP1, hK1, hD1⟩ := hB
  rw [ht] at hP1
  have hK1 := va_K.moved hvm.symm hK1
  obtain ⟨hP, hD⟩ := va_join (wr := [(x0, .inr (0, [.ref (xq 0), .int 0, .int 108, .ref (xq 1), .int 0, .ref (xq 2), .int 0, .ref (xq 3), .ref (xq 4), .int 1, .ref (xq 5), .ref (xq 6), .ref (xq 7), .ref (xq 8), .ref (xq 9)]))]) (w1 := [(m0, .inr (1, fs_3))]) hP hD [1] [0] rfl rfl (by decide) (by decide) hk1 hF hP1 hD1
  have hP : va_P D pv_cl [(x0, .inr (0, [.ref (xq 0), .int 0, .int 108, .ref (xq 1), .int 0, .ref (xq 2), .int 0, .ref (xq 3), .ref (xq 4), .int 1, .ref (xq 5), .ref (xq 6), .ref (xq 7), .ref (xq 8), .ref (xq 9)])), (m0, .inr (1, fs_3))] _ := hP
  have hD : va_D A [(x0, .inr (0, [.ref (xq 0), .int 0, .int 108, .ref (xq 1), .int 0, .ref (xq 2), .int 0, .ref (xq 3), .ref (xq 4), .int 1, .ref (xq 5), .ref (xq 6), .ref (xq 7), .ref (xq 8), .ref (xq 9)])), (m0, .inr (1, fs_3))] := hD
  refine lv_istore (lv' := [(7, .int r_1), (6, .int 1), (0, .ref b), (1, .ref x0), (2, .ref m0), (3, .ref o0), (4, .ref d0), (5, .int 0)]) hx hb dL_law_3098 hl (by decide) rfl (fun ls hl => ?_)
  refine lv_aload_n hx hb dL_law_3100 rfl (lv_at hl 4 rfl) ?_
  have hF := pv_new hA hS.1
  refine va_calli (va_runV (As := []) (rest := []) ⟨hx, hb, hml, hown, hts⟩ (c_X13_thrown l hfl D _ m0 fs_3 1 hf_4) (cwV 0 hts (pv_gV w9_102 w9_103 w9_104 w1_10 w9_105) rfl rfl rfl (by decide +kernel) ⟨Nat.le_of_ble_eq_true rfl, Nat.le_of_ble_eq_true rfl⟩) (pv_pV hE hS hF (hP.sub [1] rfl) (hK.sub [] rfl) (hD.sub [1] (by decide) rfl) (va_recv (ci := 1) (q0 := 1) hK hP rfl rfl)) rfl rfl hl.1 rfl (lv_room (Nat.le_of_ble_eq_true rfl)) dL_law_3101 ⟨Nat.le_of_ble_eq_true rfl, Nat.le_of_ble_eq_true rfl⟩) hS (fun q _ h => hF q h) hF (fun r_4 u t H1 locs1 ht hvm hw hB hz1 hk1 hS => ?_)
  refine W.widen (k := 398) (n := 653827) (Nat.le_of_ble_eq_true rfl) (Nat.le_of_ble_eq_true rfl) ?_
  have hP := pv_keep hP rfl hk1
  subst hw
  refine lv_iload hx hb dL_law_3104 (lv_at hl 1 rfl) ?_
  refine lv_icmp_eq (tgt := 3111) hx hb dL_law_3106 (by decide) (fun _ => ?_) (fun c_6 => absurd (by decide) c_6)
  refine lv_iload hx hb dL_law_3111 (lv_at hl 1 rfl) ?_
  refine lv_if_ne (tgt := 3128) hx hb dL_law_3113 (by decide) (fun _ => ?_) (fun c_7 => absurd c_7 (by decide))
  refine pv_pc 3128 rfl ?_
  refine lv_goto (tgt := 3721) hx hb dL_law_3128 (by decide) ?_
  refine lv_iinc (v := 7) (lv' := [(5, .int 7), (7, .int r_1), (6, .int 1), (0, .ref b), (1, .ref x0), (2, .ref m0), (3, .ref o0), (4, .ref d0)]) hx hb dL_law_3721 hl (k := 7) rfl (by decide) (by decide) rfl (fun ls hl => ?_)
  refine lv_goto (tgt := 28) hx hb dL_law_3724 (by decide) ?_
  refine lv_iload hx hb dL_law_28 (lv_at hl 0 rfl) ?_
  refine lv_aload_n hx hb dL_law_30 rfl (lv_at hl 3 rfl) ?_
  refine va_slen hx hb hX hbl hbA hS dL_law_31 ?_
  refine pv_setI 7 rfl ?_
  refine lv_bipush (v := 7) hx hb dL_law_32 (by decide) ?_
  refine lv_isub hx hb dL_law_34 ?_
  refine pv_setI 0 (by decide) ?_
  refine lv_icmp_gt (tgt := 3727) hx hb dL_law_35 (by decide) (fun _ => ?_) (fun c_8 => absurd (by decide) c_8)
  refine lv_iconst (v := 1) hx hb dL_law_3727 (by decide) ?_
  refine va_forget (fun q hq => hAf _ (hS.2.2 q hq)) ?_
  refine W.widen (k := 600006) (n := 7302064) (Nat.le_of_ble_eq_true rfl) (Nat.le_of_ble_eq_true rfl) ?_
  exact lw_ret (d0 := s.drawn) (Drawn.sameBut.refl s.drawn lw_cs) hx hb hr hlocks dL_law_3728

theorem dL_law_3131 : decode cL_law 3131 = .ok (.aload_n 1, 1) := by decide +kernel
theorem dL_law_3132 : decode cL_law 3132 = .ok (.aload_n 0, 1) := by decide +kernel
theorem dL_law_3133 : decode cL_law 3133 = .ok (.iload 5, 2) := by decide +kernel
theorem dL_law_3135 : decode cL_law 3135 = .ok (.iconst 1, 1) := by decide +kernel
theorem dL_law_3136 : decode cL_law 3136 = .ok (.iadd, 1) := by decide +kernel
theorem dL_law_3137 : decode cL_law 3137 = .ok (.iaload, 1) := by decide +kernel
theorem dL_law_3138 : decode cL_law 3138 = .ok (.aload_n 0, 1) := by decide +kernel
theorem dL_law_3139 : decode cL_law 3139 = .ok (.iload 5, 2) := by decide +kernel
theorem dL_law_3141 : decode cL_law 3141 = .ok (.iconst 2, 1) := by decide +kernel
theorem dL_law_3142 : decode cL_law 3142 = .ok (.iadd, 1) := by decide +kernel
theorem dL_law_3143 : decode cL_law 3143 = .ok (.iaload, 1) := by decide +kernel
theorem dL_law_3144 : decode cL_law 3144 = .ok (.aload_n 0, 1) := by decide +kernel
theorem dL_law_3145 : decode cL_law 3145 = .ok (.iload 5, 2) := by decide +kernel
theorem dL_law_3147 : decode cL_law 3147 = .ok (.iconst 3, 1) := by decide +kernel
theorem dL_law_3148 : decode cL_law 3148 = .ok (.iadd, 1) := by decide +kernel
theorem dL_law_3149 : decode cL_law 3149 = .ok (.iaload, 1) := by decide +kernel
theorem dL_law_3150 : decode cL_law 3150 = .ok (.aload_n 0, 1) := by decide +kernel
theorem dL_law_3151 : decode cL_law 3151 = .ok (.iload 5, 2) := by decide +kernel
theorem dL_law_3153 : decode cL_law 3153 = .ok (.iconst 4, 1) := by decide +kernel
theorem dL_law_3154 : decode cL_law 3154 = .ok (.iadd, 1) := by decide +kernel
theorem dL_law_3155 : decode cL_law 3155 = .ok (.iaload, 1) := by decide +kernel
theorem dL_law_3156 : decode cL_law 3156 = .ok (.aload_n 0, 1) := by decide +kernel
theorem dL_law_3157 : decode cL_law 3157 = .ok (.iload 5, 2) := by decide +kernel
theorem dL_law_3159 : decode cL_law 3159 = .ok (.iconst 5, 1) := by decide +kernel
theorem dL_law_3160 : decode cL_law 3160 = .ok (.iadd, 1) := by decide +kernel
theorem dL_law_3161 : decode cL_law 3161 = .ok (.iaload, 1) := by decide +kernel
theorem dL_law_3162 : decode cL_law 3162 = .ok (.aload_n 0, 1) := by decide +kernel
theorem dL_law_3163 : decode cL_law 3163 = .ok (.iload 5, 2) := by decide +kernel
theorem dL_law_3165 : decode cL_law 3165 = .ok (.bipush 6, 2) := by decide +kernel
theorem dL_law_3167 : decode cL_law 3167 = .ok (.iadd, 1) := by decide +kernel
theorem dL_law_3168 : decode cL_law 3168 = .ok (.iaload, 1) := by decide +kernel
theorem dL_law_3169 : decode cL_law 3169 = .ok (.i2c, 1) := by decide +kernel
theorem dL_law_3170 : decode cL_law 3170 = .ok (.aload_n 3, 1) := by decide +kernel
theorem dL_law_3171 : decode cL_law 3171 = .ok (.invokestatic 333, 3) := by decide +kernel
theorem w8_47 : (Jvm.Cond.methodLink "PolyforgeLaw" (333 : Nat) ({ cls := "PolyforgeLaw", name := "addRule", desc := "(LPolyforge;IIIIIC[J)I" } : Jvm.MethodName)) ∈ lw_tbl := pv_t8 (pv_mg 47 rfl)
theorem w8_49 : (Jvm.Cond.codeWith ({ cls := "PolyforgeLaw", name := "addRule", desc := "(LPolyforge;IIIIIC[J)I" } : Jvm.MethodName) method_45_code (9 : Nat) (Option.some Jvm.ClassFile.FieldType.int) [((0 : Nat), (18 : Nat), (21 : Nat), (23 : Nat)), ((0 : Nat), (18 : Nat), (25 : Nat), (13 : Nat)), ((0 : Nat), (18 : Nat), (29 : Nat), (25 : Nat)), ((0 : Nat), (18 : Nat), (33 : Nat), (15 : Nat))]) ∈ lw_tbl := pv_t8 (pv_mg 49 rfl)
theorem w8_48 : (Jvm.Cond.static ({ cls := "PolyforgeLaw", name := "addRule", desc := "(LPolyforge;IIIIIC[J)I" } : Jvm.MethodName)) ∈ lw_tbl := pv_t8 (pv_mg 48 rfl)
theorem dL_law_3174 : decode cL_law 3174 = .ok (.istore 6, 2) := by decide +kernel
theorem dL_law_3176 : decode cL_law 3176 = .ok (.aload_n 2, 1) := by decide +kernel
theorem dL_law_3177 : decode cL_law 3177 = .ok (.aload_n 0, 1) := by decide +kernel
theorem dL_law_3178 : decode cL_law 3178 = .ok (.iload 5, 2) := by decide +kernel
theorem dL_law_3180 : decode cL_law 3180 = .ok (.iconst 1, 1) := by decide +kernel
theorem dL_law_3181 : decode cL_law 3181 = .ok (.iadd, 1) := by decide +kernel
theorem dL_law_3182 : decode cL_law 3182 = .ok (.iaload, 1) := by decide +kernel
theorem dL_law_3183 : decode cL_law 3183 = .ok (.aload_n 0, 1) := by decide +kernel
theorem dL_law_3184 : decode cL_law 3184 = .ok (.iload 5, 2) := by decide +kernel
theorem dL_law_3186 : decode cL_law 3186 = .ok (.iconst 2, 1) := by decide +kernel
theorem dL_law_3187 : decode cL_law 3187 = .ok (.iadd, 1) := by decide +kernel
theorem dL_law_3188 : decode cL_law 3188 = .ok (.iaload, 1) := by decide +kernel
theorem dL_law_3189 : decode cL_law 3189 = .ok (.aload_n 0, 1) := by decide +kernel
theorem dL_law_3190 : decode cL_law 3190 = .ok (.iload 5, 2) := by decide +kernel
theorem dL_law_3192 : decode cL_law 3192 = .ok (.iconst 3, 1) := by decide +kernel
theorem dL_law_3193 : decode cL_law 3193 = .ok (.iadd, 1) := by decide +kernel
theorem dL_law_3194 : decode cL_law 3194 = .ok (.iaload, 1) := by decide +kernel
theorem dL_law_3195 : decode cL_law 3195 = .ok (.aload_n 0, 1) := by decide +kernel
theorem dL_law_3196 : decode cL_law 3196 = .ok (.iload 5, 2) := by decide +kernel
theorem dL_law_3198 : decode cL_law 3198 = .ok (.iconst 4, 1) := by decide +kernel
theorem dL_law_3199 : decode cL_law 3199 = .ok (.iadd, 1) := by decide +kernel
theorem dL_law_3200 : decode cL_law 3200 = .ok (.iaload, 1) := by decide +kernel
theorem dL_law_3201 : decode cL_law 3201 = .ok (.aload_n 0, 1) := by decide +kernel
theorem dL_law_3202 : decode cL_law 3202 = .ok (.iload 5, 2) := by decide +kernel
theorem dL_law_3204 : decode cL_law 3204 = .ok (.iconst 5, 1) := by decide +kernel
theorem dL_law_3205 : decode cL_law 3205 = .ok (.iadd, 1) := by decide +kernel
theorem dL_law_3206 : decode cL_law 3206 = .ok (.iaload, 1) := by decide +kernel
theorem dL_law_3207 : decode cL_law 3207 = .ok (.aload_n 0, 1) := by decide +kernel
theorem dL_law_3208 : decode cL_law 3208 = .ok (.iload 5, 2) := by decide +kernel
theorem dL_law_3210 : decode cL_law 3210 = .ok (.bipush 6, 2) := by decide +kernel
theorem dL_law_3212 : decode cL_law 3212 = .ok (.iadd, 1) := by decide +kernel
theorem dL_law_3213 : decode cL_law 3213 = .ok (.iaload, 1) := by decide +kernel
theorem dL_law_3214 : decode cL_law 3214 = .ok (.i2c, 1) := by decide +kernel
theorem dL_law_3215 : decode cL_law 3215 = .ok (.invokevirtual 336, 3) := by decide +kernel
theorem w11_63 : (Jvm.Cond.methodLink "PolyforgeLaw" (336 : Nat) ({ cls := "PolyforgeModel", name := "addRule", desc := "(IIIIIC)I" } : Jvm.MethodName)) ∈ lw_tbl := pv_t11 (pv_mg 63 rfl)
theorem w11_66 : (Jvm.Cond.code ({ cls := "PolyforgeModel", name := "addRule", desc := "(IIIIIC)I" } : Jvm.MethodName) prog_14_method_112_code (8 : Nat) (Option.some Jvm.ClassFile.FieldType.int)) ∈ lw_tbl := pv_t11 (pv_mg 66 rfl)
theorem w11_65 : (Jvm.Cond.selects "PolyforgeModel" ({ cls := "PolyforgeModel", name := "addRule", desc := "(IIIIIC)I" } : Jvm.MethodName) ({ cls := "PolyforgeModel", name := "addRule", desc := "(IIIIIC)I" } : Jvm.MethodName)) ∈ lw_tbl := pv_t11 (pv_mg 65 rfl)
theorem w11_64 : (Jvm.Cond.instanceMethod ({ cls := "PolyforgeModel", name := "addRule", desc := "(IIIIIC)I" } : Jvm.MethodName)) ∈ lw_tbl := pv_t11 (pv_mg 64 rfl)
theorem dL_law_3218 : decode cL_law 3218 = .ok (.istore 7, 2) := by decide +kernel
theorem dL_law_3220 : decode cL_law 3220 = .ok (.aload_n 2, 1) := by decide +kernel
theorem dL_law_3221 : decode cL_law 3221 = .ok (.invokevirtual 199, 3) := by decide +kernel
theorem dL_law_3224 : decode cL_law 3224 = .ok (.iload 6, 2) := by decide +kernel
theorem dL_law_3226 : decode cL_law 3226 = .ok (.if_icmp .eq 5, 3) := by decide +kernel
theorem dL_law_3231 : decode cL_law 3231 = .ok (.iload 6, 2) := by decide +kernel
theorem dL_law_3233 : decode cL_law 3233 = .ok (.ifCond .ne 15, 3) := by decide +kernel
theorem dL_law_3248 : decode cL_law 3248 = .ok (.goto 473, 3) := by decide +kernel
set_option maxHeartbeats 4000000 in
set_option maxRecDepth 100000 in
/-- the law, call 43: addRule -/
theorem law_case_43 {p : Program} {e : Env} {s : State} {m : MethodId} {below : List Frame} {meth : Method} {c : Code} (l : Launch) (hfl : l.stackTraces = false) {b : Nat} {xs : Nat → Int32} (C0 : lw_At p s m meth c b 7 xs) {D : va_G} {A : Nat → Prop} (hA : ∀ q : Nat, s.heap.size ≤ q → A q) (hAf : ∀ q : Nat, A q → s.heap.size ≤ q) (hbA : ¬ A b) (hE : pv_E A s s.heap) {x0 m0 o0 d0 : Nat} {xq xw mq : Nat → Nat} {xJ xP xO xC xI mI mI2 mI3 mT mC oL : ClassId} {xsg xsf msg msf : Nat → Int32} (hxsg : ∀ j, j < 3 → xsg j = 63) (hmsg : ∀ j, j < 3 → msg j = 63) {H : Heap} {locs : List Loc} (hK : va_K D pv_cl [(xJ, .long), (xP, .object "Polyforge$Polynomial"), (xO, .object "Polyforge$Ideal"), (xC, .char), (xI, .int), (mI, .int), (mT, .object "PolyforgeModel$Terms"), (mI2, .int), (mC, .char), (mI3, .int), (oL, .long)] s) (hP : va_P D pv_cl [(x0, .inr (0, [.ref (xq 0), .int 0, .int 108, .ref (xq 1), .int 0, .ref (xq 2), .int 0, .ref (xq 3), .ref (xq 4), .int 1, .ref (xq 5), .ref (xq 6), .ref (xq 7), .ref (xq 8), .ref (xq 9)])), ((xq 6), .inr (2, [.ref (xw 0), .ref (xw 1), .ref (xw 2), .ref (xw 3), .int 0, .int 0])), ((xw 2), .inl (xJ, 64, .inr (.inl (fun _ => 0)))), ((xq 0), .inl (xP, 60, .inr (.inr (.inr (.inr (fun _ => none)))))), ((xq 1), .inl (xO, 5, .inr (.inr (.inr (.inr (fun _ => none)))))), ((xq 3), .inl (xC, 3, .inl xsg)), ((xq 4), .inl (xI, 3, .inl xsf)), (m0, .inr (1, pv_m 0 mq)), ((mq 0), .inl (mI, 60, .inl (fun _ => 0))), ((mq 1), .inl (mT, 60, .inr (.inr (.inr (.inr (fun _ => none)))))), ((mq 2), .inl (mI2, 5, .inl (fun _ => 0))), ((mq 9), .inl (mC, 3, .inl msg)), ((mq 10), .inl (mI3, 3, .inl msf)), (o0, .inl (oL, 1, .inr (.inl (fun _ => 0))))] H) (hD : va_D A [(x0, .inr (0, [.ref (xq 0), .int 0, .int 108, .ref (xq 1), .int 0, .ref (xq 2), .int 0, .ref (xq 3), .ref (xq 4), .int 1, .ref (xq 5), .ref (xq 6), .ref (xq 7), .ref (xq 8), .ref (xq 9)])), ((xq 6), .inr (2, [.ref (xw 0), .ref (xw 1), .ref (xw 2), .ref (xw 3), .int 0, .int 0])), ((xw 2), .inl (xJ, 64, .inr (.inl (fun _ => 0)))), ((xq 0), .inl (xP, 60, .inr (.inr (.inr (.inr (fun _ => none)))))), ((xq 1), .inl (xO, 5, .inr (.inr (.inr (.inr (fun _ => none)))))), ((xq 3), .inl (xC, 3, .inl xsg)), ((xq 4), .inl (xI, 3, .inl xsf)), (m0, .inr (1, pv_m 0 mq)), ((mq 0), .inl (mI, 60, .inl (fun _ => 0))), ((mq 1), .inl (mT, 60, .inr (.inr (.inr (.inr (fun _ => none)))))), ((mq 2), .inl (mI2, 5, .inl (fun _ => 0))), ((mq 9), .inl (mC, 3, .inl msg)), ((mq 10), .inl (mI3, 3, .inl msf)), (o0, .inl (oL, 1, .inr (.inl (fun _ => 0))))]) (hS : va_S A s.heap H locs) {ls : Array Slot} (hl : lv_has ls 9 [(0, .ref b), (1, .ref x0), (2, .ref m0), (3, .ref o0), (4, .ref d0), (5, .int 0)]) : W p l e room_1 s m #[Value.ref b] below meth c H locs 397 653821 (lw_Z below #[Value.ref b] s) (F0 m 3131 ls []) := by
  obtain ⟨hx, hb, hr, hml, hown, hts0, hX, hbl, hlocks, hgv⟩ := C0
  have hts : ∀ w ∈ pv_W, w.before #[Value.ref b] s = true := fun w h => hts0 w (List.mem_filter.mp h).1
  have hg := fun {w : Cond} (h : w ∈ lw_tbl) (g : goodWord w = true) => hts w (pv_in h g)
  have hP : va_P D pv_cl [(x0, .inr (0, [.ref (xq 0), .int 0, .int 108, .ref (xq 1), .int 0, .ref (xq 2), .int 0, .ref (xq 3), .ref (xq 4), .int 1, .ref (xq 5), .ref (xq 6), .ref (xq 7), .ref (xq 8), .ref (xq 9)])), (m0, .inr (1, pv_m 0 mq))] _ := hP.sub [0, 7] rfl
  have hD : va_D A [(x0, .inr (0, [.ref (xq 0), .int 0, .int 108, .ref (xq 1), .int 0, .ref (xq 2), .int 0, .ref (xq 3), .ref (xq 4), .int 1, .ref (xq 5), .ref (xq 6), .ref (xq 7), .ref (xq 8), .ref (xq 9)])), (m0, .inr (1, pv_m 0 mq))] := hD.sub [0, 7] (by decide) rfl
  have hK : va_K D pv_cl [] s := hK.sub [] rfl
  refine lv_aload_n hx hb dL_law_3131 rfl (lv_at hl 1 rfl) ?_
  refine lv_aload_n hx hb dL_law_3132 rfl (lv_at hl 0 rfl) ?_
  refine lv_iload hx hb dL_law_3133 (lv_at hl 5 rfl) ?_
  refine lv_iconst (v := 1) hx hb dL_law_3135 (by decide) ?_
  refine lv_iadd hx hb dL_law_3136 ?_
  refine pv_setI 1 (by decide) ?_
  refine va_sld hx hb hX hbl hbA hS (by unfold vp_in; decide) dL_law_3137 ?_
  refine pv_setI (xs 1) rfl ?_
  refine lv_aload_n hx hb dL_law_3138 rfl (lv_at hl 0 rfl) ?_
  refine lv_iload hx hb dL_law_3139 (lv_at hl 5 rfl) ?_
  refine lv_iconst (v := 2) hx hb dL_law_3141 (by decide) ?_
  refine lv_iadd hx hb dL_law_3142 ?_
  refine pv_setI 2 (by decide) ?_
  refine va_sld hx hb hX hbl hbA hS (by unfold vp_in; decide) dL_law_3143 ?_
  refine pv_setI (xs 2) rfl ?_
  refine pv_pc 3144 rfl ?_
  refine lv_aload_n hx hb dL_law_3144 rfl (lv_at hl 0 rfl) ?_
  refine lv_iload hx hb dL_law_3145 (lv_at hl 5 rfl) ?_
  refine lv_iconst (v := 3) hx hb dL_law_3147 (by decide) ?_
  refine lv_iadd hx hb dL_law_3148 ?_
  refine pv_setI 3 (by decide) ?_
  refine va_sld hx hb hX hbl hbA hS (by unfold vp_in; decide) dL_law_3149 ?_
  refine pv_setI (xs 3) rfl ?_
  refine lv_aload_n hx hb dL_law_3150 rfl (lv_at hl 0 rfl) ?_
  refine lv_iload hx hb dL_law_3151 (lv_at hl 5 rfl) ?_
  refine lv_iconst (v := 4) hx hb dL_law_3153 (by decide) ?_
  refine lv_iadd hx hb dL_law_3154 ?_
  refine pv_setI 4 (by decide) ?_
  refine va_sld hx hb hX hbl hbA hS (by unfold vp_in; decide) dL_law_3155 ?_
  refine pv_setI (xs 4) rfl ?_
  refine lv_aload_n hx hb dL_law_3156 rfl (lv_at hl 0 rfl) ?_
  refine lv_iload hx hb dL_law_3157 (lv_at hl 5 rfl) ?_
  refine pv_pc 3159 rfl ?_
  refine lv_iconst (v := 5) hx hb dL_law_3159 (by decide) ?_
  refine lv_iadd hx hb dL_law_3160 ?_
  refine pv_setI 5 (by decide) ?_
  refine va_sld hx hb hX hbl hbA hS (by unfold vp_in; decide) dL_law_3161 ?_
  refine pv_setI (xs 5) rfl ?_
  refine lv_aload_n hx hb dL_law_3162 rfl (lv_at hl 0 rfl) ?_
  refine lv_iload hx hb dL_law_3163 (lv_at hl 5 rfl) ?_
  refine lv_bipush (v := 6) hx hb dL_law_3165 (by decide) ?_
  refine lv_iadd hx hb dL_law_3167 ?_
  refine pv_setI 6 (by decide) ?_
  refine va_sld hx hb hX hbl hbA hS (by unfold vp_in; decide) dL_law_3168 ?_
  refine pv_setI (xs 6) rfl ?_
  refine lv_i2c hx hb dL_law_3169 rfl ?_
  refine lv_topi (fun x_1 ex_1 => ?_)
  refine lv_aload_n hx hb dL_law_3170 rfl (lv_at hl 3 rfl) ?_
  have hF := pv_new hA hS.1
  refine va_calli (vx_runSW (As := [.ref x0, .int (xs 1), .int (xs 2), .int (xs 3), .int (xs 4), .int (xs 5), .int x_1, .ref o0]) (rest := []) ⟨hx, hb, hml, hown, hts⟩ (c_L_addRule l hfl D _ x0 xq (xs 1) (xs 2) (xs 3) (xs 4) (xs 5) x_1 o0) (vx_cwSW 8 hts (pv_gSW w8_47 w8_48 w1_0 w8_49) rfl rfl rfl (by decide +kernel) ⟨Nat.le_of_ble_eq_true rfl, Nat.le_of_ble_eq_true rfl⟩) (pv_ps hE hS hF (hP.sub [0] rfl) (hK.sub [] rfl) (hD.sub [0] (by decide) rfl)) rfl rfl hl.1 rfl (lv_room (Nat.le_of_ble_eq_true rfl)) dL_law_3171 ⟨Nat.le_of_ble_eq_true rfl, Nat.le_of_ble_eq_true rfl⟩) hS (fun q _ h => hF q h) hF (fun r_1 u t H1 locs1 ht hvm hw hB hz1 hk1 hS => ?_)
  refine W.widen (k := 398) (n := 653827) (Nat.le_of_ble_eq_true rfl) (Nat.le_of_ble_eq_true rfl) ?_
  have hP := pv_keep hP rfl hk1
  subst hw
  refine lv_istore (lv' := [(6, .int 1), (0, .ref b), (1, .ref x0), (2, .ref m0), (3, .ref o0), (4, .ref d0), (5, .int 0)]) hx hb dL_law_3174 hl (by decide) rfl (fun ls hl => ?_)
  refine pv_pc 3176 rfl ?_
  refine lv_aload_n hx hb dL_law_3176 rfl (lv_at hl 3 rfl) ?_
  refine lv_aload_n hx hb dL_law_3177 rfl (lv_at hl 1 rfl) ?_
  refine lv_iload hx hb dL_law_3178 (lv_at hl 6 rfl) ?_
  refine lv_iconst (v := 1) hx hb dL_law_3180 (by decide) ?_
  refine lv_iadd hx hb dL_law_3181 ?_
  refine pv_setI 1 (by decide) ?_
  refine va_sld hx hb hX hbl hbA hS (by unfold vp_in; decide) dL_law_3182 ?_
  refine pv_setI (xs 1) rfl ?_
  refine lv_aload_n hx hb dL_law_3183 rfl (lv_at hl 1 rfl) ?_
  refine lv_iload hx hb dL_law_3184 (lv_at hl 6 rfl) ?_
  refine lv_iconst (v := 2) hx hb dL_law_3186 (by decide) ?_
  refine lv_iadd hx hb dL_law_3187 ?_
  refine pv_setI 2 (by decide) ?_
  refine va_sld hx hb hX hbl hbA hS (by unfold vp_in; decide) dL_law_3188 ?_
  refine pv_setI (xs 2) rfl ?_
  refine lv_aload_n hx hb dL_law_3189 rfl (lv_at hl 1 rfl) ?_
  refine pv_pc 3190 rfl ?_
  refine lv_iload hx hb dL_law_3190 (lv_at hl 6 rfl) ?_
  refine lv_iconst (v := 3) hx hb dL_law_3192 (by decide) ?_
  refine lv_iadd hx hb dL_law_3193 ?_
  refine pv_setI 3 (by decide) ?_
  refine va_sld hx hb hX hbl hbA hS (by unfold vp_in; decide) dL_law_3194 ?_
  refine pv_setI (xs 3) rfl ?_
  refine lv_aload_n hx hb dL_law_3195 rfl (lv_at hl 1 rfl) ?_
  refine lv_iload hx hb dL_law_3196 (lv_at hl 6 rfl) ?_
  refine lv_iconst (v := 4) hx hb dL_law_3198 (by decide) ?_
  refine lv_iadd hx hb dL_law_3199 ?_
  refine pv_setI 4 (by decide) ?_
  refine va_sld hx hb hX hbl hbA hS (by unfold vp_in; decide) dL_law_3200 ?_
  refine pv_setI (xs 4) rfl ?_
  refine lv_aload_n hx hb dL_law_3201 rfl (lv_at hl 1 rfl) ?_
  refine lv_iload hx hb dL_law_3202 (lv_at hl 6 rfl) ?_
  refine lv_iconst (v := 5) hx hb dL_law_3204 (by decide) ?_
  refine pv_pc 3205 rfl ?_
  refine lv_iadd hx hb dL_law_3205 ?_
  refine pv_setI 5 (by decide) ?_
  refine va_sld hx hb hX hbl hbA hS (by unfold vp_in; decide) dL_law_3206 ?_
  refine pv_setI (xs 5) rfl ?_
  refine lv_aload_n hx hb dL_law_3207 rfl (lv_at hl 1 rfl) ?_
  refine lv_iload hx hb dL_law_3208 (lv_at hl 6 rfl) ?_
  refine lv_bipush (v := 6) hx hb dL_law_3210 (by decide) ?_
  refine lv_iadd hx hb dL_law_3212 ?_
  refine pv_setI 6 (by decide) ?_
  refine va_sld hx hb hX hbl hbA hS (by unfold vp_in; decide) dL_law_3213 ?_
  refine pv_setI (xs 6) rfl ?_
  refine lv_i2c hx hb dL_law_3214 rfl ?_
  refine pv_setI x_1 ex_1.symm ?_
  have hF := va_free (wc := [(m0, .inr (1, pv_m 0 mq))]) hD hS hA [1] rfl
  refine va_calli (va_runV (As := [.int (xs 1), .int (xs 2), .int (xs 3), .int (xs 4), .int (xs 5), .int x_1]) (rest := []) ⟨hx, hb, hml, hown, hts⟩ (c_X13_addRule l hfl D _ m0 mq (xs 1) (xs 2) (xs 3) (xs 4) (xs 5) x_1) (cwV 6 hts (pv_gV w11_63 w11_64 w11_65 w1_10 w11_66) rfl rfl rfl (by decide +kernel) ⟨Nat.le_of_ble_eq_true rfl, Nat.le_of_ble_eq_true rfl⟩) (pv_pV hE hS hF (hP.sub [1] rfl) (hK.sub [] rfl) (hD.sub [1] (by decide) rfl) (va_recv (ci := 1) (q0 := 1) hK hP rfl rfl)) rfl rfl hl.1 rfl (lv_room (Nat.le_of_ble_eq_true rfl)) dL_law_3215 ⟨Nat.le_of_ble_eq_true rfl, Nat.le_of_ble_eq_true rfl⟩) hS (fun q _ h => hF q h) hF (fun r_2 u t H1 locs1 ht hvm hw hB hz1 hk1 hS => ?_)
  refine W.widen (k := 398) (n := 653827) (Nat.le_of_ble_eq_true rfl) (Nat.le_of_ble_eq_true rfl) ?_
  subst hw
  obtain ⟨fs_4, hf_5, hP1, hK1, hD1⟩ := hB
  rw [ht] at hP1
  have hK1 := va_K.moved hvm.symm hK1
  obtain ⟨hP, hD⟩ := va_join (wr := [(x0, .inr (0, [.ref (xq 0), .int 0, .int 108, .ref (xq 1), .int 0, .ref (xq 2), .int 0, .ref (xq 3), .ref (xq 4), .int 1, .ref (xq 5), .ref (xq 6), .ref (xq 7), .ref (xq 8), .ref (xq 9)]))]) (w1 := [(m0, .inr (1, fs_4))]) hP hD [1] [0] rfl rfl (by decide) (by decide) hk1 hF hP1 hD1
  have hP : va_P D pv_cl [(x0, .inr (0, [.ref (xq 0), .int 0, .int 108, .ref (xq 1), .int 0, .ref (xq 2), .int 0, .ref (xq 3), .ref (xq 4), .int 1, .ref (xq 5), .ref (xq 6), .ref (xq 7), .ref (xq 8), .ref (xq 9)])), (m0, .inr (1, fs_4))] _ := hP
  have hD : va_D A [(x0, .inr (0, [.ref (xq 0), .int 0, .int 108, .ref (xq 1), .int 0, .ref (xq 2), .int 0, .ref (xq 3), .ref (xq 4), .int 1, .ref (xq 5), .ref (xq 6), .ref (xq 7), .ref (xq 8), .ref (xq 9)])), (m0, .inr (1, fs_4))] := hD
  refine lv_istore (lv' := [(7, .int r_2), (6, .int 1), (0, .ref b), (1, .ref x0), (2, .ref m0), (3, .ref o0), (4, .ref d0), (5, .int 0)]) hx hb dL_law_3218 hl (by decide) rfl (fun ls hl => ?_)
  refine lv_aload_n hx hb dL_law_3220 rfl (lv_at hl 4 rfl) ?_
  have hF := pv_new hA hS.1
  refine va_calli (va_runV (As := []) (rest := []) ⟨hx, hb, hml, hown, hts⟩ (c_X13_thrown l hfl D _ m0 fs_4 1 hf_5) (cwV 0 hts (pv_gV w9_102 w9_103 w9_104 w1_10 w9_105) rfl rfl rfl (by decide +kernel) ⟨Nat.le_of_ble_eq_true rfl, Nat.le_of_ble_eq_true rfl⟩) (pv_pV hE hS hF (hP.sub [1] rfl) (hK.sub [] rfl) (hD.sub [1] (by decide) rfl) (va_recv (ci := 1) (q0 := 1) hK hP rfl rfl)) rfl rfl hl.1 rfl (lv_room (Nat.le_of_ble_eq_true rfl)) dL_law_3221 ⟨Nat.le_of_ble_eq_true rfl, Nat.le_of_ble_eq_true rfl⟩) hS (fun q _ h => hF q h) hF (fun r_5 u t H1 locs1 ht hvm hw hB hz1 hk1 hS => ?_)
  refine W.widen (k := 398) (n := 653827) (Nat.le_of_ble_eq_true rfl) (Nat.le_of_ble_eq_true rfl) ?_
  have hP := pv_keep hP rfl hk1
  subst hw
  refine pv_pc 3224 rfl ?_
  refine lv_iload hx hb dL_law_3224 (lv_at hl 1 rfl) ?_
  refine lv_icmp_eq (tgt := 3231) hx hb dL_law_3226 (by decide) (fun _ => ?_) (fun c_7 => absurd (by decide) c_7)
  refine lv_iload hx hb dL_law_3231 (lv_at hl 1 rfl) ?_
  refine lv_if_ne (tgt := 3248) hx hb dL_law_3233 (by decide) (fun _ => ?_) (fun c_8 => absurd c_8 (by decide))
  refine lv_goto (tgt := 3721) hx hb dL_law_3248 (by decide) ?_
  refine lv_iinc (v := 7) (lv' := [(5, .int 7), (7, .int r_2), (6, .int 1), (0, .ref b), (1, .ref x0), (2, .ref m0), (3, .ref o0), (4, .ref d0)]) hx hb dL_law_3721 hl (k := 7) rfl (by decide) (by decide) rfl (fun ls hl => ?_)
  refine lv_goto (tgt := 28) hx hb dL_law_3724 (by decide) ?_
  refine lv_iload hx hb dL_law_28 (lv_at hl 0 rfl) ?_
  refine lv_aload_n hx hb dL_law_30 rfl (lv_at hl 3 rfl) ?_
  refine va_slen hx hb hX hbl hbA hS dL_law_31 ?_
  refine pv_setI 7 rfl ?_
  refine lv_bipush (v := 7) hx hb dL_law_32 (by decide) ?_
  refine lv_isub hx hb dL_law_34 ?_
  refine pv_setI 0 (by decide) ?_
  refine pv_pc 35 rfl ?_
  refine lv_icmp_gt (tgt := 3727) hx hb dL_law_35 (by decide) (fun _ => ?_) (fun c_9 => absurd (by decide) c_9)
  refine lv_iconst (v := 1) hx hb dL_law_3727 (by decide) ?_
  refine va_forget (fun q hq => hAf _ (hS.2.2 q hq)) ?_
  refine W.widen (k := 600006) (n := 7302064) (Nat.le_of_ble_eq_true rfl) (Nat.le_of_ble_eq_true rfl) ?_
  exact lw_ret (d0 := s.drawn) (Drawn.sameBut.refl s.drawn lw_cs) hx hb hr hlocks dL_law_3728

theorem dL_law_3365 : decode cL_law 3365 = .ok (.aload_n 1, 1) := by decide +kernel
theorem dL_law_3366 : decode cL_law 3366 = .ok (.aload_n 3, 1) := by decide +kernel
theorem dL_law_3367 : decode cL_law 3367 = .ok (.invokestatic 345, 3) := by decide +kernel
theorem w8_110 : (Jvm.Cond.methodLink "PolyforgeLaw" (345 : Nat) ({ cls := "PolyforgeLaw", name := "closeFrame", desc := "(LPolyforge;[J)I" } : Jvm.MethodName)) ∈ lw_tbl := pv_t8 (pv_mg 110 rfl)
theorem w8_112 : (Jvm.Cond.codeWith ({ cls := "PolyforgeLaw", name := "closeFrame", desc := "(LPolyforge;[J)I" } : Jvm.MethodName) method_48_code (3 : Nat) (Option.some Jvm.ClassFile.FieldType.int) [((0 : Nat), (8 : Nat), (11 : Nat), (15 : Nat))]) ∈ lw_tbl := pv_t8 (pv_mg 112 rfl)
theorem w8_111 : (Jvm.Cond.static ({ cls := "PolyforgeLaw", name := "closeFrame", desc := "(LPolyforge;[J)I" } : Jvm.MethodName)) ∈ lw_tbl := pv_t8 (pv_mg 111 rfl)
theorem dL_law_3370 : decode cL_law 3370 = .ok (.istore 6, 2) := by decide +kernel
theorem dL_law_3372 : decode cL_law 3372 = .ok (.aload_n 2, 1) := by decide +kernel
theorem dL_law_3373 : decode cL_law 3373 = .ok (.invokevirtual 347, 3) := by decide +kernel
theorem w11_82 : (Jvm.Cond.methodLink "PolyforgeLaw" (347 : Nat) ({ cls := "PolyforgeModel", name := "closeFrame", desc := "()I" } : Jvm.MethodName)) ∈ lw_tbl := pv_t11 (pv_mg 82 rfl)
theorem w11_85 : (Jvm.Cond.code ({ cls := "PolyforgeModel", name := "closeFrame", desc := "()I" } : Jvm.MethodName) prog_14_method_116_code (4 : Nat) (Option.some Jvm.ClassFile.FieldType.int)) ∈ lw_tbl := pv_t11 (pv_mg 85 rfl)
theorem w11_84 : (Jvm.Cond.selects "PolyforgeModel" ({ cls := "PolyforgeModel", name := "closeFrame", desc := "()I" } : Jvm.MethodName) ({ cls := "PolyforgeModel", name := "closeFrame", desc := "()I" } : Jvm.MethodName)) ∈ lw_tbl := pv_t11 (pv_mg 84 rfl)
theorem w11_83 : (Jvm.Cond.instanceMethod ({ cls := "PolyforgeModel", name := "closeFrame", desc := "()I" } : Jvm.MethodName)) ∈ lw_tbl := pv_t11 (pv_mg 83 rfl)
theorem dL_law_3376 : decode cL_law 3376 = .ok (.istore 7, 2) := by decide +kernel
theorem dL_law_3378 : decode cL_law 3378 = .ok (.aload_n 2, 1) := by decide +kernel
theorem dL_law_3379 : decode cL_law 3379 = .ok (.invokevirtual 199, 3) := by decide +kernel
theorem dL_law_3382 : decode cL_law 3382 = .ok (.iload 6, 2) := by decide +kernel
theorem dL_law_3384 : decode cL_law 3384 = .ok (.if_icmp .eq 5, 3) := by decide +kernel
theorem dL_law_3389 : decode cL_law 3389 = .ok (.iload 6, 2) := by decide +kernel
theorem dL_law_3391 : decode cL_law 3391 = .ok (.ifCond .ne 15, 3) := by decide +kernel
theorem dL_law_3406 : decode cL_law 3406 = .ok (.goto 315, 3) := by decide +kernel
set_option maxHeartbeats 4000000 in
set_option maxRecDepth 100000 in
/-- the law, call 46: closeFrame -/
theorem law_case_46 {p : Program} {e : Env} {s : State} {m : MethodId} {below : List Frame} {meth : Method} {c : Code} (l : Launch) (hfl : l.stackTraces = false) {b : Nat} {xs : Nat → Int32} (C0 : lw_At p s m meth c b 7 xs) {D : va_G} {A : Nat → Prop} (hA : ∀ q : Nat, s.heap.size ≤ q → A q) (hAf : ∀ q : Nat, A q → s.heap.size ≤ q) (hbA : ¬ A b) (hE : pv_E A s s.heap) {x0 m0 o0 d0 : Nat} {xq xw mq : Nat → Nat} {xJ xP xO xC xI mI mI2 mI3 mT mC oL : ClassId} {xsg xsf msg msf : Nat → Int32} (hxsg : ∀ j, j < 3 → xsg j = 63) (hmsg : ∀ j, j < 3 → msg j = 63) {H : Heap} {locs : List Loc} (hK : va_K D pv_cl [(xJ, .long), (xP, .object "Polyforge$Polynomial"), (xO, .object "Polyforge$Ideal"), (xC, .char), (xI, .int), (mI, .int), (mT, .object "PolyforgeModel$Terms"), (mI2, .int), (mC, .char), (mI3, .int), (oL, .long)] s) (hP : va_P D pv_cl [(x0, .inr (0, [.ref (xq 0), .int 0, .int 108, .ref (xq 1), .int 0, .ref (xq 2), .int 0, .ref (xq 3), .ref (xq 4), .int 1, .ref (xq 5), .ref (xq 6), .ref (xq 7), .ref (xq 8), .ref (xq 9)])), ((xq 6), .inr (2, [.ref (xw 0), .ref (xw 1), .ref (xw 2), .ref (xw 3), .int 0, .int 0])), ((xw 2), .inl (xJ, 64, .inr (.inl (fun _ => 0)))), ((xq 0), .inl (xP, 60, .inr (.inr (.inr (.inr (fun _ => none)))))), ((xq 1), .inl (xO, 5, .inr (.inr (.inr (.inr (fun _ => none)))))), ((xq 3), .inl (xC, 3, .inl xsg)), ((xq 4), .inl (xI, 3, .inl xsf)), (m0, .inr (1, pv_m 0 mq)), ((mq 0), .inl (mI, 60, .inl (fun _ => 0))), ((mq 1), .inl (mT, 60, .inr (.inr (.inr (.inr (fun _ => none)))))), ((mq 2), .inl (mI2, 5, .inl (fun _ => 0))), ((mq 9), .inl (mC, 3, .inl msg)), ((mq 10), .inl (mI3, 3, .inl msf)), (o0, .inl (oL, 1, .inr (.inl (fun _ => 0))))] H) (hD : va_D A [(x0, .inr (0, [.ref (xq 0), .int 0, .int 108, .ref (xq 1), .int 0, .ref (xq 2), .int 0, .ref (xq 3), .ref (xq 4), .int 1, .ref (xq 5), .ref (xq 6), .ref (xq 7), .ref (xq 8), .ref (xq 9)])), ((xq 6), .inr (2, [.ref (xw 0), .ref (xw 1), .ref (xw 2), .ref (xw 3), .int 0, .int 0])), ((xw 2), .inl (xJ, 64, .inr (.inl (fun _ => 0)))), ((xq 0), .inl (xP, 60, .inr (.inr (.inr (.inr (fun _ => none)))))), ((xq 1), .inl (xO, 5, .inr (.inr (.inr (.inr (fun _ => none)))))), ((xq 3), .inl (xC, 3, .inl xsg)), ((xq 4), .inl (xI, 3, .inl xsf)), (m0, .inr (1, pv_m 0 mq)), ((mq 0), .inl (mI, 60, .inl (fun _ => 0))), ((mq 1), .inl (mT, 60, .inr (.inr (.inr (.inr (fun _ => none)))))), ((mq 2), .inl (mI2, 5, .inl (fun _ => 0))), ((mq 9), .inl (mC, 3, .inl msg)), ((mq 10), .inl (mI3, 3, .inl msf)), (o0, .inl (oL, 1, .inr (.inl (fun _ => 0))))]) (hS : va_S A s.heap H locs) {ls : Array Slot} (hl : lv_has ls 9 [(0, .ref b), (1, .ref x0), (2, .ref m0), (3, .ref o0), (4, .ref d0), (5, .int 0)]) : W p l e room_1 s m #[Value.ref b] below meth c H locs 397 653821 (lw_Z below #[Value.ref b] s) (F0 m 3365 ls []) := by
  obtain ⟨hx, hb, hr, hml, hown, hts0, hX, hbl, hlocks, hgv⟩ := C0
  have hts : ∀ w ∈ pv_W, w.before #[Value.ref b] s = true := fun w h => hts0 w (List.mem_filter.mp h).1
  have hg := fun {w : Cond} (h : w ∈ lw_tbl) (g : goodWord w = true) => hts w (pv_in h g)
  have hP : va_P D pv_cl [(x0, .inr (0, [.ref (xq 0), .int 0, .int 108, .ref (xq 1), .int 0, .ref (xq 2), .int 0, .ref (xq 3), .ref (xq 4), .int 1, .ref (xq 5), .ref (xq 6), .ref (xq 7), .ref (xq 8), .ref (xq 9)])), (m0, .inr (1, pv_m 0 mq))] _ := hP.sub [0, 7] rfl
  have hD : va_D A [(x0, .inr (0, [.ref (xq 0), .int 0, .int 108, .ref (xq 1), .int 0, .ref (xq 2), .int 0, .ref (xq 3), .ref (xq 4), .int 1, .ref (xq 5), .ref (xq 6), .ref (xq 7), .ref (xq 8), .ref (xq 9)])), (m0, .inr (1, pv_m 0 mq))] := hD.sub [0, 7] (by decide) rfl
  have hK : va_K D pv_cl [] s := hK.sub [] rfl
  refine lv_aload_n hx hb dL_law_3365 rfl (lv_at hl 1 rfl) ?_
  refine lv_aload_n hx hb dL_law_3366 rfl (lv_at hl 3 rfl) ?_
  have hF := pv_new hA hS.1
  refine va_calli (vx_runSW (As := [.ref x0, .ref o0]) (rest := []) ⟨hx, hb, hml, hown, hts⟩ (c_L_closeFrame l hfl D _ x0 xq o0) (vx_cwSW 2 hts (pv_gSW w8_110 w8_111 w1_0 w8_112) rfl rfl rfl (by decide +kernel) ⟨Nat.le_of_ble_eq_true rfl, Nat.le_of_ble_eq_true rfl⟩) (pv_ps hE hS hF (hP.sub [0] rfl) (hK.sub [] rfl) (hD.sub [0] (by decide) rfl)) rfl rfl hl.1 rfl (lv_room (Nat.le_of_ble_eq_true rfl)) dL_law_3367 ⟨Nat.le_of_ble_eq_true rfl, Nat.le_of_ble_eq_true rfl⟩) hS (fun q _ h => hF q h) hF (fun r_0 u t H1 locs1 ht hvm hw hB hz1 hk1 hS => ?_)
  refine W.widen (k := 398) (n := 653827) (Nat.le_of_ble_eq_true rfl) (Nat.le_of_ble_eq_true rfl) ?_
  have hP := pv_keep hP rfl hk1
  subst hw
  refine lv_istore (lv' := [(6, .int 1), (0, .ref b), (1, .ref x0), (2, .ref m0), (3, .ref o0), (4, .ref d0), (5, .int 0)]) hx hb dL_law_3370 hl (by decide) rfl (fun ls hl => ?_)
  refine lv_aload_n hx hb dL_law_3372 rfl (lv_at hl 3 rfl) ?_
  have hF := va_free (wc := [(m0, .inr (1, pv_m 0 mq))]) hD hS hA [1] rfl
  refine va_calli (va_runV (As := []) (rest := []) ⟨hx, hb, hml, hown, hts⟩ (c_X13_closeFrame l hfl D _ m0 mq ) (cwV 0 hts (pv_gV w11_82 w11_83 w11_84 w1_10 w11_85) rfl rfl rfl (by decide +kernel) ⟨Nat.le_of_ble_eq_true rfl, Nat.le_of_ble_eq_true rfl⟩) (pv_pV hE hS hF (hP.sub [1] rfl) (hK.sub [] rfl) (hD.sub [1] (by decide) rfl) (va_recv (ci := 1) (q0 := 1) hK hP rfl rfl)) rfl rfl hl.1 rfl (lv_room (Nat.le_of_ble_eq_true rfl)) dL_law_3373 ⟨Nat.le_of_ble_eq_true rfl, Nat.le_of_ble_eq_true rfl⟩) hS (fun q _ h => hF q h) hF (fun r_1 u t H1 locs1 ht hvm hw hB hz1 hk1 hS => ?_)
  refine W.widen (k := 398) (n := 653827) (Nat.le_of_ble_eq_true rfl) (Nat.le_of_ble_eq_true rfl) ?_
  subst hw
  obtain ⟨fs_3, hf_4, hP1, hK1, hD1⟩ := hB
  rw [ht] at hP1
  have hK1 := va_K.moved hvm.symm hK1
  obtain ⟨hP, hD⟩ := va_join (wr := [(x0, .inr (0, [.ref (xq 0), .int 0, .int 108, .ref (xq 1), .int 0, .ref (xq 2), .int 0, .ref (xq 3), .ref (xq 4), .int 1, .ref (xq 5), .ref (xq 6), .ref (xq 7), .ref (xq 8), .ref (xq 9)]))]) (w1 := [(m0, .inr (1, fs_3))]) hP hD [1] [0] rfl rfl (by decide) (by decide) hk1 hF hP1 hD1
  have hP : va_P D pv_cl [(x0, .inr (0, [.ref (xq 0), .int 0, .int 108, .ref (xq 1), .int 0, .ref (xq 2), .int 0, .ref (xq 3), .ref (xq 4), .int 1, .ref (xq 5), .ref (xq 6), .ref (xq 7), .ref (xq 8), .ref (xq 9)])), (m0, .inr (1, fs_3))] _ := hP
  have hD : va_D A [(x0, .inr (0, [.ref (xq 0), .int 0, .int 108, .ref (xq 1), .int 0, .ref (xq 2), .int 0, .ref (xq 3), .ref (xq 4), .int 1, .ref (xq 5), .ref (xq 6), .ref (xq 7), .ref (xq 8), .ref (xq 9)])), (m0, .inr (1, fs_3))] := hD
  refine lv_istore (lv' := [(7, .int r_1), (6, .int 1), (0, .ref b), (1, .ref x0), (2, .ref m0), (3, .ref o0), (4, .ref d0), (5, .int 0)]) hx hb dL_law_3376 hl (by decide) rfl (fun ls hl => ?_)
  refine lv_aload_n hx hb dL_law_3378 rfl (lv_at hl 4 rfl) ?_
  have hF := pv_new hA hS.1
  refine va_calli (va_runV (As := []) (rest := []) ⟨hx, hb, hml, hown, hts⟩ (c_X13_thrown l hfl D _ m0 fs_3 1 hf_4) (cwV 0 hts (pv_gV w9_102 w9_103 w9_104 w1_10 w9_105) rfl rfl rfl (by decide +kernel) ⟨Nat.le_of_ble_eq_true rfl, Nat.le_of_ble_eq_true rfl⟩) (pv_pV hE hS hF (hP.sub [1] rfl) (hK.sub [] rfl) (hD.sub [1] (by decide) rfl) (va_recv (ci := 1) (q0 := 1) hK hP rfl rfl)) rfl rfl hl.1 rfl (lv_room (Nat.le_of_ble_eq_true rfl)) dL_law_3379 ⟨Nat.le_of_ble_eq_true rfl, Nat.le_of_ble_eq_true rfl⟩) hS (fun q _ h => hF q h) hF (fun r_4 u t H1 locs1 ht hvm hw hB hz1 hk1 hS => ?_)
  refine W.widen (k := 398) (n := 653827) (Nat.le_of_ble_eq_true rfl) (Nat.le_of_ble_eq_true rfl) ?_
  have hP := pv_keep hP rfl hk1
  subst hw
  refine lv_iload hx hb dL_law_3382 (lv_at hl 1 rfl) ?_
  refine lv_icmp_eq (tgt := 3389) hx hb dL_law_3384 (by decide) (fun _ => ?_) (fun c_6 => absurd (by decide) c_6)
  refine pv_pc 3389 rfl ?_
  refine lv_iload hx hb dL_law_3389 (lv_at hl 1 rfl) ?_
  refine lv_if_ne (tgt := 3406) hx hb dL_law_3391 (by decide) (fun _ => ?_) (fun c_7 => absurd c_7 (by decide))
  refine lv_goto (tgt := 3721) hx hb dL_law_3406 (by decide) ?_
  refine lv_iinc (v := 7) (lv' := [(5, .int 7), (7, .int r_1), (6, .int 1), (0, .ref b), (1, .ref x0), (2, .ref m0), (3, .ref o0), (4, .ref d0)]) hx hb dL_law_3721 hl (k := 7) rfl (by decide) (by decide) rfl (fun ls hl => ?_)
  refine lv_goto (tgt := 28) hx hb dL_law_3724 (by decide) ?_
  refine lv_iload hx hb dL_law_28 (lv_at hl 0 rfl) ?_
  refine lv_aload_n hx hb dL_law_30 rfl (lv_at hl 3 rfl) ?_
  refine va_slen hx hb hX hbl hbA hS dL_law_31 ?_
  refine pv_setI 7 rfl ?_
  refine lv_bipush (v := 7) hx hb dL_law_32 (by decide) ?_
  refine lv_isub hx hb dL_law_34 ?_
  refine pv_setI 0 (by decide) ?_
  refine lv_icmp_gt (tgt := 3727) hx hb dL_law_35 (by decide) (fun _ => ?_) (fun c_8 => absurd (by decide) c_8)
  refine lv_iconst (v := 1) hx hb dL_law_3727 (by decide) ?_
  refine pv_pc 3728 rfl ?_
  refine va_forget (fun q hq => hAf _ (hS.2.2 q hq)) ?_
  refine W.widen (k := 600006) (n := 7302064) (Nat.le_of_ble_eq_true rfl) (Nat.le_of_ble_eq_true rfl) ?_
  exact lw_ret (d0 := s.drawn) (Drawn.sameBut.refl s.drawn lw_cs) hx hb hr hlocks dL_law_3728

theorem dL_law_3465 : decode cL_law 3465 = .ok (.aload_n 1, 1) := by decide +kernel
theorem dL_law_3466 : decode cL_law 3466 = .ok (.aload_n 0, 1) := by decide +kernel
theorem dL_law_3467 : decode cL_law 3467 = .ok (.iload 5, 2) := by decide +kernel
theorem dL_law_3469 : decode cL_law 3469 = .ok (.iconst 1, 1) := by decide +kernel
theorem dL_law_3470 : decode cL_law 3470 = .ok (.iadd, 1) := by decide +kernel
theorem dL_law_3471 : decode cL_law 3471 = .ok (.iaload, 1) := by decide +kernel
theorem dL_law_3472 : decode cL_law 3472 = .ok (.aload_n 3, 1) := by decide +kernel
theorem dL_law_3473 : decode cL_law 3473 = .ok (.invokestatic 351, 3) := by decide +kernel
theorem w8_125 : (Jvm.Cond.methodLink "PolyforgeLaw" (351 : Nat) ({ cls := "PolyforgeLaw", name := "rewrite", desc := "(LPolyforge;I[J)I" } : Jvm.MethodName)) ∈ lw_tbl := pv_t8 (pv_mg 125 rfl)
theorem w8_127 : (Jvm.Cond.codeWith ({ cls := "PolyforgeLaw", name := "rewrite", desc := "(LPolyforge;I[J)I" } : Jvm.MethodName) method_50_code (4 : Nat) (Option.some Jvm.ClassFile.FieldType.int) [((0 : Nat), (9 : Nat), (12 : Nat), (23 : Nat)), ((0 : Nat), (9 : Nat), (15 : Nat), (25 : Nat)), ((0 : Nat), (9 : Nat), (18 : Nat), (27 : Nat)), ((0 : Nat), (9 : Nat), (21 : Nat), (15 : Nat))]) ∈ lw_tbl := pv_t8 (pv_mg 127 rfl)
theorem w8_126 : (Jvm.Cond.static ({ cls := "PolyforgeLaw", name := "rewrite", desc := "(LPolyforge;I[J)I" } : Jvm.MethodName)) ∈ lw_tbl := pv_t8 (pv_mg 126 rfl)
theorem dL_law_3476 : decode cL_law 3476 = .ok (.istore 6, 2) := by decide +kernel
theorem dL_law_3478 : decode cL_law 3478 = .ok (.aload_n 2, 1) := by decide +kernel
theorem dL_law_3479 : decode cL_law 3479 = .ok (.aload_n 0, 1) := by decide +kernel
theorem dL_law_3480 : decode cL_law 3480 = .ok (.iload 5, 2) := by decide +kernel
theorem dL_law_3482 : decode cL_law 3482 = .ok (.iconst 1, 1) := by decide +kernel
theorem dL_law_3483 : decode cL_law 3483 = .ok (.iadd, 1) := by decide +kernel
theorem dL_law_3484 : decode cL_law 3484 = .ok (.iaload, 1) := by decide +kernel
theorem dL_law_3485 : decode cL_law 3485 = .ok (.invokevirtual 353, 3) := by decide +kernel
theorem w11_90 : (Jvm.Cond.methodLink "PolyforgeLaw" (353 : Nat) ({ cls := "PolyforgeModel", name := "rewrite", desc := "(I)I" } : Jvm.MethodName)) ∈ lw_tbl := pv_t11 (pv_mg 90 rfl)
theorem w11_93 : (Jvm.Cond.code ({ cls := "PolyforgeModel", name := "rewrite", desc := "(I)I" } : Jvm.MethodName) prog_14_method_122_code (4 : Nat) (Option.some Jvm.ClassFile.FieldType.int)) ∈ lw_tbl := pv_t11 (pv_mg 93 rfl)
theorem w11_92 : (Jvm.Cond.selects "PolyforgeModel" ({ cls := "PolyforgeModel", name := "rewrite", desc := "(I)I" } : Jvm.MethodName) ({ cls := "PolyforgeModel", name := "rewrite", desc := "(I)I" } : Jvm.MethodName)) ∈ lw_tbl := pv_t11 (pv_mg 92 rfl)
theorem w11_91 : (Jvm.Cond.instanceMethod ({ cls := "PolyforgeModel", name := "rewrite", desc := "(I)I" } : Jvm.MethodName)) ∈ lw_tbl := pv_t11 (pv_mg 91 rfl)
theorem dL_law_3488 : decode cL_law 3488 = .ok (.istore 7, 2) := by decide +kernel
theorem dL_law_3490 : decode cL_law 3490 = .ok (.aload_n 2, 1) := by decide +kernel
theorem dL_law_3491 : decode cL_law 3491 = .ok (.invokevirtual 199, 3) := by decide +kernel
theorem dL_law_3494 : decode cL_law 3494 = .ok (.iload 6, 2) := by decide +kernel
theorem dL_law_3496 : decode cL_law 3496 = .ok (.if_icmp .eq 5, 3) := by decide +kernel
theorem dL_law_3501 : decode cL_law 3501 = .ok (.iload 6, 2) := by decide +kernel
theorem dL_law_3503 : decode cL_law 3503 = .ok (.ifCond .ne 15, 3) := by decide +kernel
theorem dL_law_3518 : decode cL_law 3518 = .ok (.goto 203, 3) := by decide +kernel
set_option maxHeartbeats 4000000 in
set_option maxRecDepth 100000 in
/-- the law, call 48: rewrite -/
theorem law_case_48 {p : Program} {e : Env} {s : State} {m : MethodId} {below : List Frame} {meth : Method} {c : Code} (l : Launch) (hfl : l.stackTraces = false) {b : Nat} {xs : Nat → Int32} (C0 : lw_At p s m meth c b 7 xs) {D : va_G} {A : Nat → Prop} (hA : ∀ q : Nat, s.heap.size ≤ q → A q) (hAf : ∀ q : Nat, A q → s.heap.size ≤ q) (hbA : ¬ A b) (hE : pv_E A s s.heap) {x0 m0 o0 d0 : Nat} {xq xw mq : Nat → Nat} {xJ xP xO xC xI mI mI2 mI3 mT mC oL : ClassId} {xsg xsf msg msf : Nat → Int32} (hxsg : ∀ j, j < 3 → xsg j = 63) (hmsg : ∀ j, j < 3 → msg j = 63) {H : Heap} {locs : List Loc} (hK : va_K D pv_cl [(xJ, .long), (xP, .object "Polyforge$Polynomial"), (xO, .object "Polyforge$Ideal"), (xC, .char), (xI, .int), (mI, .int), (mT, .object "PolyforgeModel$Terms"), (mI2, .int), (mC, .char), (mI3, .int), (oL, .long)] s) (hP : va_P D pv_cl [(x0, .inr (0, [.ref (xq 0), .int 0, .int 108, .ref (xq 1), .int 0, .ref (xq 2), .int 0, .ref (xq 3), .ref (xq 4), .int 1, .ref (xq 5), .ref (xq 6), .ref (xq 7), .ref (xq 8), .ref (xq 9)])), ((xq 6), .inr (2, [.ref (xw 0), .ref (xw 1), .ref (xw 2), .ref (xw 3), .int 0, .int 0])), ((xw 2), .inl (xJ, 64, .inr (.inl (fun _ => 0)))), ((xq 0), .inl (xP, 60, .inr (.inr (.inr (.inr (fun _ => none)))))), ((xq 1), .inl (xO, 5, .inr (.inr (.inr (.inr (fun _ => none)))))), ((xq 3), .inl (xC, 3, .inl xsg)), ((xq 4), .inl (xI, 3, .inl xsf)), (m0, .inr (1, pv_m 0 mq)), ((mq 0), .inl (mI, 60, .inl (fun _ => 0))), ((mq 1), .inl (mT, 60, .inr (.inr (.inr (.inr (fun _ => none)))))), ((mq 2), .inl (mI2, 5, .inl (fun _ => 0))), ((mq 9), .inl (mC, 3, .inl msg)), ((mq 10), .inl (mI3, 3, .inl msf)), (o0, .inl (oL, 1, .inr (.inl (fun _ => 0))))] H) (hD : va_D A [(x0, .inr (0, [.ref (xq 0), .int 0, .int 108, .ref (xq 1), .int 0, .ref (xq 2), .int 0, .ref (xq 3), .ref (xq 4), .int 1, .ref (xq 5), .ref (xq 6), .ref (xq 7), .ref (xq 8), .ref (xq 9)])), ((xq 6), .inr (2, [.ref (xw 0), .ref (xw 1), .ref (xw 2), .ref (xw 3), .int 0, .int 0])), ((xw 2), .inl (xJ, 64, .inr (.inl (fun _ => 0)))), ((xq 0), .inl (xP, 60, .inr (.inr (.inr (.inr (fun _ => none)))))), ((xq 1), .inl (xO, 5, .inr (.inr (.inr (.inr (fun _ => none)))))), ((xq 3), .inl (xC, 3, .inl xsg)), ((xq 4), .inl (xI, 3, .inl xsf)), (m0, .inr (1, pv_m 0 mq)), ((mq 0), .inl (mI, 60, .inl (fun _ => 0))), ((mq 1), .inl (mT, 60, .inr (.inr (.inr (.inr (fun _ => none)))))), ((mq 2), .inl (mI2, 5, .inl (fun _ => 0))), ((mq 9), .inl (mC, 3, .inl msg)), ((mq 10), .inl (mI3, 3, .inl msf)), (o0, .inl (oL, 1, .inr (.inl (fun _ => 0))))]) (hS : va_S A s.heap H locs) {ls : Array Slot} (hl : lv_has ls 9 [(0, .ref b), (1, .ref x0), (2, .ref m0), (3, .ref o0), (4, .ref d0), (5, .int 0)]) : W p l e room_1 s m #[Value.ref b] below meth c H locs 397 653821 (lw_Z below #[Value.ref b] s) (F0 m 3465 ls []) := by
  obtain ⟨hx, hb, hr, hml, hown, hts0, hX, hbl, hlocks, hgv⟩ := C0
  have hts : ∀ w ∈ pv_W, w.before #[Value.ref b] s = true := fun w h => hts0 w (List.mem_filter.mp h).1
  have hg := fun {w : Cond} (h : w ∈ lw_tbl) (g : goodWord w = true) => hts w (pv_in h g)
  have hP : va_P D pv_cl [(x0, .inr (0, [.ref (xq 0), .int 0, .int 108, .ref (xq 1), .int 0, .ref (xq 2), .int 0, .ref (xq 3), .ref (xq 4), .int 1, .ref (xq 5), .ref (xq 6), .ref (xq 7), .ref (xq 8), .ref (xq 9)])), (m0, .inr (1, pv_m 0 mq))] _ := hP.sub [0, 7] rfl
  have hD : va_D A [(x0, .inr (0, [.ref (xq 0), .int 0, .int 108, .ref (xq 1), .int 0, .ref (xq 2), .int 0, .ref (xq 3), .ref (xq 4), .int 1, .ref (xq 5), .ref (xq 6), .ref (xq 7), .ref (xq 8), .ref (xq 9)])), (m0, .inr (1, pv_m 0 mq))] := hD.sub [0, 7] (by decide) rfl
  have hK : va_K D pv_cl [] s := hK.sub [] rfl
  refine lv_aload_n hx hb dL_law_3465 rfl (lv_at hl 1 rfl) ?_
  refine lv_aload_n hx hb dL_law_3466 rfl (lv_at hl 0 rfl) ?_
  refine lv_iload hx hb dL_law_3467 (lv_at hl 5 rfl) ?_
  refine lv_iconst (v := 1) hx hb dL_law_3469 (by decide) ?_
  refine lv_iadd hx hb dL_law_3470 ?_
  refine pv_setI 1 (by decide) ?_
  refine va_sld hx hb hX hbl hbA hS (by unfold vp_in; decide) dL_law_3471 ?_
  refine pv_setI (xs 1) rfl ?_
  refine lv_aload_n hx hb dL_law_3472 rfl (lv_at hl 3 rfl) ?_
  have hF := pv_new hA hS.1
  refine va_calli (vx_runSW (As := [.ref x0, .int (xs 1), .ref o0]) (rest := []) ⟨hx, hb, hml, hown, hts⟩ (c_L_rewrite l hfl D _ x0 xq (xs 1) o0) (vx_cwSW 3 hts (pv_gSW w8_125 w8_126 w1_0 w8_127) rfl rfl rfl (by decide +kernel) ⟨Nat.le_of_ble_eq_true rfl, Nat.le_of_ble_eq_true rfl⟩) (pv_ps hE hS hF (hP.sub [0] rfl) (hK.sub [] rfl) (hD.sub [0] (by decide) rfl)) rfl rfl hl.1 rfl (lv_room (Nat.le_of_ble_eq_true rfl)) dL_law_3473 ⟨Nat.le_of_ble_eq_true rfl, Nat.le_of_ble_eq_true rfl⟩) hS (fun q _ h => hF q h) hF (fun r_0 u t H1 locs1 ht hvm hw hB hz1 hk1 hS => ?_)
  refine W.widen (k := 398) (n := 653827) (Nat.le_of_ble_eq_true rfl) (Nat.le_of_ble_eq_true rfl) ?_
  have hP := pv_keep hP rfl hk1
  subst hw
  refine lv_istore (lv' := [(6, .int 1), (0, .ref b), (1, .ref x0), (2, .ref m0), (3, .ref o0), (4, .ref d0), (5, .int 0)]) hx hb dL_law_3476 hl (by decide) rfl (fun ls hl => ?_)
  refine lv_aload_n hx hb dL_law_3478 rfl (lv_at hl 3 rfl) ?_
  refine lv_aload_n hx hb dL_law_3479 rfl (lv_at hl 1 rfl) ?_
  refine pv_pc 3480 rfl ?_
  refine lv_iload hx hb dL_law_3480 (lv_at hl 6 rfl) ?_
  refine lv_iconst (v := 1) hx hb dL_law_3482 (by decide) ?_
  refine lv_iadd hx hb dL_law_3483 ?_
  refine pv_setI 1 (by decide) ?_
  refine va_sld hx hb hX hbl hbA hS (by unfold vp_in; decide) dL_law_3484 ?_
  refine pv_setI (xs 1) rfl ?_
  have hF := va_free (wc := [(m0, .inr (1, pv_m 0 mq))]) hD hS hA [1] rfl
  refine va_calli (va_runV (As := [.int (xs 1)]) (rest := []) ⟨hx, hb, hml, hown, hts⟩ (c_X13_rewrite l hfl D _ m0 mq (xs 1)) (cwV 1 hts (pv_gV w11_90 w11_91 w11_92 w1_10 w11_93) rfl rfl rfl (by decide +kernel) ⟨Nat.le_of_ble_eq_true rfl, Nat.le_of_ble_eq_true rfl⟩) (pv_pV hE hS hF (hP.sub [1] rfl) (hK.sub [] rfl) (hD.sub [1] (by decide) rfl) (va_recv (ci := 1) (q0 := 1) hK hP rfl rfl)) rfl rfl hl.1 rfl (lv_room (Nat.le_of_ble_eq_true rfl)) dL_law_3485 ⟨Nat.le_of_ble_eq_true rfl, Nat.le_of_ble_eq_true rfl⟩) hS (fun q _ h => hF q h) hF (fun r_1 u t H1 locs1 ht hvm hw hB hz1 hk1 hS => ?_)
  refine W.widen (k := 398) (n := 653827) (Nat.le_of_ble_eq_true rfl) (Nat.le_of_ble_eq_true rfl) ?_
  subst hw
  obtain ⟨fs_3, hf_4, hP1, hK1, hD1⟩ := hB
  rw [ht] at hP1
  have hK1 := va_K.moved hvm.symm hK1
  obtain ⟨hP, hD⟩ := va_join (wr := [(x0, .inr (0, [.ref (xq 0), .int 0, .int 108, .ref (xq 1), .int 0, .ref (xq 2), .int 0, .ref (xq 3), .ref (xq 4), .int 1, .ref (xq 5), .ref (xq 6), .ref (xq 7), .ref (xq 8), .ref (xq 9)]))]) (w1 := [(m0, .inr (1, fs_3))]) hP hD [1] [0] rfl rfl (by decide) (by decide) hk1 hF hP1 hD1
  have hP : va_P D pv_cl [(x0, .inr (0, [.ref (xq 0), .int 0, .int 108, .ref (xq 1), .int 0, .ref (xq 2), .int 0, .ref (xq 3), .ref (xq 4), .int 1, .ref (xq 5), .ref (xq 6), .ref (xq 7), .ref (xq 8), .ref (xq 9)])), (m0, .inr (1, fs_3))] _ := hP
  have hD : va_D A [(x0, .inr (0, [.ref (xq 0), .int 0, .int 108, .ref (xq 1), .int 0, .ref (xq 2), .int 0, .ref (xq 3), .ref (xq 4), .int 1, .ref (xq 5), .ref (xq 6), .ref (xq 7), .ref (xq 8), .ref (xq 9)])), (m0, .inr (1, fs_3))] := hD
  refine lv_istore (lv' := [(7, .int r_1), (6, .int 1), (0, .ref b), (1, .ref x0), (2, .ref m0), (3, .ref o0), (4, .ref d0), (5, .int 0)]) hx hb dL_law_3488 hl (by decide) rfl (fun ls hl => ?_)
  refine lv_aload_n hx hb dL_law_3490 rfl (lv_at hl 4 rfl) ?_
  have hF := pv_new hA hS.1
  refine va_calli (va_runV (As := []) (rest := []) ⟨hx, hb, hml, hown, hts⟩ (c_X13_thrown l hfl D _ m0 fs_3 1 hf_4) (cwV 0 hts (pv_gV w9_102 w9_103 w9_104 w1_10 w9_105) rfl rfl rfl (by decide +kernel) ⟨Nat.le_of_ble_eq_true rfl, Nat.le_of_ble_eq_true rfl⟩) (pv_pV hE hS hF (hP.sub [1] rfl) (hK.sub [] rfl) (hD.sub [1] (by decide) rfl) (va_recv (ci := 1) (q0 := 1) hK hP rfl rfl)) rfl rfl hl.1 rfl (lv_room (Nat.le_of_ble_eq_true rfl)) dL_law_3491 ⟨Nat.le_of_ble_eq_true rfl, Nat.le_of_ble_eq_true rfl⟩) hS (fun q _ h => hF q h) hF (fun r_4 u t H1 locs1 ht hvm hw hB hz1 hk1 hS => ?_)
  refine W.widen (k := 398) (n := 653827) (Nat.le_of_ble_eq_true rfl) (Nat.le_of_ble_eq_true rfl) ?_
  have hP := pv_keep hP rfl hk1
  subst hw
  refine lv_iload hx hb dL_law_3494 (lv_at hl 1 rfl) ?_
  refine lv_icmp_eq (tgt := 3501) hx hb dL_law_3496 (by decide) (fun _ => ?_) (fun c_6 => absurd (by decide) c_6)
  refine lv_iload hx hb dL_law_3501 (lv_at hl 1 rfl) ?_
  refine lv_if_ne (tgt := 3518) hx hb dL_law_3503 (by decide) (fun _ => ?_) (fun c_7 => absurd c_7 (by decide))
  refine pv_pc 3518 rfl ?_
  refine lv_goto (tgt := 3721) hx hb dL_law_3518 (by decide) ?_
  refine lv_iinc (v := 7) (lv' := [(5, .int 7), (7, .int r_1), (6, .int 1), (0, .ref b), (1, .ref x0), (2, .ref m0), (3, .ref o0), (4, .ref d0)]) hx hb dL_law_3721 hl (k := 7) rfl (by decide) (by decide) rfl (fun ls hl => ?_)
  refine lv_goto (tgt := 28) hx hb dL_law_3724 (by decide) ?_
  refine lv_iload hx hb dL_law_28 (lv_at hl 0 rfl) ?_
  refine lv_aload_n hx hb dL_law_30 rfl (lv_at hl 3 rfl) ?_
  refine va_slen hx hb hX hbl hbA hS dL_law_31 ?_
  refine pv_setI 7 rfl ?_
  refine lv_bipush (v := 7) hx hb dL_law_32 (by decide) ?_
  refine lv_isub hx hb dL_law_34 ?_
  refine pv_setI 0 (by decide) ?_
  refine lv_icmp_gt (tgt := 3727) hx hb dL_law_35 (by decide) (fun _ => ?_) (fun c_8 => absurd (by decide) c_8)
  refine lv_iconst (v := 1) hx hb dL_law_3727 (by decide) ?_
  refine va_forget (fun q hq => hAf _ (hS.2.2 q hq)) ?_
  refine W.widen (k := 600006) (n := 7302064) (Nat.le_of_ble_eq_true rfl) (Nat.le_of_ble_eq_true rfl) ?_
  exact lw_ret (d0 := s.drawn) (Drawn.sameBut.refl s.drawn lw_cs) hx hb hr hlocks dL_law_3728

theorem dL_law_3521 : decode cL_law 3521 = .ok (.aload_n 1, 1) := by decide +kernel
theorem dL_law_3522 : decode cL_law 3522 = .ok (.aload_n 0, 1) := by decide +kernel
theorem dL_law_3523 : decode cL_law 3523 = .ok (.iload 5, 2) := by decide +kernel
theorem dL_law_3525 : decode cL_law 3525 = .ok (.iconst 1, 1) := by decide +kernel
theorem dL_law_3526 : decode cL_law 3526 = .ok (.iadd, 1) := by decide +kernel
theorem dL_law_3527 : decode cL_law 3527 = .ok (.iaload, 1) := by decide +kernel
theorem dL_law_3528 : decode cL_law 3528 = .ok (.aload_n 3, 1) := by decide +kernel
theorem dL_law_3529 : decode cL_law 3529 = .ok (.invokestatic 354, 3) := by decide +kernel
theorem w8_162 : (Jvm.Cond.methodLink "PolyforgeLaw" (354 : Nat) ({ cls := "PolyforgeLaw", name := "steps", desc := "(LPolyforge;I[J)I" } : Jvm.MethodName)) ∈ lw_tbl := pv_t8 (pv_mg 162 rfl)
theorem w8_164 : (Jvm.Cond.codeWith ({ cls := "PolyforgeLaw", name := "steps", desc := "(LPolyforge;I[J)I" } : Jvm.MethodName) method_51_code (4 : Nat) (Option.some Jvm.ClassFile.FieldType.int) [((0 : Nat), (9 : Nat), (12 : Nat), (23 : Nat)), ((0 : Nat), (9 : Nat), (15 : Nat), (25 : Nat)), ((0 : Nat), (9 : Nat), (18 : Nat), (27 : Nat))]) ∈ lw_tbl := pv_t8 (pv_mg 164 rfl)
theorem w8_163 : (Jvm.Cond.static ({ cls := "PolyforgeLaw", name := "steps", desc := "(LPolyforge;I[J)I" } : Jvm.MethodName)) ∈ lw_tbl := pv_t8 (pv_mg 163 rfl)
theorem dL_law_3532 : decode cL_law 3532 = .ok (.istore 6, 2) := by decide +kernel
theorem dL_law_3534 : decode cL_law 3534 = .ok (.aload_n 2, 1) := by decide +kernel
theorem dL_law_3535 : decode cL_law 3535 = .ok (.aload_n 0, 1) := by decide +kernel
theorem dL_law_3536 : decode cL_law 3536 = .ok (.iload 5, 2) := by decide +kernel
theorem dL_law_3538 : decode cL_law 3538 = .ok (.iconst 1, 1) := by decide +kernel
theorem dL_law_3539 : decode cL_law 3539 = .ok (.iadd, 1) := by decide +kernel
theorem dL_law_3540 : decode cL_law 3540 = .ok (.iaload, 1) := by decide +kernel
theorem dL_law_3541 : decode cL_law 3541 = .ok (.invokevirtual 356, 3) := by decide +kernel
theorem w11_110 : (Jvm.Cond.methodLink "PolyforgeLaw" (356 : Nat) ({ cls := "PolyforgeModel", name := "steps", desc := "(I)I" } : Jvm.MethodName)) ∈ lw_tbl := pv_t11 (pv_mg 110 rfl)
theorem w11_113 : (Jvm.Cond.code ({ cls := "PolyforgeModel", name := "steps", desc := "(I)I" } : Jvm.MethodName) prog_14_method_123_code (2 : Nat) (Option.some Jvm.ClassFile.FieldType.int)) ∈ lw_tbl := pv_t11 (pv_mg 113 rfl)
theorem w11_112 : (Jvm.Cond.selects "PolyforgeModel" ({ cls := "PolyforgeModel", name := "steps", desc := "(I)I" } : Jvm.MethodName) ({ cls := "PolyforgeModel", name := "steps", desc := "(I)I" } : Jvm.MethodName)) ∈ lw_tbl := pv_t11 (pv_mg 112 rfl)
theorem w11_111 : (Jvm.Cond.instanceMethod ({ cls := "PolyforgeModel", name := "steps", desc := "(I)I" } : Jvm.MethodName)) ∈ lw_tbl := pv_t11 (pv_mg 111 rfl)
theorem dL_law_3544 : decode cL_law 3544 = .ok (.istore 7, 2) := by decide +kernel
theorem dL_law_3546 : decode cL_law 3546 = .ok (.aload_n 2, 1) := by decide +kernel
theorem dL_law_3547 : decode cL_law 3547 = .ok (.invokevirtual 199, 3) := by decide +kernel
theorem dL_law_3550 : decode cL_law 3550 = .ok (.iload 6, 2) := by decide +kernel
theorem dL_law_3552 : decode cL_law 3552 = .ok (.if_icmp .eq 5, 3) := by decide +kernel
theorem dL_law_3557 : decode cL_law 3557 = .ok (.iload 6, 2) := by decide +kernel
theorem dL_law_3559 : decode cL_law 3559 = .ok (.ifCond .ne 15, 3) := by decide +kernel
theorem dL_law_3574 : decode cL_law 3574 = .ok (.goto 147, 3) := by decide +kernel
set_option maxHeartbeats 4000000 in
set_option maxRecDepth 100000 in
/-- the law, call 49: steps -/
theorem law_case_49 {p : Program} {e : Env} {s : State} {m : MethodId} {below : List Frame} {meth : Method} {c : Code} (l : Launch) (hfl : l.stackTraces = false) {b : Nat} {xs : Nat → Int32} (C0 : lw_At p s m meth c b 7 xs) {D : va_G} {A : Nat → Prop} (hA : ∀ q : Nat, s.heap.size ≤ q → A q) (hAf : ∀ q : Nat, A q → s.heap.size ≤ q) (hbA : ¬ A b) (hE : pv_E A s s.heap) {x0 m0 o0 d0 : Nat} {xq xw mq : Nat → Nat} {xJ xP xO xC xI mI mI2 mI3 mT mC oL : ClassId} {xsg xsf msg msf : Nat → Int32} (hxsg : ∀ j, j < 3 → xsg j = 63) (hmsg : ∀ j, j < 3 → msg j = 63) {H : Heap} {locs : List Loc} (hK : va_K D pv_cl [(xJ, .long), (xP, .object "Polyforge$Polynomial"), (xO, .object "Polyforge$Ideal"), (xC, .char), (xI, .int), (mI, .int), (mT, .object "PolyforgeModel$Terms"), (mI2, .int), (mC, .char), (mI3, .int), (oL, .long)] s) (hP : va_P D pv_cl [(x0, .inr (0, [.ref (xq 0), .int 0, .int 108, .ref (xq 1), .int 0, .ref (xq 2), .int 0, .ref (xq 3), .ref (xq 4), .int 1, .ref (xq 5), .ref (xq 6), .ref (xq 7), .ref (xq 8), .ref (xq 9)])), ((xq 6), .inr (2, [.ref (xw 0), .ref (xw 1), .ref (xw 2), .ref (xw 3), .int 0, .int 0])), ((xw 2), .inl (xJ, 64, .inr (.inl (fun _ => 0)))), ((xq 0), .inl (xP, 60, .inr (.inr (.inr (.inr (fun _ => none)))))), ((xq 1), .inl (xO, 5, .inr (.inr (.inr (.inr (fun _ => none)))))), ((xq 3), .inl (xC, 3, .inl xsg)), ((xq 4), .inl (xI, 3, .inl xsf)), (m0, .inr (1, pv_m 0 mq)), ((mq 0), .inl (mI, 60, .inl (fun _ => 0))), ((mq 1), .inl (mT, 60, .inr (.inr (.inr (.inr (fun _ => none)))))), ((mq 2), .inl (mI2, 5, .inl (fun _ => 0))), ((mq 9), .inl (mC, 3, .inl msg)), ((mq 10), .inl (mI3, 3, .inl msf)), (o0, .inl (oL, 1, .inr (.inl (fun _ => 0))))] H) (hD : va_D A [(x0, .inr (0, [.ref (xq 0), .int 0, .int 108, .ref (xq 1), .int 0, .ref (xq 2), .int 0, .ref (xq 3), .ref (xq 4), .int 1, .ref (xq 5), .ref (xq 6), .ref (xq 7), .ref (xq 8), .ref (xq 9)])), ((xq 6), .inr (2, [.ref (xw 0), .ref (xw 1), .ref (xw 2), .ref (xw 3), .int 0, .int 0])), ((xw 2), .inl (xJ, 64, .inr (.inl (fun _ => 0)))), ((xq 0), .inl (xP, 60, .inr (.inr (.inr (.inr (fun _ => none)))))), ((xq 1), .inl (xO, 5, .inr (.inr (.inr (.inr (fun _ => none)))))), ((xq 3), .inl (xC, 3, .inl xsg)), ((xq 4), .inl (xI, 3, .inl xsf)), (m0, .inr (1, pv_m 0 mq)), ((mq 0), .inl (mI, 60, .inl (fun _ => 0))), ((mq 1), .inl (mT, 60, .inr (.inr (.inr (.inr (fun _ => none)))))), ((mq 2), .inl (mI2, 5, .inl (fun _ => 0))), ((mq 9), .inl (mC, 3, .inl msg)), ((mq 10), .inl (mI3, 3, .inl msf)), (o0, .inl (oL, 1, .inr (.inl (fun _ => 0))))]) (hS : va_S A s.heap H locs) {ls : Array Slot} (hl : lv_has ls 9 [(0, .ref b), (1, .ref x0), (2, .ref m0), (3, .ref o0), (4, .ref d0), (5, .int 0)]) : W p l e room_1 s m #[Value.ref b] below meth c H locs 397 653821 (lw_Z below #[Value.ref b] s) (F0 m 3521 ls []) := by
  obtain ⟨hx, hb, hr, hml, hown, hts0, hX, hbl, hlocks, hgv⟩ := C0
  have hts : ∀ w ∈ pv_W, w.before #[Value.ref b] s = true := fun w h => hts0 w (List.mem_filter.mp h).1
  have hg := fun {w : Cond} (h : w ∈ lw_tbl) (g : goodWord w = true) => hts w (pv_in h g)
  have hP : va_P D pv_cl [(x0, .inr (0, [.ref (xq 0), .int 0, .int 108, .ref (xq 1), .int 0, .ref (xq 2), .int 0, .ref (xq 3), .ref (xq 4), .int 1, .ref (xq 5), .ref (xq 6), .ref (xq 7), .ref (xq 8), .ref (xq 9)])), (m0, .inr (1, pv_m 0 mq))] _ := hP.sub [0, 7] rfl
  have hD : va_D A [(x0, .inr (0, [.ref (xq 0), .int 0, .int 108, .ref (xq 1), .int 0, .ref (xq 2), .int 0, .ref (xq 3), .ref (xq 4), .int 1, .ref (xq 5), .ref (xq 6), .ref (xq 7), .ref (xq 8), .ref (xq 9)])), (m0, .inr (1, pv_m 0 mq))] := hD.sub [0, 7] (by decide) rfl
  have hK : va_K D pv_cl [] s := hK.sub [] rfl
  refine lv_aload_n hx hb dL_law_3521 rfl (lv_at hl 1 rfl) ?_
  refine lv_aload_n hx hb dL_law_3522 rfl (lv_at hl 0 rfl) ?_
  refine lv_iload hx hb dL_law_3523 (lv_at hl 5 rfl) ?_
  refine lv_iconst (v := 1) hx hb dL_law_3525 (by decide) ?_
  refine lv_iadd hx hb dL_law_3526 ?_
  refine pv_setI 1 (by decide) ?_
  refine va_sld hx hb hX hbl hbA hS (by unfold vp_in; decide) dL_law_3527 ?_
  refine pv_setI (xs 1) rfl ?_
  refine lv_aload_n hx hb dL_law_3528 rfl (lv_at hl 3 rfl) ?_
  have hF := pv_new hA hS.1
  refine va_calli (vx_runSW (As := [.ref x0, .int (xs 1), .ref o0]) (rest := []) ⟨hx, hb, hml, hown, hts⟩ (c_L_steps l hfl D _ x0 xq (xs 1) o0) (vx_cwSW 3 hts (pv_gSW w8_162 w8_163 w1_0 w8_164) rfl rfl rfl (by decide +kernel) ⟨Nat.le_of_ble_eq_true rfl, Nat.le_of_ble_eq_true rfl⟩) (pv_ps hE hS hF (hP.sub [0] rfl) (hK.sub [] rfl) (hD.sub [0] (by decide) rfl)) rfl rfl hl.1 rfl (lv_room (Nat.le_of_ble_eq_true rfl)) dL_law_3529 ⟨Nat.le_of_ble_eq_true rfl, Nat.le_of_ble_eq_true rfl⟩) hS (fun q _ h => hF q h) hF (fun r_0 u t H1 locs1 ht hvm hw hB hz1 hk1 hS => ?_)
  refine W.widen (k := 398) (n := 653827) (Nat.le_of_ble_eq_true rfl) (Nat.le_of_ble_eq_true rfl) ?_
  have hP := pv_keep hP rfl hk1
  subst hw
  refine lv_istore (lv' := [(6, .int 1), (0, .ref b), (1, .ref x0), (2, .ref m0), (3, .ref o0), (4, .ref d0), (5, .int 0)]) hx hb dL_law_3532 hl (by decide) rfl (fun ls hl => ?_)
  refine lv_aload_n hx hb dL_law_3534 rfl (lv_at hl 3 rfl) ?_
  refine lv_aload_n hx hb dL_law_3535 rfl (lv_at hl 1 rfl) ?_
  refine pv_pc 3536 rfl ?_
  refine lv_iload hx hb dL_law_3536 (lv_at hl 6 rfl) ?_
  refine lv_iconst (v := 1) hx hb dL_law_3538 (by decide) ?_
  refine lv_iadd hx hb dL_law_3539 ?_
  refine pv_setI 1 (by decide) ?_
  refine va_sld hx hb hX hbl hbA hS (by unfold vp_in; decide) dL_law_3540 ?_
  refine pv_setI (xs 1) rfl ?_
  have hF := va_free (wc := [(m0, .inr (1, pv_m 0 mq))]) hD hS hA [1] rfl
  refine va_calli (va_runV (As := [.int (xs 1)]) (rest := []) ⟨hx, hb, hml, hown, hts⟩ (c_X13_steps l hfl D _ m0 mq (xs 1)) (cwV 1 hts (pv_gV w11_110 w11_111 w11_112 w1_10 w11_113) rfl rfl rfl (by decide +kernel) ⟨Nat.le_of_ble_eq_true rfl, Nat.le_of_ble_eq_true rfl⟩) (pv_pV hE hS hF (hP.sub [1] rfl) (hK.sub [] rfl) (hD.sub [1] (by decide) rfl) (va_recv (ci := 1) (q0 := 1) hK hP rfl rfl)) rfl rfl hl.1 rfl (lv_room (Nat.le_of_ble_eq_true rfl)) dL_law_3541 ⟨Nat.le_of_ble_eq_true rfl, Nat.le_of_ble_eq_true rfl⟩) hS (fun q _ h => hF q h) hF (fun r_1 u t H1 locs1 ht hvm hw hB hz1 hk1 hS => ?_)
  refine W.widen (k := 398) (n := 653827) (Nat.le_of_ble_eq_true rfl) (Nat.le_of_ble_eq_true rfl) ?_
  subst hw
  obtain ⟨fs_3, hf_4, hP1, hK1, hD1⟩ := hB
  rw [ht] at hP1
  have hK1 := va_K.moved hvm.symm hK1
  obtain ⟨hP, hD⟩ := va_join (wr := [(x0, .inr (0, [.ref (xq 0), .int 0, .int 108, .ref (xq 1), .int 0, .ref (xq 2), .int 0, .ref (xq 3), .ref (xq 4), .int 1, .ref (xq 5), .ref (xq 6), .ref (xq 7), .ref (xq 8), .ref (xq 9)]))]) (w1 := [(m0, .inr (1, fs_3))]) hP hD [1] [0] rfl rfl (by decide) (by decide) hk1 hF hP1 hD1
  have hP : va_P D pv_cl [(x0, .inr (0, [.ref (xq 0), .int 0, .int 108, .ref (xq 1), .int 0, .ref (xq 2), .int 0, .ref (xq 3), .ref (xq 4), .int 1, .ref (xq 5), .ref (xq 6), .ref (xq 7), .ref (xq 8), .ref (xq 9)])), (m0, .inr (1, fs_3))] _ := hP
  have hD : va_D A [(x0, .inr (0, [.ref (xq 0), .int 0, .int 108, .ref (xq 1), .int 0, .ref (xq 2), .int 0, .ref (xq 3), .ref (xq 4), .int 1, .ref (xq 5), .ref (xq 6), .ref (xq 7), .ref (xq 8), .ref (xq 9)])), (m0, .inr (1, fs_3))] := hD
  refine lv_istore (lv' := [(7, .int r_1), (6, .int 1), (0, .ref b), (1, .ref x0), (2, .ref m0), (3, .ref o0), (4, .ref d0), (5, .int 0)]) hx hb dL_law_3544 hl (by decide) rfl (fun ls hl => ?_)
  refine lv_aload_n hx hb dL_law_3546 rfl (lv_at hl 4 rfl) ?_
  have hF := pv_new hA hS.1
  refine va_calli (va_runV (As := []) (rest := []) ⟨hx, hb, hml, hown, hts⟩ (c_X13_thrown l hfl D _ m0 fs_3 1 hf_4) (cwV 0 hts (pv_gV w9_102 w9_103 w9_104 w1_10 w9_105) rfl rfl rfl (by decide +kernel) ⟨Nat.le_of_ble_eq_true rfl, Nat.le_of_ble_eq_true rfl⟩) (pv_pV hE hS hF (hP.sub [1] rfl) (hK.sub [] rfl) (hD.sub [1] (by decide) rfl) (va_recv (ci := 1) (q0 := 1) hK hP rfl rfl)) rfl rfl hl.1 rfl (lv_room (Nat.le_of_ble_eq_true rfl)) dL_law_3547 ⟨Nat.le_of_ble_eq_true rfl, Nat.le_of_ble_eq_true rfl⟩) hS (fun q _ h => hF q h) hF (fun r_4 u t H1 locs1 ht hvm hw hB hz1 hk1 hS => ?_)
  refine W.widen (k := 398) (n := 653827) (Nat.le_of_ble_eq_true rfl) (Nat.le_of_ble_eq_true rfl) ?_
  have hP := pv_keep hP rfl hk1
  subst hw
  refine lv_iload hx hb dL_law_3550 (lv_at hl 1 rfl) ?_
  refine lv_icmp_eq (tgt := 3557) hx hb dL_law_3552 (by decide) (fun _ => ?_) (fun c_6 => absurd (by decide) c_6)
  refine lv_iload hx hb dL_law_3557 (lv_at hl 1 rfl) ?_
  refine lv_if_ne (tgt := 3574) hx hb dL_law_3559 (by decide) (fun _ => ?_) (fun c_7 => absurd c_7 (by decide))
  refine pv_pc 3574 rfl ?_
  refine lv_goto (tgt := 3721) hx hb dL_law_3574 (by decide) ?_
  refine lv_iinc (v := 7) (lv' := [(5, .int 7), (7, .int r_1), (6, .int 1), (0, .ref b), (1, .ref x0), (2, .ref m0), (3, .ref o0), (4, .ref d0)]) hx hb dL_law_3721 hl (k := 7) rfl (by decide) (by decide) rfl (fun ls hl => ?_)
  refine lv_goto (tgt := 28) hx hb dL_law_3724 (by decide) ?_
  refine lv_iload hx hb dL_law_28 (lv_at hl 0 rfl) ?_
  refine lv_aload_n hx hb dL_law_30 rfl (lv_at hl 3 rfl) ?_
  refine va_slen hx hb hX hbl hbA hS dL_law_31 ?_
  refine pv_setI 7 rfl ?_
  refine lv_bipush (v := 7) hx hb dL_law_32 (by decide) ?_
  refine lv_isub hx hb dL_law_34 ?_
  refine pv_setI 0 (by decide) ?_
  refine lv_icmp_gt (tgt := 3727) hx hb dL_law_35 (by decide) (fun _ => ?_) (fun c_8 => absurd (by decide) c_8)
  refine lv_iconst (v := 1) hx hb dL_law_3727 (by decide) ?_
  refine va_forget (fun q hq => hAf _ (hS.2.2 q hq)) ?_
  refine W.widen (k := 600006) (n := 7302064) (Nat.le_of_ble_eq_true rfl) (Nat.le_of_ble_eq_true rfl) ?_
  exact lw_ret (d0 := s.drawn) (Drawn.sameBut.refl s.drawn lw_cs) hx hb hr hlocks dL_law_3728

theorem dL_law_3577 : decode cL_law 3577 = .ok (.aload_n 1, 1) := by decide +kernel
theorem dL_law_3578 : decode cL_law 3578 = .ok (.aload 4, 2) := by decide +kernel
theorem dL_law_3580 : decode cL_law 3580 = .ok (.invokestatic 357, 3) := by decide +kernel
theorem w8_169 : (Jvm.Cond.methodLink "PolyforgeLaw" (357 : Nat) ({ cls := "PolyforgeLaw", name := "lineShare", desc := "(LPolyforge;[D)I" } : Jvm.MethodName)) ∈ lw_tbl := pv_t8 (pv_mg 169 rfl)
theorem w8_171 : (Jvm.Cond.codeWith ({ cls := "PolyforgeLaw", name := "lineShare", desc := "(LPolyforge;[D)I" } : Jvm.MethodName) method_52_code (3 : Nat) (Option.some Jvm.ClassFile.FieldType.int) [((0 : Nat), (8 : Nat), (11 : Nat), (27 : Nat))]) ∈ lw_tbl := pv_t8 (pv_mg 171 rfl)
theorem w8_170 : (Jvm.Cond.static ({ cls := "PolyforgeLaw", name := "lineShare", desc := "(LPolyforge;[D)I" } : Jvm.MethodName)) ∈ lw_tbl := pv_t8 (pv_mg 170 rfl)
theorem dL_law_3583 : decode cL_law 3583 = .ok (.istore 6, 2) := by decide +kernel
theorem dL_law_3585 : decode cL_law 3585 = .ok (.aload_n 2, 1) := by decide +kernel
theorem dL_law_3586 : decode cL_law 3586 = .ok (.invokevirtual 360, 3) := by decide +kernel
theorem w11_114 : (Jvm.Cond.methodLink "PolyforgeLaw" (360 : Nat) ({ cls := "PolyforgeModel", name := "lineShare", desc := "()F" } : Jvm.MethodName)) ∈ lw_tbl := pv_t11 (pv_mg 114 rfl)
theorem w11_117 : (Jvm.Cond.code ({ cls := "PolyforgeModel", name := "lineShare", desc := "()F" } : Jvm.MethodName) prog_14_method_124_code (3 : Nat) (Option.some Jvm.ClassFile.FieldType.float)) ∈ lw_tbl := pv_t11 (pv_mg 117 rfl)
theorem w11_116 : (Jvm.Cond.selects "PolyforgeModel" ({ cls := "PolyforgeModel", name := "lineShare", desc := "()F" } : Jvm.MethodName) ({ cls := "PolyforgeModel", name := "lineShare", desc := "()F" } : Jvm.MethodName)) ∈ lw_tbl := pv_t11 (pv_mg 116 rfl)
theorem w11_115 : (Jvm.Cond.instanceMethod ({ cls := "PolyforgeModel", name := "lineShare", desc := "()F" } : Jvm.MethodName)) ∈ lw_tbl := pv_t11 (pv_mg 115 rfl)
theorem dL_law_3589 : decode cL_law 3589 = .ok (.fstore 7, 2) := by decide +kernel
theorem dL_law_3591 : decode cL_law 3591 = .ok (.aload_n 2, 1) := by decide +kernel
theorem dL_law_3592 : decode cL_law 3592 = .ok (.invokevirtual 199, 3) := by decide +kernel
theorem dL_law_3595 : decode cL_law 3595 = .ok (.iload 6, 2) := by decide +kernel
theorem dL_law_3597 : decode cL_law 3597 = .ok (.if_icmp .eq 5, 3) := by decide +kernel
theorem dL_law_3602 : decode cL_law 3602 = .ok (.iload 6, 2) := by decide +kernel
theorem dL_law_3604 : decode cL_law 3604 = .ok (.ifCond .ne 36, 3) := by decide +kernel
theorem dL_law_3640 : decode cL_law 3640 = .ok (.goto 81, 3) := by decide +kernel
set_option maxHeartbeats 4000000 in
set_option maxRecDepth 100000 in
/-- the law, call 50: lineShare -/
theorem law_case_50 {p : Program} {e : Env} {s : State} {m : MethodId} {below : List Frame} {meth : Method} {c : Code} (l : Launch) (hfl : l.stackTraces = false) {b : Nat} {xs : Nat → Int32} (C0 : lw_At p s m meth c b 7 xs) {D : va_G} {A : Nat → Prop} (hA : ∀ q : Nat, s.heap.size ≤ q → A q) (hAf : ∀ q : Nat, A q → s.heap.size ≤ q) (hbA : ¬ A b) (hE : pv_E A s s.heap) {x0 m0 o0 d0 : Nat} {xq xw mq : Nat → Nat} {xJ xP xO xC xI mI mI2 mI3 mT mC oL : ClassId} {xsg xsf msg msf : Nat → Int32} (hxsg : ∀ j, j < 3 → xsg j = 63) (hmsg : ∀ j, j < 3 → msg j = 63) {H : Heap} {locs : List Loc} (hK : va_K D pv_cl [(xJ, .long), (xP, .object "Polyforge$Polynomial"), (xO, .object "Polyforge$Ideal"), (xC, .char), (xI, .int), (mI, .int), (mT, .object "PolyforgeModel$Terms"), (mI2, .int), (mC, .char), (mI3, .int), (oL, .long)] s) (hP : va_P D pv_cl [(x0, .inr (0, [.ref (xq 0), .int 0, .int 108, .ref (xq 1), .int 0, .ref (xq 2), .int 0, .ref (xq 3), .ref (xq 4), .int 1, .ref (xq 5), .ref (xq 6), .ref (xq 7), .ref (xq 8), .ref (xq 9)])), ((xq 6), .inr (2, [.ref (xw 0), .ref (xw 1), .ref (xw 2), .ref (xw 3), .int 0, .int 0])), ((xw 2), .inl (xJ, 64, .inr (.inl (fun _ => 0)))), ((xq 0), .inl (xP, 60, .inr (.inr (.inr (.inr (fun _ => none)))))), ((xq 1), .inl (xO, 5, .inr (.inr (.inr (.inr (fun _ => none)))))), ((xq 3), .inl (xC, 3, .inl xsg)), ((xq 4), .inl (xI, 3, .inl xsf)), (m0, .inr (1, pv_m 0 mq)), ((mq 0), .inl (mI, 60, .inl (fun _ => 0))), ((mq 1), .inl (mT, 60, .inr (.inr (.inr (.inr (fun _ => none)))))), ((mq 2), .inl (mI2, 5, .inl (fun _ => 0))), ((mq 9), .inl (mC, 3, .inl msg)), ((mq 10), .inl (mI3, 3, .inl msf)), (o0, .inl (oL, 1, .inr (.inl (fun _ => 0))))] H) (hD : va_D A [(x0, .inr (0, [.ref (xq 0), .int 0, .int 108, .ref (xq 1), .int 0, .ref (xq 2), .int 0, .ref (xq 3), .ref (xq 4), .int 1, .ref (xq 5), .ref (xq 6), .ref (xq 7), .ref (xq 8), .ref (xq 9)])), ((xq 6), .inr (2, [.ref (xw 0), .ref (xw 1), .ref (xw 2), .ref (xw 3), .int 0, .int 0])), ((xw 2), .inl (xJ, 64, .inr (.inl (fun _ => 0)))), ((xq 0), .inl (xP, 60, .inr (.inr (.inr (.inr (fun _ => none)))))), ((xq 1), .inl (xO, 5, .inr (.inr (.inr (.inr (fun _ => none)))))), ((xq 3), .inl (xC, 3, .inl xsg)), ((xq 4), .inl (xI, 3, .inl xsf)), (m0, .inr (1, pv_m 0 mq)), ((mq 0), .inl (mI, 60, .inl (fun _ => 0))), ((mq 1), .inl (mT, 60, .inr (.inr (.inr (.inr (fun _ => none)))))), ((mq 2), .inl (mI2, 5, .inl (fun _ => 0))), ((mq 9), .inl (mC, 3, .inl msg)), ((mq 10), .inl (mI3, 3, .inl msf)), (o0, .inl (oL, 1, .inr (.inl (fun _ => 0))))]) (hS : va_S A s.heap H locs) {ls : Array Slot} (hl : lv_has ls 9 [(0, .ref b), (1, .ref x0), (2, .ref m0), (3, .ref o0), (4, .ref d0), (5, .int 0)]) : W p l e room_1 s m #[Value.ref b] below meth c H locs 397 653821 (lw_Z below #[Value.ref b] s) (F0 m 3577 ls []) := by
  obtain ⟨hx, hb, hr, hml, hown, hts0, hX, hbl, hlocks, hgv⟩ := C0
  have hts : ∀ w ∈ pv_W, w.before #[Value.ref b] s = true := fun w h => hts0 w (List.mem_filter.mp h).1
  have hg := fun {w : Cond} (h : w ∈ lw_tbl) (g : goodWord w = true) => hts w (pv_in h g)
  have hP : va_P D pv_cl [(x0, .inr (0, [.ref (xq 0), .int 0, .int 108, .ref (xq 1), .int 0, .ref (xq 2), .int 0, .ref (xq 3), .ref (xq 4), .int 1, .ref (xq 5), .ref (xq 6), .ref (xq 7), .ref (xq 8), .ref (xq 9)])), (m0, .inr (1, pv_m 0 mq))] _ := hP.sub [0, 7] rfl
  have hD : va_D A [(x0, .inr (0, [.ref (xq 0), .int 0, .int 108, .ref (xq 1), .int 0, .ref (xq 2), .int 0, .ref (xq 3), .ref (xq 4), .int 1, .ref (xq 5), .ref (xq 6), .ref (xq 7), .ref (xq 8), .ref (xq 9)])), (m0, .inr (1, pv_m 0 mq))] := hD.sub [0, 7] (by decide) rfl
  have hK : va_K D pv_cl [] s := hK.sub [] rfl
  refine lv_aload_n hx hb dL_law_3577 rfl (lv_at hl 1 rfl) ?_
  refine lv_aload hx hb dL_law_3578 (lv_at hl 4 rfl) ?_
  have hF := pv_new hA hS.1
  refine va_calli (vx_runSW (As := [.ref x0, .ref d0]) (rest := []) ⟨hx, hb, hml, hown, hts⟩ (c_L_lineShare l hfl D _ x0 xq d0) (vx_cwSW 2 hts (pv_gSW w8_169 w8_170 w1_0 w8_171) rfl rfl rfl (by decide +kernel) ⟨Nat.le_of_ble_eq_true rfl, Nat.le_of_ble_eq_true rfl⟩) (pv_ps hE hS hF (hP.sub [0] rfl) (hK.sub [] rfl) (hD.sub [0] (by decide) rfl)) rfl rfl hl.1 rfl (lv_room (Nat.le_of_ble_eq_true rfl)) dL_law_3580 ⟨Nat.le_of_ble_eq_true rfl, Nat.le_of_ble_eq_true rfl⟩) hS (fun q _ h => hF q h) hF (fun r_0 u t H1 locs1 ht hvm hw hB hz1 hk1 hS => ?_)
  refine W.widen (k := 398) (n := 653827) (Nat.le_of_ble_eq_true rfl) (Nat.le_of_ble_eq_true rfl) ?_
  have hP := pv_keep hP rfl hk1
  subst hw
  refine lv_istore (lv' := [(6, .int 1), (0, .ref b), (1, .ref x0), (2, .ref m0), (3, .ref o0), (4, .ref d0), (5, .int 0)]) hx hb dL_law_3583 hl (by decide) rfl (fun ls hl => ?_)
  refine lv_aload_n hx hb dL_law_3585 rfl (lv_at hl 3 rfl) ?_
  have hF := va_free (wc := [(m0, .inr (1, pv_m 0 mq))]) hD hS hA [1] rfl
  refine va_callf (va_runV (As := []) (rest := []) ⟨hx, hb, hml, hown, hts⟩ (c_X13_lineShare l hfl D _ m0 mq ) (cwV 0 hts (pv_gV w11_114 w11_115 w11_116 w1_10 w11_117) rfl rfl rfl (by decide +kernel) ⟨Nat.le_of_ble_eq_true rfl, Nat.le_of_ble_eq_true rfl⟩) (pv_pV hE hS hF (hP.sub [1] rfl) (hK.sub [] rfl) (hD.sub [1] (by decide) rfl) (va_recv (ci := 1) (q0 := 1) hK hP rfl rfl)) rfl rfl hl.1 rfl (lv_room (Nat.le_of_ble_eq_true rfl)) dL_law_3586 ⟨Nat.le_of_ble_eq_true rfl, Nat.le_of_ble_eq_true rfl⟩) hS (fun q _ h => hF q h) hF (fun r_1 u t H1 locs1 ht hvm hw hB hz1 hk1 hS => ?_)
  refine W.widen (k := 398) (n := 653827) (Nat.le_of_ble_eq_true rfl) (Nat.le_of_ble_eq_true rfl) ?_
  subst hw
  obtain ⟨fs_3, hf_4, hP1, hK1, hD1⟩ := hB
  rw [ht] at hP1
  have hK1 := va_K.moved hvm.symm hK1
  obtain ⟨hP, hD⟩ := va_join (wr := [(x0, .inr (0, [.ref (xq 0), .int 0, .int 108, .ref (xq 1), .int 0, .ref (xq 2), .int 0, .ref (xq 3), .ref (xq 4), .int 1, .ref (xq 5), .ref (xq 6), .ref (xq 7), .ref (xq 8), .ref (xq 9)]))]) (w1 := [(m0, .inr (1, fs_3))]) hP hD [1] [0] rfl rfl (by decide) (by decide) hk1 hF hP1 hD1
  have hP : va_P D pv_cl [(x0, .inr (0, [.ref (xq 0), .int 0, .int 108, .ref (xq 1), .int 0, .ref (xq 2), .int 0, .ref (xq 3), .ref (xq 4), .int 1, .ref (xq 5), .ref (xq 6), .ref (xq 7), .ref (xq 8), .ref (xq 9)])), (m0, .inr (1, fs_3))] _ := hP
  have hD : va_D A [(x0, .inr (0, [.ref (xq 0), .int 0, .int 108, .ref (xq 1), .int 0, .ref (xq 2), .int 0, .ref (xq 3), .ref (xq 4), .int 1, .ref (xq 5), .ref (xq 6), .ref (xq 7), .ref (xq 8), .ref (xq 9)])), (m0, .inr (1, fs_3))] := hD
  refine lv_fstore (lv' := [(7, .float r_1), (6, .int 1), (0, .ref b), (1, .ref x0), (2, .ref m0), (3, .ref o0), (4, .ref d0), (5, .int 0)]) hx hb dL_law_3589 hl (by decide) rfl (fun ls hl => ?_)
  refine lv_aload_n hx hb dL_law_3591 rfl (lv_at hl 4 rfl) ?_
  have hF := pv_new hA hS.1
  refine va_calli (va_runV (As := []) (rest := []) ⟨hx, hb, hml, hown, hts⟩ (c_X13_thrown l hfl D _ m0 fs_3 1 hf_4) (cwV 0 hts (pv_gV w9_102 w9_103 w9_104 w1_10 w9_105) rfl rfl rfl (by decide +kernel) ⟨Nat.le_of_ble_eq_true rfl, Nat.le_of_ble_eq_true rfl⟩) (pv_pV hE hS hF (hP.sub [1] rfl) (hK.sub [] rfl) (hD.sub [1] (by decide) rfl) (va_recv (ci := 1) (q0 := 1) hK hP rfl rfl)) rfl rfl hl.1 rfl (lv_room (Nat.le_of_ble_eq_true rfl)) dL_law_3592 ⟨Nat.le_of_ble_eq_true rfl, Nat.le_of_ble_eq_true rfl⟩) hS (fun q _ h => hF q h) hF (fun r_4 u t H1 locs1 ht hvm hw hB hz1 hk1 hS => ?_)
  refine W.widen (k := 398) (n := 653827) (Nat.le_of_ble_eq_true rfl) (Nat.le_of_ble_eq_true rfl) ?_
  have hP := pv_keep hP rfl hk1
  subst hw
  refine lv_iload hx hb dL_law_3595 (lv_at hl 1 rfl) ?_
  refine lv_icmp_eq (tgt := 3602) hx hb dL_law_3597 (by decide) (fun _ => ?_) (fun c_6 => absurd (by decide) c_6)
  refine pv_pc 3602 rfl ?_
  refine lv_iload hx hb dL_law_3602 (lv_at hl 1 rfl) ?_
  refine lv_if_ne (tgt := 3640) hx hb dL_law_3604 (by decide) (fun _ => ?_) (fun c_7 => absurd c_7 (by decide))
  refine lv_goto (tgt := 3721) hx hb dL_law_3640 (by decide) ?_
  refine lv_iinc (v := 7) (lv' := [(5, .int 7), (7, .float r_1), (6, .int 1), (0, .ref b), (1, .ref x0), (2, .ref m0), (3, .ref o0), (4, .ref d0)]) hx hb dL_law_3721 hl (k := 7) rfl (by decide) (by decide) rfl (fun ls hl => ?_)
  refine lv_goto (tgt := 28) hx hb dL_law_3724 (by decide) ?_
  refine lv_iload hx hb dL_law_28 (lv_at hl 0 rfl) ?_
  refine lv_aload_n hx hb dL_law_30 rfl (lv_at hl 3 rfl) ?_
  refine va_slen hx hb hX hbl hbA hS dL_law_31 ?_
  refine pv_setI 7 rfl ?_
  refine lv_bipush (v := 7) hx hb dL_law_32 (by decide) ?_
  refine lv_isub hx hb dL_law_34 ?_
  refine pv_setI 0 (by decide) ?_
  refine lv_icmp_gt (tgt := 3727) hx hb dL_law_35 (by decide) (fun _ => ?_) (fun c_8 => absurd (by decide) c_8)
  refine lv_iconst (v := 1) hx hb dL_law_3727 (by decide) ?_
  refine pv_pc 3728 rfl ?_
  refine va_forget (fun q hq => hAf _ (hS.2.2 q hq)) ?_
  refine W.widen (k := 600006) (n := 7302064) (Nat.le_of_ble_eq_true rfl) (Nat.le_of_ble_eq_true rfl) ?_
  exact lw_ret (d0 := s.drawn) (Drawn.sameBut.refl s.drawn lw_cs) hx hb hr hlocks dL_law_3728

theorem dL_law_3643 : decode cL_law 3643 = .ok (.aload_n 1, 1) := by decide +kernel
theorem dL_law_3644 : decode cL_law 3644 = .ok (.aload 4, 2) := by decide +kernel
theorem dL_law_3646 : decode cL_law 3646 = .ok (.invokestatic 361, 3) := by decide +kernel
theorem w8_185 : (Jvm.Cond.methodLink "PolyforgeLaw" (361 : Nat) ({ cls := "PolyforgeLaw", name := "meanTerms", desc := "(LPolyforge;[D)I" } : Jvm.MethodName)) ∈ lw_tbl := pv_t8 (pv_mg 185 rfl)
theorem w8_187 : (Jvm.Cond.codeWith ({ cls := "PolyforgeLaw", name := "meanTerms", desc := "(LPolyforge;[D)I" } : Jvm.MethodName) method_53_code (3 : Nat) (Option.some Jvm.ClassFile.FieldType.int) [((0 : Nat), (7 : Nat), (10 : Nat), (27 : Nat))]) ∈ lw_tbl := pv_t8 (pv_mg 187 rfl)
theorem w8_186 : (Jvm.Cond.static ({ cls := "PolyforgeLaw", name := "meanTerms", desc := "(LPolyforge;[D)I" } : Jvm.MethodName)) ∈ lw_tbl := pv_t8 (pv_mg 186 rfl)
theorem dL_law_3649 : decode cL_law 3649 = .ok (.istore 6, 2) := by decide +kernel
theorem dL_law_3651 : decode cL_law 3651 = .ok (.aload_n 2, 1) := by decide +kernel
theorem dL_law_3652 : decode cL_law 3652 = .ok (.invokevirtual 363, 3) := by decide +kernel
theorem w11_118 : (Jvm.Cond.methodLink "PolyforgeLaw" (363 : Nat) ({ cls := "PolyforgeModel", name := "meanTerms", desc := "()D" } : Jvm.MethodName)) ∈ lw_tbl := pv_t11 (pv_mg 118 rfl)
theorem w11_121 : (Jvm.Cond.code ({ cls := "PolyforgeModel", name := "meanTerms", desc := "()D" } : Jvm.MethodName) prog_14_method_125_code (3 : Nat) (Option.some Jvm.ClassFile.FieldType.double)) ∈ lw_tbl := pv_t11 (pv_mg 121 rfl)
theorem w11_120 : (Jvm.Cond.selects "PolyforgeModel" ({ cls := "PolyforgeModel", name := "meanTerms", desc := "()D" } : Jvm.MethodName) ({ cls := "PolyforgeModel", name := "meanTerms", desc := "()D" } : Jvm.MethodName)) ∈ lw_tbl := pv_t11 (pv_mg 120 rfl)
theorem w11_119 : (Jvm.Cond.instanceMethod ({ cls := "PolyforgeModel", name := "meanTerms", desc := "()D" } : Jvm.MethodName)) ∈ lw_tbl := pv_t11 (pv_mg 119 rfl)
theorem dL_law_3655 : decode cL_law 3655 = .ok (.dstore 7, 2) := by decide +kernel
theorem dL_law_3657 : decode cL_law 3657 = .ok (.aload_n 2, 1) := by decide +kernel
theorem dL_law_3658 : decode cL_law 3658 = .ok (.invokevirtual 199, 3) := by decide +kernel
theorem dL_law_3661 : decode cL_law 3661 = .ok (.iload 6, 2) := by decide +kernel
theorem dL_law_3663 : decode cL_law 3663 = .ok (.if_icmp .eq 5, 3) := by decide +kernel
theorem dL_law_3668 : decode cL_law 3668 = .ok (.iload 6, 2) := by decide +kernel
theorem dL_law_3670 : decode cL_law 3670 = .ok (.ifCond .ne 35, 3) := by decide +kernel
theorem dL_law_3705 : decode cL_law 3705 = .ok (.goto 16, 3) := by decide +kernel
set_option maxHeartbeats 4000000 in
set_option maxRecDepth 100000 in
/-- the law, call 51: meanTerms -/
theorem law_case_51 {p : Program} {e : Env} {s : State} {m : MethodId} {below : List Frame} {meth : Method} {c : Code} (l : Launch) (hfl : l.stackTraces = false) {b : Nat} {xs : Nat → Int32} (C0 : lw_At p s m meth c b 7 xs) {D : va_G} {A : Nat → Prop} (hA : ∀ q : Nat, s.heap.size ≤ q → A q) (hAf : ∀ q : Nat, A q → s.heap.size ≤ q) (hbA : ¬ A b) (hE : pv_E A s s.heap) {x0 m0 o0 d0 : Nat} {xq xw mq : Nat → Nat} {xJ xP xO xC xI mI mI2 mI3 mT mC oL : ClassId} {xsg xsf msg msf : Nat → Int32} (hxsg : ∀ j, j < 3 → xsg j = 63) (hmsg : ∀ j, j < 3 → msg j = 63) {H : Heap} {locs : List Loc} (hK : va_K D pv_cl [(xJ, .long), (xP, .object "Polyforge$Polynomial"), (xO, .object "Polyforge$Ideal"), (xC, .char), (xI, .int), (mI, .int), (mT, .object "PolyforgeModel$Terms"), (mI2, .int), (mC, .char), (mI3, .int), (oL, .long)] s) (hP : va_P D pv_cl [(x0, .inr (0, [.ref (xq 0), .int 0, .int 108, .ref (xq 1), .int 0, .ref (xq 2), .int 0, .ref (xq 3), .ref (xq 4), .int 1, .ref (xq 5), .ref (xq 6), .ref (xq 7), .ref (xq 8), .ref (xq 9)])), ((xq 6), .inr (2, [.ref (xw 0), .ref (xw 1), .ref (xw 2), .ref (xw 3), .int 0, .int 0])), ((xw 2), .inl (xJ, 64, .inr (.inl (fun _ => 0)))), ((xq 0), .inl (xP, 60, .inr (.inr (.inr (.inr (fun _ => none)))))), ((xq 1), .inl (xO, 5, .inr (.inr (.inr (.inr (fun _ => none)))))), ((xq 3), .inl (xC, 3, .inl xsg)), ((xq 4), .inl (xI, 3, .inl xsf)), (m0, .inr (1, pv_m 0 mq)), ((mq 0), .inl (mI, 60, .inl (fun _ => 0))), ((mq 1), .inl (mT, 60, .inr (.inr (.inr (.inr (fun _ => none)))))), ((mq 2), .inl (mI2, 5, .inl (fun _ => 0))), ((mq 9), .inl (mC, 3, .inl msg)), ((mq 10), .inl (mI3, 3, .inl msf)), (o0, .inl (oL, 1, .inr (.inl (fun _ => 0))))] H) (hD : va_D A [(x0, .inr (0, [.ref (xq 0), .int 0, .int 108, .ref (xq 1), .int 0, .ref (xq 2), .int 0, .ref (xq 3), .ref (xq 4), .int 1, .ref (xq 5), .ref (xq 6), .ref (xq 7), .ref (xq 8), .ref (xq 9)])), ((xq 6), .inr (2, [.ref (xw 0), .ref (xw 1), .ref (xw 2), .ref (xw 3), .int 0, .int 0])), ((xw 2), .inl (xJ, 64, .inr (.inl (fun _ => 0)))), ((xq 0), .inl (xP, 60, .inr (.inr (.inr (.inr (fun _ => none)))))), ((xq 1), .inl (xO, 5, .inr (.inr (.inr (.inr (fun _ => none)))))), ((xq 3), .inl (xC, 3, .inl xsg)), ((xq 4), .inl (xI, 3, .inl xsf)), (m0, .inr (1, pv_m 0 mq)), ((mq 0), .inl (mI, 60, .inl (fun _ => 0))), ((mq 1), .inl (mT, 60, .inr (.inr (.inr (.inr (fun _ => none)))))), ((mq 2), .inl (mI2, 5, .inl (fun _ => 0))), ((mq 9), .inl (mC, 3, .inl msg)), ((mq 10), .inl (mI3, 3, .inl msf)), (o0, .inl (oL, 1, .inr (.inl (fun _ => 0))))]) (hS : va_S A s.heap H locs) {ls : Array Slot} (hl : lv_has ls 9 [(0, .ref b), (1, .ref x0), (2, .ref m0), (3, .ref o0), (4, .ref d0), (5, .int 0)]) : W p l e room_1 s m #[Value.ref b] below meth c H locs 397 653821 (lw_Z below #[Value.ref b] s) (F0 m 3643 ls []) := by
  obtain ⟨hx, hb, hr, hml, hown, hts0, hX, hbl, hlocks, hgv⟩ := C0
  have hts : ∀ w ∈ pv_W, w.before #[Value.ref b] s = true := fun w h => hts0 w (List.mem_filter.mp h).1
  have hg := fun {w : Cond} (h : w ∈ lw_tbl) (g : goodWord w = true) => hts w (pv_in h g)
  have hP : va_P D pv_cl [(x0, .inr (0, [.ref (xq 0), .int 0, .int 108, .ref (xq 1), .int 0, .ref (xq 2), .int 0, .ref (xq 3), .ref (xq 4), .int 1, .ref (xq 5), .ref (xq 6), .ref (xq 7), .ref (xq 8), .ref (xq 9)])), (m0, .inr (1, pv_m 0 mq))] _ := hP.sub [0, 7] rfl
  have hD : va_D A [(x0, .inr (0, [.ref (xq 0), .int 0, .int 108, .ref (xq 1), .int 0, .ref (xq 2), .int 0, .ref (xq 3), .ref (xq 4), .int 1, .ref (xq 5), .ref (xq 6), .ref (xq 7), .ref (xq 8), .ref (xq 9)])), (m0, .inr (1, pv_m 0 mq))] := hD.sub [0, 7] (by decide) rfl
  have hK : va_K D pv_cl [] s := hK.sub [] rfl
  refine lv_aload_n hx hb dL_law_3643 rfl (lv_at hl 1 rfl) ?_
  refine lv_aload hx hb dL_law_3644 (lv_at hl 4 rfl) ?_
  have hF := pv_new hA hS.1
  refine va_calli (vx_runSW (As := [.ref x0, .ref d0]) (rest := []) ⟨hx, hb, hml, hown, hts⟩ (c_L_meanTerms l hfl D _ x0 xq d0) (vx_cwSW 2 hts (pv_gSW w8_185 w8_186 w1_0 w8_187) rfl rfl rfl (by decide +kernel) ⟨Nat.le_of_ble_eq_true rfl, Nat.le_of_ble_eq_true rfl⟩) (pv_ps hE hS hF (hP.sub [0] rfl) (hK.sub [] rfl) (hD.sub [0] (by decide) rfl)) rfl rfl hl.1 rfl (lv_room (Nat.le_of_ble_eq_true rfl)) dL_law_3646 ⟨Nat.le_of_ble_eq_true rfl, Nat.le_of_ble_eq_true rfl⟩) hS (fun q _ h => hF q h) hF (fun r_0 u t H1 locs1 ht hvm hw hB hz1 hk1 hS => ?_)
  refine W.widen (k := 398) (n := 653827) (Nat.le_of_ble_eq_true rfl) (Nat.le_of_ble_eq_true rfl) ?_
  have hP := pv_keep hP rfl hk1
  subst hw
  refine lv_istore (lv' := [(6, .int 1), (0, .ref b), (1, .ref x0), (2, .ref m0), (3, .ref o0), (4, .ref d0), (5, .int 0)]) hx hb dL_law_3649 hl (by decide) rfl (fun ls hl => ?_)
  refine lv_aload_n hx hb dL_law_3651 rfl (lv_at hl 3 rfl) ?_
  have hF := va_free (wc := [(m0, .inr (1, pv_m 0 mq))]) hD hS hA [1] rfl
  refine va_calld (va_runV (As := []) (rest := []) ⟨hx, hb, hml, hown, hts⟩ (c_X13_meanTerms l hfl D _ m0 mq ) (cwV 0 hts (pv_gV w11_118 w11_119 w11_120 w1_10 w11_121) rfl rfl rfl (by decide +kernel) ⟨Nat.le_of_ble_eq_true rfl, Nat.le_of_ble_eq_true rfl⟩) (pv_pV hE hS hF (hP.sub [1] rfl) (hK.sub [] rfl) (hD.sub [1] (by decide) rfl) (va_recv (ci := 1) (q0 := 1) hK hP rfl rfl)) rfl rfl hl.1 rfl (lv_room (Nat.le_of_ble_eq_true rfl)) dL_law_3652 ⟨Nat.le_of_ble_eq_true rfl, Nat.le_of_ble_eq_true rfl⟩) hS (fun q _ h => hF q h) hF (fun r_1 u t H1 locs1 ht hvm hw hB hz1 hk1 hS => ?_)
  refine W.widen (k := 398) (n := 653827) (Nat.le_of_ble_eq_true rfl) (Nat.le_of_ble_eq_true rfl) ?_
  subst hw
  obtain ⟨fs_3, hf_4, hP1, hK1, hD1⟩ := hB
  rw [ht] at hP1
  have hK1 := va_K.moved hvm.symm hK1
  obtain ⟨hP, hD⟩ := va_join (wr := [(x0, .inr (0, [.ref (xq 0), .int 0, .int 108, .ref (xq 1), .int 0, .ref (xq 2), .int 0, .ref (xq 3), .ref (xq 4), .int 1, .ref (xq 5), .ref (xq 6), .ref (xq 7), .ref (xq 8), .ref (xq 9)]))]) (w1 := [(m0, .inr (1, fs_3))]) hP hD [1] [0] rfl rfl (by decide) (by decide) hk1 hF hP1 hD1
  have hP : va_P D pv_cl [(x0, .inr (0, [.ref (xq 0), .int 0, .int 108, .ref (xq 1), .int 0, .ref (xq 2), .int 0, .ref (xq 3), .ref (xq 4), .int 1, .ref (xq 5), .ref (xq 6), .ref (xq 7), .ref (xq 8), .ref (xq 9)])), (m0, .inr (1, fs_3))] _ := hP
  have hD : va_D A [(x0, .inr (0, [.ref (xq 0), .int 0, .int 108, .ref (xq 1), .int 0, .ref (xq 2), .int 0, .ref (xq 3), .ref (xq 4), .int 1, .ref (xq 5), .ref (xq 6), .ref (xq 7), .ref (xq 8), .ref (xq 9)])), (m0, .inr (1, fs_3))] := hD
  refine lv_dstore (lv' := [(7, .double r_1), (6, .int 1), (0, .ref b), (1, .ref x0), (2, .ref m0), (3, .ref o0), (4, .ref d0), (5, .int 0)]) hx hb dL_law_3655 hl (by decide) rfl (fun ls hl => ?_)
  refine lv_aload_n hx hb dL_law_3657 rfl (lv_at hl 4 rfl) ?_
  have hF := pv_new hA hS.1
  refine va_calli (va_runV (As := []) (rest := []) ⟨hx, hb, hml, hown, hts⟩ (c_X13_thrown l hfl D _ m0 fs_3 1 hf_4) (cwV 0 hts (pv_gV w9_102 w9_103 w9_104 w1_10 w9_105) rfl rfl rfl (by decide +kernel) ⟨Nat.le_of_ble_eq_true rfl, Nat.le_of_ble_eq_true rfl⟩) (pv_pV hE hS hF (hP.sub [1] rfl) (hK.sub [] rfl) (hD.sub [1] (by decide) rfl) (va_recv (ci := 1) (q0 := 1) hK hP rfl rfl)) rfl rfl hl.1 rfl (lv_room (Nat.le_of_ble_eq_true rfl)) dL_law_3658 ⟨Nat.le_of_ble_eq_true rfl, Nat.le_of_ble_eq_true rfl⟩) hS (fun q _ h => hF q h) hF (fun r_4 u t H1 locs1 ht hvm hw hB hz1 hk1 hS => ?_)
  refine W.widen (k := 398) (n := 653827) (Nat.le_of_ble_eq_true rfl) (Nat.le_of_ble_eq_true rfl) ?_
  have hP := pv_keep hP rfl hk1
  subst hw
  refine lv_iload hx hb dL_law_3661 (lv_at hl 1 rfl) ?_
  refine lv_icmp_eq (tgt := 3668) hx hb dL_law_3663 (by decide) (fun _ => ?_) (fun c_6 => absurd (by decide) c_6)
  refine pv_pc 3668 rfl ?_
  refine lv_iload hx hb dL_law_3668 (lv_at hl 1 rfl) ?_
  refine lv_if_ne (tgt := 3705) hx hb dL_law_3670 (by decide) (fun _ => ?_) (fun c_7 => absurd c_7 (by decide))
  refine lv_goto (tgt := 3721) hx hb dL_law_3705 (by decide) ?_
  refine lv_iinc (v := 7) (lv' := [(5, .int 7), (7, .double r_1), (6, .int 1), (0, .ref b), (1, .ref x0), (2, .ref m0), (3, .ref o0), (4, .ref d0)]) hx hb dL_law_3721 hl (k := 7) rfl (by decide) (by decide) rfl (fun ls hl => ?_)
  refine lv_goto (tgt := 28) hx hb dL_law_3724 (by decide) ?_
  refine lv_iload hx hb dL_law_28 (lv_at hl 0 rfl) ?_
  refine lv_aload_n hx hb dL_law_30 rfl (lv_at hl 3 rfl) ?_
  refine va_slen hx hb hX hbl hbA hS dL_law_31 ?_
  refine pv_setI 7 rfl ?_
  refine lv_bipush (v := 7) hx hb dL_law_32 (by decide) ?_
  refine lv_isub hx hb dL_law_34 ?_
  refine pv_setI 0 (by decide) ?_
  refine lv_icmp_gt (tgt := 3727) hx hb dL_law_35 (by decide) (fun _ => ?_) (fun c_8 => absurd (by decide) c_8)
  refine lv_iconst (v := 1) hx hb dL_law_3727 (by decide) ?_
  refine pv_pc 3728 rfl ?_
  refine va_forget (fun q hq => hAf _ (hS.2.2 q hq)) ?_
  refine W.widen (k := 600006) (n := 7302064) (Nat.le_of_ble_eq_true rfl) (Nat.le_of_ble_eq_true rfl) ?_
  exact lw_ret (d0 := s.drawn) (Drawn.sameBut.refl s.drawn lw_cs) hx hb hr hlocks dL_law_3728

