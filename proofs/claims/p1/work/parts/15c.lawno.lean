theorem dL_law_1949 : decode cL_law 1949 = .ok (.aload_n 1, 1) := by decide +kernel
theorem dL_law_1950 : decode cL_law 1950 = .ok (.aload_n 0, 1) := by decide +kernel
theorem dL_law_1951 : decode cL_law 1951 = .ok (.iload 5, 2) := by decide +kernel
theorem dL_law_1953 : decode cL_law 1953 = .ok (.iconst 1, 1) := by decide +kernel
theorem dL_law_1954 : decode cL_law 1954 = .ok (.iadd, 1) := by decide +kernel
theorem dL_law_1955 : decode cL_law 1955 = .ok (.iaload, 1) := by decide +kernel
theorem dL_law_1956 : decode cL_law 1956 = .ok (.aload_n 0, 1) := by decide +kernel
theorem dL_law_1957 : decode cL_law 1957 = .ok (.iload 5, 2) := by decide +kernel
theorem dL_law_1959 : decode cL_law 1959 = .ok (.iconst 2, 1) := by decide +kernel
theorem dL_law_1960 : decode cL_law 1960 = .ok (.iadd, 1) := by decide +kernel
theorem dL_law_1961 : decode cL_law 1961 = .ok (.iaload, 1) := by decide +kernel
theorem dL_law_1962 : decode cL_law 1962 = .ok (.aload_n 3, 1) := by decide +kernel
theorem dL_law_1963 : decode cL_law 1963 = .ok (.invokestatic 282, 3) := by decide +kernel
theorem w7_31 : (Jvm.Cond.methodLink "PolyforgeLaw" (282 : Nat) ({ cls := "PolyforgeLaw", name := "multiplicity", desc := "(LPolyforge;II[J)I" } : Jvm.MethodName)) ∈ lw_tbl := pv_t7 (pv_mg 31 rfl)
theorem w7_33 : (Jvm.Cond.codeWith ({ cls := "PolyforgeLaw", name := "multiplicity", desc := "(LPolyforge;II[J)I" } : Jvm.MethodName) method_28_code (5 : Nat) (Option.some Jvm.ClassFile.FieldType.int) [((0 : Nat), (10 : Nat), (13 : Nat), (23 : Nat)), ((0 : Nat), (10 : Nat), (17 : Nat), (25 : Nat)), ((0 : Nat), (10 : Nat), (21 : Nat), (55 : Nat))]) ∈ lw_tbl := pv_t7 (pv_mg 33 rfl)
theorem w7_32 : (Jvm.Cond.static ({ cls := "PolyforgeLaw", name := "multiplicity", desc := "(LPolyforge;II[J)I" } : Jvm.MethodName)) ∈ lw_tbl := pv_t7 (pv_mg 32 rfl)
theorem dL_law_1966 : decode cL_law 1966 = .ok (.istore 6, 2) := by decide +kernel
theorem dL_law_1968 : decode cL_law 1968 = .ok (.aload_n 2, 1) := by decide +kernel
theorem dL_law_1969 : decode cL_law 1969 = .ok (.aload_n 0, 1) := by decide +kernel
theorem dL_law_1970 : decode cL_law 1970 = .ok (.iload 5, 2) := by decide +kernel
theorem dL_law_1972 : decode cL_law 1972 = .ok (.iconst 1, 1) := by decide +kernel
theorem dL_law_1973 : decode cL_law 1973 = .ok (.iadd, 1) := by decide +kernel
theorem dL_law_1974 : decode cL_law 1974 = .ok (.iaload, 1) := by decide +kernel
theorem dL_law_1975 : decode cL_law 1975 = .ok (.aload_n 0, 1) := by decide +kernel
theorem dL_law_1976 : decode cL_law 1976 = .ok (.iload 5, 2) := by decide +kernel
theorem dL_law_1978 : decode cL_law 1978 = .ok (.iconst 2, 1) := by decide +kernel
theorem dL_law_1979 : decode cL_law 1979 = .ok (.iadd, 1) := by decide +kernel
theorem dL_law_1980 : decode cL_law 1980 = .ok (.iaload, 1) := by decide +kernel
theorem dL_law_1981 : decode cL_law 1981 = .ok (.invokevirtual 284, 3) := by decide +kernel
theorem w10_150 : (Jvm.Cond.methodLink "PolyforgeLaw" (284 : Nat) ({ cls := "PolyforgeModel", name := "multiplicity", desc := "(II)I" } : Jvm.MethodName)) ∈ lw_tbl := pv_t10 (pv_mg 150 rfl)
theorem w10_153 : (Jvm.Cond.code ({ cls := "PolyforgeModel", name := "multiplicity", desc := "(II)I" } : Jvm.MethodName) prog_14_method_77_code (4 : Nat) (Option.some Jvm.ClassFile.FieldType.int)) ∈ lw_tbl := pv_t10 (pv_mg 153 rfl)
theorem w10_152 : (Jvm.Cond.selects "PolyforgeModel" ({ cls := "PolyforgeModel", name := "multiplicity", desc := "(II)I" } : Jvm.MethodName) ({ cls := "PolyforgeModel", name := "multiplicity", desc := "(II)I" } : Jvm.MethodName)) ∈ lw_tbl := pv_t10 (pv_mg 152 rfl)
theorem w10_151 : (Jvm.Cond.instanceMethod ({ cls := "PolyforgeModel", name := "multiplicity", desc := "(II)I" } : Jvm.MethodName)) ∈ lw_tbl := pv_t10 (pv_mg 151 rfl)
theorem dL_law_1984 : decode cL_law 1984 = .ok (.istore 7, 2) := by decide +kernel
theorem dL_law_1986 : decode cL_law 1986 = .ok (.aload_n 2, 1) := by decide +kernel
theorem dL_law_1987 : decode cL_law 1987 = .ok (.invokevirtual 199, 3) := by decide +kernel
theorem dL_law_1990 : decode cL_law 1990 = .ok (.iload 6, 2) := by decide +kernel
theorem dL_law_1992 : decode cL_law 1992 = .ok (.if_icmp .eq 5, 3) := by decide +kernel
theorem dL_law_1997 : decode cL_law 1997 = .ok (.iload 6, 2) := by decide +kernel
theorem dL_law_1999 : decode cL_law 1999 = .ok (.ifCond .ne 15, 3) := by decide +kernel
theorem dL_law_2014 : decode cL_law 2014 = .ok (.goto 1707, 3) := by decide +kernel
set_option maxHeartbeats 4000000 in
set_option maxRecDepth 100000 in
/-- the law, call 26: multiplicity -/
theorem law_case_26 {p : Program} {e : Env} {s : State} {m : MethodId} {below : List Frame} {meth : Method} {c : Code} (l : Launch) (hfl : l.stackTraces = false) {b : Nat} {xs : Nat → Int32} (C0 : lw_At p s m meth c b 7 xs) {D : va_G} {A : Nat → Prop} (hA : ∀ q : Nat, s.heap.size ≤ q → A q) (hAf : ∀ q : Nat, A q → s.heap.size ≤ q) (hbA : ¬ A b) (hE : pv_E A s s.heap) {x0 m0 o0 d0 : Nat} {xq xw mq : Nat → Nat} {xJ xP xO xC xI mI mI2 mI3 mT mC oL : ClassId} {xsg xsf msg msf : Nat → Int32} (hxsg : ∀ j, j < 3 → xsg j = 63) (hmsg : ∀ j, j < 3 → msg j = 63) {H : Heap} {locs : List Loc} (hK : va_K D pv_cl [(xJ, .long), (xP, .object "Polyforge$Polynomial"), (xO, .object "Polyforge$Ideal"), (xC, .char), (xI, .int), (mI, .int), (mT, .object "PolyforgeModel$Terms"), (mI2, .int), (mC, .char), (mI3, .int), (oL, .long)] s) (hP : va_P D pv_cl [(x0, .inr (0, [.ref (xq 0), .int 0, .int 108, .ref (xq 1), .int 0, .ref (xq 2), .int 0, .ref (xq 3), .ref (xq 4), .int 1, .ref (xq 5), .ref (xq 6), .ref (xq 7), .ref (xq 8), .ref (xq 9)])), ((xq 6), .inr (2, [.ref (xw 0), .ref (xw 1), .ref (xw 2), .ref (xw 3), .int 0, .int 0])), ((xw 2), .inl (xJ, 64, .inr (.inl (fun _ => 0)))), ((xq 0), .inl (xP, 60, .inr (.inr (.inr (.inr (fun _ => none)))))), ((xq 1), .inl (xO, 5, .inr (.inr (.inr (.inr (fun _ => none)))))), ((xq 3), .inl (xC, 3, .inl xsg)), ((xq 4), .inl (xI, 3, .inl xsf)), (m0, .inr (1, pv_m 0 mq)), ((mq 0), .inl (mI, 60, .inl (fun _ => 0))), ((mq 1), .inl (mT, 60, .inr (.inr (.inr (.inr (fun _ => none)))))), ((mq 2), .inl (mI2, 5, .inl (fun _ => 0))), ((mq 9), .inl (mC, 3, .inl msg)), ((mq 10), .inl (mI3, 3, .inl msf)), (o0, .inl (oL, 1, .inr (.inl (fun _ => 0))))] H) (hD : va_D A [(x0, .inr (0, [.ref (xq 0), .int 0, .int 108, .ref (xq 1), .int 0, .ref (xq 2), .int 0, .ref (xq 3), .ref (xq 4), .int 1, .ref (xq 5), .ref (xq 6), .ref (xq 7), .ref (xq 8), .ref (xq 9)])), ((xq 6), .inr (2, [.ref (xw 0), .ref (xw 1), .ref (xw 2), .ref (xw 3), .int 0, .int 0])), ((xw 2), .inl (xJ, 64, .inr (.inl (fun _ => 0)))), ((xq 0), .inl (xP, 60, .inr (.inr (.inr (.inr (fun _ => none)))))), ((xq 1), .inl (xO, 5, .inr (.inr (.inr (.inr (fun _ => none)))))), ((xq 3), .inl (xC, 3, .inl xsg)), ((xq 4), .inl (xI, 3, .inl xsf)), (m0, .inr (1, pv_m 0 mq)), ((mq 0), .inl (mI, 60, .inl (fun _ => 0))), ((mq 1), .inl (mT, 60, .inr (.inr (.inr (.inr (fun _ => none)))))), ((mq 2), .inl (mI2, 5, .inl (fun _ => 0))), ((mq 9), .inl (mC, 3, .inl msg)), ((mq 10), .inl (mI3, 3, .inl msf)), (o0, .inl (oL, 1, .inr (.inl (fun _ => 0))))]) (hS : va_S A s.heap H locs) {ls : Array Slot} (hl : lv_has ls 9 [(0, .ref b), (1, .ref x0), (2, .ref m0), (3, .ref o0), (4, .ref d0), (5, .int 0)]) : W p l e room_1 s m #[Value.ref b] below meth c H locs 397 653821 (lw_Z below #[Value.ref b] s) (F0 m 1949 ls []) := by
  obtain ⟨hx, hb, hr, hml, hown, hts0, hX, hbl, hlocks, hgv⟩ := C0
  have hts : ∀ w ∈ pv_W, w.before #[Value.ref b] s = true := fun w h => hts0 w (List.mem_filter.mp h).1
  have hg := fun {w : Cond} (h : w ∈ lw_tbl) (g : goodWord w = true) => hts w (pv_in h g)
  have hP : va_P D pv_cl [(x0, .inr (0, [.ref (xq 0), .int 0, .int 108, .ref (xq 1), .int 0, .ref (xq 2), .int 0, .ref (xq 3), .ref (xq 4), .int 1, .ref (xq 5), .ref (xq 6), .ref (xq 7), .ref (xq 8), .ref (xq 9)])), (m0, .inr (1, pv_m 0 mq))] _ := hP.sub [0, 7] rfl
  have hD : va_D A [(x0, .inr (0, [.ref (xq 0), .int 0, .int 108, .ref (xq 1), .int 0, .ref (xq 2), .int 0, .ref (xq 3), .ref (xq 4), .int 1, .ref (xq 5), .ref (xq 6), .ref (xq 7), .ref (xq 8), .ref (xq 9)])), (m0, .inr (1, pv_m 0 mq))] := hD.sub [0, 7] (by decide) rfl
  have hK : va_K D pv_cl [] s := hK.sub [] rfl
  refine lv_aload_n hx hb dL_law_1949 rfl (lv_at hl 1 rfl) ?_
  refine lv_aload_n hx hb dL_law_1950 rfl (lv_at hl 0 rfl) ?_
  refine lv_iload hx hb dL_law_1951 (lv_at hl 5 rfl) ?_
  refine lv_iconst (v := 1) hx hb dL_law_1953 (by decide) ?_
  refine lv_iadd hx hb dL_law_1954 ?_
  refine pv_setI 1 (by decide) ?_
  refine va_sld hx hb hX hbl hbA hS (by unfold vp_in; decide) dL_law_1955 ?_
  refine pv_setI (xs 1) rfl ?_
  refine lv_aload_n hx hb dL_law_1956 rfl (lv_at hl 0 rfl) ?_
  refine lv_iload hx hb dL_law_1957 (lv_at hl 5 rfl) ?_
  refine lv_iconst (v := 2) hx hb dL_law_1959 (by decide) ?_
  refine lv_iadd hx hb dL_law_1960 ?_
  refine pv_setI 2 (by decide) ?_
  refine va_sld hx hb hX hbl hbA hS (by unfold vp_in; decide) dL_law_1961 ?_
  refine pv_setI (xs 2) rfl ?_
  refine pv_pc 1962 rfl ?_
  refine lv_aload_n hx hb dL_law_1962 rfl (lv_at hl 3 rfl) ?_
  have hF := pv_new hA hS.1
  refine va_calli (vx_runSW (As := [.ref x0, .int (xs 1), .int (xs 2), .ref o0]) (rest := []) ⟨hx, hb, hml, hown, hts⟩ (c_L_multiplicity l hfl D _ x0 xq (xs 1) (xs 2) o0) (vx_cwSW 4 hts (pv_gSW w7_31 w7_32 w1_0 w7_33) rfl rfl rfl (by decide +kernel) ⟨Nat.le_of_ble_eq_true rfl, Nat.le_of_ble_eq_true rfl⟩) (pv_ps hE hS hF (hP.sub [0] rfl) (hK.sub [] rfl) (hD.sub [0] (by decide) rfl)) rfl rfl hl.1 rfl (lv_room (Nat.le_of_ble_eq_true rfl)) dL_law_1963 ⟨Nat.le_of_ble_eq_true rfl, Nat.le_of_ble_eq_true rfl⟩) hS (fun q _ h => hF q h) hF (fun r_0 u t H1 locs1 ht hvm hw hB hz1 hk1 hS => ?_)
  refine W.widen (k := 398) (n := 653827) (Nat.le_of_ble_eq_true rfl) (Nat.le_of_ble_eq_true rfl) ?_
  have hP := pv_keep hP rfl hk1
  subst hw
  refine lv_istore (lv' := [(6, .int 1), (0, .ref b), (1, .ref x0), (2, .ref m0), (3, .ref o0), (4, .ref d0), (5, .int 0)]) hx hb dL_law_1966 hl (by decide) rfl (fun ls hl => ?_)
  refine lv_aload_n hx hb dL_law_1968 rfl (lv_at hl 3 rfl) ?_
  refine lv_aload_n hx hb dL_law_1969 rfl (lv_at hl 1 rfl) ?_
  refine lv_iload hx hb dL_law_1970 (lv_at hl 6 rfl) ?_
  refine lv_iconst (v := 1) hx hb dL_law_1972 (by decide) ?_
  refine lv_iadd hx hb dL_law_1973 ?_
  refine pv_setI 1 (by decide) ?_
  refine va_sld hx hb hX hbl hbA hS (by unfold vp_in; decide) dL_law_1974 ?_
  refine pv_setI (xs 1) rfl ?_
  refine lv_aload_n hx hb dL_law_1975 rfl (lv_at hl 1 rfl) ?_
  refine lv_iload hx hb dL_law_1976 (lv_at hl 6 rfl) ?_
  refine lv_iconst (v := 2) hx hb dL_law_1978 (by decide) ?_
  refine pv_pc 1979 rfl ?_
  refine lv_iadd hx hb dL_law_1979 ?_
  refine pv_setI 2 (by decide) ?_
  refine va_sld hx hb hX hbl hbA hS (by unfold vp_in; decide) dL_law_1980 ?_
  refine pv_setI (xs 2) rfl ?_
  have hF := va_free (wc := [(m0, .inr (1, pv_m 0 mq))]) hD hS hA [1] rfl
  refine va_calli (va_runV (As := [.int (xs 1), .int (xs 2)]) (rest := []) ⟨hx, hb, hml, hown, hts⟩ (c_X13_multiplicity l hfl D _ m0 mq (xs 1) (xs 2)) (cwV 2 hts (pv_gV w10_150 w10_151 w10_152 w1_10 w10_153) rfl rfl rfl (by decide +kernel) ⟨Nat.le_of_ble_eq_true rfl, Nat.le_of_ble_eq_true rfl⟩) (pv_pV hE hS hF (hP.sub [1] rfl) (hK.sub [] rfl) (hD.sub [1] (by decide) rfl) (va_recv (ci := 1) (q0 := 1) hK hP rfl rfl)) rfl rfl hl.1 rfl (lv_room (Nat.le_of_ble_eq_true rfl)) dL_law_1981 ⟨Nat.le_of_ble_eq_true rfl, Nat.le_of_ble_eq_true rfl⟩) hS (fun q _ h => hF q h) hF (fun r_1 u t H1 locs1 ht hvm hw hB hz1 hk1 hS => ?_)
  refine W.widen (k := 398) (n := 653827) (Nat.le_of_ble_eq_true rfl) (Nat.le_of_ble_eq_true rfl) ?_
  subst hw
  obtain ⟨fs_3, hf_4, hP1, hK1, hD1⟩ := hB
  rw [ht] at hP1
  have hK1 := va_K.moved hvm.symm hK1
  obtain ⟨hP, hD⟩ := va_join (wr := [(x0, .inr (0, [.ref (xq 0), .int 0, .int 108, .ref (xq 1), .int 0, .ref (xq 2), .int 0, .ref (xq 3), .ref (xq 4), .int 1, .ref (xq 5), .ref (xq 6), .ref (xq 7), .ref (xq 8), .ref (xq 9)]))]) (w1 := [(m0, .inr (1, fs_3))]) hP hD [1] [0] rfl rfl (by decide) (by decide) hk1 hF hP1 hD1
  have hP : va_P D pv_cl [(x0, .inr (0, [.ref (xq 0), .int 0, .int 108, .ref (xq 1), .int 0, .ref (xq 2), .int 0, .ref (xq 3), .ref (xq 4), .int 1, .ref (xq 5), .ref (xq 6), .ref (xq 7), .ref (xq 8), .ref (xq 9)])), (m0, .inr (1, fs_3))] _ := hP
  have hD : va_D A [(x0, .inr (0, [.ref (xq 0), .int 0, .int 108, .ref (xq 1), .int 0, .ref (xq 2), .int 0, .ref (xq 3), .ref (xq 4), .int 1, .ref (xq 5), .ref (xq 6), .ref (xq 7), .ref (xq 8), .ref (xq 9)])), (m0, .inr (1, fs_3))] := hD
  refine lv_istore (lv' := [(7, .int r_1), (6, .int 1), (0, .ref b), (1, .ref x0), (2, .ref m0), (3, .ref o0), (4, .ref d0), (5, .int 0)]) hx hb dL_law_1984 hl (by decide) rfl (fun ls hl => ?_)
  refine lv_aload_n hx hb dL_law_1986 rfl (lv_at hl 4 rfl) ?_
  have hF := pv_new hA hS.1
  refine va_calli (va_runV (As := []) (rest := []) ⟨hx, hb, hml, hown, hts⟩ (c_X13_thrown l hfl D _ m0 fs_3 1 hf_4) (cwV 0 hts (pv_gV w9_102 w9_103 w9_104 w1_10 w9_105) rfl rfl rfl (by decide +kernel) ⟨Nat.le_of_ble_eq_true rfl, Nat.le_of_ble_eq_true rfl⟩) (pv_pV hE hS hF (hP.sub [1] rfl) (hK.sub [] rfl) (hD.sub [1] (by decide) rfl) (va_recv (ci := 1) (q0 := 1) hK hP rfl rfl)) rfl rfl hl.1 rfl (lv_room (Nat.le_of_ble_eq_true rfl)) dL_law_1987 ⟨Nat.le_of_ble_eq_true rfl, Nat.le_of_ble_eq_true rfl⟩) hS (fun q _ h => hF q h) hF (fun r_4 u t H1 locs1 ht hvm hw hB hz1 hk1 hS => ?_)
  refine W.widen (k := 398) (n := 653827) (Nat.le_of_ble_eq_true rfl) (Nat.le_of_ble_eq_true rfl) ?_
  have hP := pv_keep hP rfl hk1
  subst hw
  refine lv_iload hx hb dL_law_1990 (lv_at hl 1 rfl) ?_
  refine lv_icmp_eq (tgt := 1997) hx hb dL_law_1992 (by decide) (fun _ => ?_) (fun c_6 => absurd (by decide) c_6)
  refine lv_iload hx hb dL_law_1997 (lv_at hl 1 rfl) ?_
  refine lv_if_ne (tgt := 2014) hx hb dL_law_1999 (by decide) (fun _ => ?_) (fun c_7 => absurd c_7 (by decide))
  refine lv_goto (tgt := 3721) hx hb dL_law_2014 (by decide) ?_
  refine lv_iinc (v := 7) (lv' := [(5, .int 7), (7, .int r_1), (6, .int 1), (0, .ref b), (1, .ref x0), (2, .ref m0), (3, .ref o0), (4, .ref d0)]) hx hb dL_law_3721 hl (k := 7) rfl (by decide) (by decide) rfl (fun ls hl => ?_)
  refine pv_pc 3724 rfl ?_
  refine lv_goto (tgt := 28) hx hb dL_law_3724 (by decide) ?_
  refine lv_iload hx hb dL_law_28 (lv_at hl 0 rfl) ?_
  refine lv_aload_n hx hb dL_law_30 rfl (lv_at hl 3 rfl) ?_
  refine va_slen hx hb hX hbl hbA hS dL_law_31 ?_
  refine pv_setI 7 rfl ?_
  refine lv_bipush (v := 7) hx hb dL_law_32 (by decide) ?_
  refine lv_isub hx hb dL_law_34 ?_
  refine pv_setI 0 (by decide) ?_
  refine lv_icmp_gt (tgt := 3727) hx hb dL_law_35 (by decide) (fun _ => ?_) (fun c_8 => absurd (by decide) c_8)
  refine lv_iconst (v := 1) hx hb dL_law_3727 (by decide) ?_
  refine va_forget (fun q hq => hAf _ (hS.2.2 q hq)) ?_
  refine W.widen (k := 600006) (n := 7302064) (Nat.le_of_ble_eq_true rfl) (Nat.le_of_ble_eq_true rfl) ?_
  exact lw_ret (d0 := s.drawn) (Drawn.sameBut.refl s.drawn lw_cs) hx hb hr hlocks dL_law_3728

theorem dL_law_2017 : decode cL_law 2017 = .ok (.aload_n 1, 1) := by decide +kernel
theorem dL_law_2018 : decode cL_law 2018 = .ok (.aload_n 0, 1) := by decide +kernel
theorem dL_law_2019 : decode cL_law 2019 = .ok (.iload 5, 2) := by decide +kernel
theorem dL_law_2021 : decode cL_law 2021 = .ok (.iconst 1, 1) := by decide +kernel
theorem dL_law_2022 : decode cL_law 2022 = .ok (.iadd, 1) := by decide +kernel
theorem dL_law_2023 : decode cL_law 2023 = .ok (.iaload, 1) := by decide +kernel
theorem dL_law_2024 : decode cL_law 2024 = .ok (.aload_n 3, 1) := by decide +kernel
theorem dL_law_2025 : decode cL_law 2025 = .ok (.invokestatic 285, 3) := by decide +kernel
theorem w7_39 : (Jvm.Cond.methodLink "PolyforgeLaw" (285 : Nat) ({ cls := "PolyforgeLaw", name := "isIrreducible", desc := "(LPolyforge;I[J)I" } : Jvm.MethodName)) ∈ lw_tbl := pv_t7 (pv_mg 39 rfl)
theorem w7_41 : (Jvm.Cond.codeWith ({ cls := "PolyforgeLaw", name := "isIrreducible", desc := "(LPolyforge;I[J)I" } : Jvm.MethodName) method_29_code (4 : Nat) (Option.some Jvm.ClassFile.FieldType.int) [((0 : Nat), (16 : Nat), (19 : Nat), (23 : Nat)), ((0 : Nat), (16 : Nat), (22 : Nat), (25 : Nat))]) ∈ lw_tbl := pv_t7 (pv_mg 41 rfl)
theorem w7_40 : (Jvm.Cond.static ({ cls := "PolyforgeLaw", name := "isIrreducible", desc := "(LPolyforge;I[J)I" } : Jvm.MethodName)) ∈ lw_tbl := pv_t7 (pv_mg 40 rfl)
theorem dL_law_2028 : decode cL_law 2028 = .ok (.istore 6, 2) := by decide +kernel
theorem dL_law_2030 : decode cL_law 2030 = .ok (.aload_n 2, 1) := by decide +kernel
theorem dL_law_2031 : decode cL_law 2031 = .ok (.aload_n 0, 1) := by decide +kernel
theorem dL_law_2032 : decode cL_law 2032 = .ok (.iload 5, 2) := by decide +kernel
theorem dL_law_2034 : decode cL_law 2034 = .ok (.iconst 1, 1) := by decide +kernel
theorem dL_law_2035 : decode cL_law 2035 = .ok (.iadd, 1) := by decide +kernel
theorem dL_law_2036 : decode cL_law 2036 = .ok (.iaload, 1) := by decide +kernel
theorem dL_law_2037 : decode cL_law 2037 = .ok (.invokevirtual 287, 3) := by decide +kernel
theorem w10_154 : (Jvm.Cond.methodLink "PolyforgeLaw" (287 : Nat) ({ cls := "PolyforgeModel", name := "isIrreducible", desc := "(I)Z" } : Jvm.MethodName)) ∈ lw_tbl := pv_t10 (pv_mg 154 rfl)
theorem w10_157 : (Jvm.Cond.code ({ cls := "PolyforgeModel", name := "isIrreducible", desc := "(I)Z" } : Jvm.MethodName) prog_14_method_78_code (3 : Nat) (Option.some Jvm.ClassFile.FieldType.boolean)) ∈ lw_tbl := pv_t10 (pv_mg 157 rfl)
theorem w10_156 : (Jvm.Cond.selects "PolyforgeModel" ({ cls := "PolyforgeModel", name := "isIrreducible", desc := "(I)Z" } : Jvm.MethodName) ({ cls := "PolyforgeModel", name := "isIrreducible", desc := "(I)Z" } : Jvm.MethodName)) ∈ lw_tbl := pv_t10 (pv_mg 156 rfl)
theorem w10_155 : (Jvm.Cond.instanceMethod ({ cls := "PolyforgeModel", name := "isIrreducible", desc := "(I)Z" } : Jvm.MethodName)) ∈ lw_tbl := pv_t10 (pv_mg 155 rfl)
theorem dL_law_2040 : decode cL_law 2040 = .ok (.istore 7, 2) := by decide +kernel
theorem dL_law_2042 : decode cL_law 2042 = .ok (.aload_n 2, 1) := by decide +kernel
theorem dL_law_2043 : decode cL_law 2043 = .ok (.invokevirtual 199, 3) := by decide +kernel
theorem dL_law_2046 : decode cL_law 2046 = .ok (.iload 6, 2) := by decide +kernel
theorem dL_law_2048 : decode cL_law 2048 = .ok (.if_icmp .eq 5, 3) := by decide +kernel
theorem dL_law_2053 : decode cL_law 2053 = .ok (.iload 6, 2) := by decide +kernel
theorem dL_law_2055 : decode cL_law 2055 = .ok (.ifCond .ne 22, 3) := by decide +kernel
theorem dL_law_2077 : decode cL_law 2077 = .ok (.goto 1644, 3) := by decide +kernel
set_option maxHeartbeats 4000000 in
set_option maxRecDepth 100000 in
/-- the law, call 27: isIrreducible -/
theorem law_case_27 {p : Program} {e : Env} {s : State} {m : MethodId} {below : List Frame} {meth : Method} {c : Code} (l : Launch) (hfl : l.stackTraces = false) {b : Nat} {xs : Nat → Int32} (C0 : lw_At p s m meth c b 7 xs) {D : va_G} {A : Nat → Prop} (hA : ∀ q : Nat, s.heap.size ≤ q → A q) (hAf : ∀ q : Nat, A q → s.heap.size ≤ q) (hbA : ¬ A b) (hE : pv_E A s s.heap) {x0 m0 o0 d0 : Nat} {xq xw mq : Nat → Nat} {xJ xP xO xC xI mI mI2 mI3 mT mC oL : ClassId} {xsg xsf msg msf : Nat → Int32} (hxsg : ∀ j, j < 3 → xsg j = 63) (hmsg : ∀ j, j < 3 → msg j = 63) {H : Heap} {locs : List Loc} (hK : va_K D pv_cl [(xJ, .long), (xP, .object "Polyforge$Polynomial"), (xO, .object "Polyforge$Ideal"), (xC, .char), (xI, .int), (mI, .int), (mT, .object "PolyforgeModel$Terms"), (mI2, .int), (mC, .char), (mI3, .int), (oL, .long)] s) (hP : va_P D pv_cl [(x0, .inr (0, [.ref (xq 0), .int 0, .int 108, .ref (xq 1), .int 0, .ref (xq 2), .int 0, .ref (xq 3), .ref (xq 4), .int 1, .ref (xq 5), .ref (xq 6), .ref (xq 7), .ref (xq 8), .ref (xq 9)])), ((xq 6), .inr (2, [.ref (xw 0), .ref (xw 1), .ref (xw 2), .ref (xw 3), .int 0, .int 0])), ((xw 2), .inl (xJ, 64, .inr (.inl (fun _ => 0)))), ((xq 0), .inl (xP, 60, .inr (.inr (.inr (.inr (fun _ => none)))))), ((xq 1), .inl (xO, 5, .inr (.inr (.inr (.inr (fun _ => none)))))), ((xq 3), .inl (xC, 3, .inl xsg)), ((xq 4), .inl (xI, 3, .inl xsf)), (m0, .inr (1, pv_m 0 mq)), ((mq 0), .inl (mI, 60, .inl (fun _ => 0))), ((mq 1), .inl (mT, 60, .inr (.inr (.inr (.inr (fun _ => none)))))), ((mq 2), .inl (mI2, 5, .inl (fun _ => 0))), ((mq 9), .inl (mC, 3, .inl msg)), ((mq 10), .inl (mI3, 3, .inl msf)), (o0, .inl (oL, 1, .inr (.inl (fun _ => 0))))] H) (hD : va_D A [(x0, .inr (0, [.ref (xq 0), .int 0, .int 108, .ref (xq 1), .int 0, .ref (xq 2), .int 0, .ref (xq 3), .ref (xq 4), .int 1, .ref (xq 5), .ref (xq 6), .ref (xq 7), .ref (xq 8), .ref (xq 9)])), ((xq 6), .inr (2, [.ref (xw 0), .ref (xw 1), .ref (xw 2), .ref (xw 3), .int 0, .int 0])), ((xw 2), .inl (xJ, 64, .inr (.inl (fun _ => 0)))), ((xq 0), .inl (xP, 60, .inr (.inr (.inr (.inr (fun _ => none)))))), ((xq 1), .inl (xO, 5, .inr (.inr (.inr (.inr (fun _ => none)))))), ((xq 3), .inl (xC, 3, .inl xsg)), ((xq 4), .inl (xI, 3, .inl xsf)), (m0, .inr (1, pv_m 0 mq)), ((mq 0), .inl (mI, 60, .inl (fun _ => 0))), ((mq 1), .inl (mT, 60, .inr (.inr (.inr (.inr (fun _ => none)))))), ((mq 2), .inl (mI2, 5, .inl (fun _ => 0))), ((mq 9), .inl (mC, 3, .inl msg)), ((mq 10), .inl (mI3, 3, .inl msf)), (o0, .inl (oL, 1, .inr (.inl (fun _ => 0))))]) (hS : va_S A s.heap H locs) {ls : Array Slot} (hl : lv_has ls 9 [(0, .ref b), (1, .ref x0), (2, .ref m0), (3, .ref o0), (4, .ref d0), (5, .int 0)]) : W p l e room_1 s m #[Value.ref b] below meth c H locs 397 653821 (lw_Z below #[Value.ref b] s) (F0 m 2017 ls []) := by
  obtain ⟨hx, hb, hr, hml, hown, hts0, hX, hbl, hlocks, hgv⟩ := C0
  have hts : ∀ w ∈ pv_W, w.before #[Value.ref b] s = true := fun w h => hts0 w (List.mem_filter.mp h).1
  have hg := fun {w : Cond} (h : w ∈ lw_tbl) (g : goodWord w = true) => hts w (pv_in h g)
  have hP : va_P D pv_cl [(x0, .inr (0, [.ref (xq 0), .int 0, .int 108, .ref (xq 1), .int 0, .ref (xq 2), .int 0, .ref (xq 3), .ref (xq 4), .int 1, .ref (xq 5), .ref (xq 6), .ref (xq 7), .ref (xq 8), .ref (xq 9)])), (m0, .inr (1, pv_m 0 mq))] _ := hP.sub [0, 7] rfl
  have hD : va_D A [(x0, .inr (0, [.ref (xq 0), .int 0, .int 108, .ref (xq 1), .int 0, .ref (xq 2), .int 0, .ref (xq 3), .ref (xq 4), .int 1, .ref (xq 5), .ref (xq 6), .ref (xq 7), .ref (xq 8), .ref (xq 9)])), (m0, .inr (1, pv_m 0 mq))] := hD.sub [0, 7] (by decide) rfl
  have hK : va_K D pv_cl [] s := hK.sub [] rfl
  refine lv_aload_n hx hb dL_law_2017 rfl (lv_at hl 1 rfl) ?_
  refine lv_aload_n hx hb dL_law_2018 rfl (lv_at hl 0 rfl) ?_
  refine lv_iload hx hb dL_law_2019 (lv_at hl 5 rfl) ?_
  refine lv_iconst (v := 1) hx hb dL_law_2021 (by decide) ?_
  refine lv_iadd hx hb dL_law_2022 ?_
  refine pv_setI 1 (by decide) ?_
  refine va_sld hx hb hX hbl hbA hS (by unfold vp_in; decide) dL_law_2023 ?_
  refine pv_setI (xs 1) rfl ?_
  refine lv_aload_n hx hb dL_law_2024 rfl (lv_at hl 3 rfl) ?_
  have hF := pv_new hA hS.1
  refine va_calli (vx_runSW (As := [.ref x0, .int (xs 1), .ref o0]) (rest := []) ⟨hx, hb, hml, hown, hts⟩ (c_L_isIrreducible l hfl D _ x0 xq (xs 1) o0) (vx_cwSW 3 hts (pv_gSW w7_39 w7_40 w1_0 w7_41) rfl rfl rfl (by decide +kernel) ⟨Nat.le_of_ble_eq_true rfl, Nat.le_of_ble_eq_true rfl⟩) (pv_ps hE hS hF (hP.sub [0] rfl) (hK.sub [] rfl) (hD.sub [0] (by decide) rfl)) rfl rfl hl.1 rfl (lv_room (Nat.le_of_ble_eq_true rfl)) dL_law_2025 ⟨Nat.le_of_ble_eq_true rfl, Nat.le_of_ble_eq_true rfl⟩) hS (fun q _ h => hF q h) hF (fun r_0 u t H1 locs1 ht hvm hw hB hz1 hk1 hS => ?_)
  refine W.widen (k := 398) (n := 653827) (Nat.le_of_ble_eq_true rfl) (Nat.le_of_ble_eq_true rfl) ?_
  have hP := pv_keep hP rfl hk1
  subst hw
  refine lv_istore (lv' := [(6, .int 1), (0, .ref b), (1, .ref x0), (2, .ref m0), (3, .ref o0), (4, .ref d0), (5, .int 0)]) hx hb dL_law_2028 hl (by decide) rfl (fun ls hl => ?_)
  refine lv_aload_n hx hb dL_law_2030 rfl (lv_at hl 3 rfl) ?_
  refine lv_aload_n hx hb dL_law_2031 rfl (lv_at hl 1 rfl) ?_
  refine pv_pc 2032 rfl ?_
  refine lv_iload hx hb dL_law_2032 (lv_at hl 6 rfl) ?_
  refine lv_iconst (v := 1) hx hb dL_law_2034 (by decide) ?_
  refine lv_iadd hx hb dL_law_2035 ?_
  refine pv_setI 1 (by decide) ?_
  refine va_sld hx hb hX hbl hbA hS (by unfold vp_in; decide) dL_law_2036 ?_
  refine pv_setI (xs 1) rfl ?_
  have hF := va_free (wc := [(m0, .inr (1, pv_m 0 mq))]) hD hS hA [1] rfl
  refine va_calli (va_runV (As := [.int (xs 1)]) (rest := []) ⟨hx, hb, hml, hown, hts⟩ (c_X13_isIrreducible l hfl D _ m0 mq (xs 1)) (cwV 1 hts (pv_gV w10_154 w10_155 w10_156 w1_10 w10_157) rfl rfl rfl (by decide +kernel) ⟨Nat.le_of_ble_eq_true rfl, Nat.le_of_ble_eq_true rfl⟩) (pv_pV hE hS hF (hP.sub [1] rfl) (hK.sub [] rfl) (hD.sub [1] (by decide) rfl) (va_recv (ci := 1) (q0 := 1) hK hP rfl rfl)) rfl rfl hl.1 rfl (lv_room (Nat.le_of_ble_eq_true rfl)) dL_law_2037 ⟨Nat.le_of_ble_eq_true rfl, Nat.le_of_ble_eq_true rfl⟩) hS (fun q _ h => hF q h) hF (fun r_1 u t H1 locs1 ht hvm hw hB hz1 hk1 hS => ?_)
  refine W.widen (k := 398) (n := 653827) (Nat.le_of_ble_eq_true rfl) (Nat.le_of_ble_eq_true rfl) ?_
  subst hw
  obtain ⟨fs_3, hf_4, hP1, hK1, hD1⟩ := hB
  rw [ht] at hP1
  have hK1 := va_K.moved hvm.symm hK1
  obtain ⟨hP, hD⟩ := va_join (wr := [(x0, .inr (0, [.ref (xq 0), .int 0, .int 108, .ref (xq 1), .int 0, .ref (xq 2), .int 0, .ref (xq 3), .ref (xq 4), .int 1, .ref (xq 5), .ref (xq 6), .ref (xq 7), .ref (xq 8), .ref (xq 9)]))]) (w1 := [(m0, .inr (1, fs_3))]) hP hD [1] [0] rfl rfl (by decide) (by decide) hk1 hF hP1 hD1
  have hP : va_P D pv_cl [(x0, .inr (0, [.ref (xq 0), .int 0, .int 108, .ref (xq 1), .int 0, .ref (xq 2), .int 0, .ref (xq 3), .ref (xq 4), .int 1, .ref (xq 5), .ref (xq 6), .ref (xq 7), .ref (xq 8), .ref (xq 9)])), (m0, .inr (1, fs_3))] _ := hP
  have hD : va_D A [(x0, .inr (0, [.ref (xq 0), .int 0, .int 108, .ref (xq 1), .int 0, .ref (xq 2), .int 0, .ref (xq 3), .ref (xq 4), .int 1, .ref (xq 5), .ref (xq 6), .ref (xq 7), .ref (xq 8), .ref (xq 9)])), (m0, .inr (1, fs_3))] := hD
  refine lv_istore (lv' := [(7, .int r_1), (6, .int 1), (0, .ref b), (1, .ref x0), (2, .ref m0), (3, .ref o0), (4, .ref d0), (5, .int 0)]) hx hb dL_law_2040 hl (by decide) rfl (fun ls hl => ?_)
  refine lv_aload_n hx hb dL_law_2042 rfl (lv_at hl 4 rfl) ?_
  have hF := pv_new hA hS.1
  refine va_calli (va_runV (As := []) (rest := []) ⟨hx, hb, hml, hown, hts⟩ (c_X13_thrown l hfl D _ m0 fs_3 1 hf_4) (cwV 0 hts (pv_gV w9_102 w9_103 w9_104 w1_10 w9_105) rfl rfl rfl (by decide +kernel) ⟨Nat.le_of_ble_eq_true rfl, Nat.le_of_ble_eq_true rfl⟩) (pv_pV hE hS hF (hP.sub [1] rfl) (hK.sub [] rfl) (hD.sub [1] (by decide) rfl) (va_recv (ci := 1) (q0 := 1) hK hP rfl rfl)) rfl rfl hl.1 rfl (lv_room (Nat.le_of_ble_eq_true rfl)) dL_law_2043 ⟨Nat.le_of_ble_eq_true rfl, Nat.le_of_ble_eq_true rfl⟩) hS (fun q _ h => hF q h) hF (fun r_4 u t H1 locs1 ht hvm hw hB hz1 hk1 hS => ?_)
  refine W.widen (k := 398) (n := 653827) (Nat.le_of_ble_eq_true rfl) (Nat.le_of_ble_eq_true rfl) ?_
  have hP := pv_keep hP rfl hk1
  subst hw
  refine lv_iload hx hb dL_law_2046 (lv_at hl 1 rfl) ?_
  refine lv_icmp_eq (tgt := 2053) hx hb dL_law_2048 (by decide) (fun _ => ?_) (fun c_6 => absurd (by decide) c_6)
  refine lv_iload hx hb dL_law_2053 (lv_at hl 1 rfl) ?_
  refine lv_if_ne (tgt := 2077) hx hb dL_law_2055 (by decide) (fun _ => ?_) (fun c_7 => absurd c_7 (by decide))
  refine pv_pc 2077 rfl ?_
  refine lv_goto (tgt := 3721) hx hb dL_law_2077 (by decide) ?_
  refine lv_iinc (v := 7) (lv' := [(5, .int 7), (7, .int r_1), (6, .int 1), (0, .ref b), (1, .ref x0), (2, .ref m0), (3, .ref o0), (4, .ref d0)]) hx hb dL_law_3721 hl (k := 7) rfl (by decide) (by decide) rfl (fun ls hl => ?_)
  refine lv_goto (tgt := 28) hx hb dL_law_3724 (by decide) ?_
  refine lv_iload hx hb dL_law_28 (lv_at hl 0 rfl) ?_
  refine lv_aload_n hx hb dL_law_30 rfl (lv_at hl 3 rfl) ?_
  refine va_slen hx hb hX hbl hbA hS dL_law_31 ?_
  refine pv_setI 7 rfl ?_
  refine lv_bipush (v := 7) hx hb dL_law_32 (by decide) ?_
  refine lv_isub hx hb dL_law_34 ?_
  refine pv_setI 0 (by decide) ?_
  refine lv_icmp_gt (tgt := 3727) hx hb dL_law_35 (by decide) (fun _ => ?_) (fun c_8 => absurd (by decide) c_8)
  refine lv_iconst (v := 1) hx hb dL_law_3727 (by decide) ?_
  refine va_forget (fun q hq => hAf _ (hS.2.2 q hq)) ?_
  refine W.widen (k := 600006) (n := 7302064) (Nat.le_of_ble_eq_true rfl) (Nat.le_of_ble_eq_true rfl) ?_
  exact lw_ret (d0 := s.drawn) (Drawn.sameBut.refl s.drawn lw_cs) hx hb hr hlocks dL_law_3728

theorem dL_law_2080 : decode cL_law 2080 = .ok (.aload_n 1, 1) := by decide +kernel
theorem dL_law_2081 : decode cL_law 2081 = .ok (.aload_n 0, 1) := by decide +kernel
theorem dL_law_2082 : decode cL_law 2082 = .ok (.iload 5, 2) := by decide +kernel
theorem dL_law_2084 : decode cL_law 2084 = .ok (.iconst 1, 1) := by decide +kernel
theorem dL_law_2085 : decode cL_law 2085 = .ok (.iadd, 1) := by decide +kernel
theorem dL_law_2086 : decode cL_law 2086 = .ok (.iaload, 1) := by decide +kernel
theorem dL_law_2087 : decode cL_law 2087 = .ok (.aload_n 3, 1) := by decide +kernel
theorem dL_law_2088 : decode cL_law 2088 = .ok (.invokestatic 288, 3) := by decide +kernel
theorem w7_47 : (Jvm.Cond.methodLink "PolyforgeLaw" (288 : Nat) ({ cls := "PolyforgeLaw", name := "roots", desc := "(LPolyforge;I[J)I" } : Jvm.MethodName)) ∈ lw_tbl := pv_t7 (pv_mg 47 rfl)
theorem w7_49 : (Jvm.Cond.codeWith ({ cls := "PolyforgeLaw", name := "roots", desc := "(LPolyforge;I[J)I" } : Jvm.MethodName) method_30_code (4 : Nat) (Option.some Jvm.ClassFile.FieldType.int) [((0 : Nat), (9 : Nat), (12 : Nat), (23 : Nat)), ((0 : Nat), (9 : Nat), (15 : Nat), (25 : Nat)), ((0 : Nat), (9 : Nat), (18 : Nat), (27 : Nat))]) ∈ lw_tbl := pv_t7 (pv_mg 49 rfl)
theorem w7_48 : (Jvm.Cond.static ({ cls := "PolyforgeLaw", name := "roots", desc := "(LPolyforge;I[J)I" } : Jvm.MethodName)) ∈ lw_tbl := pv_t7 (pv_mg 48 rfl)
theorem dL_law_2091 : decode cL_law 2091 = .ok (.istore 6, 2) := by decide +kernel
theorem dL_law_2093 : decode cL_law 2093 = .ok (.aload_n 2, 1) := by decide +kernel
theorem dL_law_2094 : decode cL_law 2094 = .ok (.aload_n 0, 1) := by decide +kernel
theorem dL_law_2095 : decode cL_law 2095 = .ok (.iload 5, 2) := by decide +kernel
theorem dL_law_2097 : decode cL_law 2097 = .ok (.iconst 1, 1) := by decide +kernel
theorem dL_law_2098 : decode cL_law 2098 = .ok (.iadd, 1) := by decide +kernel
theorem dL_law_2099 : decode cL_law 2099 = .ok (.iaload, 1) := by decide +kernel
theorem dL_law_2100 : decode cL_law 2100 = .ok (.invokevirtual 290, 3) := by decide +kernel
theorem w10_158 : (Jvm.Cond.methodLink "PolyforgeLaw" (290 : Nat) ({ cls := "PolyforgeModel", name := "roots", desc := "(I)I" } : Jvm.MethodName)) ∈ lw_tbl := pv_t10 (pv_mg 158 rfl)
theorem w10_161 : (Jvm.Cond.code ({ cls := "PolyforgeModel", name := "roots", desc := "(I)I" } : Jvm.MethodName) prog_14_method_80_code (5 : Nat) (Option.some Jvm.ClassFile.FieldType.int)) ∈ lw_tbl := pv_t10 (pv_mg 161 rfl)
theorem w10_160 : (Jvm.Cond.selects "PolyforgeModel" ({ cls := "PolyforgeModel", name := "roots", desc := "(I)I" } : Jvm.MethodName) ({ cls := "PolyforgeModel", name := "roots", desc := "(I)I" } : Jvm.MethodName)) ∈ lw_tbl := pv_t10 (pv_mg 160 rfl)
theorem w10_159 : (Jvm.Cond.instanceMethod ({ cls := "PolyforgeModel", name := "roots", desc := "(I)I" } : Jvm.MethodName)) ∈ lw_tbl := pv_t10 (pv_mg 159 rfl)
theorem dL_law_2103 : decode cL_law 2103 = .ok (.istore 7, 2) := by decide +kernel
theorem dL_law_2105 : decode cL_law 2105 = .ok (.aload_n 2, 1) := by decide +kernel
theorem dL_law_2106 : decode cL_law 2106 = .ok (.invokevirtual 199, 3) := by decide +kernel
theorem dL_law_2109 : decode cL_law 2109 = .ok (.iload 6, 2) := by decide +kernel
theorem dL_law_2111 : decode cL_law 2111 = .ok (.if_icmp .eq 5, 3) := by decide +kernel
theorem dL_law_2116 : decode cL_law 2116 = .ok (.iload 6, 2) := by decide +kernel
theorem dL_law_2118 : decode cL_law 2118 = .ok (.ifCond .ne 15, 3) := by decide +kernel
theorem dL_law_2133 : decode cL_law 2133 = .ok (.goto 1588, 3) := by decide +kernel
set_option maxHeartbeats 4000000 in
set_option maxRecDepth 100000 in
/-- the law, call 28: roots -/
theorem law_case_28 {p : Program} {e : Env} {s : State} {m : MethodId} {below : List Frame} {meth : Method} {c : Code} (l : Launch) (hfl : l.stackTraces = false) {b : Nat} {xs : Nat → Int32} (C0 : lw_At p s m meth c b 7 xs) {D : va_G} {A : Nat → Prop} (hA : ∀ q : Nat, s.heap.size ≤ q → A q) (hAf : ∀ q : Nat, A q → s.heap.size ≤ q) (hbA : ¬ A b) (hE : pv_E A s s.heap) {x0 m0 o0 d0 : Nat} {xq xw mq : Nat → Nat} {xJ xP xO xC xI mI mI2 mI3 mT mC oL : ClassId} {xsg xsf msg msf : Nat → Int32} (hxsg : ∀ j, j < 3 → xsg j = 63) (hmsg : ∀ j, j < 3 → msg j = 63) {H : Heap} {locs : List Loc} (hK : va_K D pv_cl [(xJ, .long), (xP, .object "Polyforge$Polynomial"), (xO, .object "Polyforge$Ideal"), (xC, .char), (xI, .int), (mI, .int), (mT, .object "PolyforgeModel$Terms"), (mI2, .int), (mC, .char), (mI3, .int), (oL, .long)] s) (hP : va_P D pv_cl [(x0, .inr (0, [.ref (xq 0), .int 0, .int 108, .ref (xq 1), .int 0, .ref (xq 2), .int 0, .ref (xq 3), .ref (xq 4), .int 1, .ref (xq 5), .ref (xq 6), .ref (xq 7), .ref (xq 8), .ref (xq 9)])), ((xq 6), .inr (2, [.ref (xw 0), .ref (xw 1), .ref (xw 2), .ref (xw 3), .int 0, .int 0])), ((xw 2), .inl (xJ, 64, .inr (.inl (fun _ => 0)))), ((xq 0), .inl (xP, 60, .inr (.inr (.inr (.inr (fun _ => none)))))), ((xq 1), .inl (xO, 5, .inr (.inr (.inr (.inr (fun _ => none)))))), ((xq 3), .inl (xC, 3, .inl xsg)), ((xq 4), .inl (xI, 3, .inl xsf)), (m0, .inr (1, pv_m 0 mq)), ((mq 0), .inl (mI, 60, .inl (fun _ => 0))), ((mq 1), .inl (mT, 60, .inr (.inr (.inr (.inr (fun _ => none)))))), ((mq 2), .inl (mI2, 5, .inl (fun _ => 0))), ((mq 9), .inl (mC, 3, .inl msg)), ((mq 10), .inl (mI3, 3, .inl msf)), (o0, .inl (oL, 1, .inr (.inl (fun _ => 0))))] H) (hD : va_D A [(x0, .inr (0, [.ref (xq 0), .int 0, .int 108, .ref (xq 1), .int 0, .ref (xq 2), .int 0, .ref (xq 3), .ref (xq 4), .int 1, .ref (xq 5), .ref (xq 6), .ref (xq 7), .ref (xq 8), .ref (xq 9)])), ((xq 6), .inr (2, [.ref (xw 0), .ref (xw 1), .ref (xw 2), .ref (xw 3), .int 0, .int 0])), ((xw 2), .inl (xJ, 64, .inr (.inl (fun _ => 0)))), ((xq 0), .inl (xP, 60, .inr (.inr (.inr (.inr (fun _ => none)))))), ((xq 1), .inl (xO, 5, .inr (.inr (.inr (.inr (fun _ => none)))))), ((xq 3), .inl (xC, 3, .inl xsg)), ((xq 4), .inl (xI, 3, .inl xsf)), (m0, .inr (1, pv_m 0 mq)), ((mq 0), .inl (mI, 60, .inl (fun _ => 0))), ((mq 1), .inl (mT, 60, .inr (.inr (.inr (.inr (fun _ => none)))))), ((mq 2), .inl (mI2, 5, .inl (fun _ => 0))), ((mq 9), .inl (mC, 3, .inl msg)), ((mq 10), .inl (mI3, 3, .inl msf)), (o0, .inl (oL, 1, .inr (.inl (fun _ => 0))))]) (hS : va_S A s.heap H locs) {ls : Array Slot} (hl : lv_has ls 9 [(0, .ref b), (1, .ref x0), (2, .ref m0), (3, .ref o0), (4, .ref d0), (5, .int 0)]) : W p l e room_1 s m #[Value.ref b] below meth c H locs 397 653821 (lw_Z below #[Value.ref b] s) (F0 m 2080 ls []) := by
  obtain ⟨hx, hb, hr, hml, hown, hts0, hX, hbl, hlocks, hgv⟩ := C0
  have hts : ∀ w ∈ pv_W, w.before #[Value.ref b] s = true := fun w h => hts0 w (List.mem_filter.mp h).1
  have hg := fun {w : Cond} (h : w ∈ lw_tbl) (g : goodWord w = true) => hts w (pv_in h g)
  have hP : va_P D pv_cl [(x0, .inr (0, [.ref (xq 0), .int 0, .int 108, .ref (xq 1), .int 0, .ref (xq 2), .int 0, .ref (xq 3), .ref (xq 4), .int 1, .ref (xq 5), .ref (xq 6), .ref (xq 7), .ref (xq 8), .ref (xq 9)])), (m0, .inr (1, pv_m 0 mq))] _ := hP.sub [0, 7] rfl
  have hD : va_D A [(x0, .inr (0, [.ref (xq 0), .int 0, .int 108, .ref (xq 1), .int 0, .ref (xq 2), .int 0, .ref (xq 3), .ref (xq 4), .int 1, .ref (xq 5), .ref (xq 6), .ref (xq 7), .ref (xq 8), .ref (xq 9)])), (m0, .inr (1, pv_m 0 mq))] := hD.sub [0, 7] (by decide) rfl
  have hK : va_K D pv_cl [] s := hK.sub [] rfl
  refine lv_aload_n hx hb dL_law_2080 rfl (lv_at hl 1 rfl) ?_
  refine lv_aload_n hx hb dL_law_2081 rfl (lv_at hl 0 rfl) ?_
  refine lv_iload hx hb dL_law_2082 (lv_at hl 5 rfl) ?_
  refine lv_iconst (v := 1) hx hb dL_law_2084 (by decide) ?_
  refine lv_iadd hx hb dL_law_2085 ?_
  refine pv_setI 1 (by decide) ?_
  refine va_sld hx hb hX hbl hbA hS (by unfold vp_in; decide) dL_law_2086 ?_
  refine pv_setI (xs 1) rfl ?_
  refine lv_aload_n hx hb dL_law_2087 rfl (lv_at hl 3 rfl) ?_
  have hF := pv_new hA hS.1
  refine va_calli (vx_runSW (As := [.ref x0, .int (xs 1), .ref o0]) (rest := []) ⟨hx, hb, hml, hown, hts⟩ (c_L_roots l hfl D _ x0 xq (xs 1) o0) (vx_cwSW 3 hts (pv_gSW w7_47 w7_48 w1_0 w7_49) rfl rfl rfl (by decide +kernel) ⟨Nat.le_of_ble_eq_true rfl, Nat.le_of_ble_eq_true rfl⟩) (pv_ps hE hS hF (hP.sub [0] rfl) (hK.sub [] rfl) (hD.sub [0] (by decide) rfl)) rfl rfl hl.1 rfl (lv_room (Nat.le_of_ble_eq_true rfl)) dL_law_2088 ⟨Nat.le_of_ble_eq_true rfl, Nat.le_of_ble_eq_true rfl⟩) hS (fun q _ h => hF q h) hF (fun r_0 u t H1 locs1 ht hvm hw hB hz1 hk1 hS => ?_)
  refine W.widen (k := 398) (n := 653827) (Nat.le_of_ble_eq_true rfl) (Nat.le_of_ble_eq_true rfl) ?_
  have hP := pv_keep hP rfl hk1
  subst hw
  refine lv_istore (lv' := [(6, .int 1), (0, .ref b), (1, .ref x0), (2, .ref m0), (3, .ref o0), (4, .ref d0), (5, .int 0)]) hx hb dL_law_2091 hl (by decide) rfl (fun ls hl => ?_)
  refine lv_aload_n hx hb dL_law_2093 rfl (lv_at hl 3 rfl) ?_
  refine lv_aload_n hx hb dL_law_2094 rfl (lv_at hl 1 rfl) ?_
  refine pv_pc 2095 rfl ?_
  refine lv_iload hx hb dL_law_2095 (lv_at hl 6 rfl) ?_
  refine lv_iconst (v := 1) hx hb dL_law_2097 (by decide) ?_
  refine lv_iadd hx hb dL_law_2098 ?_
  refine pv_setI 1 (by decide) ?_
  refine va_sld hx hb hX hbl hbA hS (by unfold vp_in; decide) dL_law_2099 ?_
  refine pv_setI (xs 1) rfl ?_
  have hF := va_free (wc := [(m0, .inr (1, pv_m 0 mq))]) hD hS hA [1] rfl
  refine va_calli (va_runV (As := [.int (xs 1)]) (rest := []) ⟨hx, hb, hml, hown, hts⟩ (c_X13_roots l hfl D _ m0 mq (xs 1)) (cwV 1 hts (pv_gV w10_158 w10_159 w10_160 w1_10 w10_161) rfl rfl rfl (by decide +kernel) ⟨Nat.le_of_ble_eq_true rfl, Nat.le_of_ble_eq_true rfl⟩) (pv_pV hE hS hF (hP.sub [1] rfl) (hK.sub [] rfl) (hD.sub [1] (by decide) rfl) (va_recv (ci := 1) (q0 := 1) hK hP rfl rfl)) rfl rfl hl.1 rfl (lv_room (Nat.le_of_ble_eq_true rfl)) dL_law_2100 ⟨Nat.le_of_ble_eq_true rfl, Nat.le_of_ble_eq_true rfl⟩) hS (fun q _ h => hF q h) hF (fun r_1 u t H1 locs1 ht hvm hw hB hz1 hk1 hS => ?_)
  refine W.widen (k := 398) (n := 653827) (Nat.le_of_ble_eq_true rfl) (Nat.le_of_ble_eq_true rfl) ?_
  subst hw
  obtain ⟨fs_3, hf_4, hP1, hK1, hD1⟩ := hB
  rw [ht] at hP1
  have hK1 := va_K.moved hvm.symm hK1
  obtain ⟨hP, hD⟩ := va_join (wr := [(x0, .inr (0, [.ref (xq 0), .int 0, .int 108, .ref (xq 1), .int 0, .ref (xq 2), .int 0, .ref (xq 3), .ref (xq 4), .int 1, .ref (xq 5), .ref (xq 6), .ref (xq 7), .ref (xq 8), .ref (xq 9)]))]) (w1 := [(m0, .inr (1, fs_3))]) hP hD [1] [0] rfl rfl (by decide) (by decide) hk1 hF hP1 hD1
  have hP : va_P D pv_cl [(x0, .inr (0, [.ref (xq 0), .int 0, .int 108, .ref (xq 1), .int 0, .ref (xq 2), .int 0, .ref (xq 3), .ref (xq 4), .int 1, .ref (xq 5), .ref (xq 6), .ref (xq 7), .ref (xq 8), .ref (xq 9)])), (m0, .inr (1, fs_3))] _ := hP
  have hD : va_D A [(x0, .inr (0, [.ref (xq 0), .int 0, .int 108, .ref (xq 1), .int 0, .ref (xq 2), .int 0, .ref (xq 3), .ref (xq 4), .int 1, .ref (xq 5), .ref (xq 6), .ref (xq 7), .ref (xq 8), .ref (xq 9)])), (m0, .inr (1, fs_3))] := hD
  refine lv_istore (lv' := [(7, .int r_1), (6, .int 1), (0, .ref b), (1, .ref x0), (2, .ref m0), (3, .ref o0), (4, .ref d0), (5, .int 0)]) hx hb dL_law_2103 hl (by decide) rfl (fun ls hl => ?_)
  refine lv_aload_n hx hb dL_law_2105 rfl (lv_at hl 4 rfl) ?_
  have hF := pv_new hA hS.1
  refine va_calli (va_runV (As := []) (rest := []) ⟨hx, hb, hml, hown, hts⟩ (c_X13_thrown l hfl D _ m0 fs_3 1 hf_4) (cwV 0 hts (pv_gV w9_102 w9_103 w9_104 w1_10 w9_105) rfl rfl rfl (by decide +kernel) ⟨Nat.le_of_ble_eq_true rfl, Nat.le_of_ble_eq_true rfl⟩) (pv_pV hE hS hF (hP.sub [1] rfl) (hK.sub [] rfl) (hD.sub [1] (by decide) rfl) (va_recv (ci := 1) (q0 := 1) hK hP rfl rfl)) rfl rfl hl.1 rfl (lv_room (Nat.le_of_ble_eq_true rfl)) dL_law_2106 ⟨Nat.le_of_ble_eq_true rfl, Nat.le_of_ble_eq_true rfl⟩) hS (fun q _ h => hF q h) hF (fun r_4 u t H1 locs1 ht hvm hw hB hz1 hk1 hS => ?_)
  refine W.widen (k := 398) (n := 653827) (Nat.le_of_ble_eq_true rfl) (Nat.le_of_ble_eq_true rfl) ?_
  have hP := pv_keep hP rfl hk1
  subst hw
  refine lv_iload hx hb dL_law_2109 (lv_at hl 1 rfl) ?_
  refine lv_icmp_eq (tgt := 2116) hx hb dL_law_2111 (by decide) (fun _ => ?_) (fun c_6 => absurd (by decide) c_6)
  refine lv_iload hx hb dL_law_2116 (lv_at hl 1 rfl) ?_
  refine lv_if_ne (tgt := 2133) hx hb dL_law_2118 (by decide) (fun _ => ?_) (fun c_7 => absurd c_7 (by decide))
  refine pv_pc 2133 rfl ?_
  refine lv_goto (tgt := 3721) hx hb dL_law_2133 (by decide) ?_
  refine lv_iinc (v := 7) (lv' := [(5, .int 7), (7, .int r_1), (6, .int 1), (0, .ref b), (1, .ref x0), (2, .ref m0), (3, .ref o0), (4, .ref d0)]) hx hb dL_law_3721 hl (k := 7) rfl (by decide) (by decide) rfl (fun ls hl => ?_)
  refine lv_goto (tgt := 28) hx hb dL_law_3724 (by decide) ?_
  refine lv_iload hx hb dL_law_28 (lv_at hl 0 rfl) ?_
  refine lv_aload_n hx hb dL_law_30 rfl (lv_at hl 3 rfl) ?_
  refine va_slen hx hb hX hbl hbA hS dL_law_31 ?_
  refine pv_setI 7 rfl ?_
  refine lv_bipush (v := 7) hx hb dL_law_32 (by decide) ?_
  refine lv_isub hx hb dL_law_34 ?_
  refine pv_setI 0 (by decide) ?_
  refine lv_icmp_gt (tgt := 3727) hx hb dL_law_35 (by decide) (fun _ => ?_) (fun c_8 => absurd (by decide) c_8)
  refine lv_iconst (v := 1) hx hb dL_law_3727 (by decide) ?_
  refine va_forget (fun q hq => hAf _ (hS.2.2 q hq)) ?_
  refine W.widen (k := 600006) (n := 7302064) (Nat.le_of_ble_eq_true rfl) (Nat.le_of_ble_eq_true rfl) ?_
  exact lw_ret (d0 := s.drawn) (Drawn.sameBut.refl s.drawn lw_cs) hx hb hr hlocks dL_law_3728

theorem dL_law_2136 : decode cL_law 2136 = .ok (.aload_n 1, 1) := by decide +kernel
theorem dL_law_2137 : decode cL_law 2137 = .ok (.aload_n 0, 1) := by decide +kernel
theorem dL_law_2138 : decode cL_law 2138 = .ok (.iload 5, 2) := by decide +kernel
theorem dL_law_2140 : decode cL_law 2140 = .ok (.iconst 1, 1) := by decide +kernel
theorem dL_law_2141 : decode cL_law 2141 = .ok (.iadd, 1) := by decide +kernel
theorem dL_law_2142 : decode cL_law 2142 = .ok (.iaload, 1) := by decide +kernel
theorem dL_law_2143 : decode cL_law 2143 = .ok (.aload_n 0, 1) := by decide +kernel
theorem dL_law_2144 : decode cL_law 2144 = .ok (.iload 5, 2) := by decide +kernel
theorem dL_law_2146 : decode cL_law 2146 = .ok (.iconst 2, 1) := by decide +kernel
theorem dL_law_2147 : decode cL_law 2147 = .ok (.iadd, 1) := by decide +kernel
theorem dL_law_2148 : decode cL_law 2148 = .ok (.iaload, 1) := by decide +kernel
theorem dL_law_2149 : decode cL_law 2149 = .ok (.aload_n 3, 1) := by decide +kernel
theorem dL_law_2150 : decode cL_law 2150 = .ok (.invokestatic 291, 3) := by decide +kernel
theorem w7_62 : (Jvm.Cond.methodLink "PolyforgeLaw" (291 : Nat) ({ cls := "PolyforgeLaw", name := "resultant", desc := "(LPolyforge;II[J)I" } : Jvm.MethodName)) ∈ lw_tbl := pv_t7 (pv_mg 62 rfl)
theorem w7_64 : (Jvm.Cond.codeWith ({ cls := "PolyforgeLaw", name := "resultant", desc := "(LPolyforge;II[J)I" } : Jvm.MethodName) method_31_code (5 : Nat) (Option.some Jvm.ClassFile.FieldType.int) [((0 : Nat), (10 : Nat), (13 : Nat), (23 : Nat)), ((0 : Nat), (10 : Nat), (17 : Nat), (25 : Nat)), ((0 : Nat), (10 : Nat), (21 : Nat), (27 : Nat))]) ∈ lw_tbl := pv_t7 (pv_mg 64 rfl)
theorem w7_63 : (Jvm.Cond.static ({ cls := "PolyforgeLaw", name := "resultant", desc := "(LPolyforge;II[J)I" } : Jvm.MethodName)) ∈ lw_tbl := pv_t7 (pv_mg 63 rfl)
theorem dL_law_2153 : decode cL_law 2153 = .ok (.istore 6, 2) := by decide +kernel
theorem dL_law_2155 : decode cL_law 2155 = .ok (.aload_n 2, 1) := by decide +kernel
theorem dL_law_2156 : decode cL_law 2156 = .ok (.aload_n 0, 1) := by decide +kernel
theorem dL_law_2157 : decode cL_law 2157 = .ok (.iload 5, 2) := by decide +kernel
theorem dL_law_2159 : decode cL_law 2159 = .ok (.iconst 1, 1) := by decide +kernel
theorem dL_law_2160 : decode cL_law 2160 = .ok (.iadd, 1) := by decide +kernel
theorem dL_law_2161 : decode cL_law 2161 = .ok (.iaload, 1) := by decide +kernel
theorem dL_law_2162 : decode cL_law 2162 = .ok (.aload_n 0, 1) := by decide +kernel
theorem dL_law_2163 : decode cL_law 2163 = .ok (.iload 5, 2) := by decide +kernel
theorem dL_law_2165 : decode cL_law 2165 = .ok (.iconst 2, 1) := by decide +kernel
theorem dL_law_2166 : decode cL_law 2166 = .ok (.iadd, 1) := by decide +kernel
theorem dL_law_2167 : decode cL_law 2167 = .ok (.iaload, 1) := by decide +kernel
theorem dL_law_2168 : decode cL_law 2168 = .ok (.invokevirtual 293, 3) := by decide +kernel
theorem w10_165 : (Jvm.Cond.methodLink "PolyforgeLaw" (293 : Nat) ({ cls := "PolyforgeModel", name := "resultant", desc := "(II)I" } : Jvm.MethodName)) ∈ lw_tbl := pv_t10 (pv_mg 165 rfl)
theorem dL_law_2171 : decode cL_law 2171 = .ok (.istore 7, 2) := by decide +kernel
theorem dL_law_2173 : decode cL_law 2173 = .ok (.aload_n 2, 1) := by decide +kernel
theorem dL_law_2174 : decode cL_law 2174 = .ok (.invokevirtual 199, 3) := by decide +kernel
theorem dL_law_2177 : decode cL_law 2177 = .ok (.iload 6, 2) := by decide +kernel
theorem dL_law_2179 : decode cL_law 2179 = .ok (.if_icmp .eq 5, 3) := by decide +kernel
theorem dL_law_2184 : decode cL_law 2184 = .ok (.iload 6, 2) := by decide +kernel
theorem dL_law_2186 : decode cL_law 2186 = .ok (.ifCond .ne 15, 3) := by decide +kernel
theorem dL_law_2201 : decode cL_law 2201 = .ok (.goto 1520, 3) := by decide +kernel
set_option maxHeartbeats 4000000 in
set_option maxRecDepth 100000 in
/-- the law, call 29: resultant -/
theorem law_case_29 {p : Program} {e : Env} {s : State} {m : MethodId} {below : List Frame} {meth : Method} {c : Code} (l : Launch) (hfl : l.stackTraces = false) {b : Nat} {xs : Nat → Int32} (C0 : lw_At p s m meth c b 7 xs) {D : va_G} {A : Nat → Prop} (hA : ∀ q : Nat, s.heap.size ≤ q → A q) (hAf : ∀ q : Nat, A q → s.heap.size ≤ q) (hbA : ¬ A b) (hE : pv_E A s s.heap) {x0 m0 o0 d0 : Nat} {xq xw mq : Nat → Nat} {xJ xP xO xC xI mI mI2 mI3 mT mC oL : ClassId} {xsg xsf msg msf : Nat → Int32} (hxsg : ∀ j, j < 3 → xsg j = 63) (hmsg : ∀ j, j < 3 → msg j = 63) {H : Heap} {locs : List Loc} (hK : va_K D pv_cl [(xJ, .long), (xP, .object "Polyforge$Polynomial"), (xO, .object "Polyforge$Ideal"), (xC, .char), (xI, .int), (mI, .int), (mT, .object "PolyforgeModel$Terms"), (mI2, .int), (mC, .char), (mI3, .int), (oL, .long)] s) (hP : va_P D pv_cl [(x0, .inr (0, [.ref (xq 0), .int 0, .int 108, .ref (xq 1), .int 0, .ref (xq 2), .int 0, .ref (xq 3), .ref (xq 4), .int 1, .ref (xq 5), .ref (xq 6), .ref (xq 7), .ref (xq 8), .ref (xq 9)])), ((xq 6), .inr (2, [.ref (xw 0), .ref (xw 1), .ref (xw 2), .ref (xw 3), .int 0, .int 0])), ((xw 2), .inl (xJ, 64, .inr (.inl (fun _ => 0)))), ((xq 0), .inl (xP, 60, .inr (.inr (.inr (.inr (fun _ => none)))))), ((xq 1), .inl (xO, 5, .inr (.inr (.inr (.inr (fun _ => none)))))), ((xq 3), .inl (xC, 3, .inl xsg)), ((xq 4), .inl (xI, 3, .inl xsf)), (m0, .inr (1, pv_m 0 mq)), ((mq 0), .inl (mI, 60, .inl (fun _ => 0))), ((mq 1), .inl (mT, 60, .inr (.inr (.inr (.inr (fun _ => none)))))), ((mq 2), .inl (mI2, 5, .inl (fun _ => 0))), ((mq 9), .inl (mC, 3, .inl msg)), ((mq 10), .inl (mI3, 3, .inl msf)), (o0, .inl (oL, 1, .inr (.inl (fun _ => 0))))] H) (hD : va_D A [(x0, .inr (0, [.ref (xq 0), .int 0, .int 108, .ref (xq 1), .int 0, .ref (xq 2), .int 0, .ref (xq 3), .ref (xq 4), .int 1, .ref (xq 5), .ref (xq 6), .ref (xq 7), .ref (xq 8), .ref (xq 9)])), ((xq 6), .inr (2, [.ref (xw 0), .ref (xw 1), .ref (xw 2), .ref (xw 3), .int 0, .int 0])), ((xw 2), .inl (xJ, 64, .inr (.inl (fun _ => 0)))), ((xq 0), .inl (xP, 60, .inr (.inr (.inr (.inr (fun _ => none)))))), ((xq 1), .inl (xO, 5, .inr (.inr (.inr (.inr (fun _ => none)))))), ((xq 3), .inl (xC, 3, .inl xsg)), ((xq 4), .inl (xI, 3, .inl xsf)), (m0, .inr (1, pv_m 0 mq)), ((mq 0), .inl (mI, 60, .inl (fun _ => 0))), ((mq 1), .inl (mT, 60, .inr (.inr (.inr (.inr (fun _ => none)))))), ((mq 2), .inl (mI2, 5, .inl (fun _ => 0))), ((mq 9), .inl (mC, 3, .inl msg)), ((mq 10), .inl (mI3, 3, .inl msf)), (o0, .inl (oL, 1, .inr (.inl (fun _ => 0))))]) (hS : va_S A s.heap H locs) {ls : Array Slot} (hl : lv_has ls 9 [(0, .ref b), (1, .ref x0), (2, .ref m0), (3, .ref o0), (4, .ref d0), (5, .int 0)]) : W p l e room_1 s m #[Value.ref b] below meth c H locs 397 653821 (lw_Z below #[Value.ref b] s) (F0 m 2136 ls []) := by
  obtain ⟨hx, hb, hr, hml, hown, hts0, hX, hbl, hlocks, hgv⟩ := C0
  have hts : ∀ w ∈ pv_W, w.before #[Value.ref b] s = true := fun w h => hts0 w (List.mem_filter.mp h).1
  have hg := fun {w : Cond} (h : w ∈ lw_tbl) (g : goodWord w = true) => hts w (pv_in h g)
  have hP : va_P D pv_cl [(x0, .inr (0, [.ref (xq 0), .int 0, .int 108, .ref (xq 1), .int 0, .ref (xq 2), .int 0, .ref (xq 3), .ref (xq 4), .int 1, .ref (xq 5), .ref (xq 6), .ref (xq 7), .ref (xq 8), .ref (xq 9)])), (m0, .inr (1, pv_m 0 mq))] _ := hP.sub [0, 7] rfl
  have hD : va_D A [(x0, .inr (0, [.ref (xq 0), .int 0, .int 108, .ref (xq 1), .int 0, .ref (xq 2), .int 0, .ref (xq 3), .ref (xq 4), .int 1, .ref (xq 5), .ref (xq 6), .ref (xq 7), .ref (xq 8), .ref (xq 9)])), (m0, .inr (1, pv_m 0 mq))] := hD.sub [0, 7] (by decide) rfl
  have hK : va_K D pv_cl [] s := hK.sub [] rfl
  refine lv_aload_n hx hb dL_law_2136 rfl (lv_at hl 1 rfl) ?_
  refine lv_aload_n hx hb dL_law_2137 rfl (lv_at hl 0 rfl) ?_
  refine lv_iload hx hb dL_law_2138 (lv_at hl 5 rfl) ?_
  refine lv_iconst (v := 1) hx hb dL_law_2140 (by decide) ?_
  refine lv_iadd hx hb dL_law_2141 ?_
  refine pv_setI 1 (by decide) ?_
  refine va_sld hx hb hX hbl hbA hS (by unfold vp_in; decide) dL_law_2142 ?_
  refine pv_setI (xs 1) rfl ?_
  refine lv_aload_n hx hb dL_law_2143 rfl (lv_at hl 0 rfl) ?_
  refine lv_iload hx hb dL_law_2144 (lv_at hl 5 rfl) ?_
  refine lv_iconst (v := 2) hx hb dL_law_2146 (by decide) ?_
  refine lv_iadd hx hb dL_law_2147 ?_
  refine pv_setI 2 (by decide) ?_
  refine va_sld hx hb hX hbl hbA hS (by unfold vp_in; decide) dL_law_2148 ?_
  refine pv_setI (xs 2) rfl ?_
  refine pv_pc 2149 rfl ?_
  refine lv_aload_n hx hb dL_law_2149 rfl (lv_at hl 3 rfl) ?_
  have hF := pv_new hA hS.1
  refine va_calli (vx_runSW (As := [.ref x0, .int (xs 1), .int (xs 2), .ref o0]) (rest := []) ⟨hx, hb, hml, hown, hts⟩ (c_L_resultant l hfl D _ x0 xq (xs 1) (xs 2) o0) (vx_cwSW 4 hts (pv_gSW w7_62 w7_63 w1_0 w7_64) rfl rfl rfl (by decide +kernel) ⟨Nat.le_of_ble_eq_true rfl, Nat.le_of_ble_eq_true rfl⟩) (pv_ps hE hS hF (hP.sub [0] rfl) (hK.sub [] rfl) (hD.sub [0] (by decide) rfl)) rfl rfl hl.1 rfl (lv_room (Nat.le_of_ble_eq_true rfl)) dL_law_2150 ⟨Nat.le_of_ble_eq_true rfl, Nat.le_of_ble_eq_true rfl⟩) hS (fun q _ h => hF q h) hF (fun r_0 u t H1 locs1 ht hvm hw hB hz1 hk1 hS => ?_)
  refine W.widen (k := 398) (n := 653827) (Nat.le_of_ble_eq_true rfl) (Nat.le_of_ble_eq_true rfl) ?_
  have hP := pv_keep hP rfl hk1
  subst hw
  refine lv_istore (lv' := [(6, .int 1), (0, .ref b), (1, .ref x0), (2, .ref m0), (3, .ref o0), (4, .ref d0), (5, .int 0)]) hx hb dL_law_2153 hl (by decide) rfl (fun ls hl => ?_)
  refine lv_aload_n hx hb dL_law_2155 rfl (lv_at hl 3 rfl) ?_
  refine lv_aload_n hx hb dL_law_2156 rfl (lv_at hl 1 rfl) ?_
  refine lv_iload hx hb dL_law_2157 (lv_at hl 6 rfl) ?_
  refine lv_iconst (v := 1) hx hb dL_law_2159 (by decide) ?_
  refine lv_iadd hx hb dL_law_2160 ?_
  refine pv_setI 1 (by decide) ?_
  refine va_sld hx hb hX hbl hbA hS (by unfold vp_in; decide) dL_law_2161 ?_
  refine pv_setI (xs 1) rfl ?_
  refine lv_aload_n hx hb dL_law_2162 rfl (lv_at hl 1 rfl) ?_
  refine lv_iload hx hb dL_law_2163 (lv_at hl 6 rfl) ?_
  refine lv_iconst (v := 2) hx hb dL_law_2165 (by decide) ?_
  refine pv_pc 2166 rfl ?_
  refine lv_iadd hx hb dL_law_2166 ?_
  refine pv_setI 2 (by decide) ?_
  refine va_sld hx hb hX hbl hbA hS (by unfold vp_in; decide) dL_law_2167 ?_
  refine pv_setI (xs 2) rfl ?_
  have hF := va_free (wc := [(m0, .inr (1, pv_m 0 mq))]) hD hS hA [1] rfl
  refine va_calli (va_runV (As := [.int (xs 1), .int (xs 2)]) (rest := []) ⟨hx, hb, hml, hown, hts⟩ (c_X13_resultant l hfl D _ m0 mq (xs 1) (xs 2)) (cwV 2 hts (pv_gV w10_165 w10_166 w10_167 w1_10 w10_168) rfl rfl rfl (by decide +kernel) ⟨Nat.le_of_ble_eq_true rfl, Nat.le_of_ble_eq_true rfl⟩) (pv_pV hE hS hF (hP.sub [1] rfl) (hK.sub [] rfl) (hD.sub [1] (by decide) rfl) (va_recv (ci := 1) (q0 := 1) hK hP rfl rfl)) rfl rfl hl.1 rfl (lv_room (Nat.le_of_ble_eq_true rfl)) dL_law_2168 ⟨Nat.le_of_ble_eq_true rfl, Nat.le_of_ble_eq_true rfl⟩) hS (fun q _ h => hF q h) hF (fun r_1 u t H1 locs1 ht hvm hw hB hz1 hk1 hS => ?_)
  refine W.widen (k := 398) (n := 653827) (Nat.le_of_ble_eq_true rfl) (Nat.le_of_ble_eq_true rfl) ?_
  subst hw
  obtain ⟨fs_3, hf_4, hP1, hK1, hD1⟩ := hB
  rw [ht] at hP1
  have hK1 := va_K.moved hvm.symm hK1
  obtain ⟨hP, hD⟩ := va_join (wr := [(x0, .inr (0, [.ref (xq 0), .int 0, .int 108, .ref (xq 1), .int 0, .ref (xq 2), .int 0, .ref (xq 3), .ref (xq 4), .int 1, .ref (xq 5), .ref (xq 6), .ref (xq 7), .ref (xq 8), .ref (xq 9)]))]) (w1 := [(m0, .inr (1, fs_3))]) hP hD [1] [0] rfl rfl (by decide) (by decide) hk1 hF hP1 hD1
  have hP : va_P D pv_cl [(x0, .inr (0, [.ref (xq 0), .int 0, .int 108, .ref (xq 1), .int 0, .ref (xq 2), .int 0, .ref (xq 3), .ref (xq 4), .int 1, .ref (xq 5), .ref (xq 6), .ref (xq 7), .ref (xq 8), .ref (xq 9)])), (m0, .inr (1, fs_3))] _ := hP
  have hD : va_D A [(x0, .inr (0, [.ref (xq 0), .int 0, .int 108, .ref (xq 1), .int 0, .ref (xq 2), .int 0, .ref (xq 3), .ref (xq 4), .int 1, .ref (xq 5), .ref (xq 6), .ref (xq 7), .ref (xq 8), .ref (xq 9)])), (m0, .inr (1, fs_3))] := hD
  refine lv_istore (lv' := [(7, .int r_1), (6, .int 1), (0, .ref b), (1, .ref x0), (2, .ref m0), (3, .ref o0), (4, .ref d0), (5, .int 0)]) hx hb dL_law_2171 hl (by decide) rfl (fun ls hl => ?_)
  refine lv_aload_n hx hb dL_law_2173 rfl (lv_at hl 4 rfl) ?_
  have hF := pv_new hA hS.1
  refine va_calli (va_runV (As := []) (rest := []) ⟨hx, hb, hml, hown, hts⟩ (c_X13_thrown l hfl D _ m0 fs_3 1 hf_4) (cwV 0 hts (pv_gV w9_102 w9_103 w9_104 w1_10 w9_105) rfl rfl rfl (by decide +kernel) ⟨Nat.le_of_ble_eq_true rfl, Nat.le_of_ble_eq_true rfl⟩) (pv_pV hE hS hF (hP.sub [1] rfl) (hK.sub [] rfl) (hD.sub [1] (by decide) rfl) (va_recv (ci := 1) (q0 := 1) hK hP rfl rfl)) rfl rfl hl.1 rfl (lv_room (Nat.le_of_ble_eq_true rfl)) dL_law_2174 ⟨Nat.le_of_ble_eq_true rfl, Nat.le_of_ble_eq_true rfl⟩) hS (fun q _ h => hF q h) hF (fun r_4 u t H1 locs1 ht hvm hw hB hz1 hk1 hS => ?_)
  refine W.widen (k := 398) (n := 653827) (Nat.le_of_ble_eq_true rfl) (Nat.le_of_ble_eq_true rfl) ?_
  have hP := pv_keep hP rfl hk1
  subst hw
  refine lv_iload hx hb dL_law_2177 (lv_at hl 1 rfl) ?_
  refine lv_icmp_eq (tgt := 2184) hx hb dL_law_2179 (by decide) (fun _ => ?_) (fun c_6 => absurd (by decide) c_6)
  refine lv_iload hx hb dL_law_2184 (lv_at hl 1 rfl) ?_
  refine lv_if_ne (tgt := 2201) hx hb dL_law_2186 (by decide) (fun _ => ?_) (fun c_7 => absurd c_7 (by decide))
  refine lv_goto (tgt := 3721) hx hb dL_law_2201 (by decide) ?_
  refine lv_iinc (v := 7) (lv' := [(5, .int 7), (7, .int r_1), (6, .int 1), (0, .ref b), (1, .ref x0), (2, .ref m0), (3, .ref o0), (4, .ref d0)]) hx hb dL_law_3721 hl (k := 7) rfl (by decide) (by decide) rfl (fun ls hl => ?_)
  refine pv_pc 3724 rfl ?_
  refine lv_goto (tgt := 28) hx hb dL_law_3724 (by decide) ?_
  refine lv_iload hx hb dL_law_28 (lv_at hl 0 rfl) ?_
  refine lv_aload_n hx hb dL_law_30 rfl (lv_at hl 3 rfl) ?_
  refine va_slen hx hb hX hbl hbA hS dL_law_31 ?_
  refine pv_setI 7 rfl ?_
  refine lv_bipush (v := 7) hx hb dL_law_32 (by decide) ?_
  refine lv_isub hx hb dL_law_34 ?_
  refine pv_setI 0 (by decide) ?_
  refine lv_icmp_gt (tgt := 3727) hx hb dL_law_35 (by decide) (fun _ => ?_) (fun c_8 => absurd (by decide) c_8)
  refine lv_iconst (v := 1) hx hb dL_law_3727 (by decide) ?_
  refine va_forget (fun q hq => hAf _ (hS.2.2 q hq)) ?_
  refine W.widen (k := 600006) (n := 7302064) (Nat.le_of_ble_eq_true rfl) (Nat.le_of_ble_eq_true rfl) ?_
  exact lw_ret (d0 := s.drawn) (Drawn.sameBut.refl s.drawn lw_cs) hx hb hr hlocks dL_law_3728

theorem dL_law_2204 : decode cL_law 2204 = .ok (.aload_n 1, 1) := by decide +kernel
theorem dL_law_2205 : decode cL_law 2205 = .ok (.aload_n 0, 1) := by decide +kernel
theorem dL_law_2206 : decode cL_law 2206 = .ok (.iload 5, 2) := by decide +kernel
theorem dL_law_2208 : decode cL_law 2208 = .ok (.iconst 1, 1) := by decide +kernel
theorem dL_law_2209 : decode cL_law 2209 = .ok (.iadd, 1) := by decide +kernel
theorem dL_law_2210 : decode cL_law 2210 = .ok (.iaload, 1) := by decide +kernel
theorem dL_law_2211 : decode cL_law 2211 = .ok (.aload_n 0, 1) := by decide +kernel
theorem dL_law_2212 : decode cL_law 2212 = .ok (.iload 5, 2) := by decide +kernel
theorem dL_law_2214 : decode cL_law 2214 = .ok (.iconst 2, 1) := by decide +kernel
theorem dL_law_2215 : decode cL_law 2215 = .ok (.iadd, 1) := by decide +kernel
theorem dL_law_2216 : decode cL_law 2216 = .ok (.iaload, 1) := by decide +kernel
theorem dL_law_2217 : decode cL_law 2217 = .ok (.aload_n 3, 1) := by decide +kernel
theorem dL_law_2218 : decode cL_law 2218 = .ok (.invokestatic 294, 3) := by decide +kernel
theorem w7_74 : (Jvm.Cond.methodLink "PolyforgeLaw" (294 : Nat) ({ cls := "PolyforgeLaw", name := "resultantByDeterminant", desc := "(LPolyforge;II[J)I" } : Jvm.MethodName)) ∈ lw_tbl := pv_t7 (pv_mg 74 rfl)
theorem w7_76 : (Jvm.Cond.codeWith ({ cls := "PolyforgeLaw", name := "resultantByDeterminant", desc := "(LPolyforge;II[J)I" } : Jvm.MethodName) method_32_code (5 : Nat) (Option.some Jvm.ClassFile.FieldType.int) [((0 : Nat), (10 : Nat), (13 : Nat), (23 : Nat)), ((0 : Nat), (10 : Nat), (17 : Nat), (25 : Nat)), ((0 : Nat), (10 : Nat), (21 : Nat), (27 : Nat))]) ∈ lw_tbl := pv_t7 (pv_mg 76 rfl)
theorem w7_75 : (Jvm.Cond.static ({ cls := "PolyforgeLaw", name := "resultantByDeterminant", desc := "(LPolyforge;II[J)I" } : Jvm.MethodName)) ∈ lw_tbl := pv_t7 (pv_mg 75 rfl)
theorem dL_law_2221 : decode cL_law 2221 = .ok (.istore 6, 2) := by decide +kernel
theorem dL_law_2223 : decode cL_law 2223 = .ok (.aload_n 2, 1) := by decide +kernel
theorem dL_law_2224 : decode cL_law 2224 = .ok (.aload_n 0, 1) := by decide +kernel
theorem dL_law_2225 : decode cL_law 2225 = .ok (.iload 5, 2) := by decide +kernel
theorem dL_law_2227 : decode cL_law 2227 = .ok (.iconst 1, 1) := by decide +kernel
theorem dL_law_2228 : decode cL_law 2228 = .ok (.iadd, 1) := by decide +kernel
theorem dL_law_2229 : decode cL_law 2229 = .ok (.iaload, 1) := by decide +kernel
theorem dL_law_2230 : decode cL_law 2230 = .ok (.aload_n 0, 1) := by decide +kernel
theorem dL_law_2231 : decode cL_law 2231 = .ok (.iload 5, 2) := by decide +kernel
theorem dL_law_2233 : decode cL_law 2233 = .ok (.iconst 2, 1) := by decide +kernel
theorem dL_law_2234 : decode cL_law 2234 = .ok (.iadd, 1) := by decide +kernel
theorem dL_law_2235 : decode cL_law 2235 = .ok (.iaload, 1) := by decide +kernel
theorem dL_law_2236 : decode cL_law 2236 = .ok (.invokevirtual 296, 3) := by decide +kernel
theorem w10_173 : (Jvm.Cond.methodLink "PolyforgeLaw" (296 : Nat) ({ cls := "PolyforgeModel", name := "resultantByDeterminant", desc := "(II)I" } : Jvm.MethodName)) ∈ lw_tbl := pv_t10 (pv_mg 173 rfl)
theorem w10_176 : (Jvm.Cond.code ({ cls := "PolyforgeModel", name := "resultantByDeterminant", desc := "(II)I" } : Jvm.MethodName) prog_14_method_83_code (3 : Nat) (Option.some Jvm.ClassFile.FieldType.int)) ∈ lw_tbl := pv_t10 (pv_mg 176 rfl)
theorem w10_175 : (Jvm.Cond.selects "PolyforgeModel" ({ cls := "PolyforgeModel", name := "resultantByDeterminant", desc := "(II)I" } : Jvm.MethodName) ({ cls := "PolyforgeModel", name := "resultantByDeterminant", desc := "(II)I" } : Jvm.MethodName)) ∈ lw_tbl := pv_t10 (pv_mg 175 rfl)
theorem w10_174 : (Jvm.Cond.instanceMethod ({ cls := "PolyforgeModel", name := "resultantByDeterminant", desc := "(II)I" } : Jvm.MethodName)) ∈ lw_tbl := pv_t10 (pv_mg 174 rfl)
theorem dL_law_2239 : decode cL_law 2239 = .ok (.istore 7, 2) := by decide +kernel
theorem dL_law_2241 : decode cL_law 2241 = .ok (.aload_n 2, 1) := by decide +kernel
theorem dL_law_2242 : decode cL_law 2242 = .ok (.invokevirtual 199, 3) := by decide +kernel
theorem dL_law_2245 : decode cL_law 2245 = .ok (.iload 6, 2) := by decide +kernel
theorem dL_law_2247 : decode cL_law 2247 = .ok (.if_icmp .eq 5, 3) := by decide +kernel
theorem dL_law_2252 : decode cL_law 2252 = .ok (.iload 6, 2) := by decide +kernel
theorem dL_law_2254 : decode cL_law 2254 = .ok (.ifCond .ne 15, 3) := by decide +kernel
theorem dL_law_2269 : decode cL_law 2269 = .ok (.goto 1452, 3) := by decide +kernel
set_option maxHeartbeats 4000000 in
set_option maxRecDepth 100000 in
/-- the law, call 30: resultantByDeterminant -/
theorem law_case_30 {p : Program} {e : Env} {s : State} {m : MethodId} {below : List Frame} {meth : Method} {c : Code} (l : Launch) (hfl : l.stackTraces = false) {b : Nat} {xs : Nat → Int32} (C0 : lw_At p s m meth c b 7 xs) {D : va_G} {A : Nat → Prop} (hA : ∀ q : Nat, s.heap.size ≤ q → A q) (hAf : ∀ q : Nat, A q → s.heap.size ≤ q) (hbA : ¬ A b) (hE : pv_E A s s.heap) {x0 m0 o0 d0 : Nat} {xq xw mq : Nat → Nat} {xJ xP xO xC xI mI mI2 mI3 mT mC oL : ClassId} {xsg xsf msg msf : Nat → Int32} (hxsg : ∀ j, j < 3 → xsg j = 63) (hmsg : ∀ j, j < 3 → msg j = 63) {H : Heap} {locs : List Loc} (hK : va_K D pv_cl [(xJ, .long), (xP, .object "Polyforge$Polynomial"), (xO, .object "Polyforge$Ideal"), (xC, .char), (xI, .int), (mI, .int), (mT, .object "PolyforgeModel$Terms"), (mI2, .int), (mC, .char), (mI3, .int), (oL, .long)] s) (hP : va_P D pv_cl [(x0, .inr (0, [.ref (xq 0), .int 0, .int 108, .ref (xq 1), .int 0, .ref (xq 2), .int 0, .ref (xq 3), .ref (xq 4), .int 1, .ref (xq 5), .ref (xq 6), .ref (xq 7), .ref (xq 8), .ref (xq 9)])), ((xq 6), .inr (2, [.ref (xw 0), .ref (xw 1), .ref (xw 2), .ref (xw 3), .int 0, .int 0])), ((xw 2), .inl (xJ, 64, .inr (.inl (fun _ => 0)))), ((xq 0), .inl (xP, 60, .inr (.inr (.inr (.inr (fun _ => none)))))), ((xq 1), .inl (xO, 5, .inr (.inr (.inr (.inr (fun _ => none)))))), ((xq 3), .inl (xC, 3, .inl xsg)), ((xq 4), .inl (xI, 3, .inl xsf)), (m0, .inr (1, pv_m 0 mq)), ((mq 0), .inl (mI, 60, .inl (fun _ => 0))), ((mq 1), .inl (mT, 60, .inr (.inr (.inr (.inr (fun _ => none)))))), ((mq 2), .inl (mI2, 5, .inl (fun _ => 0))), ((mq 9), .inl (mC, 3, .inl msg)), ((mq 10), .inl (mI3, 3, .inl msf)), (o0, .inl (oL, 1, .inr (.inl (fun _ => 0))))] H) (hD : va_D A [(x0, .inr (0, [.ref (xq 0), .int 0, .int 108, .ref (xq 1), .int 0, .ref (xq 2), .int 0, .ref (xq 3), .ref (xq 4), .int 1, .ref (xq 5), .ref (xq 6), .ref (xq 7), .ref (xq 8), .ref (xq 9)])), ((xq 6), .inr (2, [.ref (xw 0), .ref (xw 1), .ref (xw 2), .ref (xw 3), .int 0, .int 0])), ((xw 2), .inl (xJ, 64, .inr (.inl (fun _ => 0)))), ((xq 0), .inl (xP, 60, .inr (.inr (.inr (.inr (fun _ => none)))))), ((xq 1), .inl (xO, 5, .inr (.inr (.inr (.inr (fun _ => none)))))), ((xq 3), .inl (xC, 3, .inl xsg)), ((xq 4), .inl (xI, 3, .inl xsf)), (m0, .inr (1, pv_m 0 mq)), ((mq 0), .inl (mI, 60, .inl (fun _ => 0))), ((mq 1), .inl (mT, 60, .inr (.inr (.inr (.inr (fun _ => none)))))), ((mq 2), .inl (mI2, 5, .inl (fun _ => 0))), ((mq 9), .inl (mC, 3, .inl msg)), ((mq 10), .inl (mI3, 3, .inl msf)), (o0, .inl (oL, 1, .inr (.inl (fun _ => 0))))]) (hS : va_S A s.heap H locs) {ls : Array Slot} (hl : lv_has ls 9 [(0, .ref b), (1, .ref x0), (2, .ref m0), (3, .ref o0), (4, .ref d0), (5, .int 0)]) : W p l e room_1 s m #[Value.ref b] below meth c H locs 397 653821 (lw_Z below #[Value.ref b] s) (F0 m 2204 ls []) := by
  obtain ⟨hx, hb, hr, hml, hown, hts0, hX, hbl, hlocks, hgv⟩ := C0
  have hts : ∀ w ∈ pv_W, w.before #[Value.ref b] s = true := fun w h => hts0 w (List.mem_filter.mp h).1
  have hg := fun {w : Cond} (h : w ∈ lw_tbl) (g : goodWord w = true) => hts w (pv_in h g)
  have hP : va_P D pv_cl [(x0, .inr (0, [.ref (xq 0), .int 0, .int 108, .ref (xq 1), .int 0, .ref (xq 2), .int 0, .ref (xq 3), .ref (xq 4), .int 1, .ref (xq 5), .ref (xq 6), .ref (xq 7), .ref (xq 8), .ref (xq 9)])), (m0, .inr (1, pv_m 0 mq))] _ := hP.sub [0, 7] rfl
  have hD : va_D A [(x0, .inr (0, [.ref (xq 0), .int 0, .int 108, .ref (xq 1), .int 0, .ref (xq 2), .int 0, .ref (xq 3), .ref (xq 4), .int 1, .ref (xq 5), .ref (xq 6), .ref (xq 7), .ref (xq 8), .ref (xq 9)])), (m0, .inr (1, pv_m 0 mq))] := hD.sub [0, 7] (by decide) rfl
  have hK : va_K D pv_cl [] s := hK.sub [] rfl
  refine lv_aload_n hx hb dL_law_2204 rfl (lv_at hl 1 rfl) ?_
  refine lv_aload_n hx hb dL_law_2205 rfl (lv_at hl 0 rfl) ?_
  refine lv_iload hx hb dL_law_2206 (lv_at hl 5 rfl) ?_
  refine lv_iconst (v := 1) hx hb dL_law_2208 (by decide) ?_
  refine lv_iadd hx hb dL_law_2209 ?_
  refine pv_setI 1 (by decide) ?_
  refine va_sld hx hb hX hbl hbA hS (by unfold vp_in; decide) dL_law_2210 ?_
  refine pv_setI (xs 1) rfl ?_
  refine lv_aload_n hx hb dL_law_2211 rfl (lv_at hl 0 rfl) ?_
  refine lv_iload hx hb dL_law_2212 (lv_at hl 5 rfl) ?_
  refine lv_iconst (v := 2) hx hb dL_law_2214 (by decide) ?_
  refine lv_iadd hx hb dL_law_2215 ?_
  refine pv_setI 2 (by decide) ?_
  refine va_sld hx hb hX hbl hbA hS (by unfold vp_in; decide) dL_law_2216 ?_
  refine pv_setI (xs 2) rfl ?_
  refine pv_pc 2217 rfl ?_
  refine lv_aload_n hx hb dL_law_2217 rfl (lv_at hl 3 rfl) ?_
  have hF := pv_new hA hS.1
  refine va_calli (vx_runSW (As := [.ref x0, .int (xs 1), .int (xs 2), .ref o0]) (rest := []) ⟨hx, hb, hml, hown, hts⟩ (c_L_resultantByDeterminant l hfl D _ x0 xq (xs 1) (xs 2) o0) (vx_cwSW 4 hts (pv_gSW w7_74 w7_75 w1_0 w7_76) rfl rfl rfl (by decide +kernel) ⟨Nat.le_of_ble_eq_true rfl, Nat.le_of_ble_eq_true rfl⟩) (pv_ps hE hS hF (hP.sub [0] rfl) (hK.sub [] rfl) (hD.sub [0] (by decide) rfl)) rfl rfl hl.1 rfl (lv_room (Nat.le_of_ble_eq_true rfl)) dL_law_2218 ⟨Nat.le_of_ble_eq_true rfl, Nat.le_of_ble_eq_true rfl⟩) hS (fun q _ h => hF q h) hF (fun r_0 u t H1 locs1 ht hvm hw hB hz1 hk1 hS => ?_)
  refine W.widen (k := 398) (n := 653827) (Nat.le_of_ble_eq_true rfl) (Nat.le_of_ble_eq_true rfl) ?_
  have hP := pv_keep hP rfl hk1
  subst hw
  refine lv_istore (lv' := [(6, .int 1), (0, .ref b), (1, .ref x0), (2, .ref m0), (3, .ref o0), (4, .ref d0), (5, .int 0)]) hx hb dL_law_2221 hl (by decide) rfl (fun ls hl => ?_)
  refine lv_aload_n hx hb dL_law_2223 rfl (lv_at hl 3 rfl) ?_
  refine lv_aload_n hx hb dL_law_2224 rfl (lv_at hl 1 rfl) ?_
  refine lv_iload hx hb dL_law_2225 (lv_at hl 6 rfl) ?_
  refine lv_iconst (v := 1) hx hb dL_law_2227 (by decide) ?_
  refine lv_iadd hx hb dL_law_2228 ?_
  refine pv_setI 1 (by decide) ?_
  refine va_sld hx hb hX hbl hbA hS (by unfold vp_in; decide) dL_law_2229 ?_
  refine pv_setI (xs 1) rfl ?_
  refine lv_aload_n hx hb dL_law_2230 rfl (lv_at hl 1 rfl) ?_
  refine lv_iload hx hb dL_law_2231 (lv_at hl 6 rfl) ?_
  refine lv_iconst (v := 2) hx hb dL_law_2233 (by decide) ?_
  refine pv_pc 2234 rfl ?_
  refine lv_iadd hx hb dL_law_2234 ?_
  refine pv_setI 2 (by decide) ?_
  refine va_sld hx hb hX hbl hbA hS (by unfold vp_in; decide) dL_law_2235 ?_
  refine pv_setI (xs 2) rfl ?_
  have hF := va_free (wc := [(m0, .inr (1, pv_m 0 mq))]) hD hS hA [1] rfl
  refine va_calli (va_runV (As := [.int (xs 1), .int (xs 2)]) (rest := []) ⟨hx, hb, hml, hown, hts⟩ (c_X13_resultantByDeterminant l hfl D _ m0 mq (xs 1) (xs 2)) (cwV 2 hts (pv_gV w10_173 w10_174 w10_175 w1_10 w10_176) rfl rfl rfl (by decide +kernel) ⟨Nat.le_of_ble_eq_true rfl, Nat.le_of_ble_eq_true rfl⟩) (pv_pV hE hS hF (hP.sub [1] rfl) (hK.sub [] rfl) (hD.sub [1] (by decide) rfl) (va_recv (ci := 1) (q0 := 1) hK hP rfl rfl)) rfl rfl hl.1 rfl (lv_room (Nat.le_of_ble_eq_true rfl)) dL_law_2236 ⟨Nat.le_of_ble_eq_true rfl, Nat.le_of_ble_eq_true rfl⟩) hS (fun q _ h => hF q h) hF (fun r_1 u t H1 locs1 ht hvm hw hB hz1 hk1 hS => ?_)
  refine W.widen (k := 398) (n := 653827) (Nat.le_of_ble_eq_true rfl) (Nat.le_of_ble_eq_true rfl) ?_
  subst hw
  obtain ⟨fs_3, hf_4, hP1, hK1, hD1⟩ := hB
  rw [ht] at hP1
  have hK1 := va_K.moved hvm.symm hK1
  obtain ⟨hP, hD⟩ := va_join (wr := [(x0, .inr (0, [.ref (xq 0), .int 0, .int 108, .ref (xq 1), .int 0, .ref (xq 2), .int 0, .ref (xq 3), .ref (xq 4), .int 1, .ref (xq 5), .ref (xq 6), .ref (xq 7), .ref (xq 8), .ref (xq 9)]))]) (w1 := [(m0, .inr (1, fs_3))]) hP hD [1] [0] rfl rfl (by decide) (by decide) hk1 hF hP1 hD1
  have hP : va_P D pv_cl [(x0, .inr (0, [.ref (xq 0), .int 0, .int 108, .ref (xq 1), .int 0, .ref (xq 2), .int 0, .ref (xq 3), .ref (xq 4), .int 1, .ref (xq 5), .ref (xq 6), .ref (xq 7), .ref (xq 8), .ref (xq 9)])), (m0, .inr (1, fs_3))] _ := hP
  have hD : va_D A [(x0, .inr (0, [.ref (xq 0), .int 0, .int 108, .ref (xq 1), .int 0, .ref (xq 2), .int 0, .ref (xq 3), .ref (xq 4), .int 1, .ref (xq 5), .ref (xq 6), .ref (xq 7), .ref (xq 8), .ref (xq 9)])), (m0, .inr (1, fs_3))] := hD
  refine lv_istore (lv' := [(7, .int r_1), (6, .int 1), (0, .ref b), (1, .ref x0), (2, .ref m0), (3, .ref o0), (4, .ref d0), (5, .int 0)]) hx hb dL_law_2239 hl (by decide) rfl (fun ls hl => ?_)
  refine lv_aload_n hx hb dL_law_2241 rfl (lv_at hl 4 rfl) ?_
  have hF := pv_new hA hS.1
  refine va_calli (va_runV (As := []) (rest := []) ⟨hx, hb, hml, hown, hts⟩ (c_X13_thrown l hfl D _ m0 fs_3 1 hf_4) (cwV 0 hts (pv_gV w9_102 w9_103 w9_104 w1_10 w9_105) rfl rfl rfl (by decide +kernel) ⟨Nat.le_of_ble_eq_true rfl, Nat.le_of_ble_eq_true rfl⟩) (pv_pV hE hS hF (hP.sub [1] rfl) (hK.sub [] rfl) (hD.sub [1] (by decide) rfl) (va_recv (ci := 1) (q0 := 1) hK hP rfl rfl)) rfl rfl hl.1 rfl (lv_room (Nat.le_of_ble_eq_true rfl)) dL_law_2242 ⟨Nat.le_of_ble_eq_true rfl, Nat.le_of_ble_eq_true rfl⟩) hS (fun q _ h => hF q h) hF (fun r_4 u t H1 locs1 ht hvm hw hB hz1 hk1 hS => ?_)
  refine W.widen (k := 398) (n := 653827) (Nat.le_of_ble_eq_true rfl) (Nat.le_of_ble_eq_true rfl) ?_
  have hP := pv_keep hP rfl hk1
  subst hw
  refine lv_iload hx hb dL_law_2245 (lv_at hl 1 rfl) ?_
  refine lv_icmp_eq (tgt := 2252) hx hb dL_law_2247 (by decide) (fun _ => ?_) (fun c_6 => absurd (by decide) c_6)
  refine lv_iload hx hb dL_law_2252 (lv_at hl 1 rfl) ?_
  refine lv_if_ne (tgt := 2269) hx hb dL_law_2254 (by decide) (fun _ => ?_) (fun c_7 => absurd c_7 (by decide))
  refine lv_goto (tgt := 3721) hx hb dL_law_2269 (by decide) ?_
  refine lv_iinc (v := 7) (lv' := [(5, .int 7), (7, .int r_1), (6, .int 1), (0, .ref b), (1, .ref x0), (2, .ref m0), (3, .ref o0), (4, .ref d0)]) hx hb dL_law_3721 hl (k := 7) rfl (by decide) (by decide) rfl (fun ls hl => ?_)
  refine pv_pc 3724 rfl ?_
  refine lv_goto (tgt := 28) hx hb dL_law_3724 (by decide) ?_
  refine lv_iload hx hb dL_law_28 (lv_at hl 0 rfl) ?_
  refine lv_aload_n hx hb dL_law_30 rfl (lv_at hl 3 rfl) ?_
  refine va_slen hx hb hX hbl hbA hS dL_law_31 ?_
  refine pv_setI 7 rfl ?_
  refine lv_bipush (v := 7) hx hb dL_law_32 (by decide) ?_
  refine lv_isub hx hb dL_law_34 ?_
  refine pv_setI 0 (by decide) ?_
  refine lv_icmp_gt (tgt := 3727) hx hb dL_law_35 (by decide) (fun _ => ?_) (fun c_8 => absurd (by decide) c_8)
  refine lv_iconst (v := 1) hx hb dL_law_3727 (by decide) ?_
  refine va_forget (fun q hq => hAf _ (hS.2.2 q hq)) ?_
  refine W.widen (k := 600006) (n := 7302064) (Nat.le_of_ble_eq_true rfl) (Nat.le_of_ble_eq_true rfl) ?_
  exact lw_ret (d0 := s.drawn) (Drawn.sameBut.refl s.drawn lw_cs) hx hb hr hlocks dL_law_3728

theorem dL_law_2272 : decode cL_law 2272 = .ok (.aload_n 1, 1) := by decide +kernel
theorem dL_law_2273 : decode cL_law 2273 = .ok (.aload_n 0, 1) := by decide +kernel
theorem dL_law_2274 : decode cL_law 2274 = .ok (.iload 5, 2) := by decide +kernel
theorem dL_law_2276 : decode cL_law 2276 = .ok (.iconst 1, 1) := by decide +kernel
theorem dL_law_2277 : decode cL_law 2277 = .ok (.iadd, 1) := by decide +kernel
theorem dL_law_2278 : decode cL_law 2278 = .ok (.iaload, 1) := by decide +kernel
theorem dL_law_2279 : decode cL_law 2279 = .ok (.aload_n 0, 1) := by decide +kernel
theorem dL_law_2280 : decode cL_law 2280 = .ok (.iload 5, 2) := by decide +kernel
theorem dL_law_2282 : decode cL_law 2282 = .ok (.iconst 2, 1) := by decide +kernel
theorem dL_law_2283 : decode cL_law 2283 = .ok (.iadd, 1) := by decide +kernel
theorem dL_law_2284 : decode cL_law 2284 = .ok (.iaload, 1) := by decide +kernel
theorem dL_law_2285 : decode cL_law 2285 = .ok (.aload_n 0, 1) := by decide +kernel
theorem dL_law_2286 : decode cL_law 2286 = .ok (.iload 5, 2) := by decide +kernel
theorem dL_law_2288 : decode cL_law 2288 = .ok (.iconst 3, 1) := by decide +kernel
theorem dL_law_2289 : decode cL_law 2289 = .ok (.iadd, 1) := by decide +kernel
theorem dL_law_2290 : decode cL_law 2290 = .ok (.iaload, 1) := by decide +kernel
theorem dL_law_2291 : decode cL_law 2291 = .ok (.aload_n 3, 1) := by decide +kernel
theorem dL_law_2292 : decode cL_law 2292 = .ok (.invokestatic 297, 3) := by decide +kernel
theorem w7_98 : (Jvm.Cond.methodLink "PolyforgeLaw" (297 : Nat) ({ cls := "PolyforgeLaw", name := "series", desc := "(LPolyforge;III[J)I" } : Jvm.MethodName)) ∈ lw_tbl := pv_t7 (pv_mg 98 rfl)
theorem w7_100 : (Jvm.Cond.codeWith ({ cls := "PolyforgeLaw", name := "series", desc := "(LPolyforge;III[J)I" } : Jvm.MethodName) method_33_code (6 : Nat) (Option.some Jvm.ClassFile.FieldType.int) [((0 : Nat), (12 : Nat), (15 : Nat), (23 : Nat)), ((0 : Nat), (12 : Nat), (19 : Nat), (25 : Nat)), ((0 : Nat), (12 : Nat), (23 : Nat), (13 : Nat)), ((0 : Nat), (12 : Nat), (27 : Nat), (27 : Nat))]) ∈ lw_tbl := pv_t7 (pv_mg 100 rfl)
theorem w7_99 : (Jvm.Cond.static ({ cls := "PolyforgeLaw", name := "series", desc := "(LPolyforge;III[J)I" } : Jvm.MethodName)) ∈ lw_tbl := pv_t7 (pv_mg 99 rfl)
theorem dL_law_2295 : decode cL_law 2295 = .ok (.istore 6, 2) := by decide +kernel
theorem dL_law_2297 : decode cL_law 2297 = .ok (.aload_n 2, 1) := by decide +kernel
theorem dL_law_2298 : decode cL_law 2298 = .ok (.aload_n 0, 1) := by decide +kernel
theorem dL_law_2299 : decode cL_law 2299 = .ok (.iload 5, 2) := by decide +kernel
theorem dL_law_2301 : decode cL_law 2301 = .ok (.iconst 1, 1) := by decide +kernel
theorem dL_law_2302 : decode cL_law 2302 = .ok (.iadd, 1) := by decide +kernel
theorem dL_law_2303 : decode cL_law 2303 = .ok (.iaload, 1) := by decide +kernel
theorem dL_law_2304 : decode cL_law 2304 = .ok (.aload_n 0, 1) := by decide +kernel
theorem dL_law_2305 : decode cL_law 2305 = .ok (.iload 5, 2) := by decide +kernel
theorem dL_law_2307 : decode cL_law 2307 = .ok (.iconst 2, 1) := by decide +kernel
theorem dL_law_2308 : decode cL_law 2308 = .ok (.iadd, 1) := by decide +kernel
theorem dL_law_2309 : decode cL_law 2309 = .ok (.iaload, 1) := by decide +kernel
theorem dL_law_2310 : decode cL_law 2310 = .ok (.aload_n 0, 1) := by decide +kernel
theorem dL_law_2311 : decode cL_law 2311 = .ok (.iload 5, 2) := by decide +kernel
theorem dL_law_2313 : decode cL_law 2313 = .ok (.iconst 3, 1) := by decide +kernel
theorem dL_law_2314 : decode cL_law 2314 = .ok (.iadd, 1) := by decide +kernel
theorem dL_law_2315 : decode cL_law 2315 = .ok (.iaload, 1) := by decide +kernel
theorem dL_law_2316 : decode cL_law 2316 = .ok (.invokevirtual 299, 3) := by decide +kernel
theorem w10_178 : (Jvm.Cond.methodLink "PolyforgeLaw" (299 : Nat) ({ cls := "PolyforgeModel", name := "series", desc := "(III)I" } : Jvm.MethodName)) ∈ lw_tbl := pv_t10 (pv_mg 178 rfl)
theorem w10_181 : (Jvm.Cond.code ({ cls := "PolyforgeModel", name := "series", desc := "(III)I" } : Jvm.MethodName) prog_14_method_84_code (13 : Nat) (Option.some Jvm.ClassFile.FieldType.int)) ∈ lw_tbl := pv_t10 (pv_mg 181 rfl)
theorem w10_180 : (Jvm.Cond.selects "PolyforgeModel" ({ cls := "PolyforgeModel", name := "series", desc := "(III)I" } : Jvm.MethodName) ({ cls := "PolyforgeModel", name := "series", desc := "(III)I" } : Jvm.MethodName)) ∈ lw_tbl := pv_t10 (pv_mg 180 rfl)
theorem w10_179 : (Jvm.Cond.instanceMethod ({ cls := "PolyforgeModel", name := "series", desc := "(III)I" } : Jvm.MethodName)) ∈ lw_tbl := pv_t10 (pv_mg 179 rfl)
theorem dL_law_2319 : decode cL_law 2319 = .ok (.istore 7, 2) := by decide +kernel
theorem dL_law_2321 : decode cL_law 2321 = .ok (.aload_n 2, 1) := by decide +kernel
theorem dL_law_2322 : decode cL_law 2322 = .ok (.invokevirtual 199, 3) := by decide +kernel
theorem dL_law_2325 : decode cL_law 2325 = .ok (.iload 6, 2) := by decide +kernel
theorem dL_law_2327 : decode cL_law 2327 = .ok (.if_icmp .eq 5, 3) := by decide +kernel
theorem dL_law_2332 : decode cL_law 2332 = .ok (.iload 6, 2) := by decide +kernel
theorem dL_law_2334 : decode cL_law 2334 = .ok (.ifCond .ne 15, 3) := by decide +kernel
theorem dL_law_2349 : decode cL_law 2349 = .ok (.goto 1372, 3) := by decide +kernel
set_option maxHeartbeats 4000000 in
set_option maxRecDepth 100000 in
/-- the law, call 31: series -/
theorem law_case_31 {p : Program} {e : Env} {s : State} {m : MethodId} {below : List Frame} {meth : Method} {c : Code} (l : Launch) (hfl : l.stackTraces = false) {b : Nat} {xs : Nat → Int32} (C0 : lw_At p s m meth c b 7 xs) {D : va_G} {A : Nat → Prop} (hA : ∀ q : Nat, s.heap.size ≤ q → A q) (hAf : ∀ q : Nat, A q → s.heap.size ≤ q) (hbA : ¬ A b) (hE : pv_E A s s.heap) {x0 m0 o0 d0 : Nat} {xq xw mq : Nat → Nat} {xJ xP xO xC xI mI mI2 mI3 mT mC oL : ClassId} {xsg xsf msg msf : Nat → Int32} (hxsg : ∀ j, j < 3 → xsg j = 63) (hmsg : ∀ j, j < 3 → msg j = 63) {H : Heap} {locs : List Loc} (hK : va_K D pv_cl [(xJ, .long), (xP, .object "Polyforge$Polynomial"), (xO, .object "Polyforge$Ideal"), (xC, .char), (xI, .int), (mI, .int), (mT, .object "PolyforgeModel$Terms"), (mI2, .int), (mC, .char), (mI3, .int), (oL, .long)] s) (hP : va_P D pv_cl [(x0, .inr (0, [.ref (xq 0), .int 0, .int 108, .ref (xq 1), .int 0, .ref (xq 2), .int 0, .ref (xq 3), .ref (xq 4), .int 1, .ref (xq 5), .ref (xq 6), .ref (xq 7), .ref (xq 8), .ref (xq 9)])), ((xq 6), .inr (2, [.ref (xw 0), .ref (xw 1), .ref (xw 2), .ref (xw 3), .int 0, .int 0])), ((xw 2), .inl (xJ, 64, .inr (.inl (fun _ => 0)))), ((xq 0), .inl (xP, 60, .inr (.inr (.inr (.inr (fun _ => none)))))), ((xq 1), .inl (xO, 5, .inr (.inr (.inr (.inr (fun _ => none)))))), ((xq 3), .inl (xC, 3, .inl xsg)), ((xq 4), .inl (xI, 3, .inl xsf)), (m0, .inr (1, pv_m 0 mq)), ((mq 0), .inl (mI, 60, .inl (fun _ => 0))), ((mq 1), .inl (mT, 60, .inr (.inr (.inr (.inr (fun _ => none)))))), ((mq 2), .inl (mI2, 5, .inl (fun _ => 0))), ((mq 9), .inl (mC, 3, .inl msg)), ((mq 10), .inl (mI3, 3, .inl msf)), (o0, .inl (oL, 1, .inr (.inl (fun _ => 0))))] H) (hD : va_D A [(x0, .inr (0, [.ref (xq 0), .int 0, .int 108, .ref (xq 1), .int 0, .ref (xq 2), .int 0, .ref (xq 3), .ref (xq 4), .int 1, .ref (xq 5), .ref (xq 6), .ref (xq 7), .ref (xq 8), .ref (xq 9)])), ((xq 6), .inr (2, [.ref (xw 0), .ref (xw 1), .ref (xw 2), .ref (xw 3), .int 0, .int 0])), ((xw 2), .inl (xJ, 64, .inr (.inl (fun _ => 0)))), ((xq 0), .inl (xP, 60, .inr (.inr (.inr (.inr (fun _ => none)))))), ((xq 1), .inl (xO, 5, .inr (.inr (.inr (.inr (fun _ => none)))))), ((xq 3), .inl (xC, 3, .inl xsg)), ((xq 4), .inl (xI, 3, .inl xsf)), (m0, .inr (1, pv_m 0 mq)), ((mq 0), .inl (mI, 60, .inl (fun _ => 0))), ((mq 1), .inl (mT, 60, .inr (.inr (.inr (.inr (fun _ => none)))))), ((mq 2), .inl (mI2, 5, .inl (fun _ => 0))), ((mq 9), .inl (mC, 3, .inl msg)), ((mq 10), .inl (mI3, 3, .inl msf)), (o0, .inl (oL, 1, .inr (.inl (fun _ => 0))))]) (hS : va_S A s.heap H locs) {ls : Array Slot} (hl : lv_has ls 9 [(0, .ref b), (1, .ref x0), (2, .ref m0), (3, .ref o0), (4, .ref d0), (5, .int 0)]) : W p l e room_1 s m #[Value.ref b] below meth c H locs 397 653821 (lw_Z below #[Value.ref b] s) (F0 m 2272 ls []) := by
  obtain ⟨hx, hb, hr, hml, hown, hts0, hX, hbl, hlocks, hgv⟩ := C0
  have hts : ∀ w ∈ pv_W, w.before #[Value.ref b] s = true := fun w h => hts0 w (List.mem_filter.mp h).1
  have hg := fun {w : Cond} (h : w ∈ lw_tbl) (g : goodWord w = true) => hts w (pv_in h g)
  have hP : va_P D pv_cl [(x0, .inr (0, [.ref (xq 0), .int 0, .int 108, .ref (xq 1), .int 0, .ref (xq 2), .int 0, .ref (xq 3), .ref (xq 4), .int 1, .ref (xq 5), .ref (xq 6), .ref (xq 7), .ref (xq 8), .ref (xq 9)])), (m0, .inr (1, pv_m 0 mq))] _ := hP.sub [0, 7] rfl
  have hD : va_D A [(x0, .inr (0, [.ref (xq 0), .int 0, .int 108, .ref (xq 1), .int 0, .ref (xq 2), .int 0, .ref (xq 3), .ref (xq 4), .int 1, .ref (xq 5), .ref (xq 6), .ref (xq 7), .ref (xq 8), .ref (xq 9)])), (m0, .inr (1, pv_m 0 mq))] := hD.sub [0, 7] (by decide) rfl
  have hK : va_K D pv_cl [] s := hK.sub [] rfl
  refine lv_aload_n hx hb dL_law_2272 rfl (lv_at hl 1 rfl) ?_
  refine lv_aload_n hx hb dL_law_2273 rfl (lv_at hl 0 rfl) ?_
  refine lv_iload hx hb dL_law_2274 (lv_at hl 5 rfl) ?_
  refine lv_iconst (v := 1) hx hb dL_law_2276 (by decide) ?_
  refine lv_iadd hx hb dL_law_2277 ?_
  refine pv_setI 1 (by decide) ?_
  refine va_sld hx hb hX hbl hbA hS (by unfold vp_in; decide) dL_law_2278 ?_
  refine pv_setI (xs 1) rfl ?_
  refine lv_aload_n hx hb dL_law_2279 rfl (lv_at hl 0 rfl) ?_
  refine lv_iload hx hb dL_law_2280 (lv_at hl 5 rfl) ?_
  refine lv_iconst (v := 2) hx hb dL_law_2282 (by decide) ?_
  refine lv_iadd hx hb dL_law_2283 ?_
  refine pv_setI 2 (by decide) ?_
  refine va_sld hx hb hX hbl hbA hS (by unfold vp_in; decide) dL_law_2284 ?_
  refine pv_setI (xs 2) rfl ?_
  refine pv_pc 2285 rfl ?_
  refine lv_aload_n hx hb dL_law_2285 rfl (lv_at hl 0 rfl) ?_
  refine lv_iload hx hb dL_law_2286 (lv_at hl 5 rfl) ?_
  refine lv_iconst (v := 3) hx hb dL_law_2288 (by decide) ?_
  refine lv_iadd hx hb dL_law_2289 ?_
  refine pv_setI 3 (by decide) ?_
  refine va_sld hx hb hX hbl hbA hS (by unfold vp_in; decide) dL_law_2290 ?_
  refine pv_setI (xs 3) rfl ?_
  refine lv_aload_n hx hb dL_law_2291 rfl (lv_at hl 3 rfl) ?_
  have hF := pv_new hA hS.1
  refine va_calli (vx_runSW (As := [.ref x0, .int (xs 1), .int (xs 2), .int (xs 3), .ref o0]) (rest := []) ⟨hx, hb, hml, hown, hts⟩ (c_L_series l hfl D _ x0 xq (xs 1) (xs 2) (xs 3) o0) (vx_cwSW 5 hts (pv_gSW w7_98 w7_99 w1_0 w7_100) rfl rfl rfl (by decide +kernel) ⟨Nat.le_of_ble_eq_true rfl, Nat.le_of_ble_eq_true rfl⟩) (pv_ps hE hS hF (hP.sub [0] rfl) (hK.sub [] rfl) (hD.sub [0] (by decide) rfl)) rfl rfl hl.1 rfl (lv_room (Nat.le_of_ble_eq_true rfl)) dL_law_2292 ⟨Nat.le_of_ble_eq_true rfl, Nat.le_of_ble_eq_true rfl⟩) hS (fun q _ h => hF q h) hF (fun r_0 u t H1 locs1 ht hvm hw hB hz1 hk1 hS => ?_)
  refine W.widen (k := 398) (n := 653827) (Nat.le_of_ble_eq_true rfl) (Nat.le_of_ble_eq_true rfl) ?_
  have hP := pv_keep hP rfl hk1
  subst hw
  refine lv_istore (lv' := [(6, .int 1), (0, .ref b), (1, .ref x0), (2, .ref m0), (3, .ref o0), (4, .ref d0), (5, .int 0)]) hx hb dL_law_2295 hl (by decide) rfl (fun ls hl => ?_)
  refine lv_aload_n hx hb dL_law_2297 rfl (lv_at hl 3 rfl) ?_
  refine lv_aload_n hx hb dL_law_2298 rfl (lv_at hl 1 rfl) ?_
  refine lv_iload hx hb dL_law_2299 (lv_at hl 6 rfl) ?_
  refine lv_iconst (v := 1) hx hb dL_law_2301 (by decide) ?_
  refine pv_pc 2302 rfl ?_
  refine lv_iadd hx hb dL_law_2302 ?_
  refine pv_setI 1 (by decide) ?_
  refine va_sld hx hb hX hbl hbA hS (by unfold vp_in; decide) dL_law_2303 ?_
  refine pv_setI (xs 1) rfl ?_
  refine lv_aload_n hx hb dL_law_2304 rfl (lv_at hl 1 rfl) ?_
  refine lv_iload hx hb dL_law_2305 (lv_at hl 6 rfl) ?_
  refine lv_iconst (v := 2) hx hb dL_law_2307 (by decide) ?_
  refine lv_iadd hx hb dL_law_2308 ?_
  refine pv_setI 2 (by decide) ?_
  refine va_sld hx hb hX hbl hbA hS (by unfold vp_in; decide) dL_law_2309 ?_
  refine pv_setI (xs 2) rfl ?_
  refine lv_aload_n hx hb dL_law_2310 rfl (lv_at hl 1 rfl) ?_
  refine lv_iload hx hb dL_law_2311 (lv_at hl 6 rfl) ?_
  refine lv_iconst (v := 3) hx hb dL_law_2313 (by decide) ?_
  refine lv_iadd hx hb dL_law_2314 ?_
  refine pv_setI 3 (by decide) ?_
  refine va_sld hx hb hX hbl hbA hS (by unfold vp_in; decide) dL_law_2315 ?_
  refine pv_setI (xs 3) rfl ?_
  refine pv_pc 2316 rfl ?_
  have hF := va_free (wc := [(m0, .inr (1, pv_m 0 mq))]) hD hS hA [1] rfl
  refine va_calli (va_runV (As := [.int (xs 1), .int (xs 2), .int (xs 3)]) (rest := []) ⟨hx, hb, hml, hown, hts⟩ (c_X13_series l hfl D _ m0 mq (xs 1) (xs 2) (xs 3)) (cwV 3 hts (pv_gV w10_178 w10_179 w10_180 w1_10 w10_181) rfl rfl rfl (by decide +kernel) ⟨Nat.le_of_ble_eq_true rfl, Nat.le_of_ble_eq_true rfl⟩) (pv_pV hE hS hF (hP.sub [1] rfl) (hK.sub [] rfl) (hD.sub [1] (by decide) rfl) (va_recv (ci := 1) (q0 := 1) hK hP rfl rfl)) rfl rfl hl.1 rfl (lv_room (Nat.le_of_ble_eq_true rfl)) dL_law_2316 ⟨Nat.le_of_ble_eq_true rfl, Nat.le_of_ble_eq_true rfl⟩) hS (fun q _ h => hF q h) hF (fun r_1 u t H1 locs1 ht hvm hw hB hz1 hk1 hS => ?_)
  refine W.widen (k := 398) (n := 653827) (Nat.le_of_ble_eq_true rfl) (Nat.le_of_ble_eq_true rfl) ?_
  subst hw
  obtain ⟨fs_3, hf_4, hP1, hK1, hD1⟩ := hB
  rw [ht] at hP1
  have hK1 := va_K.moved hvm.symm hK1
  obtain ⟨hP, hD⟩ := va_join (wr := [(x0, .inr (0, [.ref (xq 0), .int 0, .int 108, .ref (xq 1), .int 0, .ref (xq 2), .int 0, .ref (xq 3), .ref (xq 4), .int 1, .ref (xq 5), .ref (xq 6), .ref (xq 7), .ref (xq 8), .ref (xq 9)]))]) (w1 := [(m0, .inr (1, fs_3))]) hP hD [1] [0] rfl rfl (by decide) (by decide) hk1 hF hP1 hD1
  have hP : va_P D pv_cl [(x0, .inr (0, [.ref (xq 0), .int 0, .int 108, .ref (xq 1), .int 0, .ref (xq 2), .int 0, .ref (xq 3), .ref (xq 4), .int 1, .ref (xq 5), .ref (xq 6), .ref (xq 7), .ref (xq 8), .ref (xq 9)])), (m0, .inr (1, fs_3))] _ := hP
  have hD : va_D A [(x0, .inr (0, [.ref (xq 0), .int 0, .int 108, .ref (xq 1), .int 0, .ref (xq 2), .int 0, .ref (xq 3), .ref (xq 4), .int 1, .ref (xq 5), .ref (xq 6), .ref (xq 7), .ref (xq 8), .ref (xq 9)])), (m0, .inr (1, fs_3))] := hD
  refine lv_istore (lv' := [(7, .int r_1), (6, .int 1), (0, .ref b), (1, .ref x0), (2, .ref m0), (3, .ref o0), (4, .ref d0), (5, .int 0)]) hx hb dL_law_2319 hl (by decide) rfl (fun ls hl => ?_)
  refine lv_aload_n hx hb dL_law_2321 rfl (lv_at hl 4 rfl) ?_
  have hF := pv_new hA hS.1
  refine va_calli (va_runV (As := []) (rest := []) ⟨hx, hb, hml, hown, hts⟩ (c_X13_thrown l hfl D _ m0 fs_3 1 hf_4) (cwV 0 hts (pv_gV w9_102 w9_103 w9_104 w1_10 w9_105) rfl rfl rfl (by decide +kernel) ⟨Nat.le_of_ble_eq_true rfl, Nat.le_of_ble_eq_true rfl⟩) (pv_pV hE hS hF (hP.sub [1] rfl) (hK.sub [] rfl) (hD.sub [1] (by decide) rfl) (va_recv (ci := 1) (q0 := 1) hK hP rfl rfl)) rfl rfl hl.1 rfl (lv_room (Nat.le_of_ble_eq_true rfl)) dL_law_2322 ⟨Nat.le_of_ble_eq_true rfl, Nat.le_of_ble_eq_true rfl⟩) hS (fun q _ h => hF q h) hF (fun r_4 u t H1 locs1 ht hvm hw hB hz1 hk1 hS => ?_)
  refine W.widen (k := 398) (n := 653827) (Nat.le_of_ble_eq_true rfl) (Nat.le_of_ble_eq_true rfl) ?_
  have hP := pv_keep hP rfl hk1
  subst hw
  refine lv_iload hx hb dL_law_2325 (lv_at hl 1 rfl) ?_
  refine lv_icmp_eq (tgt := 2332) hx hb dL_law_2327 (by decide) (fun _ => ?_) (fun c_6 => absurd (by decide) c_6)
  refine lv_iload hx hb dL_law_2332 (lv_at hl 1 rfl) ?_
  refine lv_if_ne (tgt := 2349) hx hb dL_law_2334 (by decide) (fun _ => ?_) (fun c_7 => absurd c_7 (by decide))
  refine lv_goto (tgt := 3721) hx hb dL_law_2349 (by decide) ?_
  refine lv_iinc (v := 7) (lv' := [(5, .int 7), (7, .int r_1), (6, .int 1), (0, .ref b), (1, .ref x0), (2, .ref m0), (3, .ref o0), (4, .ref d0)]) hx hb dL_law_3721 hl (k := 7) rfl (by decide) (by decide) rfl (fun ls hl => ?_)
  refine lv_goto (tgt := 28) hx hb dL_law_3724 (by decide) ?_
  refine lv_iload hx hb dL_law_28 (lv_at hl 0 rfl) ?_
  refine pv_pc 30 rfl ?_
  refine lv_aload_n hx hb dL_law_30 rfl (lv_at hl 3 rfl) ?_
  refine va_slen hx hb hX hbl hbA hS dL_law_31 ?_
  refine pv_setI 7 rfl ?_
  refine lv_bipush (v := 7) hx hb dL_law_32 (by decide) ?_
  refine lv_isub hx hb dL_law_34 ?_
  refine pv_setI 0 (by decide) ?_
  refine lv_icmp_gt (tgt := 3727) hx hb dL_law_35 (by decide) (fun _ => ?_) (fun c_8 => absurd (by decide) c_8)
  refine lv_iconst (v := 1) hx hb dL_law_3727 (by decide) ?_
  refine va_forget (fun q hq => hAf _ (hS.2.2 q hq)) ?_
  refine W.widen (k := 600006) (n := 7302064) (Nat.le_of_ble_eq_true rfl) (Nat.le_of_ble_eq_true rfl) ?_
  exact lw_ret (d0 := s.drawn) (Drawn.sameBut.refl s.drawn lw_cs) hx hb hr hlocks dL_law_3728

theorem dL_law_2352 : decode cL_law 2352 = .ok (.aload_n 1, 1) := by decide +kernel
theorem dL_law_2353 : decode cL_law 2353 = .ok (.aload_n 0, 1) := by decide +kernel
theorem dL_law_2354 : decode cL_law 2354 = .ok (.iload 5, 2) := by decide +kernel
theorem dL_law_2356 : decode cL_law 2356 = .ok (.iconst 1, 1) := by decide +kernel
theorem dL_law_2357 : decode cL_law 2357 = .ok (.iadd, 1) := by decide +kernel
theorem dL_law_2358 : decode cL_law 2358 = .ok (.iaload, 1) := by decide +kernel
theorem dL_law_2359 : decode cL_law 2359 = .ok (.aload_n 0, 1) := by decide +kernel
theorem dL_law_2360 : decode cL_law 2360 = .ok (.iload 5, 2) := by decide +kernel
theorem dL_law_2362 : decode cL_law 2362 = .ok (.iconst 2, 1) := by decide +kernel
theorem dL_law_2363 : decode cL_law 2363 = .ok (.iadd, 1) := by decide +kernel
theorem dL_law_2364 : decode cL_law 2364 = .ok (.iaload, 1) := by decide +kernel
theorem dL_law_2365 : decode cL_law 2365 = .ok (.aload_n 0, 1) := by decide +kernel
theorem dL_law_2366 : decode cL_law 2366 = .ok (.iload 5, 2) := by decide +kernel
theorem dL_law_2368 : decode cL_law 2368 = .ok (.iconst 3, 1) := by decide +kernel
theorem dL_law_2369 : decode cL_law 2369 = .ok (.iadd, 1) := by decide +kernel
theorem dL_law_2370 : decode cL_law 2370 = .ok (.iaload, 1) := by decide +kernel
theorem dL_law_2371 : decode cL_law 2371 = .ok (.aload_n 3, 1) := by decide +kernel
theorem dL_law_2372 : decode cL_law 2372 = .ok (.invokestatic 300, 3) := by decide +kernel
theorem w7_115 : (Jvm.Cond.methodLink "PolyforgeLaw" (300 : Nat) ({ cls := "PolyforgeLaw", name := "limit", desc := "(LPolyforge;III[J)I" } : Jvm.MethodName)) ∈ lw_tbl := pv_t7 (pv_mg 115 rfl)
theorem w7_117 : (Jvm.Cond.codeWith ({ cls := "PolyforgeLaw", name := "limit", desc := "(LPolyforge;III[J)I" } : Jvm.MethodName) method_34_code (6 : Nat) (Option.some Jvm.ClassFile.FieldType.int) [((0 : Nat), (12 : Nat), (15 : Nat), (23 : Nat)), ((0 : Nat), (12 : Nat), (19 : Nat), (25 : Nat)), ((0 : Nat), (12 : Nat), (23 : Nat), (13 : Nat)), ((0 : Nat), (12 : Nat), (27 : Nat), (27 : Nat)), ((0 : Nat), (12 : Nat), (31 : Nat), (55 : Nat))]) ∈ lw_tbl := pv_t7 (pv_mg 117 rfl)
theorem w7_116 : (Jvm.Cond.static ({ cls := "PolyforgeLaw", name := "limit", desc := "(LPolyforge;III[J)I" } : Jvm.MethodName)) ∈ lw_tbl := pv_t7 (pv_mg 116 rfl)
theorem dL_law_2375 : decode cL_law 2375 = .ok (.istore 6, 2) := by decide +kernel
theorem dL_law_2377 : decode cL_law 2377 = .ok (.aload_n 2, 1) := by decide +kernel
theorem dL_law_2378 : decode cL_law 2378 = .ok (.aload_n 0, 1) := by decide +kernel
theorem dL_law_2379 : decode cL_law 2379 = .ok (.iload 5, 2) := by decide +kernel
theorem dL_law_2381 : decode cL_law 2381 = .ok (.iconst 1, 1) := by decide +kernel
theorem dL_law_2382 : decode cL_law 2382 = .ok (.iadd, 1) := by decide +kernel
theorem dL_law_2383 : decode cL_law 2383 = .ok (.iaload, 1) := by decide +kernel
theorem dL_law_2384 : decode cL_law 2384 = .ok (.aload_n 0, 1) := by decide +kernel
theorem dL_law_2385 : decode cL_law 2385 = .ok (.iload 5, 2) := by decide +kernel
theorem dL_law_2387 : decode cL_law 2387 = .ok (.iconst 2, 1) := by decide +kernel
theorem dL_law_2388 : decode cL_law 2388 = .ok (.iadd, 1) := by decide +kernel
theorem dL_law_2389 : decode cL_law 2389 = .ok (.iaload, 1) := by decide +kernel
theorem dL_law_2390 : decode cL_law 2390 = .ok (.aload_n 0, 1) := by decide +kernel
theorem dL_law_2391 : decode cL_law 2391 = .ok (.iload 5, 2) := by decide +kernel
theorem dL_law_2393 : decode cL_law 2393 = .ok (.iconst 3, 1) := by decide +kernel
theorem dL_law_2394 : decode cL_law 2394 = .ok (.iadd, 1) := by decide +kernel
theorem dL_law_2395 : decode cL_law 2395 = .ok (.iaload, 1) := by decide +kernel
theorem dL_law_2396 : decode cL_law 2396 = .ok (.invokevirtual 302, 3) := by decide +kernel
theorem w10_182 : (Jvm.Cond.methodLink "PolyforgeLaw" (302 : Nat) ({ cls := "PolyforgeModel", name := "limit", desc := "(III)I" } : Jvm.MethodName)) ∈ lw_tbl := pv_t10 (pv_mg 182 rfl)
theorem w10_185 : (Jvm.Cond.code ({ cls := "PolyforgeModel", name := "limit", desc := "(III)I" } : Jvm.MethodName) prog_14_method_85_code (9 : Nat) (Option.some Jvm.ClassFile.FieldType.int)) ∈ lw_tbl := pv_t10 (pv_mg 185 rfl)
theorem w10_184 : (Jvm.Cond.selects "PolyforgeModel" ({ cls := "PolyforgeModel", name := "limit", desc := "(III)I" } : Jvm.MethodName) ({ cls := "PolyforgeModel", name := "limit", desc := "(III)I" } : Jvm.MethodName)) ∈ lw_tbl := pv_t10 (pv_mg 184 rfl)
theorem w10_183 : (Jvm.Cond.instanceMethod ({ cls := "PolyforgeModel", name := "limit", desc := "(III)I" } : Jvm.MethodName)) ∈ lw_tbl := pv_t10 (pv_mg 183 rfl)
theorem dL_law_2399 : decode cL_law 2399 = .ok (.istore 7, 2) := by decide +kernel
theorem dL_law_2401 : decode cL_law 2401 = .ok (.aload_n 2, 1) := by decide +kernel
theorem dL_law_2402 : decode cL_law 2402 = .ok (.invokevirtual 199, 3) := by decide +kernel
theorem dL_law_2405 : decode cL_law 2405 = .ok (.iload 6, 2) := by decide +kernel
theorem dL_law_2407 : decode cL_law 2407 = .ok (.if_icmp .eq 5, 3) := by decide +kernel
theorem dL_law_2412 : decode cL_law 2412 = .ok (.iload 6, 2) := by decide +kernel
theorem dL_law_2414 : decode cL_law 2414 = .ok (.ifCond .ne 15, 3) := by decide +kernel
theorem dL_law_2429 : decode cL_law 2429 = .ok (.goto 1292, 3) := by decide +kernel
set_option maxHeartbeats 4000000 in
set_option maxRecDepth 100000 in
/-- the law, call 32: limit -/
theorem law_case_32 {p : Program} {e : Env} {s : State} {m : MethodId} {below : List Frame} {meth : Method} {c : Code} (l : Launch) (hfl : l.stackTraces = false) {b : Nat} {xs : Nat → Int32} (C0 : lw_At p s m meth c b 7 xs) {D : va_G} {A : Nat → Prop} (hA : ∀ q : Nat, s.heap.size ≤ q → A q) (hAf : ∀ q : Nat, A q → s.heap.size ≤ q) (hbA : ¬ A b) (hE : pv_E A s s.heap) {x0 m0 o0 d0 : Nat} {xq xw mq : Nat → Nat} {xJ xP xO xC xI mI mI2 mI3 mT mC oL : ClassId} {xsg xsf msg msf : Nat → Int32} (hxsg : ∀ j, j < 3 → xsg j = 63) (hmsg : ∀ j, j < 3 → msg j = 63) {H : Heap} {locs : List Loc} (hK : va_K D pv_cl [(xJ, .long), (xP, .object "Polyforge$Polynomial"), (xO, .object "Polyforge$Ideal"), (xC, .char), (xI, .int), (mI, .int), (mT, .object "PolyforgeModel$Terms"), (mI2, .int), (mC, .char), (mI3, .int), (oL, .long)] s) (hP : va_P D pv_cl [(x0, .inr (0, [.ref (xq 0), .int 0, .int 108, .ref (xq 1), .int 0, .ref (xq 2), .int 0, .ref (xq 3), .ref (xq 4), .int 1, .ref (xq 5), .ref (xq 6), .ref (xq 7), .ref (xq 8), .ref (xq 9)])), ((xq 6), .inr (2, [.ref (xw 0), .ref (xw 1), .ref (xw 2), .ref (xw 3), .int 0, .int 0])), ((xw 2), .inl (xJ, 64, .inr (.inl (fun _ => 0)))), ((xq 0), .inl (xP, 60, .inr (.inr (.inr (.inr (fun _ => none)))))), ((xq 1), .inl (xO, 5, .inr (.inr (.inr (.inr (fun _ => none)))))), ((xq 3), .inl (xC, 3, .inl xsg)), ((xq 4), .inl (xI, 3, .inl xsf)), (m0, .inr (1, pv_m 0 mq)), ((mq 0), .inl (mI, 60, .inl (fun _ => 0))), ((mq 1), .inl (mT, 60, .inr (.inr (.inr (.inr (fun _ => none)))))), ((mq 2), .inl (mI2, 5, .inl (fun _ => 0))), ((mq 9), .inl (mC, 3, .inl msg)), ((mq 10), .inl (mI3, 3, .inl msf)), (o0, .inl (oL, 1, .inr (.inl (fun _ => 0))))] H) (hD : va_D A [(x0, .inr (0, [.ref (xq 0), .int 0, .int 108, .ref (xq 1), .int 0, .ref (xq 2), .int 0, .ref (xq 3), .ref (xq 4), .int 1, .ref (xq 5), .ref (xq 6), .ref (xq 7), .ref (xq 8), .ref (xq 9)])), ((xq 6), .inr (2, [.ref (xw 0), .ref (xw 1), .ref (xw 2), .ref (xw 3), .int 0, .int 0])), ((xw 2), .inl (xJ, 64, .inr (.inl (fun _ => 0)))), ((xq 0), .inl (xP, 60, .inr (.inr (.inr (.inr (fun _ => none)))))), ((xq 1), .inl (xO, 5, .inr (.inr (.inr (.inr (fun _ => none)))))), ((xq 3), .inl (xC, 3, .inl xsg)), ((xq 4), .inl (xI, 3, .inl xsf)), (m0, .inr (1, pv_m 0 mq)), ((mq 0), .inl (mI, 60, .inl (fun _ => 0))), ((mq 1), .inl (mT, 60, .inr (.inr (.inr (.inr (fun _ => none)))))), ((mq 2), .inl (mI2, 5, .inl (fun _ => 0))), ((mq 9), .inl (mC, 3, .inl msg)), ((mq 10), .inl (mI3, 3, .inl msf)), (o0, .inl (oL, 1, .inr (.inl (fun _ => 0))))]) (hS : va_S A s.heap H locs) {ls : Array Slot} (hl : lv_has ls 9 [(0, .ref b), (1, .ref x0), (2, .ref m0), (3, .ref o0), (4, .ref d0), (5, .int 0)]) : W p l e room_1 s m #[Value.ref b] below meth c H locs 397 653821 (lw_Z below #[Value.ref b] s) (F0 m 2352 ls []) := by
  obtain ⟨hx, hb, hr, hml, hown, hts0, hX, hbl, hlocks, hgv⟩ := C0
  have hts : ∀ w ∈ pv_W, w.before #[Value.ref b] s = true := fun w h => hts0 w (List.mem_filter.mp h).1
  have hg := fun {w : Cond} (h : w ∈ lw_tbl) (g : goodWord w = true) => hts w (pv_in h g)
  have hP : va_P D pv_cl [(x0, .inr (0, [.ref (xq 0), .int 0, .int 108, .ref (xq 1), .int 0, .ref (xq 2), .int 0, .ref (xq 3), .ref (xq 4), .int 1, .ref (xq 5), .ref (xq 6), .ref (xq 7), .ref (xq 8), .ref (xq 9)])), (m0, .inr (1, pv_m 0 mq))] _ := hP.sub [0, 7] rfl
  have hD : va_D A [(x0, .inr (0, [.ref (xq 0), .int 0, .int 108, .ref (xq 1), .int 0, .ref (xq 2), .int 0, .ref (xq 3), .ref (xq 4), .int 1, .ref (xq 5), .ref (xq 6), .ref (xq 7), .ref (xq 8), .ref (xq 9)])), (m0, .inr (1, pv_m 0 mq))] := hD.sub [0, 7] (by decide) rfl
  have hK : va_K D pv_cl [] s := hK.sub [] rfl
  refine lv_aload_n hx hb dL_law_2352 rfl (lv_at hl 1 rfl) ?_
  refine lv_aload_n hx hb dL_law_2353 rfl (lv_at hl 0 rfl) ?_
  refine lv_iload hx hb dL_law_2354 (lv_at hl 5 rfl) ?_
  refine lv_iconst (v := 1) hx hb dL_law_2356 (by decide) ?_
  refine lv_iadd hx hb dL_law_2357 ?_
  refine pv_setI 1 (by decide) ?_
  refine va_sld hx hb hX hbl hbA hS (by unfold vp_in; decide) dL_law_2358 ?_
  refine pv_setI (xs 1) rfl ?_
  refine lv_aload_n hx hb dL_law_2359 rfl (lv_at hl 0 rfl) ?_
  refine lv_iload hx hb dL_law_2360 (lv_at hl 5 rfl) ?_
  refine lv_iconst (v := 2) hx hb dL_law_2362 (by decide) ?_
  refine lv_iadd hx hb dL_law_2363 ?_
  refine pv_setI 2 (by decide) ?_
  refine va_sld hx hb hX hbl hbA hS (by unfold vp_in; decide) dL_law_2364 ?_
  refine pv_setI (xs 2) rfl ?_
  refine pv_pc 2365 rfl ?_
  refine lv_aload_n hx hb dL_law_2365 rfl (lv_at hl 0 rfl) ?_
  refine lv_iload hx hb dL_law_2366 (lv_at hl 5 rfl) ?_
  refine lv_iconst (v := 3) hx hb dL_law_2368 (by decide) ?_
  refine lv_iadd hx hb dL_law_2369 ?_
  refine pv_setI 3 (by decide) ?_
  refine va_sld hx hb hX hbl hbA hS (by unfold vp_in; decide) dL_law_2370 ?_
  refine pv_setI (xs 3) rfl ?_
  refine lv_aload_n hx hb dL_law_2371 rfl (lv_at hl 3 rfl) ?_
  have hF := pv_new hA hS.1
  refine va_calli (vx_runSW (As := [.ref x0, .int (xs 1), .int (xs 2), .int (xs 3), .ref o0]) (rest := []) ⟨hx, hb, hml, hown, hts⟩ (c_L_limit l hfl D _ x0 xq (xs 1) (xs 2) (xs 3) o0) (vx_cwSW 5 hts (pv_gSW w7_115 w7_116 w1_0 w7_117) rfl rfl rfl (by decide +kernel) ⟨Nat.le_of_ble_eq_true rfl, Nat.le_of_ble_eq_true rfl⟩) (pv_ps hE hS hF (hP.sub [0] rfl) (hK.sub [] rfl) (hD.sub [0] (by decide) rfl)) rfl rfl hl.1 rfl (lv_room (Nat.le_of_ble_eq_true rfl)) dL_law_2372 ⟨Nat.le_of_ble_eq_true rfl, Nat.le_of_ble_eq_true rfl⟩) hS (fun q _ h => hF q h) hF (fun r_0 u t H1 locs1 ht hvm hw hB hz1 hk1 hS => ?_)
  refine W.widen (k := 398) (n := 653827) (Nat.le_of_ble_eq_true rfl) (Nat.le_of_ble_eq_true rfl) ?_
  have hP := pv_keep hP rfl hk1
  subst hw
  refine lv_istore (lv' := [(6, .int 1), (0, .ref b), (1, .ref x0), (2, .ref m0), (3, .ref o0), (4, .ref d0), (5, .int 0)]) hx hb dL_law_2375 hl (by decide) rfl (fun ls hl => ?_)
  refine lv_aload_n hx hb dL_law_2377 rfl (lv_at hl 3 rfl) ?_
  refine lv_aload_n hx hb dL_law_2378 rfl (lv_at hl 1 rfl) ?_
  refine lv_iload hx hb dL_law_2379 (lv_at hl 6 rfl) ?_
  refine lv_iconst (v := 1) hx hb dL_law_2381 (by decide) ?_
  refine pv_pc 2382 rfl ?_
  refine lv_iadd hx hb dL_law_2382 ?_
  refine pv_setI 1 (by decide) ?_
  refine va_sld hx hb hX hbl hbA hS (by unfold vp_in; decide) dL_law_2383 ?_
  refine pv_setI (xs 1) rfl ?_
  refine lv_aload_n hx hb dL_law_2384 rfl (lv_at hl 1 rfl) ?_
  refine lv_iload hx hb dL_law_2385 (lv_at hl 6 rfl) ?_
  refine lv_iconst (v := 2) hx hb dL_law_2387 (by decide) ?_
  refine lv_iadd hx hb dL_law_2388 ?_
  refine pv_setI 2 (by decide) ?_
  refine va_sld hx hb hX hbl hbA hS (by unfold vp_in; decide) dL_law_2389 ?_
  refine pv_setI (xs 2) rfl ?_
  refine lv_aload_n hx hb dL_law_2390 rfl (lv_at hl 1 rfl) ?_
  refine lv_iload hx hb dL_law_2391 (lv_at hl 6 rfl) ?_
  refine lv_iconst (v := 3) hx hb dL_law_2393 (by decide) ?_
  refine lv_iadd hx hb dL_law_2394 ?_
  refine pv_setI 3 (by decide) ?_
  refine va_sld hx hb hX hbl hbA hS (by unfold vp_in; decide) dL_law_2395 ?_
  refine pv_setI (xs 3) rfl ?_
  refine pv_pc 2396 rfl ?_
  have hF := va_free (wc := [(m0, .inr (1, pv_m 0 mq))]) hD hS hA [1] rfl
  refine va_calli (va_runV (As := [.int (xs 1), .int (xs 2), .int (xs 3)]) (rest := []) ⟨hx, hb, hml, hown, hts⟩ (c_X13_limit l hfl D _ m0 mq (xs 1) (xs 2) (xs 3)) (cwV 3 hts (pv_gV w10_182 w10_183 w10_184 w1_10 w10_185) rfl rfl rfl (by decide +kernel) ⟨Nat.le_of_ble_eq_true rfl, Nat.le_of_ble_eq_true rfl⟩) (pv_pV hE hS hF (hP.sub [1] rfl) (hK.sub [] rfl) (hD.sub [1] (by decide) rfl) (va_recv (ci := 1) (q0 := 1) hK hP rfl rfl)) rfl rfl hl.1 rfl (lv_room (Nat.le_of_ble_eq_true rfl)) dL_law_2396 ⟨Nat.le_of_ble_eq_true rfl, Nat.le_of_ble_eq_true rfl⟩) hS (fun q _ h => hF q h) hF (fun r_1 u t H1 locs1 ht hvm hw hB hz1 hk1 hS => ?_)
  refine W.widen (k := 398) (n := 653827) (Nat.le_of_ble_eq_true rfl) (Nat.le_of_ble_eq_true rfl) ?_
  subst hw
  obtain ⟨fs_3, hf_4, hP1, hK1, hD1⟩ := hB
  rw [ht] at hP1
  have hK1 := va_K.moved hvm.symm hK1
  obtain ⟨hP, hD⟩ := va_join (wr := [(x0, .inr (0, [.ref (xq 0), .int 0, .int 108, .ref (xq 1), .int 0, .ref (xq 2), .int 0, .ref (xq 3), .ref (xq 4), .int 1, .ref (xq 5), .ref (xq 6), .ref (xq 7), .ref (xq 8), .ref (xq 9)]))]) (w1 := [(m0, .inr (1, fs_3))]) hP hD [1] [0] rfl rfl (by decide) (by decide) hk1 hF hP1 hD1
  have hP : va_P D pv_cl [(x0, .inr (0, [.ref (xq 0), .int 0, .int 108, .ref (xq 1), .int 0, .ref (xq 2), .int 0, .ref (xq 3), .ref (xq 4), .int 1, .ref (xq 5), .ref (xq 6), .ref (xq 7), .ref (xq 8), .ref (xq 9)])), (m0, .inr (1, fs_3))] _ := hP
  have hD : va_D A [(x0, .inr (0, [.ref (xq 0), .int 0, .int 108, .ref (xq 1), .int 0, .ref (xq 2), .int 0, .ref (xq 3), .ref (xq 4), .int 1, .ref (xq 5), .ref (xq 6), .ref (xq 7), .ref (xq 8), .ref (xq 9)])), (m0, .inr (1, fs_3))] := hD
  refine lv_istore (lv' := [(7, .int r_1), (6, .int 1), (0, .ref b), (1, .ref x0), (2, .ref m0), (3, .ref o0), (4, .ref d0), (5, .int 0)]) hx hb dL_law_2399 hl (by decide) rfl (fun ls hl => ?_)
  refine lv_aload_n hx hb dL_law_2401 rfl (lv_at hl 4 rfl) ?_
  have hF := pv_new hA hS.1
  refine va_calli (va_runV (As := []) (rest := []) ⟨hx, hb, hml, hown, hts⟩ (c_X13_thrown l hfl D _ m0 fs_3 1 hf_4) (cwV 0 hts (pv_gV w9_102 w9_103 w9_104 w1_10 w9_105) rfl rfl rfl (by decide +kernel) ⟨Nat.le_of_ble_eq_true rfl, Nat.le_of_ble_eq_true rfl⟩) (pv_pV hE hS hF (hP.sub [1] rfl) (hK.sub [] rfl) (hD.sub [1] (by decide) rfl) (va_recv (ci := 1) (q0 := 1) hK hP rfl rfl)) rfl rfl hl.1 rfl (lv_room (Nat.le_of_ble_eq_true rfl)) dL_law_2402 ⟨Nat.le_of_ble_eq_true rfl, Nat.le_of_ble_eq_true rfl⟩) hS (fun q _ h => hF q h) hF (fun r_4 u t H1 locs1 ht hvm hw hB hz1 hk1 hS => ?_)
  refine W.widen (k := 398) (n := 653827) (Nat.le_of_ble_eq_true rfl) (Nat.le_of_ble_eq_true rfl) ?_
  have hP := pv_keep hP rfl hk1
  subst hw
  refine lv_iload hx hb dL_law_2405 (lv_at hl 1 rfl) ?_
  refine lv_icmp_eq (tgt := 2412) hx hb dL_law_2407 (by decide) (fun _ => ?_) (fun c_6 => absurd (by decide) c_6)
  refine lv_iload hx hb dL_law_2412 (lv_at hl 1 rfl) ?_
  refine lv_if_ne (tgt := 2429) hx hb dL_law_2414 (by decide) (fun _ => ?_) (fun c_7 => absurd c_7 (by decide))
  refine lv_goto (tgt := 3721) hx hb dL_law_2429 (by decide) ?_
  refine lv_iinc (v := 7) (lv' := [(5, .int 7), (7, .int r_1), (6, .int 1), (0, .ref b), (1, .ref x0), (2, .ref m0), (3, .ref o0), (4, .ref d0)]) hx hb dL_law_3721 hl (k := 7) rfl (by decide) (by decide) rfl (fun ls hl => ?_)
  refine lv_goto (tgt := 28) hx hb dL_law_3724 (by decide) ?_
  refine lv_iload hx hb dL_law_28 (lv_at hl 0 rfl) ?_
  refine pv_pc 30 rfl ?_
  refine lv_aload_n hx hb dL_law_30 rfl (lv_at hl 3 rfl) ?_
  refine va_slen hx hb hX hbl hbA hS dL_law_31 ?_
  refine pv_setI 7 rfl ?_
  refine lv_bipush (v := 7) hx hb dL_law_32 (by decide) ?_
  refine lv_isub hx hb dL_law_34 ?_
  refine pv_setI 0 (by decide) ?_
  refine lv_icmp_gt (tgt := 3727) hx hb dL_law_35 (by decide) (fun _ => ?_) (fun c_8 => absurd (by decide) c_8)
  refine lv_iconst (v := 1) hx hb dL_law_3727 (by decide) ?_
  refine va_forget (fun q hq => hAf _ (hS.2.2 q hq)) ?_
  refine W.widen (k := 600006) (n := 7302064) (Nat.le_of_ble_eq_true rfl) (Nat.le_of_ble_eq_true rfl) ?_
  exact lw_ret (d0 := s.drawn) (Drawn.sameBut.refl s.drawn lw_cs) hx hb hr hlocks dL_law_3728

theorem dL_law_2432 : decode cL_law 2432 = .ok (.aload_n 1, 1) := by decide +kernel
theorem dL_law_2433 : decode cL_law 2433 = .ok (.aload_n 0, 1) := by decide +kernel
theorem dL_law_2434 : decode cL_law 2434 = .ok (.iload 5, 2) := by decide +kernel
theorem dL_law_2436 : decode cL_law 2436 = .ok (.iconst 1, 1) := by decide +kernel
theorem dL_law_2437 : decode cL_law 2437 = .ok (.iadd, 1) := by decide +kernel
theorem dL_law_2438 : decode cL_law 2438 = .ok (.iaload, 1) := by decide +kernel
theorem dL_law_2439 : decode cL_law 2439 = .ok (.aload_n 0, 1) := by decide +kernel
theorem dL_law_2440 : decode cL_law 2440 = .ok (.iload 5, 2) := by decide +kernel
theorem dL_law_2442 : decode cL_law 2442 = .ok (.iconst 2, 1) := by decide +kernel
theorem dL_law_2443 : decode cL_law 2443 = .ok (.iadd, 1) := by decide +kernel
theorem dL_law_2444 : decode cL_law 2444 = .ok (.iaload, 1) := by decide +kernel
theorem dL_law_2445 : decode cL_law 2445 = .ok (.aload_n 0, 1) := by decide +kernel
theorem dL_law_2446 : decode cL_law 2446 = .ok (.iload 5, 2) := by decide +kernel
theorem dL_law_2448 : decode cL_law 2448 = .ok (.iconst 3, 1) := by decide +kernel
theorem dL_law_2449 : decode cL_law 2449 = .ok (.iadd, 1) := by decide +kernel
theorem dL_law_2450 : decode cL_law 2450 = .ok (.iaload, 1) := by decide +kernel
theorem dL_law_2451 : decode cL_law 2451 = .ok (.aload_n 3, 1) := by decide +kernel
theorem dL_law_2452 : decode cL_law 2452 = .ok (.invokestatic 303, 3) := by decide +kernel
theorem w7_128 : (Jvm.Cond.methodLink "PolyforgeLaw" (303 : Nat) ({ cls := "PolyforgeLaw", name := "partial", desc := "(LPolyforge;III[J)I" } : Jvm.MethodName)) ∈ lw_tbl := pv_t7 (pv_mg 128 rfl)
theorem w7_130 : (Jvm.Cond.codeWith ({ cls := "PolyforgeLaw", name := "partial", desc := "(LPolyforge;III[J)I" } : Jvm.MethodName) method_35_code (6 : Nat) (Option.some Jvm.ClassFile.FieldType.int) [((0 : Nat), (12 : Nat), (15 : Nat), (23 : Nat)), ((0 : Nat), (12 : Nat), (19 : Nat), (25 : Nat)), ((0 : Nat), (12 : Nat), (23 : Nat), (55 : Nat)), ((0 : Nat), (12 : Nat), (27 : Nat), (15 : Nat))]) ∈ lw_tbl := pv_t7 (pv_mg 130 rfl)
theorem w7_129 : (Jvm.Cond.static ({ cls := "PolyforgeLaw", name := "partial", desc := "(LPolyforge;III[J)I" } : Jvm.MethodName)) ∈ lw_tbl := pv_t7 (pv_mg 129 rfl)
theorem dL_law_2455 : decode cL_law 2455 = .ok (.istore 6, 2) := by decide +kernel
theorem dL_law_2457 : decode cL_law 2457 = .ok (.aload_n 2, 1) := by decide +kernel
theorem dL_law_2458 : decode cL_law 2458 = .ok (.aload_n 0, 1) := by decide +kernel
theorem dL_law_2459 : decode cL_law 2459 = .ok (.iload 5, 2) := by decide +kernel
theorem dL_law_2461 : decode cL_law 2461 = .ok (.iconst 1, 1) := by decide +kernel
theorem dL_law_2462 : decode cL_law 2462 = .ok (.iadd, 1) := by decide +kernel
theorem dL_law_2463 : decode cL_law 2463 = .ok (.iaload, 1) := by decide +kernel
theorem dL_law_2464 : decode cL_law 2464 = .ok (.aload_n 0, 1) := by decide +kernel
theorem dL_law_2465 : decode cL_law 2465 = .ok (.iload 5, 2) := by decide +kernel
theorem dL_law_2467 : decode cL_law 2467 = .ok (.iconst 2, 1) := by decide +kernel
theorem dL_law_2468 : decode cL_law 2468 = .ok (.iadd, 1) := by decide +kernel
theorem dL_law_2469 : decode cL_law 2469 = .ok (.iaload, 1) := by decide +kernel
theorem dL_law_2470 : decode cL_law 2470 = .ok (.aload_n 0, 1) := by decide +kernel
theorem dL_law_2471 : decode cL_law 2471 = .ok (.iload 5, 2) := by decide +kernel
theorem dL_law_2473 : decode cL_law 2473 = .ok (.iconst 3, 1) := by decide +kernel
theorem dL_law_2474 : decode cL_law 2474 = .ok (.iadd, 1) := by decide +kernel
theorem dL_law_2475 : decode cL_law 2475 = .ok (.iaload, 1) := by decide +kernel
theorem dL_law_2476 : decode cL_law 2476 = .ok (.invokevirtual 305, 3) := by decide +kernel
theorem w10_186 : (Jvm.Cond.methodLink "PolyforgeLaw" (305 : Nat) ({ cls := "PolyforgeModel", name := "partial", desc := "(III)I" } : Jvm.MethodName)) ∈ lw_tbl := pv_t10 (pv_mg 186 rfl)
theorem w10_189 : (Jvm.Cond.code ({ cls := "PolyforgeModel", name := "partial", desc := "(III)I" } : Jvm.MethodName) prog_14_method_87_code (6 : Nat) (Option.some Jvm.ClassFile.FieldType.int)) ∈ lw_tbl := pv_t10 (pv_mg 189 rfl)
theorem w10_188 : (Jvm.Cond.selects "PolyforgeModel" ({ cls := "PolyforgeModel", name := "partial", desc := "(III)I" } : Jvm.MethodName) ({ cls := "PolyforgeModel", name := "partial", desc := "(III)I" } : Jvm.MethodName)) ∈ lw_tbl := pv_t10 (pv_mg 188 rfl)
theorem w10_187 : (Jvm.Cond.instanceMethod ({ cls := "PolyforgeModel", name := "partial", desc := "(III)I" } : Jvm.MethodName)) ∈ lw_tbl := pv_t10 (pv_mg 187 rfl)
theorem dL_law_2479 : decode cL_law 2479 = .ok (.istore 7, 2) := by decide +kernel
theorem dL_law_2481 : decode cL_law 2481 = .ok (.aload_n 2, 1) := by decide +kernel
theorem dL_law_2482 : decode cL_law 2482 = .ok (.invokevirtual 199, 3) := by decide +kernel
theorem dL_law_2485 : decode cL_law 2485 = .ok (.iload 6, 2) := by decide +kernel
theorem dL_law_2487 : decode cL_law 2487 = .ok (.if_icmp .eq 5, 3) := by decide +kernel
theorem dL_law_2492 : decode cL_law 2492 = .ok (.iload 6, 2) := by decide +kernel
theorem dL_law_2494 : decode cL_law 2494 = .ok (.ifCond .ne 15, 3) := by decide +kernel
theorem dL_law_2509 : decode cL_law 2509 = .ok (.goto 1212, 3) := by decide +kernel
set_option maxHeartbeats 4000000 in
set_option maxRecDepth 100000 in
/-- the law, call 33: partial -/
theorem law_case_33 {p : Program} {e : Env} {s : State} {m : MethodId} {below : List Frame} {meth : Method} {c : Code} (l : Launch) (hfl : l.stackTraces = false) {b : Nat} {xs : Nat → Int32} (C0 : lw_At p s m meth c b 7 xs) {D : va_G} {A : Nat → Prop} (hA : ∀ q : Nat, s.heap.size ≤ q → A q) (hAf : ∀ q : Nat, A q → s.heap.size ≤ q) (hbA : ¬ A b) (hE : pv_E A s s.heap) {x0 m0 o0 d0 : Nat} {xq xw mq : Nat → Nat} {xJ xP xO xC xI mI mI2 mI3 mT mC oL : ClassId} {xsg xsf msg msf : Nat → Int32} (hxsg : ∀ j, j < 3 → xsg j = 63) (hmsg : ∀ j, j < 3 → msg j = 63) {H : Heap} {locs : List Loc} (hK : va_K D pv_cl [(xJ, .long), (xP, .object "Polyforge$Polynomial"), (xO, .object "Polyforge$Ideal"), (xC, .char), (xI, .int), (mI, .int), (mT, .object "PolyforgeModel$Terms"), (mI2, .int), (mC, .char), (mI3, .int), (oL, .long)] s) (hP : va_P D pv_cl [(x0, .inr (0, [.ref (xq 0), .int 0, .int 108, .ref (xq 1), .int 0, .ref (xq 2), .int 0, .ref (xq 3), .ref (xq 4), .int 1, .ref (xq 5), .ref (xq 6), .ref (xq 7), .ref (xq 8), .ref (xq 9)])), ((xq 6), .inr (2, [.ref (xw 0), .ref (xw 1), .ref (xw 2), .ref (xw 3), .int 0, .int 0])), ((xw 2), .inl (xJ, 64, .inr (.inl (fun _ => 0)))), ((xq 0), .inl (xP, 60, .inr (.inr (.inr (.inr (fun _ => none)))))), ((xq 1), .inl (xO, 5, .inr (.inr (.inr (.inr (fun _ => none)))))), ((xq 3), .inl (xC, 3, .inl xsg)), ((xq 4), .inl (xI, 3, .inl xsf)), (m0, .inr (1, pv_m 0 mq)), ((mq 0), .inl (mI, 60, .inl (fun _ => 0))), ((mq 1), .inl (mT, 60, .inr (.inr (.inr (.inr (fun _ => none)))))), ((mq 2), .inl (mI2, 5, .inl (fun _ => 0))), ((mq 9), .inl (mC, 3, .inl msg)), ((mq 10), .inl (mI3, 3, .inl msf)), (o0, .inl (oL, 1, .inr (.inl (fun _ => 0))))] H) (hD : va_D A [(x0, .inr (0, [.ref (xq 0), .int 0, .int 108, .ref (xq 1), .int 0, .ref (xq 2), .int 0, .ref (xq 3), .ref (xq 4), .int 1, .ref (xq 5), .ref (xq 6), .ref (xq 7), .ref (xq 8), .ref (xq 9)])), ((xq 6), .inr (2, [.ref (xw 0), .ref (xw 1), .ref (xw 2), .ref (xw 3), .int 0, .int 0])), ((xw 2), .inl (xJ, 64, .inr (.inl (fun _ => 0)))), ((xq 0), .inl (xP, 60, .inr (.inr (.inr (.inr (fun _ => none)))))), ((xq 1), .inl (xO, 5, .inr (.inr (.inr (.inr (fun _ => none)))))), ((xq 3), .inl (xC, 3, .inl xsg)), ((xq 4), .inl (xI, 3, .inl xsf)), (m0, .inr (1, pv_m 0 mq)), ((mq 0), .inl (mI, 60, .inl (fun _ => 0))), ((mq 1), .inl (mT, 60, .inr (.inr (.inr (.inr (fun _ => none)))))), ((mq 2), .inl (mI2, 5, .inl (fun _ => 0))), ((mq 9), .inl (mC, 3, .inl msg)), ((mq 10), .inl (mI3, 3, .inl msf)), (o0, .inl (oL, 1, .inr (.inl (fun _ => 0))))]) (hS : va_S A s.heap H locs) {ls : Array Slot} (hl : lv_has ls 9 [(0, .ref b), (1, .ref x0), (2, .ref m0), (3, .ref o0), (4, .ref d0), (5, .int 0)]) : W p l e room_1 s m #[Value.ref b] below meth c H locs 397 653821 (lw_Z below #[Value.ref b] s) (F0 m 2432 ls []) := by
  obtain ⟨hx, hb, hr, hml, hown, hts0, hX, hbl, hlocks, hgv⟩ := C0
  have hts : ∀ w ∈ pv_W, w.before #[Value.ref b] s = true := fun w h => hts0 w (List.mem_filter.mp h).1
  have hg := fun {w : Cond} (h : w ∈ lw_tbl) (g : goodWord w = true) => hts w (pv_in h g)
  have hP : va_P D pv_cl [(x0, .inr (0, [.ref (xq 0), .int 0, .int 108, .ref (xq 1), .int 0, .ref (xq 2), .int 0, .ref (xq 3), .ref (xq 4), .int 1, .ref (xq 5), .ref (xq 6), .ref (xq 7), .ref (xq 8), .ref (xq 9)])), (m0, .inr (1, pv_m 0 mq))] _ := hP.sub [0, 7] rfl
  have hD : va_D A [(x0, .inr (0, [.ref (xq 0), .int 0, .int 108, .ref (xq 1), .int 0, .ref (xq 2), .int 0, .ref (xq 3), .ref (xq 4), .int 1, .ref (xq 5), .ref (xq 6), .ref (xq 7), .ref (xq 8), .ref (xq 9)])), (m0, .inr (1, pv_m 0 mq))] := hD.sub [0, 7] (by decide) rfl
  have hK : va_K D pv_cl [] s := hK.sub [] rfl
  refine lv_aload_n hx hb dL_law_2432 rfl (lv_at hl 1 rfl) ?_
  refine lv_aload_n hx hb dL_law_2433 rfl (lv_at hl 0 rfl) ?_
  refine lv_iload hx hb dL_law_2434 (lv_at hl 5 rfl) ?_
  refine lv_iconst (v := 1) hx hb dL_law_2436 (by decide) ?_
  refine lv_iadd hx hb dL_law_2437 ?_
  refine pv_setI 1 (by decide) ?_
  refine va_sld hx hb hX hbl hbA hS (by unfold vp_in; decide) dL_law_2438 ?_
  refine pv_setI (xs 1) rfl ?_
  refine lv_aload_n hx hb dL_law_2439 rfl (lv_at hl 0 rfl) ?_
  refine lv_iload hx hb dL_law_2440 (lv_at hl 5 rfl) ?_
  refine lv_iconst (v := 2) hx hb dL_law_2442 (by decide) ?_
  refine lv_iadd hx hb dL_law_2443 ?_
  refine pv_setI 2 (by decide) ?_
  refine va_sld hx hb hX hbl hbA hS (by unfold vp_in; decide) dL_law_2444 ?_
  refine pv_setI (xs 2) rfl ?_
  refine pv_pc 2445 rfl ?_
  refine lv_aload_n hx hb dL_law_2445 rfl (lv_at hl 0 rfl) ?_
  refine lv_iload hx hb dL_law_2446 (lv_at hl 5 rfl) ?_
  refine lv_iconst (v := 3) hx hb dL_law_2448 (by decide) ?_
  refine lv_iadd hx hb dL_law_2449 ?_
  refine pv_setI 3 (by decide) ?_
  refine va_sld hx hb hX hbl hbA hS (by unfold vp_in; decide) dL_law_2450 ?_
  refine pv_setI (xs 3) rfl ?_
  refine lv_aload_n hx hb dL_law_2451 rfl (lv_at hl 3 rfl) ?_
  have hF := pv_new hA hS.1
  refine va_calli (vx_runSW (As := [.ref x0, .int (xs 1), .int (xs 2), .int (xs 3), .ref o0]) (rest := []) ⟨hx, hb, hml, hown, hts⟩ (c_L_partial l hfl D _ x0 xq (xs 1) (xs 2) (xs 3) o0) (vx_cwSW 5 hts (pv_gSW w7_128 w7_129 w1_0 w7_130) rfl rfl rfl (by decide +kernel) ⟨Nat.le_of_ble_eq_true rfl, Nat.le_of_ble_eq_true rfl⟩) (pv_ps hE hS hF (hP.sub [0] rfl) (hK.sub [] rfl) (hD.sub [0] (by decide) rfl)) rfl rfl hl.1 rfl (lv_room (Nat.le_of_ble_eq_true rfl)) dL_law_2452 ⟨Nat.le_of_ble_eq_true rfl, Nat.le_of_ble_eq_true rfl⟩) hS (fun q _ h => hF q h) hF (fun r_0 u t H1 locs1 ht hvm hw hB hz1 hk1 hS => ?_)
  refine W.widen (k := 398) (n := 653827) (Nat.le_of_ble_eq_true rfl) (Nat.le_of_ble_eq_true rfl) ?_
  have hP := pv_keep hP rfl hk1
  subst hw
  refine lv_istore (lv' := [(6, .int 1), (0, .ref b), (1, .ref x0), (2, .ref m0), (3, .ref o0), (4, .ref d0), (5, .int 0)]) hx hb dL_law_2455 hl (by decide) rfl (fun ls hl => ?_)
  refine lv_aload_n hx hb dL_law_2457 rfl (lv_at hl 3 rfl) ?_
  refine lv_aload_n hx hb dL_law_2458 rfl (lv_at hl 1 rfl) ?_
  refine lv_iload hx hb dL_law_2459 (lv_at hl 6 rfl) ?_
  refine lv_iconst (v := 1) hx hb dL_law_2461 (by decide) ?_
  refine pv_pc 2462 rfl ?_
  refine lv_iadd hx hb dL_law_2462 ?_
  refine pv_setI 1 (by decide) ?_
  refine va_sld hx hb hX hbl hbA hS (by unfold vp_in; decide) dL_law_2463 ?_
  refine pv_setI (xs 1) rfl ?_
  refine lv_aload_n hx hb dL_law_2464 rfl (lv_at hl 1 rfl) ?_
  refine lv_iload hx hb dL_law_2465 (lv_at hl 6 rfl) ?_
  refine lv_iconst (v := 2) hx hb dL_law_2467 (by decide) ?_
  refine lv_iadd hx hb dL_law_2468 ?_
  refine pv_setI 2 (by decide) ?_
  refine va_sld hx hb hX hbl hbA hS (by unfold vp_in; decide) dL_law_2469 ?_
  refine pv_setI (xs 2) rfl ?_
  refine lv_aload_n hx hb dL_law_2470 rfl (lv_at hl 1 rfl) ?_
  refine lv_iload hx hb dL_law_2471 (lv_at hl 6 rfl) ?_
  refine lv_iconst (v := 3) hx hb dL_law_2473 (by decide) ?_
  refine lv_iadd hx hb dL_law_2474 ?_
  refine pv_setI 3 (by decide) ?_
  refine va_sld hx hb hX hbl hbA hS (by unfold vp_in; decide) dL_law_2475 ?_
  refine pv_setI (xs 3) rfl ?_
  refine pv_pc 2476 rfl ?_
  have hF := va_free (wc := [(m0, .inr (1, pv_m 0 mq))]) hD hS hA [1] rfl
  refine va_calli (va_runV (As := [.int (xs 1), .int (xs 2), .int (xs 3)]) (rest := []) ⟨hx, hb, hml, hown, hts⟩ (c_X13_partial l hfl D _ m0 mq (xs 1) (xs 2) (xs 3)) (cwV 3 hts (pv_gV w10_186 w10_187 w10_188 w1_10 w10_189) rfl rfl rfl (by decide +kernel) ⟨Nat.le_of_ble_eq_true rfl, Nat.le_of_ble_eq_true rfl⟩) (pv_pV hE hS hF (hP.sub [1] rfl) (hK.sub [] rfl) (hD.sub [1] (by decide) rfl) (va_recv (ci := 1) (q0 := 1) hK hP rfl rfl)) rfl rfl hl.1 rfl (lv_room (Nat.le_of_ble_eq_true rfl)) dL_law_2476 ⟨Nat.le_of_ble_eq_true rfl, Nat.le_of_ble_eq_true rfl⟩) hS (fun q _ h => hF q h) hF (fun r_1 u t H1 locs1 ht hvm hw hB hz1 hk1 hS => ?_)
  refine W.widen (k := 398) (n := 653827) (Nat.le_of_ble_eq_true rfl) (Nat.le_of_ble_eq_true rfl) ?_
  subst hw
  obtain ⟨fs_3, hf_4, hP1, hK1, hD1⟩ := hB
  rw [ht] at hP1
  have hK1 := va_K.moved hvm.symm hK1
  obtain ⟨hP, hD⟩ := va_join (wr := [(x0, .inr (0, [.ref (xq 0), .int 0, .int 108, .ref (xq 1), .int 0, .ref (xq 2), .int 0, .ref (xq 3), .ref (xq 4), .int 1, .ref (xq 5), .ref (xq 6), .ref (xq 7), .ref (xq 8), .ref (xq 9)]))]) (w1 := [(m0, .inr (1, fs_3))]) hP hD [1] [0] rfl rfl (by decide) (by decide) hk1 hF hP1 hD1
  have hP : va_P D pv_cl [(x0, .inr (0, [.ref (xq 0), .int 0, .int 108, .ref (xq 1), .int 0, .ref (xq 2), .int 0, .ref (xq 3), .ref (xq 4), .int 1, .ref (xq 5), .ref (xq 6), .ref (xq 7), .ref (xq 8), .ref (xq 9)])), (m0, .inr (1, fs_3))] _ := hP
  have hD : va_D A [(x0, .inr (0, [.ref (xq 0), .int 0, .int 108, .ref (xq 1), .int 0, .ref (xq 2), .int 0, .ref (xq 3), .ref (xq 4), .int 1, .ref (xq 5), .ref (xq 6), .ref (xq 7), .ref (xq 8), .ref (xq 9)])), (m0, .inr (1, fs_3))] := hD
  refine lv_istore (lv' := [(7, .int r_1), (6, .int 1), (0, .ref b), (1, .ref x0), (2, .ref m0), (3, .ref o0), (4, .ref d0), (5, .int 0)]) hx hb dL_law_2479 hl (by decide) rfl (fun ls hl => ?_)
  refine lv_aload_n hx hb dL_law_2481 rfl (lv_at hl 4 rfl) ?_
  have hF := pv_new hA hS.1
  refine va_calli (va_runV (As := []) (rest := []) ⟨hx, hb, hml, hown, hts⟩ (c_X13_thrown l hfl D _ m0 fs_3 1 hf_4) (cwV 0 hts (pv_gV w9_102 w9_103 w9_104 w1_10 w9_105) rfl rfl rfl (by decide +kernel) ⟨Nat.le_of_ble_eq_true rfl, Nat.le_of_ble_eq_true rfl⟩) (pv_pV hE hS hF (hP.sub [1] rfl) (hK.sub [] rfl) (hD.sub [1] (by decide) rfl) (va_recv (ci := 1) (q0 := 1) hK hP rfl rfl)) rfl rfl hl.1 rfl (lv_room (Nat.le_of_ble_eq_true rfl)) dL_law_2482 ⟨Nat.le_of_ble_eq_true rfl, Nat.le_of_ble_eq_true rfl⟩) hS (fun q _ h => hF q h) hF (fun r_4 u t H1 locs1 ht hvm hw hB hz1 hk1 hS => ?_)
  refine W.widen (k := 398) (n := 653827) (Nat.le_of_ble_eq_true rfl) (Nat.le_of_ble_eq_true rfl) ?_
  have hP := pv_keep hP rfl hk1
  subst hw
  refine lv_iload hx hb dL_law_2485 (lv_at hl 1 rfl) ?_
  refine lv_icmp_eq (tgt := 2492) hx hb dL_law_2487 (by decide) (fun _ => ?_) (fun c_6 => absurd (by decide) c_6)
  refine lv_iload hx hb dL_law_2492 (lv_at hl 1 rfl) ?_
  refine lv_if_ne (tgt := 2509) hx hb dL_law_2494 (by decide) (fun _ => ?_) (fun c_7 => absurd c_7 (by decide))
  refine lv_goto (tgt := 3721) hx hb dL_law_2509 (by decide) ?_
  refine lv_iinc (v := 7) (lv' := [(5, .int 7), (7, .int r_1), (6, .int 1), (0, .ref b), (1, .ref x0), (2, .ref m0), (3, .ref o0), (4, .ref d0)]) hx hb dL_law_3721 hl (k := 7) rfl (by decide) (by decide) rfl (fun ls hl => ?_)
  refine lv_goto (tgt := 28) hx hb dL_law_3724 (by decide) ?_
  refine lv_iload hx hb dL_law_28 (lv_at hl 0 rfl) ?_
  refine pv_pc 30 rfl ?_
  refine lv_aload_n hx hb dL_law_30 rfl (lv_at hl 3 rfl) ?_
  refine va_slen hx hb hX hbl hbA hS dL_law_31 ?_
  refine pv_setI 7 rfl ?_
  refine lv_bipush (v := 7) hx hb dL_law_32 (by decide) ?_
  refine lv_isub hx hb dL_law_34 ?_
  refine pv_setI 0 (by decide) ?_
  refine lv_icmp_gt (tgt := 3727) hx hb dL_law_35 (by decide) (fun _ => ?_) (fun c_8 => absurd (by decide) c_8)
  refine lv_iconst (v := 1) hx hb dL_law_3727 (by decide) ?_
  refine va_forget (fun q hq => hAf _ (hS.2.2 q hq)) ?_
  refine W.widen (k := 600006) (n := 7302064) (Nat.le_of_ble_eq_true rfl) (Nat.le_of_ble_eq_true rfl) ?_
  exact lw_ret (d0 := s.drawn) (Drawn.sameBut.refl s.drawn lw_cs) hx hb hr hlocks dL_law_3728

theorem dL_law_2568 : decode cL_law 2568 = .ok (.aload_n 1, 1) := by decide +kernel
theorem dL_law_2569 : decode cL_law 2569 = .ok (.aload_n 0, 1) := by decide +kernel
theorem dL_law_2570 : decode cL_law 2570 = .ok (.iload 5, 2) := by decide +kernel
theorem dL_law_2572 : decode cL_law 2572 = .ok (.iconst 1, 1) := by decide +kernel
theorem dL_law_2573 : decode cL_law 2573 = .ok (.iadd, 1) := by decide +kernel
theorem dL_law_2574 : decode cL_law 2574 = .ok (.iaload, 1) := by decide +kernel
theorem dL_law_2575 : decode cL_law 2575 = .ok (.aload_n 0, 1) := by decide +kernel
theorem dL_law_2576 : decode cL_law 2576 = .ok (.iload 5, 2) := by decide +kernel
theorem dL_law_2578 : decode cL_law 2578 = .ok (.iconst 2, 1) := by decide +kernel
theorem dL_law_2579 : decode cL_law 2579 = .ok (.iadd, 1) := by decide +kernel
theorem dL_law_2580 : decode cL_law 2580 = .ok (.iaload, 1) := by decide +kernel
theorem dL_law_2581 : decode cL_law 2581 = .ok (.aload_n 3, 1) := by decide +kernel
theorem dL_law_2582 : decode cL_law 2582 = .ok (.invokestatic 309, 3) := by decide +kernel
theorem w7_183 : (Jvm.Cond.methodLink "PolyforgeLaw" (309 : Nat) ({ cls := "PolyforgeLaw", name := "addGenerator", desc := "(LPolyforge;II[J)I" } : Jvm.MethodName)) ∈ lw_tbl := pv_t7 (pv_mg 183 rfl)
theorem w7_185 : (Jvm.Cond.codeWith ({ cls := "PolyforgeLaw", name := "addGenerator", desc := "(LPolyforge;II[J)I" } : Jvm.MethodName) method_37_code (5 : Nat) (Option.some Jvm.ClassFile.FieldType.int) [((0 : Nat), (10 : Nat), (13 : Nat), (55 : Nat)), ((0 : Nat), (10 : Nat), (17 : Nat), (23 : Nat)), ((0 : Nat), (10 : Nat), (21 : Nat), (25 : Nat)), ((0 : Nat), (10 : Nat), (25 : Nat), (15 : Nat))]) ∈ lw_tbl := pv_t7 (pv_mg 185 rfl)
theorem w7_184 : (Jvm.Cond.static ({ cls := "PolyforgeLaw", name := "addGenerator", desc := "(LPolyforge;II[J)I" } : Jvm.MethodName)) ∈ lw_tbl := pv_t7 (pv_mg 184 rfl)
theorem dL_law_2585 : decode cL_law 2585 = .ok (.istore 6, 2) := by decide +kernel
theorem dL_law_2587 : decode cL_law 2587 = .ok (.aload_n 2, 1) := by decide +kernel
theorem dL_law_2588 : decode cL_law 2588 = .ok (.aload_n 0, 1) := by decide +kernel
theorem dL_law_2589 : decode cL_law 2589 = .ok (.iload 5, 2) := by decide +kernel
theorem dL_law_2591 : decode cL_law 2591 = .ok (.iconst 1, 1) := by decide +kernel
theorem dL_law_2592 : decode cL_law 2592 = .ok (.iadd, 1) := by decide +kernel
theorem dL_law_2593 : decode cL_law 2593 = .ok (.iaload, 1) := by decide +kernel
theorem dL_law_2594 : decode cL_law 2594 = .ok (.aload_n 0, 1) := by decide +kernel
theorem dL_law_2595 : decode cL_law 2595 = .ok (.iload 5, 2) := by decide +kernel
theorem dL_law_2597 : decode cL_law 2597 = .ok (.iconst 2, 1) := by decide +kernel
theorem dL_law_2598 : decode cL_law 2598 = .ok (.iadd, 1) := by decide +kernel
theorem dL_law_2599 : decode cL_law 2599 = .ok (.iaload, 1) := by decide +kernel
theorem dL_law_2600 : decode cL_law 2600 = .ok (.invokevirtual 311, 3) := by decide +kernel
theorem w10_201 : (Jvm.Cond.methodLink "PolyforgeLaw" (311 : Nat) ({ cls := "PolyforgeModel", name := "addGenerator", desc := "(II)I" } : Jvm.MethodName)) ∈ lw_tbl := pv_t10 (pv_mg 201 rfl)
theorem w10_204 : (Jvm.Cond.code ({ cls := "PolyforgeModel", name := "addGenerator", desc := "(II)I" } : Jvm.MethodName) prog_14_method_99_code (3 : Nat) (Option.some Jvm.ClassFile.FieldType.int)) ∈ lw_tbl := pv_t10 (pv_mg 204 rfl)
theorem w10_203 : (Jvm.Cond.selects "PolyforgeModel" ({ cls := "PolyforgeModel", name := "addGenerator", desc := "(II)I" } : Jvm.MethodName) ({ cls := "PolyforgeModel", name := "addGenerator", desc := "(II)I" } : Jvm.MethodName)) ∈ lw_tbl := pv_t10 (pv_mg 203 rfl)
theorem w10_202 : (Jvm.Cond.instanceMethod ({ cls := "PolyforgeModel", name := "addGenerator", desc := "(II)I" } : Jvm.MethodName)) ∈ lw_tbl := pv_t10 (pv_mg 202 rfl)
theorem dL_law_2603 : decode cL_law 2603 = .ok (.istore 7, 2) := by decide +kernel
theorem dL_law_2605 : decode cL_law 2605 = .ok (.aload_n 2, 1) := by decide +kernel
theorem dL_law_2606 : decode cL_law 2606 = .ok (.invokevirtual 199, 3) := by decide +kernel
theorem dL_law_2609 : decode cL_law 2609 = .ok (.iload 6, 2) := by decide +kernel
theorem dL_law_2611 : decode cL_law 2611 = .ok (.if_icmp .eq 5, 3) := by decide +kernel
theorem dL_law_2616 : decode cL_law 2616 = .ok (.iload 6, 2) := by decide +kernel
theorem dL_law_2618 : decode cL_law 2618 = .ok (.ifCond .ne 15, 3) := by decide +kernel
theorem dL_law_2633 : decode cL_law 2633 = .ok (.goto 1088, 3) := by decide +kernel
set_option maxHeartbeats 4000000 in
set_option maxRecDepth 100000 in
/-- the law, call 35: addGenerator -/
theorem law_case_35 {p : Program} {e : Env} {s : State} {m : MethodId} {below : List Frame} {meth : Method} {c : Code} (l : Launch) (hfl : l.stackTraces = false) {b : Nat} {xs : Nat → Int32} (C0 : lw_At p s m meth c b 7 xs) {D : va_G} {A : Nat → Prop} (hA : ∀ q : Nat, s.heap.size ≤ q → A q) (hAf : ∀ q : Nat, A q → s.heap.size ≤ q) (hbA : ¬ A b) (hE : pv_E A s s.heap) {x0 m0 o0 d0 : Nat} {xq xw mq : Nat → Nat} {xJ xP xO xC xI mI mI2 mI3 mT mC oL : ClassId} {xsg xsf msg msf : Nat → Int32} (hxsg : ∀ j, j < 3 → xsg j = 63) (hmsg : ∀ j, j < 3 → msg j = 63) {H : Heap} {locs : List Loc} (hK : va_K D pv_cl [(xJ, .long), (xP, .object "Polyforge$Polynomial"), (xO, .object "Polyforge$Ideal"), (xC, .char), (xI, .int), (mI, .int), (mT, .object "PolyforgeModel$Terms"), (mI2, .int), (mC, .char), (mI3, .int), (oL, .long)] s) (hP : va_P D pv_cl [(x0, .inr (0, [.ref (xq 0), .int 0, .int 108, .ref (xq 1), .int 0, .ref (xq 2), .int 0, .ref (xq 3), .ref (xq 4), .int 1, .ref (xq 5), .ref (xq 6), .ref (xq 7), .ref (xq 8), .ref (xq 9)])), ((xq 6), .inr (2, [.ref (xw 0), .ref (xw 1), .ref (xw 2), .ref (xw 3), .int 0, .int 0])), ((xw 2), .inl (xJ, 64, .inr (.inl (fun _ => 0)))), ((xq 0), .inl (xP, 60, .inr (.inr (.inr (.inr (fun _ => none)))))), ((xq 1), .inl (xO, 5, .inr (.inr (.inr (.inr (fun _ => none)))))), ((xq 3), .inl (xC, 3, .inl xsg)), ((xq 4), .inl (xI, 3, .inl xsf)), (m0, .inr (1, pv_m 0 mq)), ((mq 0), .inl (mI, 60, .inl (fun _ => 0))), ((mq 1), .inl (mT, 60, .inr (.inr (.inr (.inr (fun _ => none)))))), ((mq 2), .inl (mI2, 5, .inl (fun _ => 0))), ((mq 9), .inl (mC, 3, .inl msg)), ((mq 10), .inl (mI3, 3, .inl msf)), (o0, .inl (oL, 1, .inr (.inl (fun _ => 0))))] H) (hD : va_D A [(x0, .inr (0, [.ref (xq 0), .int 0, .int 108, .ref (xq 1), .int 0, .ref (xq 2), .int 0, .ref (xq 3), .ref (xq 4), .int 1, .ref (xq 5), .ref (xq 6), .ref (xq 7), .ref (xq 8), .ref (xq 9)])), ((xq 6), .inr (2, [.ref (xw 0), .ref (xw 1), .ref (xw 2), .ref (xw 3), .int 0, .int 0])), ((xw 2), .inl (xJ, 64, .inr (.inl (fun _ => 0)))), ((xq 0), .inl (xP, 60, .inr (.inr (.inr (.inr (fun _ => none)))))), ((xq 1), .inl (xO, 5, .inr (.inr (.inr (.inr (fun _ => none)))))), ((xq 3), .inl (xC, 3, .inl xsg)), ((xq 4), .inl (xI, 3, .inl xsf)), (m0, .inr (1, pv_m 0 mq)), ((mq 0), .inl (mI, 60, .inl (fun _ => 0))), ((mq 1), .inl (mT, 60, .inr (.inr (.inr (.inr (fun _ => none)))))), ((mq 2), .inl (mI2, 5, .inl (fun _ => 0))), ((mq 9), .inl (mC, 3, .inl msg)), ((mq 10), .inl (mI3, 3, .inl msf)), (o0, .inl (oL, 1, .inr (.inl (fun _ => 0))))]) (hS : va_S A s.heap H locs) {ls : Array Slot} (hl : lv_has ls 9 [(0, .ref b), (1, .ref x0), (2, .ref m0), (3, .ref o0), (4, .ref d0), (5, .int 0)]) : W p l e room_1 s m #[Value.ref b] below meth c H locs 397 653821 (lw_Z below #[Value.ref b] s) (F0 m 2568 ls []) := by
  obtain ⟨hx, hb, hr, hml, hown, hts0, hX, hbl, hlocks, hgv⟩ := C0
  have hts : ∀ w ∈ pv_W, w.before #[Value.ref b] s = true := fun w h => hts0 w (List.mem_filter.mp h).1
  have hg := fun {w : Cond} (h : w ∈ lw_tbl) (g : goodWord w = true) => hts w (pv_in h g)
  have hP : va_P D pv_cl [(x0, .inr (0, [.ref (xq 0), .int 0, .int 108, .ref (xq 1), .int 0, .ref (xq 2), .int 0, .ref (xq 3), .ref (xq 4), .int 1, .ref (xq 5), .ref (xq 6), .ref (xq 7), .ref (xq 8), .ref (xq 9)])), (m0, .inr (1, pv_m 0 mq))] _ := hP.sub [0, 7] rfl
  have hD : va_D A [(x0, .inr (0, [.ref (xq 0), .int 0, .int 108, .ref (xq 1), .int 0, .ref (xq 2), .int 0, .ref (xq 3), .ref (xq 4), .int 1, .ref (xq 5), .ref (xq 6), .ref (xq 7), .ref (xq 8), .ref (xq 9)])), (m0, .inr (1, pv_m 0 mq))] := hD.sub [0, 7] (by decide) rfl
  have hK : va_K D pv_cl [] s := hK.sub [] rfl
  refine lv_aload_n hx hb dL_law_2568 rfl (lv_at hl 1 rfl) ?_
  refine lv_aload_n hx hb dL_law_2569 rfl (lv_at hl 0 rfl) ?_
  refine lv_iload hx hb dL_law_2570 (lv_at hl 5 rfl) ?_
  refine lv_iconst (v := 1) hx hb dL_law_2572 (by decide) ?_
  refine lv_iadd hx hb dL_law_2573 ?_
  refine pv_setI 1 (by decide) ?_
  refine va_sld hx hb hX hbl hbA hS (by unfold vp_in; decide) dL_law_2574 ?_
  refine pv_setI (xs 1) rfl ?_
  refine lv_aload_n hx hb dL_law_2575 rfl (lv_at hl 0 rfl) ?_
  refine lv_iload hx hb dL_law_2576 (lv_at hl 5 rfl) ?_
  refine lv_iconst (v := 2) hx hb dL_law_2578 (by decide) ?_
  refine lv_iadd hx hb dL_law_2579 ?_
  refine pv_setI 2 (by decide) ?_
  refine va_sld hx hb hX hbl hbA hS (by unfold vp_in; decide) dL_law_2580 ?_
  refine pv_setI (xs 2) rfl ?_
  refine pv_pc 2581 rfl ?_
  refine lv_aload_n hx hb dL_law_2581 rfl (lv_at hl 3 rfl) ?_
  have hF := pv_new hA hS.1
  refine va_calli (vx_runSW (As := [.ref x0, .int (xs 1), .int (xs 2), .ref o0]) (rest := []) ⟨hx, hb, hml, hown, hts⟩ (c_L_addGenerator l hfl D _ x0 xq (xs 1) (xs 2) o0) (vx_cwSW 4 hts (pv_gSW w7_183 w7_184 w1_0 w7_185) rfl rfl rfl (by decide +kernel) ⟨Nat.le_of_ble_eq_true rfl, Nat.le_of_ble_eq_true rfl⟩) (pv_ps hE hS hF (hP.sub [0] rfl) (hK.sub [] rfl) (hD.sub [0] (by decide) rfl)) rfl rfl hl.1 rfl (lv_room (Nat.le_of_ble_eq_true rfl)) dL_law_2582 ⟨Nat.le_of_ble_eq_true rfl, Nat.le_of_ble_eq_true rfl⟩) hS (fun q _ h => hF q h) hF (fun r_0 u t H1 locs1 ht hvm hw hB hz1 hk1 hS => ?_)
  refine W.widen (k := 398) (n := 653827) (Nat.le_of_ble_eq_true rfl) (Nat.le_of_ble_eq_true rfl) ?_
  have hP := pv_keep hP rfl hk1
  subst hw
  refine lv_istore (lv' := [(6, .int 1), (0, .ref b), (1, .ref x0), (2, .ref m0), (3, .ref o0), (4, .ref d0), (5, .int 0)]) hx hb dL_law_2585 hl (by decide) rfl (fun ls hl => ?_)
  refine lv_aload_n hx hb dL_law_2587 rfl (lv_at hl 3 rfl) ?_
  refine lv_aload_n hx hb dL_law_2588 rfl (lv_at hl 1 rfl) ?_
  refine lv_iload hx hb dL_law_2589 (lv_at hl 6 rfl) ?_
  refine lv_iconst (v := 1) hx hb dL_law_2591 (by decide) ?_
  refine lv_iadd hx hb dL_law_2592 ?_
  refine pv_setI 1 (by decide) ?_
  refine va_sld hx hb hX hbl hbA hS (by unfold vp_in; decide) dL_law_2593 ?_
  refine pv_setI (xs 1) rfl ?_
  refine lv_aload_n hx hb dL_law_2594 rfl (lv_at hl 1 rfl) ?_
  refine lv_iload hx hb dL_law_2595 (lv_at hl 6 rfl) ?_
  refine lv_iconst (v := 2) hx hb dL_law_2597 (by decide) ?_
  refine pv_pc 2598 rfl ?_
  refine lv_iadd hx hb dL_law_2598 ?_
  refine pv_setI 2 (by decide) ?_
  refine va_sld hx hb hX hbl hbA hS (by unfold vp_in; decide) dL_law_2599 ?_
  refine pv_setI (xs 2) rfl ?_
  have hF := va_free (wc := [(m0, .inr (1, pv_m 0 mq))]) hD hS hA [1] rfl
  refine va_calli (va_runV (As := [.int (xs 1), .int (xs 2)]) (rest := []) ⟨hx, hb, hml, hown, hts⟩ (c_X13_addGenerator l hfl D _ m0 mq (xs 1) (xs 2)) (cwV 2 hts (pv_gV w10_201 w10_202 w10_203 w1_10 w10_204) rfl rfl rfl (by decide +kernel) ⟨Nat.le_of_ble_eq_true rfl, Nat.le_of_ble_eq_true rfl⟩) (pv_pV hE hS hF (hP.sub [1] rfl) (hK.sub [] rfl) (hD.sub [1] (by decide) rfl) (va_recv (ci := 1) (q0 := 1) hK hP rfl rfl)) rfl rfl hl.1 rfl (lv_room (Nat.le_of_ble_eq_true rfl)) dL_law_2600 ⟨Nat.le_of_ble_eq_true rfl, Nat.le_of_ble_eq_true rfl⟩) hS (fun q _ h => hF q h) hF (fun r_1 u t H1 locs1 ht hvm hw hB hz1 hk1 hS => ?_)
  refine W.widen (k := 398) (n := 653827) (Nat.le_of_ble_eq_true rfl) (Nat.le_of_ble_eq_true rfl) ?_
  subst hw
  obtain ⟨fs_3, hf_4, hP1, hK1, hD1⟩ := hB
  rw [ht] at hP1
  have hK1 := va_K.moved hvm.symm hK1
  obtain ⟨hP, hD⟩ := va_join (wr := [(x0, .inr (0, [.ref (xq 0), .int 0, .int 108, .ref (xq 1), .int 0, .ref (xq 2), .int 0, .ref (xq 3), .ref (xq 4), .int 1, .ref (xq 5), .ref (xq 6), .ref (xq 7), .ref (xq 8), .ref (xq 9)]))]) (w1 := [(m0, .inr (1, fs_3))]) hP hD [1] [0] rfl rfl (by decide) (by decide) hk1 hF hP1 hD1
  have hP : va_P D pv_cl [(x0, .inr (0, [.ref (xq 0), .int 0, .int 108, .ref (xq 1), .int 0, .ref (xq 2), .int 0, .ref (xq 3), .ref (xq 4), .int 1, .ref (xq 5), .ref (xq 6), .ref (xq 7), .ref (xq 8), .ref (xq 9)])), (m0, .inr (1, fs_3))] _ := hP
  have hD : va_D A [(x0, .inr (0, [.ref (xq 0), .int 0, .int 108, .ref (xq 1), .int 0, .ref (xq 2), .int 0, .ref (xq 3), .ref (xq 4), .int 1, .ref (xq 5), .ref (xq 6), .ref (xq 7), .ref (xq 8), .ref (xq 9)])), (m0, .inr (1, fs_3))] := hD
  refine lv_istore (lv' := [(7, .int r_1), (6, .int 1), (0, .ref b), (1, .ref x0), (2, .ref m0), (3, .ref o0), (4, .ref d0), (5, .int 0)]) hx hb dL_law_2603 hl (by decide) rfl (fun ls hl => ?_)
  refine lv_aload_n hx hb dL_law_2605 rfl (lv_at hl 4 rfl) ?_
  have hF := pv_new hA hS.1
  refine va_calli (va_runV (As := []) (rest := []) ⟨hx, hb, hml, hown, hts⟩ (c_X13_thrown l hfl D _ m0 fs_3 1 hf_4) (cwV 0 hts (pv_gV w9_102 w9_103 w9_104 w1_10 w9_105) rfl rfl rfl (by decide +kernel) ⟨Nat.le_of_ble_eq_true rfl, Nat.le_of_ble_eq_true rfl⟩) (pv_pV hE hS hF (hP.sub [1] rfl) (hK.sub [] rfl) (hD.sub [1] (by decide) rfl) (va_recv (ci := 1) (q0 := 1) hK hP rfl rfl)) rfl rfl hl.1 rfl (lv_room (Nat.le_of_ble_eq_true rfl)) dL_law_2606 ⟨Nat.le_of_ble_eq_true rfl, Nat.le_of_ble_eq_true rfl⟩) hS (fun q _ h => hF q h) hF (fun r_4 u t H1 locs1 ht hvm hw hB hz1 hk1 hS => ?_)
  refine W.widen (k := 398) (n := 653827) (Nat.le_of_ble_eq_true rfl) (Nat.le_of_ble_eq_true rfl) ?_
  have hP := pv_keep hP rfl hk1
  subst hw
  refine lv_iload hx hb dL_law_2609 (lv_at hl 1 rfl) ?_
  refine lv_icmp_eq (tgt := 2616) hx hb dL_law_2611 (by decide) (fun _ => ?_) (fun c_6 => absurd (by decide) c_6)
  refine lv_iload hx hb dL_law_2616 (lv_at hl 1 rfl) ?_
  refine lv_if_ne (tgt := 2633) hx hb dL_law_2618 (by decide) (fun _ => ?_) (fun c_7 => absurd c_7 (by decide))
  refine lv_goto (tgt := 3721) hx hb dL_law_2633 (by decide) ?_
  refine lv_iinc (v := 7) (lv' := [(5, .int 7), (7, .int r_1), (6, .int 1), (0, .ref b), (1, .ref x0), (2, .ref m0), (3, .ref o0), (4, .ref d0)]) hx hb dL_law_3721 hl (k := 7) rfl (by decide) (by decide) rfl (fun ls hl => ?_)
  refine pv_pc 3724 rfl ?_
  refine lv_goto (tgt := 28) hx hb dL_law_3724 (by decide) ?_
  refine lv_iload hx hb dL_law_28 (lv_at hl 0 rfl) ?_
  refine lv_aload_n hx hb dL_law_30 rfl (lv_at hl 3 rfl) ?_
  refine va_slen hx hb hX hbl hbA hS dL_law_31 ?_
  refine pv_setI 7 rfl ?_
  refine lv_bipush (v := 7) hx hb dL_law_32 (by decide) ?_
  refine lv_isub hx hb dL_law_34 ?_
  refine pv_setI 0 (by decide) ?_
  refine lv_icmp_gt (tgt := 3727) hx hb dL_law_35 (by decide) (fun _ => ?_) (fun c_8 => absurd (by decide) c_8)
  refine lv_iconst (v := 1) hx hb dL_law_3727 (by decide) ?_
  refine va_forget (fun q hq => hAf _ (hS.2.2 q hq)) ?_
  refine W.widen (k := 600006) (n := 7302064) (Nat.le_of_ble_eq_true rfl) (Nat.le_of_ble_eq_true rfl) ?_
  exact lw_ret (d0 := s.drawn) (Drawn.sameBut.refl s.drawn lw_cs) hx hb hr hlocks dL_law_3728

theorem dL_law_2636 : decode cL_law 2636 = .ok (.aload_n 1, 1) := by decide +kernel
theorem dL_law_2637 : decode cL_law 2637 = .ok (.aload_n 0, 1) := by decide +kernel
theorem dL_law_2638 : decode cL_law 2638 = .ok (.iload 5, 2) := by decide +kernel
theorem dL_law_2640 : decode cL_law 2640 = .ok (.iconst 1, 1) := by decide +kernel
theorem dL_law_2641 : decode cL_law 2641 = .ok (.iadd, 1) := by decide +kernel
theorem dL_law_2642 : decode cL_law 2642 = .ok (.iaload, 1) := by decide +kernel
theorem dL_law_2643 : decode cL_law 2643 = .ok (.aload_n 3, 1) := by decide +kernel
theorem dL_law_2644 : decode cL_law 2644 = .ok (.invokestatic 312, 3) := by decide +kernel
theorem w7_204 : (Jvm.Cond.methodLink "PolyforgeLaw" (312 : Nat) ({ cls := "PolyforgeLaw", name := "basis", desc := "(LPolyforge;I[J)I" } : Jvm.MethodName)) ∈ lw_tbl := pv_t7 (pv_mg 204 rfl)
theorem w7_206 : (Jvm.Cond.codeWith ({ cls := "PolyforgeLaw", name := "basis", desc := "(LPolyforge;I[J)I" } : Jvm.MethodName) method_38_code (4 : Nat) (Option.some Jvm.ClassFile.FieldType.int) [((0 : Nat), (9 : Nat), (12 : Nat), (55 : Nat))]) ∈ lw_tbl := pv_t7 (pv_mg 206 rfl)
theorem w7_205 : (Jvm.Cond.static ({ cls := "PolyforgeLaw", name := "basis", desc := "(LPolyforge;I[J)I" } : Jvm.MethodName)) ∈ lw_tbl := pv_t7 (pv_mg 205 rfl)
theorem dL_law_2647 : decode cL_law 2647 = .ok (.istore 6, 2) := by decide +kernel
theorem dL_law_2649 : decode cL_law 2649 = .ok (.aload_n 2, 1) := by decide +kernel
theorem dL_law_2650 : decode cL_law 2650 = .ok (.aload_n 0, 1) := by decide +kernel
theorem dL_law_2651 : decode cL_law 2651 = .ok (.iload 5, 2) := by decide +kernel
theorem dL_law_2653 : decode cL_law 2653 = .ok (.iconst 1, 1) := by decide +kernel
theorem dL_law_2654 : decode cL_law 2654 = .ok (.iadd, 1) := by decide +kernel
theorem dL_law_2655 : decode cL_law 2655 = .ok (.iaload, 1) := by decide +kernel
theorem dL_law_2656 : decode cL_law 2656 = .ok (.invokevirtual 314, 3) := by decide +kernel
theorem w10_210 : (Jvm.Cond.methodLink "PolyforgeLaw" (314 : Nat) ({ cls := "PolyforgeModel", name := "basis", desc := "(I)I" } : Jvm.MethodName)) ∈ lw_tbl := pv_t10 (pv_mg 210 rfl)
theorem dL_law_2659 : decode cL_law 2659 = .ok (.istore 7, 2) := by decide +kernel
theorem dL_law_2661 : decode cL_law 2661 = .ok (.aload_n 2, 1) := by decide +kernel
theorem dL_law_2662 : decode cL_law 2662 = .ok (.invokevirtual 199, 3) := by decide +kernel
theorem dL_law_2665 : decode cL_law 2665 = .ok (.iload 6, 2) := by decide +kernel
theorem dL_law_2667 : decode cL_law 2667 = .ok (.if_icmp .eq 5, 3) := by decide +kernel
theorem dL_law_2672 : decode cL_law 2672 = .ok (.iload 6, 2) := by decide +kernel
theorem dL_law_2674 : decode cL_law 2674 = .ok (.ifCond .ne 15, 3) := by decide +kernel
theorem dL_law_2689 : decode cL_law 2689 = .ok (.goto 1032, 3) := by decide +kernel
set_option maxHeartbeats 4000000 in
set_option maxRecDepth 100000 in
/-- the law, call 36: basis -/
theorem law_case_36 {p : Program} {e : Env} {s : State} {m : MethodId} {below : List Frame} {meth : Method} {c : Code} (l : Launch) (hfl : l.stackTraces = false) {b : Nat} {xs : Nat → Int32} (C0 : lw_At p s m meth c b 7 xs) {D : va_G} {A : Nat → Prop} (hA : ∀ q : Nat, s.heap.size ≤ q → A q) (hAf : ∀ q : Nat, A q → s.heap.size ≤ q) (hbA : ¬ A b) (hE : pv_E A s s.heap) {x0 m0 o0 d0 : Nat} {xq xw mq : Nat → Nat} {xJ xP xO xC xI mI mI2 mI3 mT mC oL : ClassId} {xsg xsf msg msf : Nat → Int32} (hxsg : ∀ j, j < 3 → xsg j = 63) (hmsg : ∀ j, j < 3 → msg j = 63) {H : Heap} {locs : List Loc} (hK : va_K D pv_cl [(xJ, .long), (xP, .object "Polyforge$Polynomial"), (xO, .object "Polyforge$Ideal"), (xC, .char), (xI, .int), (mI, .int), (mT, .object "PolyforgeModel$Terms"), (mI2, .int), (mC, .char), (mI3, .int), (oL, .long)] s) (hP : va_P D pv_cl [(x0, .inr (0, [.ref (xq 0), .int 0, .int 108, .ref (xq 1), .int 0, .ref (xq 2), .int 0, .ref (xq 3), .ref (xq 4), .int 1, .ref (xq 5), .ref (xq 6), .ref (xq 7), .ref (xq 8), .ref (xq 9)])), ((xq 6), .inr (2, [.ref (xw 0), .ref (xw 1), .ref (xw 2), .ref (xw 3), .int 0, .int 0])), ((xw 2), .inl (xJ, 64, .inr (.inl (fun _ => 0)))), ((xq 0), .inl (xP, 60, .inr (.inr (.inr (.inr (fun _ => none)))))), ((xq 1), .inl (xO, 5, .inr (.inr (.inr (.inr (fun _ => none)))))), ((xq 3), .inl (xC, 3, .inl xsg)), ((xq 4), .inl (xI, 3, .inl xsf)), (m0, .inr (1, pv_m 0 mq)), ((mq 0), .inl (mI, 60, .inl (fun _ => 0))), ((mq 1), .inl (mT, 60, .inr (.inr (.inr (.inr (fun _ => none)))))), ((mq 2), .inl (mI2, 5, .inl (fun _ => 0))), ((mq 9), .inl (mC, 3, .inl msg)), ((mq 10), .inl (mI3, 3, .inl msf)), (o0, .inl (oL, 1, .inr (.inl (fun _ => 0))))] H) (hD : va_D A [(x0, .inr (0, [.ref (xq 0), .int 0, .int 108, .ref (xq 1), .int 0, .ref (xq 2), .int 0, .ref (xq 3), .ref (xq 4), .int 1, .ref (xq 5), .ref (xq 6), .ref (xq 7), .ref (xq 8), .ref (xq 9)])), ((xq 6), .inr (2, [.ref (xw 0), .ref (xw 1), .ref (xw 2), .ref (xw 3), .int 0, .int 0])), ((xw 2), .inl (xJ, 64, .inr (.inl (fun _ => 0)))), ((xq 0), .inl (xP, 60, .inr (.inr (.inr (.inr (fun _ => none)))))), ((xq 1), .inl (xO, 5, .inr (.inr (.inr (.inr (fun _ => none)))))), ((xq 3), .inl (xC, 3, .inl xsg)), ((xq 4), .inl (xI, 3, .inl xsf)), (m0, .inr (1, pv_m 0 mq)), ((mq 0), .inl (mI, 60, .inl (fun _ => 0))), ((mq 1), .inl (mT, 60, .inr (.inr (.inr (.inr (fun _ => none)))))), ((mq 2), .inl (mI2, 5, .inl (fun _ => 0))), ((mq 9), .inl (mC, 3, .inl msg)), ((mq 10), .inl (mI3, 3, .inl msf)), (o0, .inl (oL, 1, .inr (.inl (fun _ => 0))))]) (hS : va_S A s.heap H locs) {ls : Array Slot} (hl : lv_has ls 9 [(0, .ref b), (1, .ref x0), (2, .ref m0), (3, .ref o0), (4, .ref d0), (5, .int 0)]) : W p l e room_1 s m #[Value.ref b] below meth c H locs 397 653821 (lw_Z below #[Value.ref b] s) (F0 m 2636 ls []) := by
  obtain ⟨hx, hb, hr, hml, hown, hts0, hX, hbl, hlocks, hgv⟩ := C0
  have hts : ∀ w ∈ pv_W, w.before #[Value.ref b] s = true := fun w h => hts0 w (List.mem_filter.mp h).1
  have hg := fun {w : Cond} (h : w ∈ lw_tbl) (g : goodWord w = true) => hts w (pv_in h g)
  have hP : va_P D pv_cl [(x0, .inr (0, [.ref (xq 0), .int 0, .int 108, .ref (xq 1), .int 0, .ref (xq 2), .int 0, .ref (xq 3), .ref (xq 4), .int 1, .ref (xq 5), .ref (xq 6), .ref (xq 7), .ref (xq 8), .ref (xq 9)])), (m0, .inr (1, pv_m 0 mq))] _ := hP.sub [0, 7] rfl
  have hD : va_D A [(x0, .inr (0, [.ref (xq 0), .int 0, .int 108, .ref (xq 1), .int 0, .ref (xq 2), .int 0, .ref (xq 3), .ref (xq 4), .int 1, .ref (xq 5), .ref (xq 6), .ref (xq 7), .ref (xq 8), .ref (xq 9)])), (m0, .inr (1, pv_m 0 mq))] := hD.sub [0, 7] (by decide) rfl
  have hK : va_K D pv_cl [] s := hK.sub [] rfl
  refine lv_aload_n hx hb dL_law_2636 rfl (lv_at hl 1 rfl) ?_
  refine lv_aload_n hx hb dL_law_2637 rfl (lv_at hl 0 rfl) ?_
  refine lv_iload hx hb dL_law_2638 (lv_at hl 5 rfl) ?_
  refine lv_iconst (v := 1) hx hb dL_law_2640 (by decide) ?_
  refine lv_iadd hx hb dL_law_2641 ?_
  refine pv_setI 1 (by decide) ?_
  refine va_sld hx hb hX hbl hbA hS (by unfold vp_in; decide) dL_law_2642 ?_
  refine pv_setI (xs 1) rfl ?_
  refine lv_aload_n hx hb dL_law_2643 rfl (lv_at hl 3 rfl) ?_
  have hF := pv_new hA hS.1
  refine va_calli (vx_runSW (As := [.ref x0, .int (xs 1), .ref o0]) (rest := []) ⟨hx, hb, hml, hown, hts⟩ (c_L_basis l hfl D _ x0 xq (xs 1) o0) (vx_cwSW 3 hts (pv_gSW w7_204 w7_205 w1_0 w7_206) rfl rfl rfl (by decide +kernel) ⟨Nat.le_of_ble_eq_true rfl, Nat.le_of_ble_eq_true rfl⟩) (pv_ps hE hS hF (hP.sub [0] rfl) (hK.sub [] rfl) (hD.sub [0] (by decide) rfl)) rfl rfl hl.1 rfl (lv_room (Nat.le_of_ble_eq_true rfl)) dL_law_2644 ⟨Nat.le_of_ble_eq_true rfl, Nat.le_of_ble_eq_true rfl⟩) hS (fun q _ h => hF q h) hF (fun r_0 u t H1 locs1 ht hvm hw hB hz1 hk1 hS => ?_)
  refine W.widen (k := 398) (n := 653827) (Nat.le_of_ble_eq_true rfl) (Nat.le_of_ble_eq_true rfl) ?_
  have hP := pv_keep hP rfl hk1
  subst hw
  refine lv_istore (lv' := [(6, .int 1), (0, .ref b), (1, .ref x0), (2, .ref m0), (3, .ref o0), (4, .ref d0), (5, .int 0)]) hx hb dL_law_2647 hl (by decide) rfl (fun ls hl => ?_)
  refine lv_aload_n hx hb dL_law_2649 rfl (lv_at hl 3 rfl) ?_
  refine lv_aload_n hx hb dL_law_2650 rfl (lv_at hl 1 rfl) ?_
  refine pv_pc 2651 rfl ?_
  refine lv_iload hx hb dL_law_2651 (lv_at hl 6 rfl) ?_
  refine lv_iconst (v := 1) hx hb dL_law_2653 (by decide) ?_
  refine lv_iadd hx hb dL_law_2654 ?_
  refine pv_setI 1 (by decide) ?_
  refine va_sld hx hb hX hbl hbA hS (by unfold vp_in; decide) dL_law_2655 ?_
  refine pv_setI (xs 1) rfl ?_
  have hF := va_free (wc := [(m0, .inr (1, pv_m 0 mq))]) hD hS hA [1] rfl
  refine va_calli (va_runV (As := [.int (xs 1)]) (rest := []) ⟨hx, hb, hml, hown, hts⟩ (c_X13_basis l hfl D _ m0 mq (xs 1)) (cwV 1 hts (pv_gV w10_210 w10_211 w10_212 w1_10 w10_213) rfl rfl rfl (by decide +kernel) ⟨Nat.le_of_ble_eq_true rfl, Nat.le_of_ble_eq_true rfl⟩) (pv_pV hE hS hF (hP.sub [1] rfl) (hK.sub [] rfl) (hD.sub [1] (by decide) rfl) (va_recv (ci := 1) (q0 := 1) hK hP rfl rfl)) rfl rfl hl.1 rfl (lv_room (Nat.le_of_ble_eq_true rfl)) dL_law_2656 ⟨Nat.le_of_ble_eq_true rfl, Nat.le_of_ble_eq_true rfl⟩) hS (fun q _ h => hF q h) hF (fun r_1 u t H1 locs1 ht hvm hw hB hz1 hk1 hS => ?_)
  refine W.widen (k := 398) (n := 653827) (Nat.le_of_ble_eq_true rfl) (Nat.le_of_ble_eq_true rfl) ?_
  subst hw
  obtain ⟨fs_3, hf_4, hP1, hK1, hD1⟩ := hB
  rw [ht] at hP1
  have hK1 := va_K.moved hvm.symm hK1
  obtain ⟨hP, hD⟩ := va_join (wr := [(x0, .inr (0, [.ref (xq 0), .int 0, .int 108, .ref (xq 1), .int 0, .ref (xq 2), .int 0, .ref (xq 3), .ref (xq 4), .int 1, .ref (xq 5), .ref (xq 6), .ref (xq 7), .ref (xq 8), .ref (xq 9)]))]) (w1 := [(m0, .inr (1, fs_3))]) hP hD [1] [0] rfl rfl (by decide) (by decide) hk1 hF hP1 hD1
  have hP : va_P D pv_cl [(x0, .inr (0, [.ref (xq 0), .int 0, .int 108, .ref (xq 1), .int 0, .ref (xq 2), .int 0, .ref (xq 3), .ref (xq 4), .int 1, .ref (xq 5), .ref (xq 6), .ref (xq 7), .ref (xq 8), .ref (xq 9)])), (m0, .inr (1, fs_3))] _ := hP
  have hD : va_D A [(x0, .inr (0, [.ref (xq 0), .int 0, .int 108, .ref (xq 1), .int 0, .ref (xq 2), .int 0, .ref (xq 3), .ref (xq 4), .int 1, .ref (xq 5), .ref (xq 6), .ref (xq 7), .ref (xq 8), .ref (xq 9)])), (m0, .inr (1, fs_3))] := hD
  refine lv_istore (lv' := [(7, .int r_1), (6, .int 1), (0, .ref b), (1, .ref x0), (2, .ref m0), (3, .ref o0), (4, .ref d0), (5, .int 0)]) hx hb dL_law_2659 hl (by decide) rfl (fun ls hl => ?_)
  refine lv_aload_n hx hb dL_law_2661 rfl (lv_at hl 4 rfl) ?_
  have hF := pv_new hA hS.1
  refine va_calli (va_runV (As := []) (rest := []) ⟨hx, hb, hml, hown, hts⟩ (c_X13_thrown l hfl D _ m0 fs_3 1 hf_4) (cwV 0 hts (pv_gV w9_102 w9_103 w9_104 w1_10 w9_105) rfl rfl rfl (by decide +kernel) ⟨Nat.le_of_ble_eq_true rfl, Nat.le_of_ble_eq_true rfl⟩) (pv_pV hE hS hF (hP.sub [1] rfl) (hK.sub [] rfl) (hD.sub [1] (by decide) rfl) (va_recv (ci := 1) (q0 := 1) hK hP rfl rfl)) rfl rfl hl.1 rfl (lv_room (Nat.le_of_ble_eq_true rfl)) dL_law_2662 ⟨Nat.le_of_ble_eq_true rfl, Nat.le_of_ble_eq_true rfl⟩) hS (fun q _ h => hF q h) hF (fun r_4 u t H1 locs1 ht hvm hw hB hz1 hk1 hS => ?_)
  refine W.widen (k := 398) (n := 653827) (Nat.le_of_ble_eq_true rfl) (Nat.le_of_ble_eq_true rfl) ?_
  have hP := pv_keep hP rfl hk1
  subst hw
  refine lv_iload hx hb dL_law_2665 (lv_at hl 1 rfl) ?_
  refine lv_icmp_eq (tgt := 2672) hx hb dL_law_2667 (by decide) (fun _ => ?_) (fun c_6 => absurd (by decide) c_6)
  refine lv_iload hx hb dL_law_2672 (lv_at hl 1 rfl) ?_
  refine lv_if_ne (tgt := 2689) hx hb dL_law_2674 (by decide) (fun _ => ?_) (fun c_7 => absurd c_7 (by decide))
  refine pv_pc 2689 rfl ?_
  refine lv_goto (tgt := 3721) hx hb dL_law_2689 (by decide) ?_
  refine lv_iinc (v := 7) (lv' := [(5, .int 7), (7, .int r_1), (6, .int 1), (0, .ref b), (1, .ref x0), (2, .ref m0), (3, .ref o0), (4, .ref d0)]) hx hb dL_law_3721 hl (k := 7) rfl (by decide) (by decide) rfl (fun ls hl => ?_)
  refine lv_goto (tgt := 28) hx hb dL_law_3724 (by decide) ?_
  refine lv_iload hx hb dL_law_28 (lv_at hl 0 rfl) ?_
  refine lv_aload_n hx hb dL_law_30 rfl (lv_at hl 3 rfl) ?_
  refine va_slen hx hb hX hbl hbA hS dL_law_31 ?_
  refine pv_setI 7 rfl ?_
  refine lv_bipush (v := 7) hx hb dL_law_32 (by decide) ?_
  refine lv_isub hx hb dL_law_34 ?_
  refine pv_setI 0 (by decide) ?_
  refine lv_icmp_gt (tgt := 3727) hx hb dL_law_35 (by decide) (fun _ => ?_) (fun c_8 => absurd (by decide) c_8)
  refine lv_iconst (v := 1) hx hb dL_law_3727 (by decide) ?_
  refine va_forget (fun q hq => hAf _ (hS.2.2 q hq)) ?_
  refine W.widen (k := 600006) (n := 7302064) (Nat.le_of_ble_eq_true rfl) (Nat.le_of_ble_eq_true rfl) ?_
  exact lw_ret (d0 := s.drawn) (Drawn.sameBut.refl s.drawn lw_cs) hx hb hr hlocks dL_law_3728

theorem dL_law_2692 : decode cL_law 2692 = .ok (.aload_n 1, 1) := by decide +kernel
theorem dL_law_2693 : decode cL_law 2693 = .ok (.aload_n 0, 1) := by decide +kernel
theorem dL_law_2694 : decode cL_law 2694 = .ok (.iload 5, 2) := by decide +kernel
theorem dL_law_2696 : decode cL_law 2696 = .ok (.iconst 1, 1) := by decide +kernel
theorem dL_law_2697 : decode cL_law 2697 = .ok (.iadd, 1) := by decide +kernel
theorem dL_law_2698 : decode cL_law 2698 = .ok (.iaload, 1) := by decide +kernel
theorem dL_law_2699 : decode cL_law 2699 = .ok (.aload_n 0, 1) := by decide +kernel
theorem dL_law_2700 : decode cL_law 2700 = .ok (.iload 5, 2) := by decide +kernel
theorem dL_law_2702 : decode cL_law 2702 = .ok (.iconst 2, 1) := by decide +kernel
theorem dL_law_2703 : decode cL_law 2703 = .ok (.iadd, 1) := by decide +kernel
theorem dL_law_2704 : decode cL_law 2704 = .ok (.iaload, 1) := by decide +kernel
theorem dL_law_2705 : decode cL_law 2705 = .ok (.aload_n 3, 1) := by decide +kernel
theorem dL_law_2706 : decode cL_law 2706 = .ok (.invokestatic 315, 3) := by decide +kernel
theorem w7_211 : (Jvm.Cond.methodLink "PolyforgeLaw" (315 : Nat) ({ cls := "PolyforgeLaw", name := "basisTerms", desc := "(LPolyforge;II[J)I" } : Jvm.MethodName)) ∈ lw_tbl := pv_t7 (pv_mg 211 rfl)
theorem w7_213 : (Jvm.Cond.codeWith ({ cls := "PolyforgeLaw", name := "basisTerms", desc := "(LPolyforge;II[J)I" } : Jvm.MethodName) method_39_code (5 : Nat) (Option.some Jvm.ClassFile.FieldType.int) [((0 : Nat), (10 : Nat), (13 : Nat), (55 : Nat))]) ∈ lw_tbl := pv_t7 (pv_mg 213 rfl)
theorem w7_212 : (Jvm.Cond.static ({ cls := "PolyforgeLaw", name := "basisTerms", desc := "(LPolyforge;II[J)I" } : Jvm.MethodName)) ∈ lw_tbl := pv_t7 (pv_mg 212 rfl)
theorem dL_law_2709 : decode cL_law 2709 = .ok (.istore 6, 2) := by decide +kernel
theorem dL_law_2711 : decode cL_law 2711 = .ok (.aload_n 2, 1) := by decide +kernel
theorem dL_law_2712 : decode cL_law 2712 = .ok (.aload_n 0, 1) := by decide +kernel
theorem dL_law_2713 : decode cL_law 2713 = .ok (.iload 5, 2) := by decide +kernel
theorem dL_law_2715 : decode cL_law 2715 = .ok (.iconst 1, 1) := by decide +kernel
theorem dL_law_2716 : decode cL_law 2716 = .ok (.iadd, 1) := by decide +kernel
theorem dL_law_2717 : decode cL_law 2717 = .ok (.iaload, 1) := by decide +kernel
theorem dL_law_2718 : decode cL_law 2718 = .ok (.aload_n 0, 1) := by decide +kernel
theorem dL_law_2719 : decode cL_law 2719 = .ok (.iload 5, 2) := by decide +kernel
theorem dL_law_2721 : decode cL_law 2721 = .ok (.iconst 2, 1) := by decide +kernel
theorem dL_law_2722 : decode cL_law 2722 = .ok (.iadd, 1) := by decide +kernel
theorem dL_law_2723 : decode cL_law 2723 = .ok (.iaload, 1) := by decide +kernel
theorem dL_law_2724 : decode cL_law 2724 = .ok (.invokevirtual 317, 3) := by decide +kernel
theorem w11_21 : (Jvm.Cond.methodLink "PolyforgeLaw" (317 : Nat) ({ cls := "PolyforgeModel", name := "basisTerms", desc := "(II)I" } : Jvm.MethodName)) ∈ lw_tbl := pv_t11 (pv_mg 21 rfl)
theorem dL_law_2727 : decode cL_law 2727 = .ok (.istore 7, 2) := by decide +kernel
theorem dL_law_2729 : decode cL_law 2729 = .ok (.aload_n 2, 1) := by decide +kernel
theorem dL_law_2730 : decode cL_law 2730 = .ok (.invokevirtual 199, 3) := by decide +kernel
theorem dL_law_2733 : decode cL_law 2733 = .ok (.iload 6, 2) := by decide +kernel
theorem dL_law_2735 : decode cL_law 2735 = .ok (.if_icmp .eq 5, 3) := by decide +kernel
theorem dL_law_2740 : decode cL_law 2740 = .ok (.iload 6, 2) := by decide +kernel
theorem dL_law_2742 : decode cL_law 2742 = .ok (.ifCond .ne 15, 3) := by decide +kernel
theorem dL_law_2757 : decode cL_law 2757 = .ok (.goto 964, 3) := by decide +kernel
set_option maxHeartbeats 4000000 in
set_option maxRecDepth 100000 in
/-- the law, call 37: basisTerms -/
theorem law_case_37 {p : Program} {e : Env} {s : State} {m : MethodId} {below : List Frame} {meth : Method} {c : Code} (l : Launch) (hfl : l.stackTraces = false) {b : Nat} {xs : Nat → Int32} (C0 : lw_At p s m meth c b 7 xs) {D : va_G} {A : Nat → Prop} (hA : ∀ q : Nat, s.heap.size ≤ q → A q) (hAf : ∀ q : Nat, A q → s.heap.size ≤ q) (hbA : ¬ A b) (hE : pv_E A s s.heap) {x0 m0 o0 d0 : Nat} {xq xw mq : Nat → Nat} {xJ xP xO xC xI mI mI2 mI3 mT mC oL : ClassId} {xsg xsf msg msf : Nat → Int32} (hxsg : ∀ j, j < 3 → xsg j = 63) (hmsg : ∀ j, j < 3 → msg j = 63) {H : Heap} {locs : List Loc} (hK : va_K D pv_cl [(xJ, .long), (xP, .object "Polyforge$Polynomial"), (xO, .object "Polyforge$Ideal"), (xC, .char), (xI, .int), (mI, .int), (mT, .object "PolyforgeModel$Terms"), (mI2, .int), (mC, .char), (mI3, .int), (oL, .long)] s) (hP : va_P D pv_cl [(x0, .inr (0, [.ref (xq 0), .int 0, .int 108, .ref (xq 1), .int 0, .ref (xq 2), .int 0, .ref (xq 3), .ref (xq 4), .int 1, .ref (xq 5), .ref (xq 6), .ref (xq 7), .ref (xq 8), .ref (xq 9)])), ((xq 6), .inr (2, [.ref (xw 0), .ref (xw 1), .ref (xw 2), .ref (xw 3), .int 0, .int 0])), ((xw 2), .inl (xJ, 64, .inr (.inl (fun _ => 0)))), ((xq 0), .inl (xP, 60, .inr (.inr (.inr (.inr (fun _ => none)))))), ((xq 1), .inl (xO, 5, .inr (.inr (.inr (.inr (fun _ => none)))))), ((xq 3), .inl (xC, 3, .inl xsg)), ((xq 4), .inl (xI, 3, .inl xsf)), (m0, .inr (1, pv_m 0 mq)), ((mq 0), .inl (mI, 60, .inl (fun _ => 0))), ((mq 1), .inl (mT, 60, .inr (.inr (.inr (.inr (fun _ => none)))))), ((mq 2), .inl (mI2, 5, .inl (fun _ => 0))), ((mq 9), .inl (mC, 3, .inl msg)), ((mq 10), .inl (mI3, 3, .inl msf)), (o0, .inl (oL, 1, .inr (.inl (fun _ => 0))))] H) (hD : va_D A [(x0, .inr (0, [.ref (xq 0), .int 0, .int 108, .ref (xq 1), .int 0, .ref (xq 2), .int 0, .ref (xq 3), .ref (xq 4), .int 1, .ref (xq 5), .ref (xq 6), .ref (xq 7), .ref (xq 8), .ref (xq 9)])), ((xq 6), .inr (2, [.ref (xw 0), .ref (xw 1), .ref (xw 2), .ref (xw 3), .int 0, .int 0])), ((xw 2), .inl (xJ, 64, .inr (.inl (fun _ => 0)))), ((xq 0), .inl (xP, 60, .inr (.inr (.inr (.inr (fun _ => none)))))), ((xq 1), .inl (xO, 5, .inr (.inr (.inr (.inr (fun _ => none)))))), ((xq 3), .inl (xC, 3, .inl xsg)), ((xq 4), .inl (xI, 3, .inl xsf)), (m0, .inr (1, pv_m 0 mq)), ((mq 0), .inl (mI, 60, .inl (fun _ => 0))), ((mq 1), .inl (mT, 60, .inr (.inr (.inr (.inr (fun _ => none)))))), ((mq 2), .inl (mI2, 5, .inl (fun _ => 0))), ((mq 9), .inl (mC, 3, .inl msg)), ((mq 10), .inl (mI3, 3, .inl msf)), (o0, .inl (oL, 1, .inr (.inl (fun _ => 0))))]) (hS : va_S A s.heap H locs) {ls : Array Slot} (hl : lv_has ls 9 [(0, .ref b), (1, .ref x0), (2, .ref m0), (3, .ref o0), (4, .ref d0), (5, .int 0)]) : W p l e room_1 s m #[Value.ref b] below meth c H locs 397 653821 (lw_Z below #[Value.ref b] s) (F0 m 2692 ls []) := by
  obtain ⟨hx, hb, hr, hml, hown, hts0, hX, hbl, hlocks, hgv⟩ := C0
  have hts : ∀ w ∈ pv_W, w.before #[Value.ref b] s = true := fun w h => hts0 w (List.mem_filter.mp h).1
  have hg := fun {w : Cond} (h : w ∈ lw_tbl) (g : goodWord w = true) => hts w (pv_in h g)
  have hP : va_P D pv_cl [(x0, .inr (0, [.ref (xq 0), .int 0, .int 108, .ref (xq 1), .int 0, .ref (xq 2), .int 0, .ref (xq 3), .ref (xq 4), .int 1, .ref (xq 5), .ref (xq 6), .ref (xq 7), .ref (xq 8), .ref (xq 9)])), (m0, .inr (1, pv_m 0 mq))] _ := hP.sub [0, 7] rfl
  have hD : va_D A [(x0, .inr (0, [.ref (xq 0), .int 0, .int 108, .ref (xq 1), .int 0, .ref (xq 2), .int 0, .ref (xq 3), .ref (xq 4), .int 1, .ref (xq 5), .ref (xq 6), .ref (xq 7), .ref (xq 8), .ref (xq 9)])), (m0, .inr (1, pv_m 0 mq))] := hD.sub [0, 7] (by decide) rfl
  have hK : va_K D pv_cl [] s := hK.sub [] rfl
  refine lv_aload_n hx hb dL_law_2692 rfl (lv_at hl 1 rfl) ?_
  refine lv_aload_n hx hb dL_law_2693 rfl (lv_at hl 0 rfl) ?_
  refine lv_iload hx hb dL_law_2694 (lv_at hl 5 rfl) ?_
  refine lv_iconst (v := 1) hx hb dL_law_2696 (by decide) ?_
  refine lv_iadd hx hb dL_law_2697 ?_
  refine pv_setI 1 (by decide) ?_
  refine va_sld hx hb hX hbl hbA hS (by unfold vp_in; decide) dL_law_2698 ?_
  refine pv_setI (xs 1) rfl ?_
  refine lv_aload_n hx hb dL_law_2699 rfl (lv_at hl 0 rfl) ?_
  refine lv_iload hx hb dL_law_2700 (lv_at hl 5 rfl) ?_
  refine lv_iconst (v := 2) hx hb dL_law_2702 (by decide) ?_
  refine lv_iadd hx hb dL_law_2703 ?_
  refine pv_setI 2 (by decide) ?_
  refine va_sld hx hb hX hbl hbA hS (by unfold vp_in; decide) dL_law_2704 ?_
  refine pv_setI (xs 2) rfl ?_
  refine pv_pc 2705 rfl ?_
  refine lv_aload_n hx hb dL_law_2705 rfl (lv_at hl 3 rfl) ?_
  have hF := pv_new hA hS.1
  refine va_calli (vx_runSW (As := [.ref x0, .int (xs 1), .int (xs 2), .ref o0]) (rest := []) ⟨hx, hb, hml, hown, hts⟩ (c_L_basisTerms l hfl D _ x0 xq (xs 1) (xs 2) o0) (vx_cwSW 4 hts (pv_gSW w7_211 w7_212 w1_0 w7_213) rfl rfl rfl (by decide +kernel) ⟨Nat.le_of_ble_eq_true rfl, Nat.le_of_ble_eq_true rfl⟩) (pv_ps hE hS hF (hP.sub [0] rfl) (hK.sub [] rfl) (hD.sub [0] (by decide) rfl)) rfl rfl hl.1 rfl (lv_room (Nat.le_of_ble_eq_true rfl)) dL_law_2706 ⟨Nat.le_of_ble_eq_true rfl, Nat.le_of_ble_eq_true rfl⟩) hS (fun q _ h => hF q h) hF (fun r_0 u t H1 locs1 ht hvm hw hB hz1 hk1 hS => ?_)
  refine W.widen (k := 398) (n := 653827) (Nat.le_of_ble_eq_true rfl) (Nat.le_of_ble_eq_true rfl) ?_
  have hP := pv_keep hP rfl hk1
  subst hw
  refine lv_istore (lv' := [(6, .int 1), (0, .ref b), (1, .ref x0), (2, .ref m0), (3, .ref o0), (4, .ref d0), (5, .int 0)]) hx hb dL_law_2709 hl (by decide) rfl (fun ls hl => ?_)
  refine lv_aload_n hx hb dL_law_2711 rfl (lv_at hl 3 rfl) ?_
  refine lv_aload_n hx hb dL_law_2712 rfl (lv_at hl 1 rfl) ?_
  refine lv_iload hx hb dL_law_2713 (lv_at hl 6 rfl) ?_
  refine lv_iconst (v := 1) hx hb dL_law_2715 (by decide) ?_
  refine lv_iadd hx hb dL_law_2716 ?_
  refine pv_setI 1 (by decide) ?_
  refine va_sld hx hb hX hbl hbA hS (by unfold vp_in; decide) dL_law_2717 ?_
  refine pv_setI (xs 1) rfl ?_
  refine lv_aload_n hx hb dL_law_2718 rfl (lv_at hl 1 rfl) ?_
  refine lv_iload hx hb dL_law_2719 (lv_at hl 6 rfl) ?_
  refine lv_iconst (v := 2) hx hb dL_law_2721 (by decide) ?_
  refine pv_pc 2722 rfl ?_
  refine lv_iadd hx hb dL_law_2722 ?_
  refine pv_setI 2 (by decide) ?_
  refine va_sld hx hb hX hbl hbA hS (by unfold vp_in; decide) dL_law_2723 ?_
  refine pv_setI (xs 2) rfl ?_
  have hF := va_free (wc := [(m0, .inr (1, pv_m 0 mq))]) hD hS hA [1] rfl
  refine va_calli (va_runV (As := [.int (xs 1), .int (xs 2)]) (rest := []) ⟨hx, hb, hml, hown, hts⟩ (c_X13_basisTerms l hfl D _ m0 mq (xs 1) (xs 2)) (cwV 2 hts (pv_gV w11_21 w11_22 w11_23 w1_10 w11_24) rfl rfl rfl (by decide +kernel) ⟨Nat.le_of_ble_eq_true rfl, Nat.le_of_ble_eq_true rfl⟩) (pv_pV hE hS hF (hP.sub [1] rfl) (hK.sub [] rfl) (hD.sub [1] (by decide) rfl) (va_recv (ci := 1) (q0 := 1) hK hP rfl rfl)) rfl rfl hl.1 rfl (lv_room (Nat.le_of_ble_eq_true rfl)) dL_law_2724 ⟨Nat.le_of_ble_eq_true rfl, Nat.le_of_ble_eq_true rfl⟩) hS (fun q _ h => hF q h) hF (fun r_1 u t H1 locs1 ht hvm hw hB hz1 hk1 hS => ?_)
  refine W.widen (k := 398) (n := 653827) (Nat.le_of_ble_eq_true rfl) (Nat.le_of_ble_eq_true rfl) ?_
  subst hw
  obtain ⟨fs_3, hf_4, hP1, hK1, hD1⟩ := hB
  rw [ht] at hP1
  have hK1 := va_K.moved hvm.symm hK1
  obtain ⟨hP, hD⟩ := va_join (wr := [(x0, .inr (0, [.ref (xq 0), .int 0, .int 108, .ref (xq 1), .int 0, .ref (xq 2), .int 0, .ref (xq 3), .ref (xq 4), .int 1, .ref (xq 5), .ref (xq 6), .ref (xq 7), .ref (xq 8), .ref (xq 9)]))]) (w1 := [(m0, .inr (1, fs_3))]) hP hD [1] [0] rfl rfl (by decide) (by decide) hk1 hF hP1 hD1
  have hP : va_P D pv_cl [(x0, .inr (0, [.ref (xq 0), .int 0, .int 108, .ref (xq 1), .int 0, .ref (xq 2), .int 0, .ref (xq 3), .ref (xq 4), .int 1, .ref (xq 5), .ref (xq 6), .ref (xq 7), .ref (xq 8), .ref (xq 9)])), (m0, .inr (1, fs_3))] _ := hP
  have hD : va_D A [(x0, .inr (0, [.ref (xq 0), .int 0, .int 108, .ref (xq 1), .int 0, .ref (xq 2), .int 0, .ref (xq 3), .ref (xq 4), .int 1, .ref (xq 5), .ref (xq 6), .ref (xq 7), .ref (xq 8), .ref (xq 9)])), (m0, .inr (1, fs_3))] := hD
  refine lv_istore (lv' := [(7, .int r_1), (6, .int 1), (0, .ref b), (1, .ref x0), (2, .ref m0), (3, .ref o0), (4, .ref d0), (5, .int 0)]) hx hb dL_law_2727 hl (by decide) rfl (fun ls hl => ?_)
  refine lv_aload_n hx hb dL_law_2729 rfl (lv_at hl 4 rfl) ?_
  have hF := pv_new hA hS.1
  refine va_calli (va_runV (As := []) (rest := []) ⟨hx, hb, hml, hown, hts⟩ (c_X13_thrown l hfl D _ m0 fs_3 1 hf_4) (cwV 0 hts (pv_gV w9_102 w9_103 w9_104 w1_10 w9_105) rfl rfl rfl (by decide +kernel) ⟨Nat.le_of_ble_eq_true rfl, Nat.le_of_ble_eq_true rfl⟩) (pv_pV hE hS hF (hP.sub [1] rfl) (hK.sub [] rfl) (hD.sub [1] (by decide) rfl) (va_recv (ci := 1) (q0 := 1) hK hP rfl rfl)) rfl rfl hl.1 rfl (lv_room (Nat.le_of_ble_eq_true rfl)) dL_law_2730 ⟨Nat.le_of_ble_eq_true rfl, Nat.le_of_ble_eq_true rfl⟩) hS (fun q _ h => hF q h) hF (fun r_4 u t H1 locs1 ht hvm hw hB hz1 hk1 hS => ?_)
  refine W.widen (k := 398) (n := 653827) (Nat.le_of_ble_eq_true rfl) (Nat.le_of_ble_eq_true rfl) ?_
  have hP := pv_keep hP rfl hk1
  subst hw
  refine lv_iload hx hb dL_law_2733 (lv_at hl 1 rfl) ?_
  refine lv_icmp_eq (tgt := 2740) hx hb dL_law_2735 (by decide) (fun _ => ?_) (fun c_6 => absurd (by decide) c_6)
  refine lv_iload hx hb dL_law_2740 (lv_at hl 1 rfl) ?_
  refine lv_if_ne (tgt := 2757) hx hb dL_law_2742 (by decide) (fun _ => ?_) (fun c_7 => absurd c_7 (by decide))
  refine lv_goto (tgt := 3721) hx hb dL_law_2757 (by decide) ?_
  refine lv_iinc (v := 7) (lv' := [(5, .int 7), (7, .int r_1), (6, .int 1), (0, .ref b), (1, .ref x0), (2, .ref m0), (3, .ref o0), (4, .ref d0)]) hx hb dL_law_3721 hl (k := 7) rfl (by decide) (by decide) rfl (fun ls hl => ?_)
  refine pv_pc 3724 rfl ?_
  refine lv_goto (tgt := 28) hx hb dL_law_3724 (by decide) ?_
  refine lv_iload hx hb dL_law_28 (lv_at hl 0 rfl) ?_
  refine lv_aload_n hx hb dL_law_30 rfl (lv_at hl 3 rfl) ?_
  refine va_slen hx hb hX hbl hbA hS dL_law_31 ?_
  refine pv_setI 7 rfl ?_
  refine lv_bipush (v := 7) hx hb dL_law_32 (by decide) ?_
  refine lv_isub hx hb dL_law_34 ?_
  refine pv_setI 0 (by decide) ?_
  refine lv_icmp_gt (tgt := 3727) hx hb dL_law_35 (by decide) (fun _ => ?_) (fun c_8 => absurd (by decide) c_8)
  refine lv_iconst (v := 1) hx hb dL_law_3727 (by decide) ?_
  refine va_forget (fun q hq => hAf _ (hS.2.2 q hq)) ?_
  refine W.widen (k := 600006) (n := 7302064) (Nat.le_of_ble_eq_true rfl) (Nat.le_of_ble_eq_true rfl) ?_
  exact lw_ret (d0 := s.drawn) (Drawn.sameBut.refl s.drawn lw_cs) hx hb hr hlocks dL_law_3728

