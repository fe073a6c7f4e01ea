theorem dL_constant_0 : decode cL_constant 0 = .ok (.aload_n 3, 1) := by decide +kernel
theorem dL_constant_1 : decode cL_constant 1 = .ok (.iconst 0, 1) := by decide +kernel
theorem dL_constant_2 : decode cL_constant 2 = .ok (.aload_n 0, 1) := by decide +kernel
theorem dL_constant_3 : decode cL_constant 3 = .ok (.iload_n 1, 1) := by decide +kernel
theorem dL_constant_4 : decode cL_constant 4 = .ok (.iload_n 2, 1) := by decide +kernel
theorem dL_constant_5 : decode cL_constant 5 = .ok (.invokevirtual 7, 3) := by decide +kernel
theorem w4_141 : (Jvm.Cond.methodLink "PolyforgeLaw" (7 : Nat) ({ cls := "Polyforge", name := "constant", desc := "(II)I" } : Jvm.MethodName)) ∈ lw_tbl := pv_t4 (pv_mg 141 rfl)
theorem w4_144 : (Jvm.Cond.code ({ cls := "Polyforge", name := "constant", desc := "(II)I" } : Jvm.MethodName) prog_1_method_2_code (3 : Nat) (Option.some Jvm.ClassFile.FieldType.int)) ∈ lw_tbl := pv_t4 (pv_mg 144 rfl)
theorem w4_143 : (Jvm.Cond.selects "Polyforge" ({ cls := "Polyforge", name := "constant", desc := "(II)I" } : Jvm.MethodName) ({ cls := "Polyforge", name := "constant", desc := "(II)I" } : Jvm.MethodName)) ∈ lw_tbl := pv_t4 (pv_mg 143 rfl)
theorem w4_142 : (Jvm.Cond.instanceMethod ({ cls := "Polyforge", name := "constant", desc := "(II)I" } : Jvm.MethodName)) ∈ lw_tbl := pv_t4 (pv_mg 142 rfl)
theorem w4_139 : (Jvm.Cond.classLink "PolyforgeLaw" (13 : Nat) "java/lang/IllegalArgumentException") ∈ lw_tbl := pv_t4 (pv_mg 139 rfl)
theorem w4_153 : (Jvm.Cond.castable "java/lang/IllegalArgumentException" "java/lang/IllegalArgumentException") ∈ lw_tbl := pv_t4 (pv_mg 153 rfl)
theorem dL_constant_13 : decode cL_constant 13 = .ok (.astore 4, 2) := by decide +kernel
theorem dL_constant_15 : decode cL_constant 15 = .ok (.iconst 1, 1) := by decide +kernel
theorem dL_constant_16 : decode cL_constant 16 = .ok (.ireturn, 1) := by decide +kernel
theorem dL_constant_8 : decode cL_constant 8 = .ok (.i2l, 1) := by decide +kernel
theorem dL_constant_9 : decode cL_constant 9 = .ok (.lastore, 1) := by decide +kernel
theorem dL_constant_10 : decode cL_constant 10 = .ok (.goto 11, 3) := by decide +kernel
theorem dL_constant_21 : decode cL_constant 21 = .ok (.iconst 0, 1) := by decide +kernel
theorem dL_constant_22 : decode cL_constant 22 = .ok (.ireturn, 1) := by decide +kernel
set_option maxHeartbeats 4000000 in
set_option maxRecDepth 100000 in
/-- constant -/
theorem c_L_constant (l : Launch) (hfl : l.stackTraces = false) (D : va_G) (sz : Nat) (h0 : Nat) (q w : Nat → Nat) (cJ cP : ClassId) (f : Nat → Int64) (cL : ClassId) (p0 p1 : Int32) (o0 : Nat) (fo : Nat → Int64) : Met l yL_constant (Cond.codeWith yL_constant cL_constant 5 (some .int) [(0, 10, 13, 13), (0, 10, 17, 15)] :: pv_W) ({ frames := 9, cells := 3, slots := 9, locals := 146 } : Room) (va_Pc [.ref h0, .int p0, .int p1, .ref o0] (pv_P D [(cJ, .long), (cP, .object "Polyforge$Polynomial"), (cL, .long)] [(h0, .inr (0, [.ref (q 0), .int 0, .int 108, .ref (q 1), .int 0, .ref (q 2), .int 0, .ref (q 3), .ref (q 4), .int 1, .ref (q 5), .ref (q 6), .ref (q 7), .ref (q 8), .ref (q 9)])), ((q 6), .inr (2, [.ref (w 0), .ref (w 1), .ref (w 2), .ref (w 3), .int 0, .int 0])), ((w 2), .inl (cJ, 64, .inr (.inl f))), ((q 0), .inl (cP, 60, .inr (.inr (.inr (.inr (fun _ => none)))))), (o0, .inl (cL, 1, .inr (.inl fo)))] (va_A [(h0, .inr (0, [.ref (q 0), .int 0, .int 108, .ref (q 1), .int 0, .ref (q 2), .int 0, .ref (q 3), .ref (q 4), .int 1, .ref (q 5), .ref (q 6), .ref (q 7), .ref (q 8), .ref (q 9)])), ((q 6), .inr (2, [.ref (w 0), .ref (w 1), .ref (w 2), .ref (w 3), .int 0, .int 0])), ((w 2), .inl (cJ, 64, .inr (.inl f))), ((q 0), .inl (cP, 60, .inr (.inr (.inr (.inr (fun _ => none)))))), (o0, .inl (cL, 1, .inr (.inl fo)))] sz) sz)) (va_Qi (fun r (u : Int64) => (r = 0 ∧ u = 0 ∧ (p0 = 0 ∨ pv_pr p0)) ∨ (r = 1 ∧ ¬ (p0 = 0 ∨ pv_pr p0))) (fun u t => ∃ f9 : Nat → Int64, f9 0 = u ∧ va_P D pv_cl [(o0, .inl (cL, 1, .inr (.inl f9)))] t.heap ∧ va_K D pv_cl [(cL, .long)] t ∧ va_D (va_A [(h0, .inr (0, [.ref (q 0), .int 0, .int 108, .ref (q 1), .int 0, .ref (q 2), .int 0, .ref (q 3), .ref (q 4), .int 1, .ref (q 5), .ref (q 6), .ref (q 7), .ref (q 8), .ref (q 9)])), ((q 6), .inr (2, [.ref (w 0), .ref (w 1), .ref (w 2), .ref (w 3), .int 0, .int 0])), ((w 2), .inl (cJ, 64, .inr (.inl f))), ((q 0), .inl (cP, 60, .inr (.inr (.inr (.inr (fun _ => none)))))), (o0, .inl (cL, 1, .inr (.inl fo)))] sz) [(o0, .inl (cL, 1, .inr (.inl f9)))]) (va_A [(h0, .inr (0, [.ref (q 0), .int 0, .int 108, .ref (q 1), .int 0, .ref (q 2), .int 0, .ref (q 3), .ref (q 4), .int 1, .ref (q 5), .ref (q 6), .ref (q 7), .ref (q 8), .ref (q 9)])), ((q 6), .inr (2, [.ref (w 0), .ref (w 1), .ref (w 2), .ref (w 3), .int 0, .int 0])), ((w 2), .inl (cJ, 64, .inr (.inl f))), ((q 0), .inl (cP, 60, .inr (.inr (.inr (.inr (fun _ => none)))))), (o0, .inl (cL, 1, .inr (.inl fo)))] sz)) 3 9 (va_A [(h0, .inr (0, [.ref (q 0), .int 0, .int 108, .ref (q 1), .int 0, .ref (q 2), .int 0, .ref (q 3), .ref (q 4), .int 1, .ref (q 5), .ref (q 6), .ref (q 7), .ref (q 8), .ref (q 9)])), ((q 6), .inr (2, [.ref (w 0), .ref (w 1), .ref (w 2), .ref (w 3), .int 0, .int 0])), ((w 2), .inl (cJ, 64, .inr (.inl f))), ((q 0), .inl (cP, 60, .inr (.inr (.inr (.inr (fun _ => none)))))), (o0, .inl (cL, 1, .inr (.inl fo)))] sz) := by
  refine pv_ofWH (cc := cL_constant) (maxL := 5) (ret := (some .int)) (by decide) rfl ?_
  intro p e s m args below meth c s₁ B hml hv
  obtain ⟨rfl, hsz, hE, hP, hK, hD0⟩ := hv
  have hx := B.exec
  have hb := B.bytes
  have hr := B.returns
  have hts := fun (w : Cond) (h : w ∈ pv_W) => atoms_spec (ws := Cond.codeWith yL_constant cL_constant 5 (some .int) [(0, 10, 13, 13), (0, 10, 17, 15)] :: pv_W) B.pre w (List.mem_cons_of_mem _ h)
  have hg := fun {w : Cond} (h : w ∈ lw_tbl) (g : goodWord w = true) => hts w (pv_in h g)
  have hown : s.vm.findClass RL = some m.cls := findClass_of_methodNamed B.named
  have hlocks := B.notSynchronized
  have hcw := atoms_spec (ws := Cond.codeWith yL_constant cL_constant 5 (some .int) [(0, 10, 13, 13), (0, 10, 17, 15)] :: pv_W) B.pre _ List.mem_cons_self
  subst hsz
  have hD := hD0.self (sz := s.heap.size)
  generalize hAe : va_A [(h0, .inr (0, [.ref (q 0), .int 0, .int 108, .ref (q 1), .int 0, .ref (q 2), .int 0, .ref (q 3), .ref (q 4), .int 1, .ref (q 5), .ref (q 6), .ref (q 7), .ref (q 8), .ref (q 9)])), ((q 6), .inr (2, [.ref (w 0), .ref (w 1), .ref (w 2), .ref (w 3), .int 0, .int 0])), ((w 2), .inl (cJ, 64, .inr (.inl f))), ((q 0), .inl (cP, 60, .inr (.inr (.inr (.inr (fun _ => none)))))), (o0, .inl (cL, 1, .inr (.inl fo)))] s.heap.size = A at hD hE ⊢
  have hA : ∀ q : Nat, s.heap.size ≤ q → A q := fun q h => by rw [← hAe]; exact Or.inr h
  have hS : va_S A s.heap s.heap [] := va_S.rf
  have hP : va_P D pv_cl [(h0, .inr (0, [.ref (q 0), .int 0, .int 108, .ref (q 1), .int 0, .ref (q 2), .int 0, .ref (q 3), .ref (q 4), .int 1, .ref (q 5), .ref (q 6), .ref (q 7), .ref (q 8), .ref (q 9)])), ((q 6), .inr (2, [.ref (w 0), .ref (w 1), .ref (w 2), .ref (w 3), .int 0, .int 0])), ((w 2), .inl (cJ, 64, .inr (.inl f))), ((q 0), .inl (cP, 60, .inr (.inr (.inr (.inr (fun _ => none)))))), (o0, .inl (cL, 1, .inr (.inl fo)))] s.heap := hP
  have hl := lv_entry ([.ref h0, .int p0, .int p1, .ref o0]) (n := 5) (Nat.le_of_ble_eq_true rfl)
  rw [lg_entry_eq]
  generalize (lg_sl ([.ref h0, .int p0, .int p1, .ref o0]) ++ List.replicate (5 - (lg_sl ([.ref h0, .int p0, .int p1, .ref o0])).length) Slot.unset).toArray = ls at hl ⊢
  have hl : lv_has ls 5 [(0, .ref h0), (1, .int p0), (2, .int p1), (3, .ref o0)] := hl
  refine lv_aload_n hx hb dL_constant_0 rfl (lv_at hl 3 rfl) ?_
  refine lv_iconst (v := 0) hx hb dL_constant_1 (by decide) ?_
  refine lv_aload_n hx hb dL_constant_2 rfl (lv_at hl 0 rfl) ?_
  refine lv_iload_n hx hb dL_constant_3 rfl (lv_at hl 1 rfl) ?_
  refine lv_iload_n hx hb dL_constant_4 rfl (lv_at hl 2 rfl) ?_
  have hF := va_free (wc := [(h0, .inr (0, [.ref (q 0), .int 0, .int 108, .ref (q 1), .int 0, .ref (q 2), .int 0, .ref (q 3), .ref (q 4), .int 1, .ref (q 5), .ref (q 6), .ref (q 7), .ref (q 8), .ref (q 9)])), ((q 6), .inr (2, [.ref (w 0), .ref (w 1), .ref (w 2), .ref (w 3), .int 0, .int 0])), ((w 2), .inl (cJ, 64, .inr (.inl f))), ((q 0), .inl (cP, 60, .inr (.inr (.inr (.inr (fun _ => none))))))]) hD hS hA [0, 1, 2, 3] rfl
  refine vx_calli (vx_runV (As := [.int p0, .int p1]) (rest := [.int 0, .ref o0]) ⟨hx, hb, hml, hown, hts⟩ (c_X11_constant l hfl D _ h0 q w cJ cP f p0 p1) (cwV 2 hts (pv_gV w4_141 w4_142 w4_143 w1_1 w4_144) rfl rfl rfl (by decide +kernel) ⟨Nat.le_of_ble_eq_true rfl, Nat.le_of_ble_eq_true rfl⟩) (pv_pV hE hS hF (hP.sub [0, 1, 2, 3] rfl) (hK.sub [0, 1] rfl) (hD.sub [0, 1, 2, 3] (by decide) rfl) (va_recv (ci := 0) (q0 := 0) hK hP rfl rfl)) rfl rfl hl.1 rfl (lv_room (Nat.le_of_ble_eq_true rfl)) dL_constant_5 ⟨Nat.le_of_ble_eq_true rfl, Nat.le_of_ble_eq_true rfl⟩) hS (fun q _ h => hF q h) hF (fun q _ h => hF q h) (fun E ce q9 u t H1 locs1 ht hvm hpx hbx hz1 hk1 hS hce hcv hcl => ?_) (fun r_0 u t H1 locs1 ht hvm hw hB hz1 hk1 hS => ?_)
  · obtain ⟨rfl, hneg⟩ := hbx
    obtain ⟨hP, hD⟩ := va_join (wr := [(o0, .inl (cL, 1, .inr (.inl fo)))]) (w1 := []) hP hD [0, 1, 2, 3] [4] rfl rfl (by decide) (by decide) hk1 hF pv_P0 pv_D0
    have hP : va_P D pv_cl [(o0, .inl (cL, 1, .inr (.inl fo)))] _ := hP
    have hD : va_D A [(o0, .inl (cL, 1, .inr (.inl fo)))] := hD
    refine vx_catch (own := RL) (name := "java/lang/IllegalArgumentException") hown [] ⟨0, 10, 13, 13⟩ _ ((vx_table (x := yL_law) B hcw).trans rfl) (fun z hz => nomatch hz) rfl (by decide) (hg w4_139 rfl) (va_Nw.use rfl (hE.2.2.1 _ (pv_ib w4_153 rfl))) hce hcv hcl ?_
    refine W.widen (k := 3) (n := 9) (Nat.le_of_ble_eq_true rfl) (Nat.le_of_ble_eq_true rfl) ?_
    refine lv_astore (lv' := [(4, .ref q9), (0, .ref h0), (1, .int p0), (2, .int p1), (3, .ref o0)]) hx hb dL_constant_13 hl (by decide) rfl (fun ls hl => ?_)
    refine lv_iconst (v := 1) hx hb dL_constant_15 (by decide) ?_
    refine W.widen (k := 3) (n := 9) (Nat.le_of_ble_eq_true rfl) (Nat.le_of_ble_eq_true rfl) ?_
    exact W.iret (v := 1) hx hb hr (fun t ht hW => ⟨⟨1, fo 0, rfl, Or.inr ⟨rfl, hneg⟩, fo, rfl, (by rw [ht]; exact hP.sub [0] rfl), va_K.moved hW.alike (hK.sub [2] rfl), hD.sub [0] (by decide) rfl⟩, hS.F ht⟩) hS.2.2 dL_constant_16
  · refine W.widen (k := 3) (n := 9) (Nat.le_of_ble_eq_true rfl) (Nat.le_of_ble_eq_true rfl) ?_
    obtain ⟨rfl, hcond⟩ := hw
    obtain ⟨hP, hD⟩ := va_join (wr := [(o0, .inl (cL, 1, .inr (.inl fo)))]) (w1 := []) hP hD [0, 1, 2, 3] [4] rfl rfl (by decide) (by decide) hk1 hF pv_P0 pv_D0
    have hP : va_P D pv_cl [(o0, .inl (cL, 1, .inr (.inl fo)))] _ := hP
    have hD : va_D A [(o0, .inl (cL, 1, .inr (.inl fo)))] := hD
    refine lv_i2l (v := 0) hx hb dL_constant_8 (by decide) ?_
    refine va_last hx hb hK hP hD hS 0 2 rfl rfl (by unfold vp_in; decide) dL_constant_9 (fun H locs hP hD hS => ?_)
    have hP : va_P D pv_cl [(o0, .inl (cL, 1, .inr (.inl (vp_updL (fo) (0 : Int32).toNatClampNeg 0))))] _ := hP
    have hD : va_D A [(o0, .inl (cL, 1, .inr (.inl (vp_updL (fo) (0 : Int32).toNatClampNeg 0))))] := hD
    refine lv_goto (tgt := 21) hx hb dL_constant_10 (by decide) ?_
    refine lv_iconst (v := 0) hx hb dL_constant_21 (by decide) ?_
    refine W.widen (k := 3) (n := 9) (Nat.le_of_ble_eq_true rfl) (Nat.le_of_ble_eq_true rfl) ?_
    exact W.iret (v := 0) hx hb hr (fun t ht hW => ⟨⟨0, 0, rfl, Or.inl ⟨rfl, rfl, hcond⟩, vp_updL (fo) (0 : Int32).toNatClampNeg 0, pk_uLs, (by rw [ht]; exact hP.sub [0] rfl), va_K.moved hW.alike (hK.sub [2] rfl), hD.sub [0] (by decide) rfl⟩, hS.F ht⟩) hS.2.2 dL_constant_22

theorem dL_variable_0 : decode cL_variable 0 = .ok (.aload_n 3, 1) := by decide +kernel
theorem dL_variable_1 : decode cL_variable 1 = .ok (.iconst 0, 1) := by decide +kernel
theorem dL_variable_2 : decode cL_variable 2 = .ok (.aload_n 0, 1) := by decide +kernel
theorem dL_variable_3 : decode cL_variable 3 = .ok (.iload_n 1, 1) := by decide +kernel
theorem dL_variable_4 : decode cL_variable 4 = .ok (.iload_n 2, 1) := by decide +kernel
theorem dL_variable_5 : decode cL_variable 5 = .ok (.invokevirtual 17, 3) := by decide +kernel
theorem w5_52 : (Jvm.Cond.methodLink "PolyforgeLaw" (17 : Nat) ({ cls := "Polyforge", name := "variable", desc := "(II)I" } : Jvm.MethodName)) ∈ lw_tbl := pv_t5 (pv_mg 52 rfl)
theorem w5_55 : (Jvm.Cond.code ({ cls := "Polyforge", name := "variable", desc := "(II)I" } : Jvm.MethodName) prog_1_method_3_code (3 : Nat) (Option.some Jvm.ClassFile.FieldType.int)) ∈ lw_tbl := pv_t5 (pv_mg 55 rfl)
theorem w5_54 : (Jvm.Cond.selects "Polyforge" ({ cls := "Polyforge", name := "variable", desc := "(II)I" } : Jvm.MethodName) ({ cls := "Polyforge", name := "variable", desc := "(II)I" } : Jvm.MethodName)) ∈ lw_tbl := pv_t5 (pv_mg 54 rfl)
theorem w5_53 : (Jvm.Cond.instanceMethod ({ cls := "Polyforge", name := "variable", desc := "(II)I" } : Jvm.MethodName)) ∈ lw_tbl := pv_t5 (pv_mg 53 rfl)
theorem dL_variable_13 : decode cL_variable 13 = .ok (.astore 4, 2) := by decide +kernel
theorem dL_variable_15 : decode cL_variable 15 = .ok (.iconst 1, 1) := by decide +kernel
theorem dL_variable_16 : decode cL_variable 16 = .ok (.ireturn, 1) := by decide +kernel
theorem dL_variable_8 : decode cL_variable 8 = .ok (.i2l, 1) := by decide +kernel
theorem dL_variable_9 : decode cL_variable 9 = .ok (.lastore, 1) := by decide +kernel
theorem dL_variable_10 : decode cL_variable 10 = .ok (.goto 11, 3) := by decide +kernel
theorem dL_variable_21 : decode cL_variable 21 = .ok (.iconst 0, 1) := by decide +kernel
theorem dL_variable_22 : decode cL_variable 22 = .ok (.ireturn, 1) := by decide +kernel
set_option maxHeartbeats 4000000 in
set_option maxRecDepth 100000 in
/-- variable -/
theorem c_L_variable (l : Launch) (hfl : l.stackTraces = false) (D : va_G) (sz : Nat) (h0 : Nat) (q w : Nat → Nat) (cJ cP : ClassId) (f : Nat → Int64) (cL : ClassId) (p0 p1 : Int32) (o0 : Nat) (fo : Nat → Int64) : Met l yL_variable (Cond.codeWith yL_variable cL_variable 5 (some .int) [(0, 10, 13, 13), (0, 10, 17, 15)] :: pv_W) ({ frames := 9, cells := 4, slots := 15, locals := 146 } : Room) (va_Pc [.ref h0, .int p0, .int p1, .ref o0] (pv_P D [(cJ, .long), (cP, .object "Polyforge$Polynomial"), (cL, .long)] [(h0, .inr (0, [.ref (q 0), .int 0, .int 108, .ref (q 1), .int 0, .ref (q 2), .int 0, .ref (q 3), .ref (q 4), .int 1, .ref (q 5), .ref (q 6), .ref (q 7), .ref (q 8), .ref (q 9)])), ((q 6), .inr (2, [.ref (w 0), .ref (w 1), .ref (w 2), .ref (w 3), .int 0, .int 0])), ((w 2), .inl (cJ, 64, .inr (.inl f))), ((q 0), .inl (cP, 60, .inr (.inr (.inr (.inr (fun _ => none)))))), (o0, .inl (cL, 1, .inr (.inl fo)))] (va_A [(h0, .inr (0, [.ref (q 0), .int 0, .int 108, .ref (q 1), .int 0, .ref (q 2), .int 0, .ref (q 3), .ref (q 4), .int 1, .ref (q 5), .ref (q 6), .ref (q 7), .ref (q 8), .ref (q 9)])), ((q 6), .inr (2, [.ref (w 0), .ref (w 1), .ref (w 2), .ref (w 3), .int 0, .int 0])), ((w 2), .inl (cJ, 64, .inr (.inl f))), ((q 0), .inl (cP, 60, .inr (.inr (.inr (.inr (fun _ => none)))))), (o0, .inl (cL, 1, .inr (.inl fo)))] sz) sz)) (va_Qi (fun r (u : Int64) => (r = 0 ∧ u = 0 ∧ ((p0 = 0 ∨ pv_pr p0) ∧ pv_vr p1)) ∨ (r = 1 ∧ ¬ ((p0 = 0 ∨ pv_pr p0) ∧ pv_vr p1))) (fun u t => ∃ f9 : Nat → Int64, f9 0 = u ∧ va_P D pv_cl [(o0, .inl (cL, 1, .inr (.inl f9)))] t.heap ∧ va_K D pv_cl [(cL, .long)] t ∧ va_D (va_A [(h0, .inr (0, [.ref (q 0), .int 0, .int 108, .ref (q 1), .int 0, .ref (q 2), .int 0, .ref (q 3), .ref (q 4), .int 1, .ref (q 5), .ref (q 6), .ref (q 7), .ref (q 8), .ref (q 9)])), ((q 6), .inr (2, [.ref (w 0), .ref (w 1), .ref (w 2), .ref (w 3), .int 0, .int 0])), ((w 2), .inl (cJ, 64, .inr (.inl f))), ((q 0), .inl (cP, 60, .inr (.inr (.inr (.inr (fun _ => none)))))), (o0, .inl (cL, 1, .inr (.inl fo)))] sz) [(o0, .inl (cL, 1, .inr (.inl f9)))]) (va_A [(h0, .inr (0, [.ref (q 0), .int 0, .int 108, .ref (q 1), .int 0, .ref (q 2), .int 0, .ref (q 3), .ref (q 4), .int 1, .ref (q 5), .ref (q 6), .ref (q 7), .ref (q 8), .ref (q 9)])), ((q 6), .inr (2, [.ref (w 0), .ref (w 1), .ref (w 2), .ref (w 3), .int 0, .int 0])), ((w 2), .inl (cJ, 64, .inr (.inl f))), ((q 0), .inl (cP, 60, .inr (.inr (.inr (.inr (fun _ => none)))))), (o0, .inl (cL, 1, .inr (.inl fo)))] sz)) 4 15 (va_A [(h0, .inr (0, [.ref (q 0), .int 0, .int 108, .ref (q 1), .int 0, .ref (q 2), .int 0, .ref (q 3), .ref (q 4), .int 1, .ref (q 5), .ref (q 6), .ref (q 7), .ref (q 8), .ref (q 9)])), ((q 6), .inr (2, [.ref (w 0), .ref (w 1), .ref (w 2), .ref (w 3), .int 0, .int 0])), ((w 2), .inl (cJ, 64, .inr (.inl f))), ((q 0), .inl (cP, 60, .inr (.inr (.inr (.inr (fun _ => none)))))), (o0, .inl (cL, 1, .inr (.inl fo)))] sz) := by
  refine pv_ofWH (cc := cL_variable) (maxL := 5) (ret := (some .int)) (by decide) rfl ?_
  intro p e s m args below meth c s₁ B hml hv
  obtain ⟨rfl, hsz, hE, hP, hK, hD0⟩ := hv
  have hx := B.exec
  have hb := B.bytes
  have hr := B.returns
  have hts := fun (w : Cond) (h : w ∈ pv_W) => atoms_spec (ws := Cond.codeWith yL_variable cL_variable 5 (some .int) [(0, 10, 13, 13), (0, 10, 17, 15)] :: pv_W) B.pre w (List.mem_cons_of_mem _ h)
  have hg := fun {w : Cond} (h : w ∈ lw_tbl) (g : goodWord w = true) => hts w (pv_in h g)
  have hown : s.vm.findClass RL = some m.cls := findClass_of_methodNamed B.named
  have hlocks := B.notSynchronized
  have hcw := atoms_spec (ws := Cond.codeWith yL_variable cL_variable 5 (some .int) [(0, 10, 13, 13), (0, 10, 17, 15)] :: pv_W) B.pre _ List.mem_cons_self
  subst hsz
  have hD := hD0.self (sz := s.heap.size)
  generalize hAe : va_A [(h0, .inr (0, [.ref (q 0), .int 0, .int 108, .ref (q 1), .int 0, .ref (q 2), .int 0, .ref (q 3), .ref (q 4), .int 1, .ref (q 5), .ref (q 6), .ref (q 7), .ref (q 8), .ref (q 9)])), ((q 6), .inr (2, [.ref (w 0), .ref (w 1), .ref (w 2), .ref (w 3), .int 0, .int 0])), ((w 2), .inl (cJ, 64, .inr (.inl f))), ((q 0), .inl (cP, 60, .inr (.inr (.inr (.inr (fun _ => none)))))), (o0, .inl (cL, 1, .inr (.inl fo)))] s.heap.size = A at hD hE ⊢
  have hA : ∀ q : Nat, s.heap.size ≤ q → A q := fun q h => by rw [← hAe]; exact Or.inr h
  have hS : va_S A s.heap s.heap [] := va_S.rf
  have hP : va_P D pv_cl [(h0, .inr (0, [.ref (q 0), .int 0, .int 108, .ref (q 1), .int 0, .ref (q 2), .int 0, .ref (q 3), .ref (q 4), .int 1, .ref (q 5), .ref (q 6), .ref (q 7), .ref (q 8), .ref (q 9)])), ((q 6), .inr (2, [.ref (w 0), .ref (w 1), .ref (w 2), .ref (w 3), .int 0, .int 0])), ((w 2), .inl (cJ, 64, .inr (.inl f))), ((q 0), .inl (cP, 60, .inr (.inr (.inr (.inr (fun _ => none)))))), (o0, .inl (cL, 1, .inr (.inl fo)))] s.heap := hP
  have hl := lv_entry ([.ref h0, .int p0, .int p1, .ref o0]) (n := 5) (Nat.le_of_ble_eq_true rfl)
  rw [lg_entry_eq]
  generalize (lg_sl ([.ref h0, .int p0, .int p1, .ref o0]) ++ List.replicate (5 - (lg_sl ([.ref h0, .int p0, .int p1, .ref o0])).length) Slot.unset).toArray = ls at hl ⊢
  have hl : lv_has ls 5 [(0, .ref h0), (1, .int p0), (2, .int p1), (3, .ref o0)] := hl
  refine lv_aload_n hx hb dL_variable_0 rfl (lv_at hl 3 rfl) ?_
  refine lv_iconst (v := 0) hx hb dL_variable_1 (by decide) ?_
  refine lv_aload_n hx hb dL_variable_2 rfl (lv_at hl 0 rfl) ?_
  refine lv_iload_n hx hb dL_variable_3 rfl (lv_at hl 1 rfl) ?_
  refine lv_iload_n hx hb dL_variable_4 rfl (lv_at hl 2 rfl) ?_
  have hF := va_free (wc := [(h0, .inr (0, [.ref (q 0), .int 0, .int 108, .ref (q 1), .int 0, .ref (q 2), .int 0, .ref (q 3), .ref (q 4), .int 1, .ref (q 5), .ref (q 6), .ref (q 7), .ref (q 8), .ref (q 9)])), ((q 6), .inr (2, [.ref (w 0), .ref (w 1), .ref (w 2), .ref (w 3), .int 0, .int 0])), ((w 2), .inl (cJ, 64, .inr (.inl f))), ((q 0), .inl (cP, 60, .inr (.inr (.inr (.inr (fun _ => none))))))]) hD hS hA [0, 1, 2, 3] rfl
  refine vx_calli (vx_runV (As := [.int p0, .int p1]) (rest := [.int 0, .ref o0]) ⟨hx, hb, hml, hown, hts⟩ (c_X11_variable l hfl D _ h0 q w cJ cP f p0 p1) (cwV 2 hts (pv_gV w5_52 w5_53 w5_54 w1_1 w5_55) rfl rfl rfl (by decide +kernel) ⟨Nat.le_of_ble_eq_true rfl, Nat.le_of_ble_eq_true rfl⟩) (pv_pV hE hS hF (hP.sub [0, 1, 2, 3] rfl) (hK.sub [0, 1] rfl) (hD.sub [0, 1, 2, 3] (by decide) rfl) (va_recv (ci := 0) (q0 := 0) hK hP rfl rfl)) rfl rfl hl.1 rfl (lv_room (Nat.le_of_ble_eq_true rfl)) dL_variable_5 ⟨Nat.le_of_ble_eq_true rfl, Nat.le_of_ble_eq_true rfl⟩) hS (fun q _ h => hF q h) hF (fun q _ h => hF q h) (fun E ce q9 u t H1 locs1 ht hvm hpx hbx hz1 hk1 hS hce hcv hcl => ?_) (fun r_0 u t H1 locs1 ht hvm hw hB hz1 hk1 hS => ?_)
  · obtain ⟨rfl, hneg⟩ := hbx
    obtain ⟨hP, hD⟩ := va_join (wr := [(o0, .inl (cL, 1, .inr (.inl fo)))]) (w1 := []) hP hD [0, 1, 2, 3] [4] rfl rfl (by decide) (by decide) hk1 hF pv_P0 pv_D0
    have hP : va_P D pv_cl [(o0, .inl (cL, 1, .inr (.inl fo)))] _ := hP
    have hD : va_D A [(o0, .inl (cL, 1, .inr (.inl fo)))] := hD
    refine vx_catch (own := RL) (name := "java/lang/IllegalArgumentException") hown [] ⟨0, 10, 13, 13⟩ _ ((vx_table (x := yL_law) B hcw).trans rfl) (fun z hz => nomatch hz) rfl (by decide) (hg w4_139 rfl) (va_Nw.use rfl (hE.2.2.1 _ (pv_ib w4_153 rfl))) hce hcv hcl ?_
    refine W.widen (k := 4) (n := 15) (Nat.le_of_ble_eq_true rfl) (Nat.le_of_ble_eq_true rfl) ?_
    refine lv_astore (lv' := [(4, .ref q9), (0, .ref h0), (1, .int p0), (2, .int p1), (3, .ref o0)]) hx hb dL_variable_13 hl (by decide) rfl (fun ls hl => ?_)
    refine lv_iconst (v := 1) hx hb dL_variable_15 (by decide) ?_
    refine W.widen (k := 4) (n := 15) (Nat.le_of_ble_eq_true rfl) (Nat.le_of_ble_eq_true rfl) ?_
    exact W.iret (v := 1) hx hb hr (fun t ht hW => ⟨⟨1, fo 0, rfl, Or.inr ⟨rfl, hneg⟩, fo, rfl, (by rw [ht]; exact hP.sub [0] rfl), va_K.moved hW.alike (hK.sub [2] rfl), hD.sub [0] (by decide) rfl⟩, hS.F ht⟩) hS.2.2 dL_variable_16
  · refine W.widen (k := 4) (n := 15) (Nat.le_of_ble_eq_true rfl) (Nat.le_of_ble_eq_true rfl) ?_
    obtain ⟨rfl, hcond⟩ := hw
    obtain ⟨hP, hD⟩ := va_join (wr := [(o0, .inl (cL, 1, .inr (.inl fo)))]) (w1 := []) hP hD [0, 1, 2, 3] [4] rfl rfl (by decide) (by decide) hk1 hF pv_P0 pv_D0
    have hP : va_P D pv_cl [(o0, .inl (cL, 1, .inr (.inl fo)))] _ := hP
    have hD : va_D A [(o0, .inl (cL, 1, .inr (.inl fo)))] := hD
    refine lv_i2l (v := 0) hx hb dL_variable_8 (by decide) ?_
    refine va_last hx hb hK hP hD hS 0 2 rfl rfl (by unfold vp_in; decide) dL_variable_9 (fun H locs hP hD hS => ?_)
    have hP : va_P D pv_cl [(o0, .inl (cL, 1, .inr (.inl (vp_updL (fo) (0 : Int32).toNatClampNeg 0))))] _ := hP
    have hD : va_D A [(o0, .inl (cL, 1, .inr (.inl (vp_updL (fo) (0 : Int32).toNatClampNeg 0))))] := hD
    refine lv_goto (tgt := 21) hx hb dL_variable_10 (by decide) ?_
    refine lv_iconst (v := 0) hx hb dL_variable_21 (by decide) ?_
    refine W.widen (k := 4) (n := 15) (Nat.le_of_ble_eq_true rfl) (Nat.le_of_ble_eq_true rfl) ?_
    exact W.iret (v := 0) hx hb hr (fun t ht hW => ⟨⟨0, 0, rfl, Or.inl ⟨rfl, rfl, hcond⟩, vp_updL (fo) (0 : Int32).toNatClampNeg 0, pk_uLs, (by rw [ht]; exact hP.sub [0] rfl), va_K.moved hW.alike (hK.sub [2] rfl), hD.sub [0] (by decide) rfl⟩, hS.F ht⟩) hS.2.2 dL_variable_22

theorem dL_setOrder_0 : decode cL_setOrder 0 = .ok (.aload_n 2, 1) := by decide +kernel
theorem dL_setOrder_1 : decode cL_setOrder 1 = .ok (.iconst 0, 1) := by decide +kernel
theorem dL_setOrder_2 : decode cL_setOrder 2 = .ok (.aload_n 0, 1) := by decide +kernel
theorem dL_setOrder_3 : decode cL_setOrder 3 = .ok (.iload_n 1, 1) := by decide +kernel
theorem dL_setOrder_4 : decode cL_setOrder 4 = .ok (.invokevirtual 61, 3) := by decide +kernel
theorem w6_92 : (Jvm.Cond.methodLink "PolyforgeLaw" (61 : Nat) ({ cls := "Polyforge", name := "setOrder", desc := "(C)C" } : Jvm.MethodName)) ∈ lw_tbl := pv_t6 (pv_mg 92 rfl)
theorem w6_95 : (Jvm.Cond.code ({ cls := "Polyforge", name := "setOrder", desc := "(C)C" } : Jvm.MethodName) prog_1_method_15_code (3 : Nat) (Option.some Jvm.ClassFile.FieldType.char)) ∈ lw_tbl := pv_t6 (pv_mg 95 rfl)
theorem w6_94 : (Jvm.Cond.selects "Polyforge" ({ cls := "Polyforge", name := "setOrder", desc := "(C)C" } : Jvm.MethodName) ({ cls := "Polyforge", name := "setOrder", desc := "(C)C" } : Jvm.MethodName)) ∈ lw_tbl := pv_t6 (pv_mg 94 rfl)
theorem w6_93 : (Jvm.Cond.instanceMethod ({ cls := "Polyforge", name := "setOrder", desc := "(C)C" } : Jvm.MethodName)) ∈ lw_tbl := pv_t6 (pv_mg 93 rfl)
theorem dL_setOrder_12 : decode cL_setOrder 12 = .ok (.astore_n 3, 1) := by decide +kernel
theorem dL_setOrder_13 : decode cL_setOrder 13 = .ok (.iconst 1, 1) := by decide +kernel
theorem dL_setOrder_14 : decode cL_setOrder 14 = .ok (.ireturn, 1) := by decide +kernel
theorem dL_setOrder_7 : decode cL_setOrder 7 = .ok (.i2l, 1) := by decide +kernel
theorem dL_setOrder_8 : decode cL_setOrder 8 = .ok (.lastore, 1) := by decide +kernel
theorem dL_setOrder_9 : decode cL_setOrder 9 = .ok (.goto 6, 3) := by decide +kernel
theorem dL_setOrder_15 : decode cL_setOrder 15 = .ok (.iconst 0, 1) := by decide +kernel
theorem dL_setOrder_16 : decode cL_setOrder 16 = .ok (.ireturn, 1) := by decide +kernel
set_option maxHeartbeats 4000000 in
set_option maxRecDepth 100000 in
/-- setOrder -/
theorem c_L_setOrder (l : Launch) (hfl : l.stackTraces = false) (D : va_G) (sz : Nat) (h0 : Nat) (q : Nat → Nat) (cL : ClassId) (p0 : Int32) (o0 : Nat) (fo : Nat → Int64) : Met l yL_setOrder (Cond.codeWith yL_setOrder cL_setOrder 4 (some .int) [(0, 9, 12, 13)] :: pv_W) ({ frames := 8, cells := 1, slots := 6, locals := 122 } : Room) (va_Pc [.ref h0, .int p0, .ref o0] (pv_P D [(cL, .long)] [(h0, .inr (0, [.ref (q 0), .int 0, .int 108, .ref (q 1), .int 0, .ref (q 2), .int 0, .ref (q 3), .ref (q 4), .int 1, .ref (q 5), .ref (q 6), .ref (q 7), .ref (q 8), .ref (q 9)])), (o0, .inl (cL, 1, .inr (.inl fo)))] (va_A [(h0, .inr (0, [.ref (q 0), .int 0, .int 108, .ref (q 1), .int 0, .ref (q 2), .int 0, .ref (q 3), .ref (q 4), .int 1, .ref (q 5), .ref (q 6), .ref (q 7), .ref (q 8), .ref (q 9)])), (o0, .inl (cL, 1, .inr (.inl fo)))] sz) sz)) (va_Qi (fun r (u : Int64) => (r = 0 ∧ u = 108 ∧ pv_od p0) ∨ (r = 1 ∧ ¬ pv_od p0)) (fun u t => ∃ f9 : Nat → Int64, f9 0 = u ∧ va_P D pv_cl [(o0, .inl (cL, 1, .inr (.inl f9)))] t.heap ∧ va_K D pv_cl [(cL, .long)] t ∧ va_D (va_A [(h0, .inr (0, [.ref (q 0), .int 0, .int 108, .ref (q 1), .int 0, .ref (q 2), .int 0, .ref (q 3), .ref (q 4), .int 1, .ref (q 5), .ref (q 6), .ref (q 7), .ref (q 8), .ref (q 9)])), (o0, .inl (cL, 1, .inr (.inl fo)))] sz) [(o0, .inl (cL, 1, .inr (.inl f9)))]) (va_A [(h0, .inr (0, [.ref (q 0), .int 0, .int 108, .ref (q 1), .int 0, .ref (q 2), .int 0, .ref (q 3), .ref (q 4), .int 1, .ref (q 5), .ref (q 6), .ref (q 7), .ref (q 8), .ref (q 9)])), (o0, .inl (cL, 1, .inr (.inl fo)))] sz)) 1 6 (va_A [(h0, .inr (0, [.ref (q 0), .int 0, .int 108, .ref (q 1), .int 0, .ref (q 2), .int 0, .ref (q 3), .ref (q 4), .int 1, .ref (q 5), .ref (q 6), .ref (q 7), .ref (q 8), .ref (q 9)])), (o0, .inl (cL, 1, .inr (.inl fo)))] sz) := by
  refine pv_ofWH (cc := cL_setOrder) (maxL := 4) (ret := (some .int)) (by decide) rfl ?_
  intro p e s m args below meth c s₁ B hml hv
  obtain ⟨rfl, hsz, hE, hP, hK, hD0⟩ := hv
  have hx := B.exec
  have hb := B.bytes
  have hr := B.returns
  have hts := fun (w : Cond) (h : w ∈ pv_W) => atoms_spec (ws := Cond.codeWith yL_setOrder cL_setOrder 4 (some .int) [(0, 9, 12, 13)] :: pv_W) B.pre w (List.mem_cons_of_mem _ h)
  have hg := fun {w : Cond} (h : w ∈ lw_tbl) (g : goodWord w = true) => hts w (pv_in h g)
  have hown : s.vm.findClass RL = some m.cls := findClass_of_methodNamed B.named
  have hlocks := B.notSynchronized
  have hcw := atoms_spec (ws := Cond.codeWith yL_setOrder cL_setOrder 4 (some .int) [(0, 9, 12, 13)] :: pv_W) B.pre _ List.mem_cons_self
  subst hsz
  have hD := hD0.self (sz := s.heap.size)
  generalize hAe : va_A [(h0, .inr (0, [.ref (q 0), .int 0, .int 108, .ref (q 1), .int 0, .ref (q 2), .int 0, .ref (q 3), .ref (q 4), .int 1, .ref (q 5), .ref (q 6), .ref (q 7), .ref (q 8), .ref (q 9)])), (o0, .inl (cL, 1, .inr (.inl fo)))] s.heap.size = A at hD hE ⊢
  have hA : ∀ q : Nat, s.heap.size ≤ q → A q := fun q h => by rw [← hAe]; exact Or.inr h
  have hS : va_S A s.heap s.heap [] := va_S.rf
  have hP : va_P D pv_cl [(h0, .inr (0, [.ref (q 0), .int 0, .int 108, .ref (q 1), .int 0, .ref (q 2), .int 0, .ref (q 3), .ref (q 4), .int 1, .ref (q 5), .ref (q 6), .ref (q 7), .ref (q 8), .ref (q 9)])), (o0, .inl (cL, 1, .inr (.inl fo)))] s.heap := hP
  have hl := lv_entry ([.ref h0, .int p0, .ref o0]) (n := 4) (Nat.le_of_ble_eq_true rfl)
  rw [lg_entry_eq]
  generalize (lg_sl ([.ref h0, .int p0, .ref o0]) ++ List.replicate (4 - (lg_sl ([.ref h0, .int p0, .ref o0])).length) Slot.unset).toArray = ls at hl ⊢
  have hl : lv_has ls 4 [(0, .ref h0), (1, .int p0), (2, .ref o0)] := hl
  refine lv_aload_n hx hb dL_setOrder_0 rfl (lv_at hl 2 rfl) ?_
  refine lv_iconst (v := 0) hx hb dL_setOrder_1 (by decide) ?_
  refine lv_aload_n hx hb dL_setOrder_2 rfl (lv_at hl 0 rfl) ?_
  refine lv_iload_n hx hb dL_setOrder_3 rfl (lv_at hl 1 rfl) ?_
  have hF := va_free (wc := [(h0, .inr (0, [.ref (q 0), .int 0, .int 108, .ref (q 1), .int 0, .ref (q 2), .int 0, .ref (q 3), .ref (q 4), .int 1, .ref (q 5), .ref (q 6), .ref (q 7), .ref (q 8), .ref (q 9)]))]) hD hS hA [0] rfl
  refine vx_calli (vx_runV (As := [.int p0]) (rest := [.int 0, .ref o0]) ⟨hx, hb, hml, hown, hts⟩ (c_X11_setOrder l hfl D _ h0 q p0) (cwV 1 hts (pv_gV w6_92 w6_93 w6_94 w1_1 w6_95) rfl rfl rfl (by decide +kernel) ⟨Nat.le_of_ble_eq_true rfl, Nat.le_of_ble_eq_true rfl⟩) (pv_pV hE hS hF (hP.sub [0] rfl) (hK.sub [] rfl) (hD.sub [0] (by decide) rfl) (va_recv (ci := 0) (q0 := 0) hK hP rfl rfl)) rfl rfl hl.1 rfl (lv_room (Nat.le_of_ble_eq_true rfl)) dL_setOrder_4 ⟨Nat.le_of_ble_eq_true rfl, Nat.le_of_ble_eq_true rfl⟩) hS (fun q _ h => hF q h) hF (fun q _ h => hF q h) (fun E ce q9 u t H1 locs1 ht hvm hpx hbx hz1 hk1 hS hce hcv hcl => ?_) (fun r_0 u t H1 locs1 ht hvm hw hB hz1 hk1 hS => ?_)
  · obtain ⟨rfl, hneg⟩ := hbx
    obtain ⟨hP, hD⟩ := va_join (wr := [(o0, .inl (cL, 1, .inr (.inl fo)))]) (w1 := []) hP hD [0] [1] rfl rfl (by decide) (by decide) hk1 hF pv_P0 pv_D0
    have hP : va_P D pv_cl [(o0, .inl (cL, 1, .inr (.inl fo)))] _ := hP
    have hD : va_D A [(o0, .inl (cL, 1, .inr (.inl fo)))] := hD
    refine vx_catch (own := RL) (name := "java/lang/IllegalArgumentException") hown [] ⟨0, 9, 12, 13⟩ _ ((vx_table (x := yL_law) B hcw).trans rfl) (fun z hz => nomatch hz) rfl (by decide) (hg w4_139 rfl) (va_Nw.use rfl (hE.2.2.1 _ (pv_ib w4_153 rfl))) hce hcv hcl ?_
    refine W.widen (k := 1) (n := 6) (Nat.le_of_ble_eq_true rfl) (Nat.le_of_ble_eq_true rfl) ?_
    refine lv_astore_n (lv' := [(3, .ref q9), (0, .ref h0), (1, .int p0), (2, .ref o0)]) hx hb dL_setOrder_12 rfl hl (by decide) rfl (fun ls hl => ?_)
    refine lv_iconst (v := 1) hx hb dL_setOrder_13 (by decide) ?_
    refine W.widen (k := 1) (n := 6) (Nat.le_of_ble_eq_true rfl) (Nat.le_of_ble_eq_true rfl) ?_
    exact W.iret (v := 1) hx hb hr (fun t ht hW => ⟨⟨1, fo 0, rfl, Or.inr ⟨rfl, hneg⟩, fo, rfl, (by rw [ht]; exact hP.sub [0] rfl), va_K.moved hW.alike (hK.sub [0] rfl), hD.sub [0] (by decide) rfl⟩, hS.F ht⟩) hS.2.2 dL_setOrder_14
  · refine W.widen (k := 1) (n := 6) (Nat.le_of_ble_eq_true rfl) (Nat.le_of_ble_eq_true rfl) ?_
    obtain ⟨rfl, hcond⟩ := hw
    obtain ⟨hP, hD⟩ := va_join (wr := [(o0, .inl (cL, 1, .inr (.inl fo)))]) (w1 := []) hP hD [0] [1] rfl rfl (by decide) (by decide) hk1 hF pv_P0 pv_D0
    have hP : va_P D pv_cl [(o0, .inl (cL, 1, .inr (.inl fo)))] _ := hP
    have hD : va_D A [(o0, .inl (cL, 1, .inr (.inl fo)))] := hD
    refine lv_i2l (v := 108) hx hb dL_setOrder_7 (by decide) ?_
    refine va_last hx hb hK hP hD hS 0 0 rfl rfl (by unfold vp_in; decide) dL_setOrder_8 (fun H locs hP hD hS => ?_)
    have hP : va_P D pv_cl [(o0, .inl (cL, 1, .inr (.inl (vp_updL (fo) (0 : Int32).toNatClampNeg 108))))] _ := hP
    have hD : va_D A [(o0, .inl (cL, 1, .inr (.inl (vp_updL (fo) (0 : Int32).toNatClampNeg 108))))] := hD
    refine lv_goto (tgt := 15) hx hb dL_setOrder_9 (by decide) ?_
    refine lv_iconst (v := 0) hx hb dL_setOrder_15 (by decide) ?_
    refine W.widen (k := 1) (n := 6) (Nat.le_of_ble_eq_true rfl) (Nat.le_of_ble_eq_true rfl) ?_
    exact W.iret (v := 0) hx hb hr (fun t ht hW => ⟨⟨0, 108, rfl, Or.inl ⟨rfl, rfl, hcond⟩, vp_updL (fo) (0 : Int32).toNatClampNeg 108, pk_uLs, (by rw [ht]; exact hP.sub [0] rfl), va_K.moved hW.alike (hK.sub [0] rfl), hD.sub [0] (by decide) rfl⟩, hS.F ht⟩) hS.2.2 dL_setOrder_16

theorem dL_addIdeal_0 : decode cL_addIdeal 0 = .ok (.aload_n 2, 1) := by decide +kernel
theorem dL_addIdeal_1 : decode cL_addIdeal 1 = .ok (.iconst 0, 1) := by decide +kernel
theorem dL_addIdeal_2 : decode cL_addIdeal 2 = .ok (.aload_n 0, 1) := by decide +kernel
theorem dL_addIdeal_3 : decode cL_addIdeal 3 = .ok (.iload_n 1, 1) := by decide +kernel
theorem dL_addIdeal_4 : decode cL_addIdeal 4 = .ok (.invokevirtual 128, 3) := by decide +kernel
theorem w7_146 : (Jvm.Cond.methodLink "PolyforgeLaw" (128 : Nat) ({ cls := "Polyforge", name := "addIdeal", desc := "(I)I" } : Jvm.MethodName)) ∈ lw_tbl := pv_t7 (pv_mg 146 rfl)
theorem w7_149 : (Jvm.Cond.code ({ cls := "Polyforge", name := "addIdeal", desc := "(I)I" } : Jvm.MethodName) prog_1_method_36_code (2 : Nat) (Option.some Jvm.ClassFile.FieldType.int)) ∈ lw_tbl := pv_t7 (pv_mg 149 rfl)
theorem w7_148 : (Jvm.Cond.selects "Polyforge" ({ cls := "Polyforge", name := "addIdeal", desc := "(I)I" } : Jvm.MethodName) ({ cls := "Polyforge", name := "addIdeal", desc := "(I)I" } : Jvm.MethodName)) ∈ lw_tbl := pv_t7 (pv_mg 148 rfl)
theorem w7_147 : (Jvm.Cond.instanceMethod ({ cls := "Polyforge", name := "addIdeal", desc := "(I)I" } : Jvm.MethodName)) ∈ lw_tbl := pv_t7 (pv_mg 147 rfl)
theorem dL_addIdeal_12 : decode cL_addIdeal 12 = .ok (.astore_n 3, 1) := by decide +kernel
theorem dL_addIdeal_13 : decode cL_addIdeal 13 = .ok (.iconst 1, 1) := by decide +kernel
theorem dL_addIdeal_14 : decode cL_addIdeal 14 = .ok (.ireturn, 1) := by decide +kernel
theorem dL_addIdeal_7 : decode cL_addIdeal 7 = .ok (.i2l, 1) := by decide +kernel
theorem dL_addIdeal_8 : decode cL_addIdeal 8 = .ok (.lastore, 1) := by decide +kernel
theorem dL_addIdeal_9 : decode cL_addIdeal 9 = .ok (.goto 9, 3) := by decide +kernel
theorem dL_addIdeal_18 : decode cL_addIdeal 18 = .ok (.iconst 0, 1) := by decide +kernel
theorem dL_addIdeal_19 : decode cL_addIdeal 19 = .ok (.ireturn, 1) := by decide +kernel
set_option maxHeartbeats 4000000 in
set_option maxRecDepth 100000 in
/-- addIdeal -/
theorem c_L_addIdeal (l : Launch) (hfl : l.stackTraces = false) (D : va_G) (sz : Nat) (h0 : Nat) (q : Nat → Nat) (cO : ClassId) (cL : ClassId) (p0 : Int32) (o0 : Nat) (fo : Nat → Int64) : Met l yL_addIdeal (Cond.codeWith yL_addIdeal cL_addIdeal 4 (some .int) [(0, 9, 12, 13), (0, 9, 15, 15)] :: pv_W) ({ frames := 9, cells := 3, slots := 15, locals := 141 } : Room) (va_Pc [.ref h0, .int p0, .ref o0] (pv_P D [(cO, .object "Polyforge$Ideal"), (cL, .long)] [(h0, .inr (0, [.ref (q 0), .int 0, .int 108, .ref (q 1), .int 0, .ref (q 2), .int 0, .ref (q 3), .ref (q 4), .int 1, .ref (q 5), .ref (q 6), .ref (q 7), .ref (q 8), .ref (q 9)])), ((q 1), .inl (cO, 5, .inr (.inr (.inr (.inr (fun _ => none)))))), (o0, .inl (cL, 1, .inr (.inl fo)))] (va_A [(h0, .inr (0, [.ref (q 0), .int 0, .int 108, .ref (q 1), .int 0, .ref (q 2), .int 0, .ref (q 3), .ref (q 4), .int 1, .ref (q 5), .ref (q 6), .ref (q 7), .ref (q 8), .ref (q 9)])), ((q 1), .inl (cO, 5, .inr (.inr (.inr (.inr (fun _ => none)))))), (o0, .inl (cL, 1, .inr (.inl fo)))] sz) sz)) (va_Qi (fun r (u : Int64) => (r = 0 ∧ u = 0 ∧ pv_pr p0) ∨ (r = 1 ∧ ¬ pv_pr p0)) (fun u t => ∃ f9 : Nat → Int64, f9 0 = u ∧ va_P D pv_cl [(o0, .inl (cL, 1, .inr (.inl f9)))] t.heap ∧ va_K D pv_cl [(cL, .long)] t ∧ va_D (va_A [(h0, .inr (0, [.ref (q 0), .int 0, .int 108, .ref (q 1), .int 0, .ref (q 2), .int 0, .ref (q 3), .ref (q 4), .int 1, .ref (q 5), .ref (q 6), .ref (q 7), .ref (q 8), .ref (q 9)])), ((q 1), .inl (cO, 5, .inr (.inr (.inr (.inr (fun _ => none)))))), (o0, .inl (cL, 1, .inr (.inl fo)))] sz) [(o0, .inl (cL, 1, .inr (.inl f9)))]) (va_A [(h0, .inr (0, [.ref (q 0), .int 0, .int 108, .ref (q 1), .int 0, .ref (q 2), .int 0, .ref (q 3), .ref (q 4), .int 1, .ref (q 5), .ref (q 6), .ref (q 7), .ref (q 8), .ref (q 9)])), ((q 1), .inl (cO, 5, .inr (.inr (.inr (.inr (fun _ => none)))))), (o0, .inl (cL, 1, .inr (.inl fo)))] sz)) 3 15 (va_A [(h0, .inr (0, [.ref (q 0), .int 0, .int 108, .ref (q 1), .int 0, .ref (q 2), .int 0, .ref (q 3), .ref (q 4), .int 1, .ref (q 5), .ref (q 6), .ref (q 7), .ref (q 8), .ref (q 9)])), ((q 1), .inl (cO, 5, .inr (.inr (.inr (.inr (fun _ => none)))))), (o0, .inl (cL, 1, .inr (.inl fo)))] sz) := by
  refine pv_ofWH (cc := cL_addIdeal) (maxL := 4) (ret := (some .int)) (by decide) rfl ?_
  intro p e s m args below meth c s₁ B hml hv
  obtain ⟨rfl, hsz, hE, hP, hK, hD0⟩ := hv
  have hx := B.exec
  have hb := B.bytes
  have hr := B.returns
  have hts := fun (w : Cond) (h : w ∈ pv_W) => atoms_spec (ws := Cond.codeWith yL_addIdeal cL_addIdeal 4 (some .int) [(0, 9, 12, 13), (0, 9, 15, 15)] :: pv_W) B.pre w (List.mem_cons_of_mem _ h)
  have hg := fun {w : Cond} (h : w ∈ lw_tbl) (g : goodWord w = true) => hts w (pv_in h g)
  have hown : s.vm.findClass RL = some m.cls := findClass_of_methodNamed B.named
  have hlocks := B.notSynchronized
  have hcw := atoms_spec (ws := Cond.codeWith yL_addIdeal cL_addIdeal 4 (some .int) [(0, 9, 12, 13), (0, 9, 15, 15)] :: pv_W) B.pre _ List.mem_cons_self
  subst hsz
  have hD := hD0.self (sz := s.heap.size)
  generalize hAe : va_A [(h0, .inr (0, [.ref (q 0), .int 0, .int 108, .ref (q 1), .int 0, .ref (q 2), .int 0, .ref (q 3), .ref (q 4), .int 1, .ref (q 5), .ref (q 6), .ref (q 7), .ref (q 8), .ref (q 9)])), ((q 1), .inl (cO, 5, .inr (.inr (.inr (.inr (fun _ => none)))))), (o0, .inl (cL, 1, .inr (.inl fo)))] s.heap.size = A at hD hE ⊢
  have hA : ∀ q : Nat, s.heap.size ≤ q → A q := fun q h => by rw [← hAe]; exact Or.inr h
  have hS : va_S A s.heap s.heap [] := va_S.rf
  have hP : va_P D pv_cl [(h0, .inr (0, [.ref (q 0), .int 0, .int 108, .ref (q 1), .int 0, .ref (q 2), .int 0, .ref (q 3), .ref (q 4), .int 1, .ref (q 5), .ref (q 6), .ref (q 7), .ref (q 8), .ref (q 9)])), ((q 1), .inl (cO, 5, .inr (.inr (.inr (.inr (fun _ => none)))))), (o0, .inl (cL, 1, .inr (.inl fo)))] s.heap := hP
  have hl := lv_entry ([.ref h0, .int p0, .ref o0]) (n := 4) (Nat.le_of_ble_eq_true rfl)
  rw [lg_entry_eq]
  generalize (lg_sl ([.ref h0, .int p0, .ref o0]) ++ List.replicate (4 - (lg_sl ([.ref h0, .int p0, .ref o0])).length) Slot.unset).toArray = ls at hl ⊢
  have hl : lv_has ls 4 [(0, .ref h0), (1, .int p0), (2, .ref o0)] := hl
  refine lv_aload_n hx hb dL_addIdeal_0 rfl (lv_at hl 2 rfl) ?_
  refine lv_iconst (v := 0) hx hb dL_addIdeal_1 (by decide) ?_
  refine lv_aload_n hx hb dL_addIdeal_2 rfl (lv_at hl 0 rfl) ?_
  refine lv_iload_n hx hb dL_addIdeal_3 rfl (lv_at hl 1 rfl) ?_
  have hF := va_free (wc := [(h0, .inr (0, [.ref (q 0), .int 0, .int 108, .ref (q 1), .int 0, .ref (q 2), .int 0, .ref (q 3), .ref (q 4), .int 1, .ref (q 5), .ref (q 6), .ref (q 7), .ref (q 8), .ref (q 9)])), ((q 1), .inl (cO, 5, .inr (.inr (.inr (.inr (fun _ => none))))))]) hD hS hA [0, 1] rfl
  refine vx_calli (vx_runV (As := [.int p0]) (rest := [.int 0, .ref o0]) ⟨hx, hb, hml, hown, hts⟩ (c_X11_addIdeal l hfl D _ h0 q cO p0) (cwV 1 hts (pv_gV w7_146 w7_147 w7_148 w1_1 w7_149) rfl rfl rfl (by decide +kernel) ⟨Nat.le_of_ble_eq_true rfl, Nat.le_of_ble_eq_true rfl⟩) (pv_pV hE hS hF (hP.sub [0, 1] rfl) (hK.sub [0] rfl) (hD.sub [0, 1] (by decide) rfl) (va_recv (ci := 0) (q0 := 0) hK hP rfl rfl)) rfl rfl hl.1 rfl (lv_room (Nat.le_of_ble_eq_true rfl)) dL_addIdeal_4 ⟨Nat.le_of_ble_eq_true rfl, Nat.le_of_ble_eq_true rfl⟩) hS (fun q _ h => hF q h) hF (fun q _ h => hF q h) (fun E ce q9 u t H1 locs1 ht hvm hpx hbx hz1 hk1 hS hce hcv hcl => ?_) (fun r_0 u t H1 locs1 ht hvm hw hB hz1 hk1 hS => ?_)
  · obtain ⟨rfl, hneg⟩ := hbx
    obtain ⟨hP, hD⟩ := va_join (wr := [(o0, .inl (cL, 1, .inr (.inl fo)))]) (w1 := []) hP hD [0, 1] [2] rfl rfl (by decide) (by decide) hk1 hF pv_P0 pv_D0
    have hP : va_P D pv_cl [(o0, .inl (cL, 1, .inr (.inl fo)))] _ := hP
    have hD : va_D A [(o0, .inl (cL, 1, .inr (.inl fo)))] := hD
    refine vx_catch (own := RL) (name := "java/lang/IllegalArgumentException") hown [] ⟨0, 9, 12, 13⟩ _ ((vx_table (x := yL_law) B hcw).trans rfl) (fun z hz => nomatch hz) rfl (by decide) (hg w4_139 rfl) (va_Nw.use rfl (hE.2.2.1 _ (pv_ib w4_153 rfl))) hce hcv hcl ?_
    refine W.widen (k := 3) (n := 15) (Nat.le_of_ble_eq_true rfl) (Nat.le_of_ble_eq_true rfl) ?_
    refine lv_astore_n (lv' := [(3, .ref q9), (0, .ref h0), (1, .int p0), (2, .ref o0)]) hx hb dL_addIdeal_12 rfl hl (by decide) rfl (fun ls hl => ?_)
    refine lv_iconst (v := 1) hx hb dL_addIdeal_13 (by decide) ?_
    refine W.widen (k := 3) (n := 15) (Nat.le_of_ble_eq_true rfl) (Nat.le_of_ble_eq_true rfl) ?_
    exact W.iret (v := 1) hx hb hr (fun t ht hW => ⟨⟨1, fo 0, rfl, Or.inr ⟨rfl, hneg⟩, fo, rfl, (by rw [ht]; exact hP.sub [0] rfl), va_K.moved hW.alike (hK.sub [1] rfl), hD.sub [0] (by decide) rfl⟩, hS.F ht⟩) hS.2.2 dL_addIdeal_14
  · refine W.widen (k := 3) (n := 15) (Nat.le_of_ble_eq_true rfl) (Nat.le_of_ble_eq_true rfl) ?_
    obtain ⟨rfl, hcond⟩ := hw
    obtain ⟨hP, hD⟩ := va_join (wr := [(o0, .inl (cL, 1, .inr (.inl fo)))]) (w1 := []) hP hD [0, 1] [2] rfl rfl (by decide) (by decide) hk1 hF pv_P0 pv_D0
    have hP : va_P D pv_cl [(o0, .inl (cL, 1, .inr (.inl fo)))] _ := hP
    have hD : va_D A [(o0, .inl (cL, 1, .inr (.inl fo)))] := hD
    refine lv_i2l (v := 0) hx hb dL_addIdeal_7 (by decide) ?_
    refine va_last hx hb hK hP hD hS 0 1 rfl rfl (by unfold vp_in; decide) dL_addIdeal_8 (fun H locs hP hD hS => ?_)
    have hP : va_P D pv_cl [(o0, .inl (cL, 1, .inr (.inl (vp_updL (fo) (0 : Int32).toNatClampNeg 0))))] _ := hP
    have hD : va_D A [(o0, .inl (cL, 1, .inr (.inl (vp_updL (fo) (0 : Int32).toNatClampNeg 0))))] := hD
    refine lv_goto (tgt := 18) hx hb dL_addIdeal_9 (by decide) ?_
    refine lv_iconst (v := 0) hx hb dL_addIdeal_18 (by decide) ?_
    refine W.widen (k := 3) (n := 15) (Nat.le_of_ble_eq_true rfl) (Nat.le_of_ble_eq_true rfl) ?_
    exact W.iret (v := 0) hx hb hr (fun t ht hW => ⟨⟨0, 0, rfl, Or.inl ⟨rfl, rfl, hcond⟩, vp_updL (fo) (0 : Int32).toNatClampNeg 0, pk_uLs, (by rw [ht]; exact hP.sub [0] rfl), va_K.moved hW.alike (hK.sub [1] rfl), hD.sub [0] (by decide) rfl⟩, hS.F ht⟩) hS.2.2 dL_addIdeal_19

theorem dL_assume_0 : decode cL_assume 0 = .ok (.aload_n 3, 1) := by decide +kernel
theorem dL_assume_1 : decode cL_assume 1 = .ok (.iconst 0, 1) := by decide +kernel
theorem dL_assume_2 : decode cL_assume 2 = .ok (.aload_n 0, 1) := by decide +kernel
theorem dL_assume_3 : decode cL_assume 3 = .ok (.iload_n 1, 1) := by decide +kernel
theorem dL_assume_4 : decode cL_assume 4 = .ok (.iload_n 2, 1) := by decide +kernel
theorem dL_assume_5 : decode cL_assume 5 = .ok (.invokevirtual 160, 3) := by decide +kernel
theorem w8_93 : (Jvm.Cond.methodLink "PolyforgeLaw" (160 : Nat) ({ cls := "Polyforge", name := "assume", desc := "(IC)I" } : Jvm.MethodName)) ∈ lw_tbl := pv_t8 (pv_mg 93 rfl)
theorem w8_96 : (Jvm.Cond.code ({ cls := "Polyforge", name := "assume", desc := "(IC)I" } : Jvm.MethodName) prog_1_method_46_code (5 : Nat) (Option.some Jvm.ClassFile.FieldType.int)) ∈ lw_tbl := pv_t8 (pv_mg 96 rfl)
theorem w8_95 : (Jvm.Cond.selects "Polyforge" ({ cls := "Polyforge", name := "assume", desc := "(IC)I" } : Jvm.MethodName) ({ cls := "Polyforge", name := "assume", desc := "(IC)I" } : Jvm.MethodName)) ∈ lw_tbl := pv_t8 (pv_mg 95 rfl)
theorem w8_94 : (Jvm.Cond.instanceMethod ({ cls := "Polyforge", name := "assume", desc := "(IC)I" } : Jvm.MethodName)) ∈ lw_tbl := pv_t8 (pv_mg 94 rfl)
theorem dL_assume_13 : decode cL_assume 13 = .ok (.astore 4, 2) := by decide +kernel
theorem dL_assume_15 : decode cL_assume 15 = .ok (.iconst 1, 1) := by decide +kernel
theorem dL_assume_16 : decode cL_assume 16 = .ok (.ireturn, 1) := by decide +kernel
theorem dL_assume_8 : decode cL_assume 8 = .ok (.i2l, 1) := by decide +kernel
theorem dL_assume_9 : decode cL_assume 9 = .ok (.lastore, 1) := by decide +kernel
theorem dL_assume_10 : decode cL_assume 10 = .ok (.goto 11, 3) := by decide +kernel
theorem dL_assume_21 : decode cL_assume 21 = .ok (.iconst 0, 1) := by decide +kernel
theorem dL_assume_22 : decode cL_assume 22 = .ok (.ireturn, 1) := by decide +kernel
set_option maxHeartbeats 4000000 in
set_option maxRecDepth 100000 in
/-- assume -/
theorem c_L_assume (l : Launch) (hfl : l.stackTraces = false) (D : va_G) (sz : Nat) (h0 : Nat) (q : Nat → Nat) (cC cI : ClassId) (sg sf : Nat → Int32) (hsg : ∀ j, j < 3 → sg j = 63) (cL : ClassId) (p0 p1 : Int32) (o0 : Nat) (fo : Nat → Int64) : Met l yL_assume (Cond.codeWith yL_assume cL_assume 5 (some .int) [(0, 10, 13, 13), (0, 10, 17, 15)] :: pv_W) ({ frames := 9, cells := 2, slots := 12, locals := 144 } : Room) (va_Pc [.ref h0, .int p0, .int p1, .ref o0] (pv_P D [(cC, .char), (cI, .int), (cL, .long)] [(h0, .inr (0, [.ref (q 0), .int 0, .int 108, .ref (q 1), .int 0, .ref (q 2), .int 0, .ref (q 3), .ref (q 4), .int 1, .ref (q 5), .ref (q 6), .ref (q 7), .ref (q 8), .ref (q 9)])), ((q 3), .inl (cC, 3, .inl sg)), ((q 4), .inl (cI, 3, .inl sf)), (o0, .inl (cL, 1, .inr (.inl fo)))] (va_A [(h0, .inr (0, [.ref (q 0), .int 0, .int 108, .ref (q 1), .int 0, .ref (q 2), .int 0, .ref (q 3), .ref (q 4), .int 1, .ref (q 5), .ref (q 6), .ref (q 7), .ref (q 8), .ref (q 9)])), ((q 3), .inl (cC, 3, .inl sg)), ((q 4), .inl (cI, 3, .inl sf)), (o0, .inl (cL, 1, .inr (.inl fo)))] sz) sz)) (va_Qi (fun r (u : Int64) => (r = 0 ∧ u = 1 ∧ (pv_vr p0 ∧ pv_sn p1)) ∨ (r = 1 ∧ ¬ (pv_vr p0 ∧ pv_sn p1))) (fun u t => ∃ f9 : Nat → Int64, f9 0 = u ∧ va_P D pv_cl [(o0, .inl (cL, 1, .inr (.inl f9)))] t.heap ∧ va_K D pv_cl [(cL, .long)] t ∧ va_D (va_A [(h0, .inr (0, [.ref (q 0), .int 0, .int 108, .ref (q 1), .int 0, .ref (q 2), .int 0, .ref (q 3), .ref (q 4), .int 1, .ref (q 5), .ref (q 6), .ref (q 7), .ref (q 8), .ref (q 9)])), ((q 3), .inl (cC, 3, .inl sg)), ((q 4), .inl (cI, 3, .inl sf)), (o0, .inl (cL, 1, .inr (.inl fo)))] sz) [(o0, .inl (cL, 1, .inr (.inl f9)))]) (va_A [(h0, .inr (0, [.ref (q 0), .int 0, .int 108, .ref (q 1), .int 0, .ref (q 2), .int 0, .ref (q 3), .ref (q 4), .int 1, .ref (q 5), .ref (q 6), .ref (q 7), .ref (q 8), .ref (q 9)])), ((q 3), .inl (cC, 3, .inl sg)), ((q 4), .inl (cI, 3, .inl sf)), (o0, .inl (cL, 1, .inr (.inl fo)))] sz)) 2 12 (va_A [(h0, .inr (0, [.ref (q 0), .int 0, .int 108, .ref (q 1), .int 0, .ref (q 2), .int 0, .ref (q 3), .ref (q 4), .int 1, .ref (q 5), .ref (q 6), .ref (q 7), .ref (q 8), .ref (q 9)])), ((q 3), .inl (cC, 3, .inl sg)), ((q 4), .inl (cI, 3, .inl sf)), (o0, .inl (cL, 1, .inr (.inl fo)))] sz) := by
  refine pv_ofWH (cc := cL_assume) (maxL := 5) (ret := (some .int)) (by decide) rfl ?_
  intro p e s m args below meth c s₁ B hml hv
  obtain ⟨rfl, hsz, hE, hP, hK, hD0⟩ := hv
  have hx := B.exec
  have hb := B.bytes
  have hr := B.returns
  have hts := fun (w : Cond) (h : w ∈ pv_W) => atoms_spec (ws := Cond.codeWith yL_assume cL_assume 5 (some .int) [(0, 10, 13, 13), (0, 10, 17, 15)] :: pv_W) B.pre w (List.mem_cons_of_mem _ h)
  have hg := fun {w : Cond} (h : w ∈ lw_tbl) (g : goodWord w = true) => hts w (pv_in h g)
  have hown : s.vm.findClass RL = some m.cls := findClass_of_methodNamed B.named
  have hlocks := B.notSynchronized
  have hcw := atoms_spec (ws := Cond.codeWith yL_assume cL_assume 5 (some .int) [(0, 10, 13, 13), (0, 10, 17, 15)] :: pv_W) B.pre _ List.mem_cons_self
  subst hsz
  have hD := hD0.self (sz := s.heap.size)
  generalize hAe : va_A [(h0, .inr (0, [.ref (q 0), .int 0, .int 108, .ref (q 1), .int 0, .ref (q 2), .int 0, .ref (q 3), .ref (q 4), .int 1, .ref (q 5), .ref (q 6), .ref (q 7), .ref (q 8), .ref (q 9)])), ((q 3), .inl (cC, 3, .inl sg)), ((q 4), .inl (cI, 3, .inl sf)), (o0, .inl (cL, 1, .inr (.inl fo)))] s.heap.size = A at hD hE ⊢
  have hA : ∀ q : Nat, s.heap.size ≤ q → A q := fun q h => by rw [← hAe]; exact Or.inr h
  have hS : va_S A s.heap s.heap [] := va_S.rf
  have hP : va_P D pv_cl [(h0, .inr (0, [.ref (q 0), .int 0, .int 108, .ref (q 1), .int 0, .ref (q 2), .int 0, .ref (q 3), .ref (q 4), .int 1, .ref (q 5), .ref (q 6), .ref (q 7), .ref (q 8), .ref (q 9)])), ((q 3), .inl (cC, 3, .inl sg)), ((q 4), .inl (cI, 3, .inl sf)), (o0, .inl (cL, 1, .inr (.inl fo)))] s.heap := hP
  have hl := lv_entry ([.ref h0, .int p0, .int p1, .ref o0]) (n := 5) (Nat.le_of_ble_eq_true rfl)
  rw [lg_entry_eq]
  generalize (lg_sl ([.ref h0, .int p0, .int p1, .ref o0]) ++ List.replicate (5 - (lg_sl ([.ref h0, .int p0, .int p1, .ref o0])).length) Slot.unset).toArray = ls at hl ⊢
  have hl : lv_has ls 5 [(0, .ref h0), (1, .int p0), (2, .int p1), (3, .ref o0)] := hl
  refine lv_aload_n hx hb dL_assume_0 rfl (lv_at hl 3 rfl) ?_
  refine lv_iconst (v := 0) hx hb dL_assume_1 (by decide) ?_
  refine lv_aload_n hx hb dL_assume_2 rfl (lv_at hl 0 rfl) ?_
  refine lv_iload_n hx hb dL_assume_3 rfl (lv_at hl 1 rfl) ?_
  refine lv_iload_n hx hb dL_assume_4 rfl (lv_at hl 2 rfl) ?_
  have hF := va_free (wc := [(h0, .inr (0, [.ref (q 0), .int 0, .int 108, .ref (q 1), .int 0, .ref (q 2), .int 0, .ref (q 3), .ref (q 4), .int 1, .ref (q 5), .ref (q 6), .ref (q 7), .ref (q 8), .ref (q 9)])), ((q 3), .inl (cC, 3, .inl sg)), ((q 4), .inl (cI, 3, .inl sf))]) hD hS hA [0, 1, 2] rfl
  refine vx_calli (vx_runV (As := [.int p0, .int p1]) (rest := [.int 0, .ref o0]) ⟨hx, hb, hml, hown, hts⟩ (c_X11_assume l hfl D _ h0 q cC cI sg sf hsg p0 p1) (cwV 2 hts (pv_gV w8_93 w8_94 w8_95 w1_1 w8_96) rfl rfl rfl (by decide +kernel) ⟨Nat.le_of_ble_eq_true rfl, Nat.le_of_ble_eq_true rfl⟩) (pv_pV hE hS hF (hP.sub [0, 1, 2] rfl) (hK.sub [0, 1] rfl) (hD.sub [0, 1, 2] (by decide) rfl) (va_recv (ci := 0) (q0 := 0) hK hP rfl rfl)) rfl rfl hl.1 rfl (lv_room (Nat.le_of_ble_eq_true rfl)) dL_assume_5 ⟨Nat.le_of_ble_eq_true rfl, Nat.le_of_ble_eq_true rfl⟩) hS (fun q _ h => hF q h) hF (fun q _ h => hF q h) (fun E ce q9 u t H1 locs1 ht hvm hpx hbx hz1 hk1 hS hce hcv hcl => ?_) (fun r_0 u t H1 locs1 ht hvm hw hB hz1 hk1 hS => ?_)
  · obtain ⟨rfl, hneg⟩ := hbx
    obtain ⟨hP, hD⟩ := va_join (wr := [(o0, .inl (cL, 1, .inr (.inl fo)))]) (w1 := []) hP hD [0, 1, 2] [3] rfl rfl (by decide) (by decide) hk1 hF pv_P0 pv_D0
    have hP : va_P D pv_cl [(o0, .inl (cL, 1, .inr (.inl fo)))] _ := hP
    have hD : va_D A [(o0, .inl (cL, 1, .inr (.inl fo)))] := hD
    refine vx_catch (own := RL) (name := "java/lang/IllegalArgumentException") hown [] ⟨0, 10, 13, 13⟩ _ ((vx_table (x := yL_law) B hcw).trans rfl) (fun z hz => nomatch hz) rfl (by decide) (hg w4_139 rfl) (va_Nw.use rfl (hE.2.2.1 _ (pv_ib w4_153 rfl))) hce hcv hcl ?_
    refine W.widen (k := 2) (n := 12) (Nat.le_of_ble_eq_true rfl) (Nat.le_of_ble_eq_true rfl) ?_
    refine lv_astore (lv' := [(4, .ref q9), (0, .ref h0), (1, .int p0), (2, .int p1), (3, .ref o0)]) hx hb dL_assume_13 hl (by decide) rfl (fun ls hl => ?_)
    refine lv_iconst (v := 1) hx hb dL_assume_15 (by decide) ?_
    refine W.widen (k := 2) (n := 12) (Nat.le_of_ble_eq_true rfl) (Nat.le_of_ble_eq_true rfl) ?_
    exact W.iret (v := 1) hx hb hr (fun t ht hW => ⟨⟨1, fo 0, rfl, Or.inr ⟨rfl, hneg⟩, fo, rfl, (by rw [ht]; exact hP.sub [0] rfl), va_K.moved hW.alike (hK.sub [2] rfl), hD.sub [0] (by decide) rfl⟩, hS.F ht⟩) hS.2.2 dL_assume_16
  · refine W.widen (k := 2) (n := 12) (Nat.le_of_ble_eq_true rfl) (Nat.le_of_ble_eq_true rfl) ?_
    obtain ⟨rfl, hcond⟩ := hw
    obtain ⟨hP, hD⟩ := va_join (wr := [(o0, .inl (cL, 1, .inr (.inl fo)))]) (w1 := []) hP hD [0, 1, 2] [3] rfl rfl (by decide) (by decide) hk1 hF pv_P0 pv_D0
    have hP : va_P D pv_cl [(o0, .inl (cL, 1, .inr (.inl fo)))] _ := hP
    have hD : va_D A [(o0, .inl (cL, 1, .inr (.inl fo)))] := hD
    refine lv_i2l (v := 1) hx hb dL_assume_8 (by decide) ?_
    refine va_last hx hb hK hP hD hS 0 2 rfl rfl (by unfold vp_in; decide) dL_assume_9 (fun H locs hP hD hS => ?_)
    have hP : va_P D pv_cl [(o0, .inl (cL, 1, .inr (.inl (vp_updL (fo) (0 : Int32).toNatClampNeg 1))))] _ := hP
    have hD : va_D A [(o0, .inl (cL, 1, .inr (.inl (vp_updL (fo) (0 : Int32).toNatClampNeg 1))))] := hD
    refine lv_goto (tgt := 21) hx hb dL_assume_10 (by decide) ?_
    refine lv_iconst (v := 0) hx hb dL_assume_21 (by decide) ?_
    refine W.widen (k := 2) (n := 12) (Nat.le_of_ble_eq_true rfl) (Nat.le_of_ble_eq_true rfl) ?_
    exact W.iret (v := 0) hx hb hr (fun t ht hW => ⟨⟨0, 1, rfl, Or.inl ⟨rfl, rfl, hcond⟩, vp_updL (fo) (0 : Int32).toNatClampNeg 1, pk_uLs, (by rw [ht]; exact hP.sub [0] rfl), va_K.moved hW.alike (hK.sub [2] rfl), hD.sub [0] (by decide) rfl⟩, hS.F ht⟩) hS.2.2 dL_assume_22

theorem dL_openFrame_0 : decode cL_openFrame 0 = .ok (.aload_n 1, 1) := by decide +kernel
theorem dL_openFrame_1 : decode cL_openFrame 1 = .ok (.iconst 0, 1) := by decide +kernel
theorem dL_openFrame_2 : decode cL_openFrame 2 = .ok (.aload_n 0, 1) := by decide +kernel
theorem dL_openFrame_3 : decode cL_openFrame 3 = .ok (.invokevirtual 164, 3) := by decide +kernel
theorem w8_105 : (Jvm.Cond.methodLink "PolyforgeLaw" (164 : Nat) ({ cls := "Polyforge", name := "openFrame", desc := "()I" } : Jvm.MethodName)) ∈ lw_tbl := pv_t8 (pv_mg 105 rfl)
theorem w8_108 : (Jvm.Cond.code ({ cls := "Polyforge", name := "openFrame", desc := "()I" } : Jvm.MethodName) prog_1_method_47_code (1 : Nat) (Option.some Jvm.ClassFile.FieldType.int)) ∈ lw_tbl := pv_t8 (pv_mg 108 rfl)
theorem w8_107 : (Jvm.Cond.selects "Polyforge" ({ cls := "Polyforge", name := "openFrame", desc := "()I" } : Jvm.MethodName) ({ cls := "Polyforge", name := "openFrame", desc := "()I" } : Jvm.MethodName)) ∈ lw_tbl := pv_t8 (pv_mg 107 rfl)
theorem w8_106 : (Jvm.Cond.instanceMethod ({ cls := "Polyforge", name := "openFrame", desc := "()I" } : Jvm.MethodName)) ∈ lw_tbl := pv_t8 (pv_mg 106 rfl)
theorem dL_openFrame_6 : decode cL_openFrame 6 = .ok (.i2l, 1) := by decide +kernel
theorem dL_openFrame_7 : decode cL_openFrame 7 = .ok (.lastore, 1) := by decide +kernel
theorem dL_openFrame_8 : decode cL_openFrame 8 = .ok (.goto 6, 3) := by decide +kernel
theorem dL_openFrame_14 : decode cL_openFrame 14 = .ok (.iconst 0, 1) := by decide +kernel
theorem dL_openFrame_15 : decode cL_openFrame 15 = .ok (.ireturn, 1) := by decide +kernel
set_option maxHeartbeats 4000000 in
set_option maxRecDepth 100000 in
/-- openFrame -/
theorem c_L_openFrame (l : Launch) (hfl : l.stackTraces = false) (D : va_G) (sz : Nat) (h0 : Nat) (q : Nat → Nat) (cL : ClassId) (o0 : Nat) (fo : Nat → Int64) : Met l yL_openFrame (Cond.codeWith yL_openFrame cL_openFrame 3 (some .int) [(0, 8, 11, 15)] :: pv_W) ({ frames := 1, cells := 0, slots := 0, locals := 20 } : Room) (va_Pc [.ref h0, .ref o0] (pv_P D [(cL, .long)] [(h0, .inr (0, [.ref (q 0), .int 0, .int 108, .ref (q 1), .int 0, .ref (q 2), .int 0, .ref (q 3), .ref (q 4), .int 1, .ref (q 5), .ref (q 6), .ref (q 7), .ref (q 8), .ref (q 9)])), (o0, .inl (cL, 1, .inr (.inl fo)))] (va_A [(h0, .inr (0, [.ref (q 0), .int 0, .int 108, .ref (q 1), .int 0, .ref (q 2), .int 0, .ref (q 3), .ref (q 4), .int 1, .ref (q 5), .ref (q 6), .ref (q 7), .ref (q 8), .ref (q 9)])), (o0, .inl (cL, 1, .inr (.inl fo)))] sz) sz)) (va_Qi (fun r (u : Int64) => r = 0 ∧ u = 2) (fun u t => ∃ f9 : Nat → Int64, f9 0 = u ∧ va_P D pv_cl [(o0, .inl (cL, 1, .inr (.inl f9)))] t.heap ∧ va_K D pv_cl [(cL, .long)] t ∧ va_D (va_A [(h0, .inr (0, [.ref (q 0), .int 0, .int 108, .ref (q 1), .int 0, .ref (q 2), .int 0, .ref (q 3), .ref (q 4), .int 1, .ref (q 5), .ref (q 6), .ref (q 7), .ref (q 8), .ref (q 9)])), (o0, .inl (cL, 1, .inr (.inl fo)))] sz) [(o0, .inl (cL, 1, .inr (.inl f9)))]) (va_A [(h0, .inr (0, [.ref (q 0), .int 0, .int 108, .ref (q 1), .int 0, .ref (q 2), .int 0, .ref (q 3), .ref (q 4), .int 1, .ref (q 5), .ref (q 6), .ref (q 7), .ref (q 8), .ref (q 9)])), (o0, .inl (cL, 1, .inr (.inl fo)))] sz)) 0 0 (va_A [(h0, .inr (0, [.ref (q 0), .int 0, .int 108, .ref (q 1), .int 0, .ref (q 2), .int 0, .ref (q 3), .ref (q 4), .int 1, .ref (q 5), .ref (q 6), .ref (q 7), .ref (q 8), .ref (q 9)])), (o0, .inl (cL, 1, .inr (.inl fo)))] sz) := by
  refine pv_ofWH (cc := cL_openFrame) (maxL := 3) (ret := (some .int)) (by decide) rfl ?_
  intro p e s m args below meth c s₁ B hml hv
  obtain ⟨rfl, hsz, hE, hP, hK, hD0⟩ := hv
  have hx := B.exec
  have hb := B.bytes
  have hr := B.returns
  have hts := fun (w : Cond) (h : w ∈ pv_W) => atoms_spec (ws := Cond.codeWith yL_openFrame cL_openFrame 3 (some .int) [(0, 8, 11, 15)] :: pv_W) B.pre w (List.mem_cons_of_mem _ h)
  have hg := fun {w : Cond} (h : w ∈ lw_tbl) (g : goodWord w = true) => hts w (pv_in h g)
  have hown : s.vm.findClass RL = some m.cls := findClass_of_methodNamed B.named
  have hlocks := B.notSynchronized
  have hcw := atoms_spec (ws := Cond.codeWith yL_openFrame cL_openFrame 3 (some .int) [(0, 8, 11, 15)] :: pv_W) B.pre _ List.mem_cons_self
  subst hsz
  have hD := hD0.self (sz := s.heap.size)
  generalize hAe : va_A [(h0, .inr (0, [.ref (q 0), .int 0, .int 108, .ref (q 1), .int 0, .ref (q 2), .int 0, .ref (q 3), .ref (q 4), .int 1, .ref (q 5), .ref (q 6), .ref (q 7), .ref (q 8), .ref (q 9)])), (o0, .inl (cL, 1, .inr (.inl fo)))] s.heap.size = A at hD hE ⊢
  have hA : ∀ q : Nat, s.heap.size ≤ q → A q := fun q h => by rw [← hAe]; exact Or.inr h
  have hS : va_S A s.heap s.heap [] := va_S.rf
  have hP : va_P D pv_cl [(h0, .inr (0, [.ref (q 0), .int 0, .int 108, .ref (q 1), .int 0, .ref (q 2), .int 0, .ref (q 3), .ref (q 4), .int 1, .ref (q 5), .ref (q 6), .ref (q 7), .ref (q 8), .ref (q 9)])), (o0, .inl (cL, 1, .inr (.inl fo)))] s.heap := hP
  have hl := lv_entry ([.ref h0, .ref o0]) (n := 3) (Nat.le_of_ble_eq_true rfl)
  rw [lg_entry_eq]
  generalize (lg_sl ([.ref h0, .ref o0]) ++ List.replicate (3 - (lg_sl ([.ref h0, .ref o0])).length) Slot.unset).toArray = ls at hl ⊢
  have hl : lv_has ls 3 [(0, .ref h0), (1, .ref o0)] := hl
  refine lv_aload_n hx hb dL_openFrame_0 rfl (lv_at hl 1 rfl) ?_
  refine lv_iconst (v := 0) hx hb dL_openFrame_1 (by decide) ?_
  refine lv_aload_n hx hb dL_openFrame_2 rfl (lv_at hl 0 rfl) ?_
  have hF := va_free (wc := [(h0, .inr (0, [.ref (q 0), .int 0, .int 108, .ref (q 1), .int 0, .ref (q 2), .int 0, .ref (q 3), .ref (q 4), .int 1, .ref (q 5), .ref (q 6), .ref (q 7), .ref (q 8), .ref (q 9)]))]) hD hS hA [0] rfl
  refine vx_calli (vx_runV (As := []) (rest := [.int 0, .ref o0]) ⟨hx, hb, hml, hown, hts⟩ (c_X11_openFrame l hfl D _ h0 q ) (cwV 0 hts (pv_gV w8_105 w8_106 w8_107 w1_1 w8_108) rfl rfl rfl (by decide +kernel) ⟨Nat.le_of_ble_eq_true rfl, Nat.le_of_ble_eq_true rfl⟩) (pv_pV hE hS hF (hP.sub [0] rfl) (hK.sub [] rfl) (hD.sub [0] (by decide) rfl) (va_recv (ci := 0) (q0 := 0) hK hP rfl rfl)) rfl rfl hl.1 rfl (lv_room (Nat.le_of_ble_eq_true rfl)) dL_openFrame_3 ⟨Nat.le_of_ble_eq_true rfl, Nat.le_of_ble_eq_true rfl⟩) hS (fun q _ h => hF q h) hF (fun q _ h => hF q h) (fun E ce q9 u t H1 locs1 ht hvm hpx hbx hz1 hk1 hS hce hcv hcl => ?_) (fun r_0 u t H1 locs1 ht hvm hw hB hz1 hk1 hS => ?_)
  · exact hbx.elim
  · refine W.widen (k := 0) (n := 0) (Nat.le_of_ble_eq_true rfl) (Nat.le_of_ble_eq_true rfl) ?_
    obtain rfl := hw
    obtain ⟨hP, hD⟩ := va_join (wr := [(o0, .inl (cL, 1, .inr (.inl fo)))]) (w1 := []) hP hD [0] [1] rfl rfl (by decide) (by decide) hk1 hF pv_P0 pv_D0
    have hP : va_P D pv_cl [(o0, .inl (cL, 1, .inr (.inl fo)))] _ := hP
    have hD : va_D A [(o0, .inl (cL, 1, .inr (.inl fo)))] := hD
    refine lv_i2l (v := 2) hx hb dL_openFrame_6 (by decide) ?_
    refine va_last hx hb hK hP hD hS 0 0 rfl rfl (by unfold vp_in; decide) dL_openFrame_7 (fun H locs hP hD hS => ?_)
    have hP : va_P D pv_cl [(o0, .inl (cL, 1, .inr (.inl (vp_updL (fo) (0 : Int32).toNatClampNeg 2))))] _ := hP
    have hD : va_D A [(o0, .inl (cL, 1, .inr (.inl (vp_updL (fo) (0 : Int32).toNatClampNeg 2))))] := hD
    refine lv_goto (tgt := 14) hx hb dL_openFrame_8 (by decide) ?_
    refine lv_iconst (v := 0) hx hb dL_openFrame_14 (by decide) ?_
    refine W.widen (k := 0) (n := 0) (Nat.le_of_ble_eq_true rfl) (Nat.le_of_ble_eq_true rfl) ?_
    exact W.iret (v := 0) hx hb hr (fun t ht hW => ⟨⟨0, 2, rfl, ⟨rfl, rfl⟩, vp_updL (fo) (0 : Int32).toNatClampNeg 2, pk_uLs, (by rw [ht]; exact hP.sub [0] rfl), va_K.moved hW.alike (hK.sub [0] rfl), hD.sub [0] (by decide) rfl⟩, hS.F ht⟩) hS.2.2 dL_openFrame_15

theorem dL_sign_0 : decode cL_sign 0 = .ok (.aload_n 2, 1) := by decide +kernel
theorem dL_sign_1 : decode cL_sign 1 = .ok (.iconst 0, 1) := by decide +kernel
theorem dL_sign_2 : decode cL_sign 2 = .ok (.aload_n 0, 1) := by decide +kernel
theorem dL_sign_3 : decode cL_sign 3 = .ok (.iload_n 1, 1) := by decide +kernel
theorem dL_sign_4 : decode cL_sign 4 = .ok (.invokevirtual 171, 3) := by decide +kernel
theorem w8_121 : (Jvm.Cond.methodLink "PolyforgeLaw" (171 : Nat) ({ cls := "Polyforge", name := "sign", desc := "(I)C" } : Jvm.MethodName)) ∈ lw_tbl := pv_t8 (pv_mg 121 rfl)
theorem w8_124 : (Jvm.Cond.code ({ cls := "Polyforge", name := "sign", desc := "(I)C" } : Jvm.MethodName) prog_1_method_49_code (2 : Nat) (Option.some Jvm.ClassFile.FieldType.char)) ∈ lw_tbl := pv_t8 (pv_mg 124 rfl)
theorem w8_123 : (Jvm.Cond.selects "Polyforge" ({ cls := "Polyforge", name := "sign", desc := "(I)C" } : Jvm.MethodName) ({ cls := "Polyforge", name := "sign", desc := "(I)C" } : Jvm.MethodName)) ∈ lw_tbl := pv_t8 (pv_mg 123 rfl)
theorem w8_122 : (Jvm.Cond.instanceMethod ({ cls := "Polyforge", name := "sign", desc := "(I)C" } : Jvm.MethodName)) ∈ lw_tbl := pv_t8 (pv_mg 122 rfl)
theorem dL_sign_12 : decode cL_sign 12 = .ok (.astore_n 3, 1) := by decide +kernel
theorem dL_sign_13 : decode cL_sign 13 = .ok (.iconst 1, 1) := by decide +kernel
theorem dL_sign_14 : decode cL_sign 14 = .ok (.ireturn, 1) := by decide +kernel
theorem dL_sign_7 : decode cL_sign 7 = .ok (.i2l, 1) := by decide +kernel
theorem dL_sign_8 : decode cL_sign 8 = .ok (.lastore, 1) := by decide +kernel
theorem dL_sign_9 : decode cL_sign 9 = .ok (.goto 6, 3) := by decide +kernel
theorem dL_sign_15 : decode cL_sign 15 = .ok (.iconst 0, 1) := by decide +kernel
theorem dL_sign_16 : decode cL_sign 16 = .ok (.ireturn, 1) := by decide +kernel
set_option maxHeartbeats 4000000 in
set_option maxRecDepth 100000 in
/-- sign -/
theorem c_L_sign (l : Launch) (hfl : l.stackTraces = false) (D : va_G) (sz : Nat) (h0 : Nat) (q : Nat → Nat) (cC : ClassId) (sg : Nat → Int32) (hsg : ∀ j, j < 3 → sg j = 63) (cL : ClassId) (p0 : Int32) (o0 : Nat) (fo : Nat → Int64) : Met l yL_sign (Cond.codeWith yL_sign cL_sign 4 (some .int) [(0, 9, 12, 13)] :: pv_W) ({ frames := 9, cells := 1, slots := 6, locals := 141 } : Room) (va_Pc [.ref h0, .int p0, .ref o0] (pv_P D [(cC, .char), (cL, .long)] [(h0, .inr (0, [.ref (q 0), .int 0, .int 108, .ref (q 1), .int 0, .ref (q 2), .int 0, .ref (q 3), .ref (q 4), .int 1, .ref (q 5), .ref (q 6), .ref (q 7), .ref (q 8), .ref (q 9)])), ((q 3), .inl (cC, 3, .inl sg)), (o0, .inl (cL, 1, .inr (.inl fo)))] (va_A [(h0, .inr (0, [.ref (q 0), .int 0, .int 108, .ref (q 1), .int 0, .ref (q 2), .int 0, .ref (q 3), .ref (q 4), .int 1, .ref (q 5), .ref (q 6), .ref (q 7), .ref (q 8), .ref (q 9)])), ((q 3), .inl (cC, 3, .inl sg)), (o0, .inl (cL, 1, .inr (.inl fo)))] sz) sz)) (va_Qi (fun r (u : Int64) => (r = 0 ∧ u = 63 ∧ pv_vr p0) ∨ (r = 1 ∧ ¬ pv_vr p0)) (fun u t => ∃ f9 : Nat → Int64, f9 0 = u ∧ va_P D pv_cl [(o0, .inl (cL, 1, .inr (.inl f9)))] t.heap ∧ va_K D pv_cl [(cL, .long)] t ∧ va_D (va_A [(h0, .inr (0, [.ref (q 0), .int 0, .int 108, .ref (q 1), .int 0, .ref (q 2), .int 0, .ref (q 3), .ref (q 4), .int 1, .ref (q 5), .ref (q 6), .ref (q 7), .ref (q 8), .ref (q 9)])), ((q 3), .inl (cC, 3, .inl sg)), (o0, .inl (cL, 1, .inr (.inl fo)))] sz) [(o0, .inl (cL, 1, .inr (.inl f9)))]) (va_A [(h0, .inr (0, [.ref (q 0), .int 0, .int 108, .ref (q 1), .int 0, .ref (q 2), .int 0, .ref (q 3), .ref (q 4), .int 1, .ref (q 5), .ref (q 6), .ref (q 7), .ref (q 8), .ref (q 9)])), ((q 3), .inl (cC, 3, .inl sg)), (o0, .inl (cL, 1, .inr (.inl fo)))] sz)) 1 6 (va_A [(h0, .inr (0, [.ref (q 0), .int 0, .int 108, .ref (q 1), .int 0, .ref (q 2), .int 0, .ref (q 3), .ref (q 4), .int 1, .ref (q 5), .ref (q 6), .ref (q 7), .ref (q 8), .ref (q 9)])), ((q 3), .inl (cC, 3, .inl sg)), (o0, .inl (cL, 1, .inr (.inl fo)))] sz) := by
  refine pv_ofWH (cc := cL_sign) (maxL := 4) (ret := (some .int)) (by decide) rfl ?_
  intro p e s m args below meth c s₁ B hml hv
  obtain ⟨rfl, hsz, hE, hP, hK, hD0⟩ := hv
  have hx := B.exec
  have hb := B.bytes
  have hr := B.returns
  have hts := fun (w : Cond) (h : w ∈ pv_W) => atoms_spec (ws := Cond.codeWith yL_sign cL_sign 4 (some .int) [(0, 9, 12, 13)] :: pv_W) B.pre w (List.mem_cons_of_mem _ h)
  have hg := fun {w : Cond} (h : w ∈ lw_tbl) (g : goodWord w = true) => hts w (pv_in h g)
  have hown : s.vm.findClass RL = some m.cls := findClass_of_methodNamed B.named
  have hlocks := B.notSynchronized
  have hcw := atoms_spec (ws := Cond.codeWith yL_sign cL_sign 4 (some .int) [(0, 9, 12, 13)] :: pv_W) B.pre _ List.mem_cons_self
  subst hsz
  have hD := hD0.self (sz := s.heap.size)
  generalize hAe : va_A [(h0, .inr (0, [.ref (q 0), .int 0, .int 108, .ref (q 1), .int 0, .ref (q 2), .int 0, .ref (q 3), .ref (q 4), .int 1, .ref (q 5), .ref (q 6), .ref (q 7), .ref (q 8), .ref (q 9)])), ((q 3), .inl (cC, 3, .inl sg)), (o0, .inl (cL, 1, .inr (.inl fo)))] s.heap.size = A at hD hE ⊢
  have hA : ∀ q : Nat, s.heap.size ≤ q → A q := fun q h => by rw [← hAe]; exact Or.inr h
  have hS : va_S A s.heap s.heap [] := va_S.rf
  have hP : va_P D pv_cl [(h0, .inr (0, [.ref (q 0), .int 0, .int 108, .ref (q 1), .int 0, .ref (q 2), .int 0, .ref (q 3), .ref (q 4), .int 1, .ref (q 5), .ref (q 6), .ref (q 7), .ref (q 8), .ref (q 9)])), ((q 3), .inl (cC, 3, .inl sg)), (o0, .inl (cL, 1, .inr (.inl fo)))] s.heap := hP
  have hl := lv_entry ([.ref h0, .int p0, .ref o0]) (n := 4) (Nat.le_of_ble_eq_true rfl)
  rw [lg_entry_eq]
  generalize (lg_sl ([.ref h0, .int p0, .ref o0]) ++ List.replicate (4 - (lg_sl ([.ref h0, .int p0, .ref o0])).length) Slot.unset).toArray = ls at hl ⊢
  have hl : lv_has ls 4 [(0, .ref h0), (1, .int p0), (2, .ref o0)] := hl
  refine lv_aload_n hx hb dL_sign_0 rfl (lv_at hl 2 rfl) ?_
  refine lv_iconst (v := 0) hx hb dL_sign_1 (by decide) ?_
  refine lv_aload_n hx hb dL_sign_2 rfl (lv_at hl 0 rfl) ?_
  refine lv_iload_n hx hb dL_sign_3 rfl (lv_at hl 1 rfl) ?_
  have hF := pv_new hA hS.1
  refine vx_calli (vx_runV (As := [.int p0]) (rest := [.int 0, .ref o0]) ⟨hx, hb, hml, hown, hts⟩ (c_X11_sign l hfl D _ h0 q cC sg hsg p0) (cwV 1 hts (pv_gV w8_121 w8_122 w8_123 w1_1 w8_124) rfl rfl rfl (by decide +kernel) ⟨Nat.le_of_ble_eq_true rfl, Nat.le_of_ble_eq_true rfl⟩) (pv_pV hE hS hF (hP.sub [0, 1] rfl) (hK.sub [0] rfl) (hD.sub [0, 1] (by decide) rfl) (va_recv (ci := 0) (q0 := 0) hK hP rfl rfl)) rfl rfl hl.1 rfl (lv_room (Nat.le_of_ble_eq_true rfl)) dL_sign_4 ⟨Nat.le_of_ble_eq_true rfl, Nat.le_of_ble_eq_true rfl⟩) hS (fun q _ h => hF q h) hF (fun q _ h => hF q h) (fun E ce q9 u t H1 locs1 ht hvm hpx hbx hz1 hk1 hS hce hcv hcl => ?_) (fun r_0 u t H1 locs1 ht hvm hw hB hz1 hk1 hS => ?_)
  · obtain ⟨rfl, hneg⟩ := hbx
    have hP := pv_keep hP rfl hk1
    refine vx_catch (own := RL) (name := "java/lang/IllegalArgumentException") hown [] ⟨0, 9, 12, 13⟩ _ ((vx_table (x := yL_law) B hcw).trans rfl) (fun z hz => nomatch hz) rfl (by decide) (hg w4_139 rfl) (va_Nw.use rfl (hE.2.2.1 _ (pv_ib w4_153 rfl))) hce hcv hcl ?_
    refine W.widen (k := 1) (n := 6) (Nat.le_of_ble_eq_true rfl) (Nat.le_of_ble_eq_true rfl) ?_
    refine lv_astore_n (lv' := [(3, .ref q9), (0, .ref h0), (1, .int p0), (2, .ref o0)]) hx hb dL_sign_12 rfl hl (by decide) rfl (fun ls hl => ?_)
    refine lv_iconst (v := 1) hx hb dL_sign_13 (by decide) ?_
    refine W.widen (k := 1) (n := 6) (Nat.le_of_ble_eq_true rfl) (Nat.le_of_ble_eq_true rfl) ?_
    exact W.iret (v := 1) hx hb hr (fun t ht hW => ⟨⟨1, fo 0, rfl, Or.inr ⟨rfl, hneg⟩, fo, rfl, (by rw [ht]; exact hP.sub [2] rfl), va_K.moved hW.alike (hK.sub [1] rfl), hD.sub [2] (by decide) rfl⟩, hS.F ht⟩) hS.2.2 dL_sign_14
  · refine W.widen (k := 1) (n := 6) (Nat.le_of_ble_eq_true rfl) (Nat.le_of_ble_eq_true rfl) ?_
    have hP := pv_keep hP rfl hk1
    obtain ⟨rfl, hcond⟩ := hw
    refine lv_i2l (v := 63) hx hb dL_sign_7 (by decide) ?_
    refine va_last hx hb hK hP hD hS 2 1 rfl rfl (by unfold vp_in; decide) dL_sign_8 (fun H locs hP hD hS => ?_)
    have hP : va_P D pv_cl [(h0, .inr (0, [.ref (q 0), .int 0, .int 108, .ref (q 1), .int 0, .ref (q 2), .int 0, .ref (q 3), .ref (q 4), .int 1, .ref (q 5), .ref (q 6), .ref (q 7), .ref (q 8), .ref (q 9)])), ((q 3), .inl (cC, 3, .inl sg)), (o0, .inl (cL, 1, .inr (.inl (vp_updL (fo) (0 : Int32).toNatClampNeg 63))))] _ := hP
    have hD : va_D A [(h0, .inr (0, [.ref (q 0), .int 0, .int 108, .ref (q 1), .int 0, .ref (q 2), .int 0, .ref (q 3), .ref (q 4), .int 1, .ref (q 5), .ref (q 6), .ref (q 7), .ref (q 8), .ref (q 9)])), ((q 3), .inl (cC, 3, .inl sg)), (o0, .inl (cL, 1, .inr (.inl (vp_updL (fo) (0 : Int32).toNatClampNeg 63))))] := hD
    refine lv_goto (tgt := 15) hx hb dL_sign_9 (by decide) ?_
    refine lv_iconst (v := 0) hx hb dL_sign_15 (by decide) ?_
    refine W.widen (k := 1) (n := 6) (Nat.le_of_ble_eq_true rfl) (Nat.le_of_ble_eq_true rfl) ?_
    exact W.iret (v := 0) hx hb hr (fun t ht hW => ⟨⟨0, 63, rfl, Or.inl ⟨rfl, rfl, hcond⟩, vp_updL (fo) (0 : Int32).toNatClampNeg 63, pk_uLs, (by rw [ht]; exact hP.sub [2] rfl), va_K.moved hW.alike (hK.sub [1] rfl), hD.sub [2] (by decide) rfl⟩, hS.F ht⟩) hS.2.2 dL_sign_16

