/-- a method with handlers, that returns -/
theorem pv_ofWH {l : Launch} {y : MethodName} {ws ws' : List Cond} {rm : Room} {Pc : Array Value → State → Prop} {Qc : Array Value → State → Outcome → State → Prop} {mc ms : Nat} {free : Addr → Prop} {cc : ByteArray} {maxL : Nat} {ret : Option FieldType} {hh : List (Nat × Nat × Nat × Nat)}
    (hy : plainName y.cls = true) (hw : ws = Cond.codeWith y cc maxL ret hh :: ws')
    (body : ∀ p e s m args below meth c s₁, BodyLoose p l y (headSpec ws rm) cc maxL ret e s m args below meth c s₁ → c.maxLocals = maxL → Pc args s →
      W p l e (headSpec ws rm).room s m args below meth c s.heap [] 0 0 (MQ below Qc args s mc ms free) (entryFrame m args maxL)) : Met l y ws rm Pc Qc mc ms free := by
  refine MetFree.of_bodyS (code := cc) (maxLocals := maxL) (ret := ret) hy ?_ ?_
  · intro args s m h hn
    obtain ⟨m9, meth, c, hn9, h1, h2, h3, h4, -, h5, h6, -⟩ := Cond.codeWith_spec (atoms_spec (ws := ws) h _ (by rw [hw]; exact List.mem_cons_self))
    cases hn.symm.trans hn9
    exact ⟨meth, c, h1, h2, h3, h4, h5, h6⟩
  · intro p e s m args below meth c s₁ B hml hP _
    obtain ⟨t, a1, o, b1, b2, b3⟩ := body p e s m args below meth c s₁ B hml hP s₁ (by rw [B.state]; rfl) (Stand.of_body B)
    exact ⟨t, o, a1, b1, b2, ⟨b3.1, b3.2⟩⟩

theorem dL_add_0 : decode cL_add 0 = .ok (.aload_n 3, 1) := by decide +kernel
theorem dL_add_1 : decode cL_add 1 = .ok (.iconst 0, 1) := by decide +kernel
theorem dL_add_2 : decode cL_add 2 = .ok (.aload_n 0, 1) := by decide +kernel
theorem dL_add_3 : decode cL_add 3 = .ok (.iload_n 1, 1) := by decide +kernel
theorem dL_add_4 : decode cL_add 4 = .ok (.iload_n 2, 1) := by decide +kernel
theorem dL_add_5 : decode cL_add 5 = .ok (.invokevirtual 20, 3) := by decide +kernel
theorem w5_108 : (Jvm.Cond.methodLink "PolyforgeLaw" (20 : Nat) ({ cls := "Polyforge", name := "add", desc := "(II)I" } : Jvm.MethodName)) ∈ lw_tbl := pv_t5 (pv_mg 108 rfl)
theorem w5_111 : (Jvm.Cond.code ({ cls := "Polyforge", name := "add", desc := "(II)I" } : Jvm.MethodName) prog_1_method_4_code (5 : Nat) (Option.some Jvm.ClassFile.FieldType.int)) ∈ lw_tbl := pv_t5 (pv_mg 111 rfl)
theorem w5_110 : (Jvm.Cond.selects "Polyforge" ({ cls := "Polyforge", name := "add", desc := "(II)I" } : Jvm.MethodName) ({ cls := "Polyforge", name := "add", desc := "(II)I" } : Jvm.MethodName)) ∈ lw_tbl := pv_t5 (pv_mg 110 rfl)
theorem w5_109 : (Jvm.Cond.instanceMethod ({ cls := "Polyforge", name := "add", desc := "(II)I" } : Jvm.MethodName)) ∈ lw_tbl := pv_t5 (pv_mg 109 rfl)
theorem w5_69 : (Jvm.Cond.classLink "PolyforgeLaw" (23 : Nat) "java/lang/IndexOutOfBoundsException") ∈ lw_tbl := pv_t5 (pv_mg 69 rfl)
theorem w5_118 : (Jvm.Cond.castable "java/lang/IndexOutOfBoundsException" "java/lang/IndexOutOfBoundsException") ∈ lw_tbl := pv_t5 (pv_mg 118 rfl)
theorem dL_add_13 : decode cL_add 13 = .ok (.astore 4, 2) := by decide +kernel
theorem dL_add_15 : decode cL_add 15 = .ok (.iconst 1, 1) := by decide +kernel
theorem dL_add_16 : decode cL_add 16 = .ok (.ireturn, 1) := by decide +kernel
set_option maxHeartbeats 4000000 in
set_option maxRecDepth 100000 in
/-- add: the first handler -/
theorem c_L_add (l : Launch) (hfl : l.stackTraces = false) (D : va_G) (sz : Nat) (h0 : Nat) (q : Nat → Nat) (p0 p1 : Int32) (o0 : Nat) : Met l yL_add (Cond.codeWith yL_add cL_add 5 (some .int) [(0, 10, 13, 23), (0, 10, 17, 25), (0, 10, 21, 27), (0, 10, 25, 15)] :: pv_W) ({ frames := 9, cells := 1, slots := 6, locals := 146 } : Room) (va_Pc [.ref h0, .int p0, .int p1, .ref o0] (pv_P D [] [(h0, .inr (0, [.ref (q 0), .int 0, .int 108, .ref (q 1), .int 0, .ref (q 2), .int 0, .ref (q 3), .ref (q 4), .int 1, .ref (q 5), .ref (q 6), .ref (q 7), .ref (q 8), .ref (q 9)]))] (va_A [] sz) sz)) (va_Qi (fun r (_ : Unit) => r = 1) (fun _ _ => True) (va_A [] sz)) 1 6 (va_A [] sz) := by
  refine pv_ofWH (cc := cL_add) (maxL := 5) (ret := (some .int)) (by decide) rfl ?_
  intro p e s m args below meth c s₁ B hml hv
  obtain ⟨rfl, hsz, hE, hP, hK, hD0⟩ := hv
  have hx := B.exec
  have hb := B.bytes
  have hr := B.returns
  have hts := fun (w : Cond) (h : w ∈ pv_W) => atoms_spec (ws := Cond.codeWith yL_add cL_add 5 (some .int) [(0, 10, 13, 23), (0, 10, 17, 25), (0, 10, 21, 27), (0, 10, 25, 15)] :: pv_W) B.pre w (List.mem_cons_of_mem _ h)
  have hg := fun {w : Cond} (h : w ∈ lw_tbl) (g : goodWord w = true) => hts w (pv_in h g)
  have hown : s.vm.findClass RL = some m.cls := findClass_of_methodNamed B.named
  have hlocks := B.notSynchronized
  have hcw := atoms_spec (ws := Cond.codeWith yL_add cL_add 5 (some .int) [(0, 10, 13, 23), (0, 10, 17, 25), (0, 10, 21, 27), (0, 10, 25, 15)] :: pv_W) B.pre _ List.mem_cons_self
  subst hsz
  have hD := hD0
  generalize hAe : va_A [] s.heap.size = A at hE ⊢
  have hA : ∀ q : Nat, s.heap.size ≤ q → A q := fun q h => by rw [← hAe]; exact Or.inr h
  have hS : va_S A s.heap s.heap [] := va_S.rf
  have hP : va_P D pv_cl [(h0, .inr (0, [.ref (q 0), .int 0, .int 108, .ref (q 1), .int 0, .ref (q 2), .int 0, .ref (q 3), .ref (q 4), .int 1, .ref (q 5), .ref (q 6), .ref (q 7), .ref (q 8), .ref (q 9)]))] s.heap := hP
  have hl := lv_entry ([.ref h0, .int p0, .int p1, .ref o0]) (n := 5) (Nat.le_of_ble_eq_true rfl)
  rw [lg_entry_eq]
  generalize (lg_sl ([.ref h0, .int p0, .int p1, .ref o0]) ++ List.replicate (5 - (lg_sl ([.ref h0, .int p0, .int p1, .ref o0])).length) Slot.unset).toArray = ls at hl ⊢
  have hl : lv_has ls 5 [(0, .ref h0), (1, .int p0), (2, .int p1), (3, .ref o0)] := hl
  refine lv_aload_n hx hb dL_add_0 rfl (lv_at hl 3 rfl) ?_
  refine lv_iconst (v := 0) hx hb dL_add_1 (by decide) ?_
  refine lv_aload_n hx hb dL_add_2 rfl (lv_at hl 0 rfl) ?_
  refine lv_iload_n hx hb dL_add_3 rfl (lv_at hl 1 rfl) ?_
  refine lv_iload_n hx hb dL_add_4 rfl (lv_at hl 2 rfl) ?_
  have hF := pv_new hA hS.1
  refine pv_thrown (vx_runV (As := [.int p0, .int p1]) (rest := [.int 0, .ref o0]) ⟨hx, hb, hml, hown, hts⟩ (c_X11_add l hfl D _ h0 q p0 p1) (cwV 2 hts (pv_gV w5_108 w5_109 w5_110 w1_1 w5_111) rfl rfl rfl (by decide +kernel) ⟨Nat.le_of_ble_eq_true rfl, Nat.le_of_ble_eq_true rfl⟩) (pv_pV hE hS hF (hP.sub [0] rfl) (hK.sub [] rfl) (hD.sub [0] (by decide) rfl) (va_recv (ci := 0) (q0 := 0) hK hP rfl rfl)) rfl rfl hl.1 rfl (lv_room (Nat.le_of_ble_eq_true rfl)) dL_add_5 ⟨Nat.le_of_ble_eq_true rfl, Nat.le_of_ble_eq_true rfl⟩) (fun _ _ _ h => h) hS hF hF (fun E ce q9 u t H1 locs1 ht hvm hpx hbx hz1 hk1 hS hce hcv hcl => ?_)
  subst hbx
  have hP := pv_keep hP rfl hk1
  refine vx_catch (own := RL) (name := "java/lang/IndexOutOfBoundsException") hown [] ⟨0, 10, 13, 23⟩ _ ((vx_table (x := yL_law) B hcw).trans rfl) (fun z hz => nomatch hz) rfl (by decide) (hg w5_69 rfl) (va_Nw.use rfl (hE.2.2.1 _ (pv_ib w5_118 rfl))) hce hcv hcl ?_
  refine W.widen (k := 1) (n := 6) (Nat.le_of_ble_eq_true rfl) (Nat.le_of_ble_eq_true rfl) ?_
  refine lv_astore (lv' := [(4, .ref q9), (0, .ref h0), (1, .int p0), (2, .int p1), (3, .ref o0)]) hx hb dL_add_13 hl (by decide) rfl (fun ls hl => ?_)
  refine lv_iconst (v := 1) hx hb dL_add_15 (by decide) ?_
  refine W.widen (k := 1) (n := 6) (Nat.le_of_ble_eq_true rfl) (Nat.le_of_ble_eq_true rfl) ?_
  exact W.iret (v := 1) hx hb hr (fun t ht hW => ⟨⟨1, (), rfl, rfl, trivial⟩, hS.F ht⟩) hS.2.2 dL_add_16

theorem dL_subtract_0 : decode cL_subtract 0 = .ok (.aload_n 3, 1) := by decide +kernel
theorem dL_subtract_1 : decode cL_subtract 1 = .ok (.iconst 0, 1) := by decide +kernel
theorem dL_subtract_2 : decode cL_subtract 2 = .ok (.aload_n 0, 1) := by decide +kernel
theorem dL_subtract_3 : decode cL_subtract 3 = .ok (.iload_n 1, 1) := by decide +kernel
theorem dL_subtract_4 : decode cL_subtract 4 = .ok (.iload_n 2, 1) := by decide +kernel
theorem dL_subtract_5 : decode cL_subtract 5 = .ok (.invokevirtual 29, 3) := by decide +kernel
theorem w5_185 : (Jvm.Cond.methodLink "PolyforgeLaw" (29 : Nat) ({ cls := "Polyforge", name := "subtract", desc := "(II)I" } : Jvm.MethodName)) ∈ lw_tbl := pv_t5 (pv_mg 185 rfl)
theorem w5_188 : (Jvm.Cond.code ({ cls := "Polyforge", name := "subtract", desc := "(II)I" } : Jvm.MethodName) prog_1_method_5_code (5 : Nat) (Option.some Jvm.ClassFile.FieldType.int)) ∈ lw_tbl := pv_t5 (pv_mg 188 rfl)
theorem w5_187 : (Jvm.Cond.selects "Polyforge" ({ cls := "Polyforge", name := "subtract", desc := "(II)I" } : Jvm.MethodName) ({ cls := "Polyforge", name := "subtract", desc := "(II)I" } : Jvm.MethodName)) ∈ lw_tbl := pv_t5 (pv_mg 187 rfl)
theorem w5_186 : (Jvm.Cond.instanceMethod ({ cls := "Polyforge", name := "subtract", desc := "(II)I" } : Jvm.MethodName)) ∈ lw_tbl := pv_t5 (pv_mg 186 rfl)
theorem dL_subtract_13 : decode cL_subtract 13 = .ok (.astore 4, 2) := by decide +kernel
theorem dL_subtract_15 : decode cL_subtract 15 = .ok (.iconst 1, 1) := by decide +kernel
theorem dL_subtract_16 : decode cL_subtract 16 = .ok (.ireturn, 1) := by decide +kernel
set_option maxHeartbeats 4000000 in
set_option maxRecDepth 100000 in
/-- subtract: the first handler -/
theorem c_L_subtract (l : Launch) (hfl : l.stackTraces = false) (D : va_G) (sz : Nat) (h0 : Nat) (q : Nat → Nat) (p0 p1 : Int32) (o0 : Nat) : Met l yL_subtract (Cond.codeWith yL_subtract cL_subtract 5 (some .int) [(0, 10, 13, 23), (0, 10, 17, 25), (0, 10, 21, 27), (0, 10, 25, 15)] :: pv_W) ({ frames := 9, cells := 1, slots := 6, locals := 146 } : Room) (va_Pc [.ref h0, .int p0, .int p1, .ref o0] (pv_P D [] [(h0, .inr (0, [.ref (q 0), .int 0, .int 108, .ref (q 1), .int 0, .ref (q 2), .int 0, .ref (q 3), .ref (q 4), .int 1, .ref (q 5), .ref (q 6), .ref (q 7), .ref (q 8), .ref (q 9)]))] (va_A [] sz) sz)) (va_Qi (fun r (_ : Unit) => r = 1) (fun _ _ => True) (va_A [] sz)) 1 6 (va_A [] sz) := by
  refine pv_ofWH (cc := cL_subtract) (maxL := 5) (ret := (some .int)) (by decide) rfl ?_
  intro p e s m args below meth c s₁ B hml hv
  obtain ⟨rfl, hsz, hE, hP, hK, hD0⟩ := hv
  have hx := B.exec
  have hb := B.bytes
  have hr := B.returns
  have hts := fun (w : Cond) (h : w ∈ pv_W) => atoms_spec (ws := Cond.codeWith yL_subtract cL_subtract 5 (some .int) [(0, 10, 13, 23), (0, 10, 17, 25), (0, 10, 21, 27), (0, 10, 25, 15)] :: pv_W) B.pre w (List.mem_cons_of_mem _ h)
  have hg := fun {w : Cond} (h : w ∈ lw_tbl) (g : goodWord w = true) => hts w (pv_in h g)
  have hown : s.vm.findClass RL = some m.cls := findClass_of_methodNamed B.named
  have hlocks := B.notSynchronized
  have hcw := atoms_spec (ws := Cond.codeWith yL_subtract cL_subtract 5 (some .int) [(0, 10, 13, 23), (0, 10, 17, 25), (0, 10, 21, 27), (0, 10, 25, 15)] :: pv_W) B.pre _ List.mem_cons_self
  subst hsz
  have hD := hD0
  generalize hAe : va_A [] s.heap.size = A at hE ⊢
  have hA : ∀ q : Nat, s.heap.size ≤ q → A q := fun q h => by rw [← hAe]; exact Or.inr h
  have hS : va_S A s.heap s.heap [] := va_S.rf
  have hP : va_P D pv_cl [(h0, .inr (0, [.ref (q 0), .int 0, .int 108, .ref (q 1), .int 0, .ref (q 2), .int 0, .ref (q 3), .ref (q 4), .int 1, .ref (q 5), .ref (q 6), .ref (q 7), .ref (q 8), .ref (q 9)]))] s.heap := hP
  have hl := lv_entry ([.ref h0, .int p0, .int p1, .ref o0]) (n := 5) (Nat.le_of_ble_eq_true rfl)
  rw [lg_entry_eq]
  generalize (lg_sl ([.ref h0, .int p0, .int p1, .ref o0]) ++ List.replicate (5 - (lg_sl ([.ref h0, .int p0, .int p1, .ref o0])).length) Slot.unset).toArray = ls at hl ⊢
  have hl : lv_has ls 5 [(0, .ref h0), (1, .int p0), (2, .int p1), (3, .ref o0)] := hl
  refine lv_aload_n hx hb dL_subtract_0 rfl (lv_at hl 3 rfl) ?_
  refine lv_iconst (v := 0) hx hb dL_subtract_1 (by decide) ?_
  refine lv_aload_n hx hb dL_subtract_2 rfl (lv_at hl 0 rfl) ?_
  refine lv_iload_n hx hb dL_subtract_3 rfl (lv_at hl 1 rfl) ?_
  refine lv_iload_n hx hb dL_subtract_4 rfl (lv_at hl 2 rfl) ?_
  have hF := pv_new hA hS.1
  refine pv_thrown (vx_runV (As := [.int p0, .int p1]) (rest := [.int 0, .ref o0]) ⟨hx, hb, hml, hown, hts⟩ (c_X11_subtract l hfl D _ h0 q p0 p1) (cwV 2 hts (pv_gV w5_185 w5_186 w5_187 w1_1 w5_188) rfl rfl rfl (by decide +kernel) ⟨Nat.le_of_ble_eq_true rfl, Nat.le_of_ble_eq_true rfl⟩) (pv_pV hE hS hF (hP.sub [0] rfl) (hK.sub [] rfl) (hD.sub [0] (by decide) rfl) (va_recv (ci := 0) (q0 := 0) hK hP rfl rfl)) rfl rfl hl.1 rfl (lv_room (Nat.le_of_ble_eq_true rfl)) dL_subtract_5 ⟨Nat.le_of_ble_eq_true rfl, Nat.le_of_ble_eq_true rfl⟩) (fun _ _ _ h => h) hS hF hF (fun E ce q9 u t H1 locs1 ht hvm hpx hbx hz1 hk1 hS hce hcv hcl => ?_)
  subst hbx
  have hP := pv_keep hP rfl hk1
  refine vx_catch (own := RL) (name := "java/lang/IndexOutOfBoundsException") hown [] ⟨0, 10, 13, 23⟩ _ ((vx_table (x := yL_law) B hcw).trans rfl) (fun z hz => nomatch hz) rfl (by decide) (hg w5_69 rfl) (va_Nw.use rfl (hE.2.2.1 _ (pv_ib w5_118 rfl))) hce hcv hcl ?_
  refine W.widen (k := 1) (n := 6) (Nat.le_of_ble_eq_true rfl) (Nat.le_of_ble_eq_true rfl) ?_
  refine lv_astore (lv' := [(4, .ref q9), (0, .ref h0), (1, .int p0), (2, .int p1), (3, .ref o0)]) hx hb dL_subtract_13 hl (by decide) rfl (fun ls hl => ?_)
  refine lv_iconst (v := 1) hx hb dL_subtract_15 (by decide) ?_
  refine W.widen (k := 1) (n := 6) (Nat.le_of_ble_eq_true rfl) (Nat.le_of_ble_eq_true rfl) ?_
  exact W.iret (v := 1) hx hb hr (fun t ht hW => ⟨⟨1, (), rfl, rfl, trivial⟩, hS.F ht⟩) hS.2.2 dL_subtract_16

theorem dL_multiply_0 : decode cL_multiply 0 = .ok (.aload_n 3, 1) := by decide +kernel
theorem dL_multiply_1 : decode cL_multiply 1 = .ok (.iconst 0, 1) := by decide +kernel
theorem dL_multiply_2 : decode cL_multiply 2 = .ok (.aload_n 0, 1) := by decide +kernel
theorem dL_multiply_3 : decode cL_multiply 3 = .ok (.iload_n 1, 1) := by decide +kernel
theorem dL_multiply_4 : decode cL_multiply 4 = .ok (.iload_n 2, 1) := by decide +kernel
theorem dL_multiply_5 : decode cL_multiply 5 = .ok (.invokevirtual 32, 3) := by decide +kernel
theorem w5_193 : (Jvm.Cond.methodLink "PolyforgeLaw" (32 : Nat) ({ cls := "Polyforge", name := "multiply", desc := "(II)I" } : Jvm.MethodName)) ∈ lw_tbl := pv_t5 (pv_mg 193 rfl)
theorem w5_196 : (Jvm.Cond.code ({ cls := "Polyforge", name := "multiply", desc := "(II)I" } : Jvm.MethodName) prog_1_method_6_code (5 : Nat) (Option.some Jvm.ClassFile.FieldType.int)) ∈ lw_tbl := pv_t5 (pv_mg 196 rfl)
theorem w5_195 : (Jvm.Cond.selects "Polyforge" ({ cls := "Polyforge", name := "multiply", desc := "(II)I" } : Jvm.MethodName) ({ cls := "Polyforge", name := "multiply", desc := "(II)I" } : Jvm.MethodName)) ∈ lw_tbl := pv_t5 (pv_mg 195 rfl)
theorem w5_194 : (Jvm.Cond.instanceMethod ({ cls := "Polyforge", name := "multiply", desc := "(II)I" } : Jvm.MethodName)) ∈ lw_tbl := pv_t5 (pv_mg 194 rfl)
theorem dL_multiply_13 : decode cL_multiply 13 = .ok (.astore 4, 2) := by decide +kernel
theorem dL_multiply_15 : decode cL_multiply 15 = .ok (.iconst 1, 1) := by decide +kernel
theorem dL_multiply_16 : decode cL_multiply 16 = .ok (.ireturn, 1) := by decide +kernel
set_option maxHeartbeats 4000000 in
set_option maxRecDepth 100000 in
/-- multiply: the first handler -/
theorem c_L_multiply (l : Launch) (hfl : l.stackTraces = false) (D : va_G) (sz : Nat) (h0 : Nat) (q : Nat → Nat) (p0 p1 : Int32) (o0 : Nat) : Met l yL_multiply (Cond.codeWith yL_multiply cL_multiply 5 (some .int) [(0, 10, 13, 23), (0, 10, 17, 25), (0, 10, 21, 27), (0, 10, 25, 15)] :: pv_W) ({ frames := 9, cells := 1, slots := 6, locals := 146 } : Room) (va_Pc [.ref h0, .int p0, .int p1, .ref o0] (pv_P D [] [(h0, .inr (0, [.ref (q 0), .int 0, .int 108, .ref (q 1), .int 0, .ref (q 2), .int 0, .ref (q 3), .ref (q 4), .int 1, .ref (q 5), .ref (q 6), .ref (q 7), .ref (q 8), .ref (q 9)]))] (va_A [] sz) sz)) (va_Qi (fun r (_ : Unit) => r = 1) (fun _ _ => True) (va_A [] sz)) 1 6 (va_A [] sz) := by
  refine pv_ofWH (cc := cL_multiply) (maxL := 5) (ret := (some .int)) (by decide) rfl ?_
  intro p e s m args below meth c s₁ B hml hv
  obtain ⟨rfl, hsz, hE, hP, hK, hD0⟩ := hv
  have hx := B.exec
  have hb := B.bytes
  have hr := B.returns
  have hts := fun (w : Cond) (h : w ∈ pv_W) => atoms_spec (ws := Cond.codeWith yL_multiply cL_multiply 5 (some .int) [(0, 10, 13, 23), (0, 10, 17, 25), (0, 10, 21, 27), (0, 10, 25, 15)] :: pv_W) B.pre w (List.mem_cons_of_mem _ h)
  have hg := fun {w : Cond} (h : w ∈ lw_tbl) (g : goodWord w = true) => hts w (pv_in h g)
  have hown : s.vm.findClass RL = some m.cls := findClass_of_methodNamed B.named
  have hlocks := B.notSynchronized
  have hcw := atoms_spec (ws := Cond.codeWith yL_multiply cL_multiply 5 (some .int) [(0, 10, 13, 23), (0, 10, 17, 25), (0, 10, 21, 27), (0, 10, 25, 15)] :: pv_W) B.pre _ List.mem_cons_self
  subst hsz
  have hD := hD0
  generalize hAe : va_A [] s.heap.size = A at hE ⊢
  have hA : ∀ q : Nat, s.heap.size ≤ q → A q := fun q h => by rw [← hAe]; exact Or.inr h
  have hS : va_S A s.heap s.heap [] := va_S.rf
  have hP : va_P D pv_cl [(h0, .inr (0, [.ref (q 0), .int 0, .int 108, .ref (q 1), .int 0, .ref (q 2), .int 0, .ref (q 3), .ref (q 4), .int 1, .ref (q 5), .ref (q 6), .ref (q 7), .ref (q 8), .ref (q 9)]))] s.heap := hP
  have hl := lv_entry ([.ref h0, .int p0, .int p1, .ref o0]) (n := 5) (Nat.le_of_ble_eq_true rfl)
  rw [lg_entry_eq]
  generalize (lg_sl ([.ref h0, .int p0, .int p1, .ref o0]) ++ List.replicate (5 - (lg_sl ([.ref h0, .int p0, .int p1, .ref o0])).length) Slot.unset).toArray = ls at hl ⊢
  have hl : lv_has ls 5 [(0, .ref h0), (1, .int p0), (2, .int p1), (3, .ref o0)] := hl
  refine lv_aload_n hx hb dL_multiply_0 rfl (lv_at hl 3 rfl) ?_
  refine lv_iconst (v := 0) hx hb dL_multiply_1 (by decide) ?_
  refine lv_aload_n hx hb dL_multiply_2 rfl (lv_at hl 0 rfl) ?_
  refine lv_iload_n hx hb dL_multiply_3 rfl (lv_at hl 1 rfl) ?_
  refine lv_iload_n hx hb dL_multiply_4 rfl (lv_at hl 2 rfl) ?_
  have hF := pv_new hA hS.1
  refine pv_thrown (vx_runV (As := [.int p0, .int p1]) (rest := [.int 0, .ref o0]) ⟨hx, hb, hml, hown, hts⟩ (c_X11_multiply l hfl D _ h0 q p0 p1) (cwV 2 hts (pv_gV w5_193 w5_194 w5_195 w1_1 w5_196) rfl rfl rfl (by decide +kernel) ⟨Nat.le_of_ble_eq_true rfl, Nat.le_of_ble_eq_true rfl⟩) (pv_pV hE hS hF (hP.sub [0] rfl) (hK.sub [] rfl) (hD.sub [0] (by decide) rfl) (va_recv (ci := 0) (q0 := 0) hK hP rfl rfl)) rfl rfl hl.1 rfl (lv_room (Nat.le_of_ble_eq_true rfl)) dL_multiply_5 ⟨Nat.le_of_ble_eq_true rfl, Nat.le_of_ble_eq_true rfl⟩) (fun _ _ _ h => h) hS hF hF (fun E ce q9 u t H1 locs1 ht hvm hpx hbx hz1 hk1 hS hce hcv hcl => ?_)
  subst hbx
  have hP := pv_keep hP rfl hk1
  refine vx_catch (own := RL) (name := "java/lang/IndexOutOfBoundsException") hown [] ⟨0, 10, 13, 23⟩ _ ((vx_table (x := yL_law) B hcw).trans rfl) (fun z hz => nomatch hz) rfl (by decide) (hg w5_69 rfl) (va_Nw.use rfl (hE.2.2.1 _ (pv_ib w5_118 rfl))) hce hcv hcl ?_
  refine W.widen (k := 1) (n := 6) (Nat.le_of_ble_eq_true rfl) (Nat.le_of_ble_eq_true rfl) ?_
  refine lv_astore (lv' := [(4, .ref q9), (0, .ref h0), (1, .int p0), (2, .int p1), (3, .ref o0)]) hx hb dL_multiply_13 hl (by decide) rfl (fun ls hl => ?_)
  refine lv_iconst (v := 1) hx hb dL_multiply_15 (by decide) ?_
  refine W.widen (k := 1) (n := 6) (Nat.le_of_ble_eq_true rfl) (Nat.le_of_ble_eq_true rfl) ?_
  exact W.iret (v := 1) hx hb hr (fun t ht hW => ⟨⟨1, (), rfl, rfl, trivial⟩, hS.F ht⟩) hS.2.2 dL_multiply_16

theorem dL_power_0 : decode cL_power 0 = .ok (.aload_n 3, 1) := by decide +kernel
theorem dL_power_1 : decode cL_power 1 = .ok (.iconst 0, 1) := by decide +kernel
theorem dL_power_2 : decode cL_power 2 = .ok (.aload_n 0, 1) := by decide +kernel
theorem dL_power_3 : decode cL_power 3 = .ok (.iload_n 1, 1) := by decide +kernel
theorem dL_power_4 : decode cL_power 4 = .ok (.iload_n 2, 1) := by decide +kernel
theorem dL_power_5 : decode cL_power 5 = .ok (.invokevirtual 35, 3) := by decide +kernel
theorem w6_1 : (Jvm.Cond.methodLink "PolyforgeLaw" (35 : Nat) ({ cls := "Polyforge", name := "power", desc := "(II)I" } : Jvm.MethodName)) ∈ lw_tbl := pv_t6 (pv_mg 1 rfl)
theorem w6_4 : (Jvm.Cond.code ({ cls := "Polyforge", name := "power", desc := "(II)I" } : Jvm.MethodName) prog_1_method_7_code (6 : Nat) (Option.some Jvm.ClassFile.FieldType.int)) ∈ lw_tbl := pv_t6 (pv_mg 4 rfl)
theorem w6_3 : (Jvm.Cond.selects "Polyforge" ({ cls := "Polyforge", name := "power", desc := "(II)I" } : Jvm.MethodName) ({ cls := "Polyforge", name := "power", desc := "(II)I" } : Jvm.MethodName)) ∈ lw_tbl := pv_t6 (pv_mg 3 rfl)
theorem w6_2 : (Jvm.Cond.instanceMethod ({ cls := "Polyforge", name := "power", desc := "(II)I" } : Jvm.MethodName)) ∈ lw_tbl := pv_t6 (pv_mg 2 rfl)
theorem dL_power_13 : decode cL_power 13 = .ok (.astore 4, 2) := by decide +kernel
theorem dL_power_15 : decode cL_power 15 = .ok (.iconst 1, 1) := by decide +kernel
theorem dL_power_16 : decode cL_power 16 = .ok (.ireturn, 1) := by decide +kernel
set_option maxHeartbeats 4000000 in
set_option maxRecDepth 100000 in
/-- power: the first handler -/
theorem c_L_power (l : Launch) (hfl : l.stackTraces = false) (D : va_G) (sz : Nat) (h0 : Nat) (q : Nat → Nat) (p0 p1 : Int32) (o0 : Nat) : Met l yL_power (Cond.codeWith yL_power cL_power 5 (some .int) [(0, 10, 13, 23), (0, 10, 17, 13), (0, 10, 21, 27), (0, 10, 25, 15)] :: pv_W) ({ frames := 9, cells := 1, slots := 6, locals := 147 } : Room) (va_Pc [.ref h0, .int p0, .int p1, .ref o0] (pv_P D [] [(h0, .inr (0, [.ref (q 0), .int 0, .int 108, .ref (q 1), .int 0, .ref (q 2), .int 0, .ref (q 3), .ref (q 4), .int 1, .ref (q 5), .ref (q 6), .ref (q 7), .ref (q 8), .ref (q 9)]))] (va_A [] sz) sz)) (va_Qi (fun r (_ : Unit) => r = 1) (fun _ _ => True) (va_A [] sz)) 1 6 (va_A [] sz) := by
  refine pv_ofWH (cc := cL_power) (maxL := 5) (ret := (some .int)) (by decide) rfl ?_
  intro p e s m args below meth c s₁ B hml hv
  obtain ⟨rfl, hsz, hE, hP, hK, hD0⟩ := hv
  have hx := B.exec
  have hb := B.bytes
  have hr := B.returns
  have hts := fun (w : Cond) (h : w ∈ pv_W) => atoms_spec (ws := Cond.codeWith yL_power cL_power 5 (some .int) [(0, 10, 13, 23), (0, 10, 17, 13), (0, 10, 21, 27), (0, 10, 25, 15)] :: pv_W) B.pre w (List.mem_cons_of_mem _ h)
  have hg := fun {w : Cond} (h : w ∈ lw_tbl) (g : goodWord w = true) => hts w (pv_in h g)
  have hown : s.vm.findClass RL = some m.cls := findClass_of_methodNamed B.named
  have hlocks := B.notSynchronized
  have hcw := atoms_spec (ws := Cond.codeWith yL_power cL_power 5 (some .int) [(0, 10, 13, 23), (0, 10, 17, 13), (0, 10, 21, 27), (0, 10, 25, 15)] :: pv_W) B.pre _ List.mem_cons_self
  subst hsz
  have hD := hD0
  generalize hAe : va_A [] s.heap.size = A at hE ⊢
  have hA : ∀ q : Nat, s.heap.size ≤ q → A q := fun q h => by rw [← hAe]; exact Or.inr h
  have hS : va_S A s.heap s.heap [] := va_S.rf
  have hP : va_P D pv_cl [(h0, .inr (0, [.ref (q 0), .int 0, .int 108, .ref (q 1), .int 0, .ref (q 2), .int 0, .ref (q 3), .ref (q 4), .int 1, .ref (q 5), .ref (q 6), .ref (q 7), .ref (q 8), .ref (q 9)]))] s.heap := hP
  have hl := lv_entry ([.ref h0, .int p0, .int p1, .ref o0]) (n := 5) (Nat.le_of_ble_eq_true rfl)
  rw [lg_entry_eq]
  generalize (lg_sl ([.ref h0, .int p0, .int p1, .ref o0]) ++ List.replicate (5 - (lg_sl ([.ref h0, .int p0, .int p1, .ref o0])).length) Slot.unset).toArray = ls at hl ⊢
  have hl : lv_has ls 5 [(0, .ref h0), (1, .int p0), (2, .int p1), (3, .ref o0)] := hl
  refine lv_aload_n hx hb dL_power_0 rfl (lv_at hl 3 rfl) ?_
  refine lv_iconst (v := 0) hx hb dL_power_1 (by decide) ?_
  refine lv_aload_n hx hb dL_power_2 rfl (lv_at hl 0 rfl) ?_
  refine lv_iload_n hx hb dL_power_3 rfl (lv_at hl 1 rfl) ?_
  refine lv_iload_n hx hb dL_power_4 rfl (lv_at hl 2 rfl) ?_
  have hF := pv_new hA hS.1
  refine pv_thrown (vx_runV (As := [.int p0, .int p1]) (rest := [.int 0, .ref o0]) ⟨hx, hb, hml, hown, hts⟩ (c_X11_power l hfl D _ h0 q p0 p1) (cwV 2 hts (pv_gV w6_1 w6_2 w6_3 w1_1 w6_4) rfl rfl rfl (by decide +kernel) ⟨Nat.le_of_ble_eq_true rfl, Nat.le_of_ble_eq_true rfl⟩) (pv_pV hE hS hF (hP.sub [0] rfl) (hK.sub [] rfl) (hD.sub [0] (by decide) rfl) (va_recv (ci := 0) (q0 := 0) hK hP rfl rfl)) rfl rfl hl.1 rfl (lv_room (Nat.le_of_ble_eq_true rfl)) dL_power_5 ⟨Nat.le_of_ble_eq_true rfl, Nat.le_of_ble_eq_true rfl⟩) (fun _ _ _ h => h) hS hF hF (fun E ce q9 u t H1 locs1 ht hvm hpx hbx hz1 hk1 hS hce hcv hcl => ?_)
  subst hbx
  have hP := pv_keep hP rfl hk1
  refine vx_catch (own := RL) (name := "java/lang/IndexOutOfBoundsException") hown [] ⟨0, 10, 13, 23⟩ _ ((vx_table (x := yL_law) B hcw).trans rfl) (fun z hz => nomatch hz) rfl (by decide) (hg w5_69 rfl) (va_Nw.use rfl (hE.2.2.1 _ (pv_ib w5_118 rfl))) hce hcv hcl ?_
  refine W.widen (k := 1) (n := 6) (Nat.le_of_ble_eq_true rfl) (Nat.le_of_ble_eq_true rfl) ?_
  refine lv_astore (lv' := [(4, .ref q9), (0, .ref h0), (1, .int p0), (2, .int p1), (3, .ref o0)]) hx hb dL_power_13 hl (by decide) rfl (fun ls hl => ?_)
  refine lv_iconst (v := 1) hx hb dL_power_15 (by decide) ?_
  refine W.widen (k := 1) (n := 6) (Nat.le_of_ble_eq_true rfl) (Nat.le_of_ble_eq_true rfl) ?_
  exact W.iret (v := 1) hx hb hr (fun t ht hW => ⟨⟨1, (), rfl, rfl, trivial⟩, hS.F ht⟩) hS.2.2 dL_power_16

theorem dL_ground_0 : decode cL_ground 0 = .ok (.aload_n 2, 1) := by decide +kernel
theorem dL_ground_1 : decode cL_ground 1 = .ok (.iconst 0, 1) := by decide +kernel
theorem dL_ground_2 : decode cL_ground 2 = .ok (.aload_n 0, 1) := by decide +kernel
theorem dL_ground_3 : decode cL_ground 3 = .ok (.iload_n 1, 1) := by decide +kernel
theorem dL_ground_4 : decode cL_ground 4 = .ok (.invokevirtual 38, 3) := by decide +kernel
theorem w6_9 : (Jvm.Cond.methodLink "PolyforgeLaw" (38 : Nat) ({ cls := "Polyforge", name := "ground", desc := "(I)I" } : Jvm.MethodName)) ∈ lw_tbl := pv_t6 (pv_mg 9 rfl)
theorem w6_12 : (Jvm.Cond.code ({ cls := "Polyforge", name := "ground", desc := "(I)I" } : Jvm.MethodName) prog_1_method_9_code (2 : Nat) (Option.some Jvm.ClassFile.FieldType.int)) ∈ lw_tbl := pv_t6 (pv_mg 12 rfl)
theorem w6_11 : (Jvm.Cond.selects "Polyforge" ({ cls := "Polyforge", name := "ground", desc := "(I)I" } : Jvm.MethodName) ({ cls := "Polyforge", name := "ground", desc := "(I)I" } : Jvm.MethodName)) ∈ lw_tbl := pv_t6 (pv_mg 11 rfl)
theorem w6_10 : (Jvm.Cond.instanceMethod ({ cls := "Polyforge", name := "ground", desc := "(I)I" } : Jvm.MethodName)) ∈ lw_tbl := pv_t6 (pv_mg 10 rfl)
theorem dL_ground_12 : decode cL_ground 12 = .ok (.astore_n 3, 1) := by decide +kernel
theorem dL_ground_13 : decode cL_ground 13 = .ok (.iconst 1, 1) := by decide +kernel
theorem dL_ground_14 : decode cL_ground 14 = .ok (.ireturn, 1) := by decide +kernel
set_option maxHeartbeats 4000000 in
set_option maxRecDepth 100000 in
/-- ground: the first handler -/
theorem c_L_ground (l : Launch) (hfl : l.stackTraces = false) (D : va_G) (sz : Nat) (h0 : Nat) (q : Nat → Nat) (p0 : Int32) (o0 : Nat) : Met l yL_ground (Cond.codeWith yL_ground cL_ground 4 (some .int) [(0, 9, 12, 23)] :: pv_W) ({ frames := 9, cells := 1, slots := 6, locals := 143 } : Room) (va_Pc [.ref h0, .int p0, .ref o0] (pv_P D [] [(h0, .inr (0, [.ref (q 0), .int 0, .int 108, .ref (q 1), .int 0, .ref (q 2), .int 0, .ref (q 3), .ref (q 4), .int 1, .ref (q 5), .ref (q 6), .ref (q 7), .ref (q 8), .ref (q 9)]))] (va_A [] sz) sz)) (va_Qi (fun r (_ : Unit) => r = 1) (fun _ _ => True) (va_A [] sz)) 1 6 (va_A [] sz) := by
  refine pv_ofWH (cc := cL_ground) (maxL := 4) (ret := (some .int)) (by decide) rfl ?_
  intro p e s m args below meth c s₁ B hml hv
  obtain ⟨rfl, hsz, hE, hP, hK, hD0⟩ := hv
  have hx := B.exec
  have hb := B.bytes
  have hr := B.returns
  have hts := fun (w : Cond) (h : w ∈ pv_W) => atoms_spec (ws := Cond.codeWith yL_ground cL_ground 4 (some .int) [(0, 9, 12, 23)] :: pv_W) B.pre w (List.mem_cons_of_mem _ h)
  have hg := fun {w : Cond} (h : w ∈ lw_tbl) (g : goodWord w = true) => hts w (pv_in h g)
  have hown : s.vm.findClass RL = some m.cls := findClass_of_methodNamed B.named
  have hlocks := B.notSynchronized
  have hcw := atoms_spec (ws := Cond.codeWith yL_ground cL_ground 4 (some .int) [(0, 9, 12, 23)] :: pv_W) B.pre _ List.mem_cons_self
  subst hsz
  have hD := hD0
  generalize hAe : va_A [] s.heap.size = A at hE ⊢
  have hA : ∀ q : Nat, s.heap.size ≤ q → A q := fun q h => by rw [← hAe]; exact Or.inr h
  have hS : va_S A s.heap s.heap [] := va_S.rf
  have hP : va_P D pv_cl [(h0, .inr (0, [.ref (q 0), .int 0, .int 108, .ref (q 1), .int 0, .ref (q 2), .int 0, .ref (q 3), .ref (q 4), .int 1, .ref (q 5), .ref (q 6), .ref (q 7), .ref (q 8), .ref (q 9)]))] s.heap := hP
  have hl := lv_entry ([.ref h0, .int p0, .ref o0]) (n := 4) (Nat.le_of_ble_eq_true rfl)
  rw [lg_entry_eq]
  generalize (lg_sl ([.ref h0, .int p0, .ref o0]) ++ List.replicate (4 - (lg_sl ([.ref h0, .int p0, .ref o0])).length) Slot.unset).toArray = ls at hl ⊢
  have hl : lv_has ls 4 [(0, .ref h0), (1, .int p0), (2, .ref o0)] := hl
  refine lv_aload_n hx hb dL_ground_0 rfl (lv_at hl 2 rfl) ?_
  refine lv_iconst (v := 0) hx hb dL_ground_1 (by decide) ?_
  refine lv_aload_n hx hb dL_ground_2 rfl (lv_at hl 0 rfl) ?_
  refine lv_iload_n hx hb dL_ground_3 rfl (lv_at hl 1 rfl) ?_
  have hF := pv_new hA hS.1
  refine pv_thrown (vx_runV (As := [.int p0]) (rest := [.int 0, .ref o0]) ⟨hx, hb, hml, hown, hts⟩ (c_X11_ground l hfl D _ h0 q p0) (cwV 1 hts (pv_gV w6_9 w6_10 w6_11 w1_1 w6_12) rfl rfl rfl (by decide +kernel) ⟨Nat.le_of_ble_eq_true rfl, Nat.le_of_ble_eq_true rfl⟩) (pv_pV hE hS hF (hP.sub [0] rfl) (hK.sub [] rfl) (hD.sub [0] (by decide) rfl) (va_recv (ci := 0) (q0 := 0) hK hP rfl rfl)) rfl rfl hl.1 rfl (lv_room (Nat.le_of_ble_eq_true rfl)) dL_ground_4 ⟨Nat.le_of_ble_eq_true rfl, Nat.le_of_ble_eq_true rfl⟩) (fun _ _ _ h => h) hS hF hF (fun E ce q9 u t H1 locs1 ht hvm hpx hbx hz1 hk1 hS hce hcv hcl => ?_)
  subst hbx
  have hP := pv_keep hP rfl hk1
  refine vx_catch (own := RL) (name := "java/lang/IndexOutOfBoundsException") hown [] ⟨0, 9, 12, 23⟩ _ ((vx_table (x := yL_law) B hcw).trans rfl) (fun z hz => nomatch hz) rfl (by decide) (hg w5_69 rfl) (va_Nw.use rfl (hE.2.2.1 _ (pv_ib w5_118 rfl))) hce hcv hcl ?_
  refine W.widen (k := 1) (n := 6) (Nat.le_of_ble_eq_true rfl) (Nat.le_of_ble_eq_true rfl) ?_
  refine lv_astore_n (lv' := [(3, .ref q9), (0, .ref h0), (1, .int p0), (2, .ref o0)]) hx hb dL_ground_12 rfl hl (by decide) rfl (fun ls hl => ?_)
  refine lv_iconst (v := 1) hx hb dL_ground_13 (by decide) ?_
  refine W.widen (k := 1) (n := 6) (Nat.le_of_ble_eq_true rfl) (Nat.le_of_ble_eq_true rfl) ?_
  exact W.iret (v := 1) hx hb hr (fun t ht hW => ⟨⟨1, (), rfl, rfl, trivial⟩, hS.F ht⟩) hS.2.2 dL_ground_14

theorem dL_terms_0 : decode cL_terms 0 = .ok (.aload_n 2, 1) := by decide +kernel
theorem dL_terms_1 : decode cL_terms 1 = .ok (.iconst 0, 1) := by decide +kernel
theorem dL_terms_2 : decode cL_terms 2 = .ok (.aload_n 0, 1) := by decide +kernel
theorem dL_terms_3 : decode cL_terms 3 = .ok (.iload_n 1, 1) := by decide +kernel
theorem dL_terms_4 : decode cL_terms 4 = .ok (.invokevirtual 42, 3) := by decide +kernel
theorem w6_16 : (Jvm.Cond.methodLink "PolyforgeLaw" (42 : Nat) ({ cls := "Polyforge", name := "terms", desc := "(I)I" } : Jvm.MethodName)) ∈ lw_tbl := pv_t6 (pv_mg 16 rfl)
theorem w6_19 : (Jvm.Cond.code ({ cls := "Polyforge", name := "terms", desc := "(I)I" } : Jvm.MethodName) prog_1_method_10_code (2 : Nat) (Option.some Jvm.ClassFile.FieldType.int)) ∈ lw_tbl := pv_t6 (pv_mg 19 rfl)
theorem w6_18 : (Jvm.Cond.selects "Polyforge" ({ cls := "Polyforge", name := "terms", desc := "(I)I" } : Jvm.MethodName) ({ cls := "Polyforge", name := "terms", desc := "(I)I" } : Jvm.MethodName)) ∈ lw_tbl := pv_t6 (pv_mg 18 rfl)
theorem w6_17 : (Jvm.Cond.instanceMethod ({ cls := "Polyforge", name := "terms", desc := "(I)I" } : Jvm.MethodName)) ∈ lw_tbl := pv_t6 (pv_mg 17 rfl)
theorem dL_terms_12 : decode cL_terms 12 = .ok (.astore_n 3, 1) := by decide +kernel
theorem dL_terms_13 : decode cL_terms 13 = .ok (.iconst 1, 1) := by decide +kernel
theorem dL_terms_14 : decode cL_terms 14 = .ok (.ireturn, 1) := by decide +kernel
set_option maxHeartbeats 4000000 in
set_option maxRecDepth 100000 in
/-- terms: the first handler -/
theorem c_L_terms (l : Launch) (hfl : l.stackTraces = false) (D : va_G) (sz : Nat) (h0 : Nat) (q : Nat → Nat) (p0 : Int32) (o0 : Nat) : Met l yL_terms (Cond.codeWith yL_terms cL_terms 4 (some .int) [(0, 9, 12, 23)] :: pv_W) ({ frames := 9, cells := 1, slots := 6, locals := 143 } : Room) (va_Pc [.ref h0, .int p0, .ref o0] (pv_P D [] [(h0, .inr (0, [.ref (q 0), .int 0, .int 108, .ref (q 1), .int 0, .ref (q 2), .int 0, .ref (q 3), .ref (q 4), .int 1, .ref (q 5), .ref (q 6), .ref (q 7), .ref (q 8), .ref (q 9)]))] (va_A [] sz) sz)) (va_Qi (fun r (_ : Unit) => r = 1) (fun _ _ => True) (va_A [] sz)) 1 6 (va_A [] sz) := by
  refine pv_ofWH (cc := cL_terms) (maxL := 4) (ret := (some .int)) (by decide) rfl ?_
  intro p e s m args below meth c s₁ B hml hv
  obtain ⟨rfl, hsz, hE, hP, hK, hD0⟩ := hv
  have hx := B.exec
  have hb := B.bytes
  have hr := B.returns
  have hts := fun (w : Cond) (h : w ∈ pv_W) => atoms_spec (ws := Cond.codeWith yL_terms cL_terms 4 (some .int) [(0, 9, 12, 23)] :: pv_W) B.pre w (List.mem_cons_of_mem _ h)
  have hg := fun {w : Cond} (h : w ∈ lw_tbl) (g : goodWord w = true) => hts w (pv_in h g)
  have hown : s.vm.findClass RL = some m.cls := findClass_of_methodNamed B.named
  have hlocks := B.notSynchronized
  have hcw := atoms_spec (ws := Cond.codeWith yL_terms cL_terms 4 (some .int) [(0, 9, 12, 23)] :: pv_W) B.pre _ List.mem_cons_self
  subst hsz
  have hD := hD0
  generalize hAe : va_A [] s.heap.size = A at hE ⊢
  have hA : ∀ q : Nat, s.heap.size ≤ q → A q := fun q h => by rw [← hAe]; exact Or.inr h
  have hS : va_S A s.heap s.heap [] := va_S.rf
  have hP : va_P D pv_cl [(h0, .inr (0, [.ref (q 0), .int 0, .int 108, .ref (q 1), .int 0, .ref (q 2), .int 0, .ref (q 3), .ref (q 4), .int 1, .ref (q 5), .ref (q 6), .ref (q 7), .ref (q 8), .ref (q 9)]))] s.heap := hP
  have hl := lv_entry ([.ref h0, .int p0, .ref o0]) (n := 4) (Nat.le_of_ble_eq_true rfl)
  rw [lg_entry_eq]
  generalize (lg_sl ([.ref h0, .int p0, .ref o0]) ++ List.replicate (4 - (lg_sl ([.ref h0, .int p0, .ref o0])).length) Slot.unset).toArray = ls at hl ⊢
  have hl : lv_has ls 4 [(0, .ref h0), (1, .int p0), (2, .ref o0)] := hl
  refine lv_aload_n hx hb dL_terms_0 rfl (lv_at hl 2 rfl) ?_
  refine lv_iconst (v := 0) hx hb dL_terms_1 (by decide) ?_
  refine lv_aload_n hx hb dL_terms_2 rfl (lv_at hl 0 rfl) ?_
  refine lv_iload_n hx hb dL_terms_3 rfl (lv_at hl 1 rfl) ?_
  have hF := pv_new hA hS.1
  refine pv_thrown (vx_runV (As := [.int p0]) (rest := [.int 0, .ref o0]) ⟨hx, hb, hml, hown, hts⟩ (c_X11_terms l hfl D _ h0 q p0) (cwV 1 hts (pv_gV w6_16 w6_17 w6_18 w1_1 w6_19) rfl rfl rfl (by decide +kernel) ⟨Nat.le_of_ble_eq_true rfl, Nat.le_of_ble_eq_true rfl⟩) (pv_pV hE hS hF (hP.sub [0] rfl) (hK.sub [] rfl) (hD.sub [0] (by decide) rfl) (va_recv (ci := 0) (q0 := 0) hK hP rfl rfl)) rfl rfl hl.1 rfl (lv_room (Nat.le_of_ble_eq_true rfl)) dL_terms_4 ⟨Nat.le_of_ble_eq_true rfl, Nat.le_of_ble_eq_true rfl⟩) (fun _ _ _ h => h) hS hF hF (fun E ce q9 u t H1 locs1 ht hvm hpx hbx hz1 hk1 hS hce hcv hcl => ?_)
  subst hbx
  have hP := pv_keep hP rfl hk1
  refine vx_catch (own := RL) (name := "java/lang/IndexOutOfBoundsException") hown [] ⟨0, 9, 12, 23⟩ _ ((vx_table (x := yL_law) B hcw).trans rfl) (fun z hz => nomatch hz) rfl (by decide) (hg w5_69 rfl) (va_Nw.use rfl (hE.2.2.1 _ (pv_ib w5_118 rfl))) hce hcv hcl ?_
  refine W.widen (k := 1) (n := 6) (Nat.le_of_ble_eq_true rfl) (Nat.le_of_ble_eq_true rfl) ?_
  refine lv_astore_n (lv' := [(3, .ref q9), (0, .ref h0), (1, .int p0), (2, .ref o0)]) hx hb dL_terms_12 rfl hl (by decide) rfl (fun ls hl => ?_)
  refine lv_iconst (v := 1) hx hb dL_terms_13 (by decide) ?_
  refine W.widen (k := 1) (n := 6) (Nat.le_of_ble_eq_true rfl) (Nat.le_of_ble_eq_true rfl) ?_
  exact W.iret (v := 1) hx hb hr (fun t ht hW => ⟨⟨1, (), rfl, rfl, trivial⟩, hS.F ht⟩) hS.2.2 dL_terms_14

theorem dL_degree_0 : decode cL_degree 0 = .ok (.aload_n 2, 1) := by decide +kernel
theorem dL_degree_1 : decode cL_degree 1 = .ok (.iconst 0, 1) := by decide +kernel
theorem dL_degree_2 : decode cL_degree 2 = .ok (.aload_n 0, 1) := by decide +kernel
theorem dL_degree_3 : decode cL_degree 3 = .ok (.iload_n 1, 1) := by decide +kernel
theorem dL_degree_4 : decode cL_degree 4 = .ok (.invokevirtual 45, 3) := by decide +kernel
theorem w6_23 : (Jvm.Cond.methodLink "PolyforgeLaw" (45 : Nat) ({ cls := "Polyforge", name := "degree", desc := "(I)I" } : Jvm.MethodName)) ∈ lw_tbl := pv_t6 (pv_mg 23 rfl)
theorem w6_26 : (Jvm.Cond.code ({ cls := "Polyforge", name := "degree", desc := "(I)I" } : Jvm.MethodName) prog_1_method_11_code (2 : Nat) (Option.some Jvm.ClassFile.FieldType.int)) ∈ lw_tbl := pv_t6 (pv_mg 26 rfl)
theorem w6_25 : (Jvm.Cond.selects "Polyforge" ({ cls := "Polyforge", name := "degree", desc := "(I)I" } : Jvm.MethodName) ({ cls := "Polyforge", name := "degree", desc := "(I)I" } : Jvm.MethodName)) ∈ lw_tbl := pv_t6 (pv_mg 25 rfl)
theorem w6_24 : (Jvm.Cond.instanceMethod ({ cls := "Polyforge", name := "degree", desc := "(I)I" } : Jvm.MethodName)) ∈ lw_tbl := pv_t6 (pv_mg 24 rfl)
theorem dL_degree_12 : decode cL_degree 12 = .ok (.astore_n 3, 1) := by decide +kernel
theorem dL_degree_13 : decode cL_degree 13 = .ok (.iconst 1, 1) := by decide +kernel
theorem dL_degree_14 : decode cL_degree 14 = .ok (.ireturn, 1) := by decide +kernel
set_option maxHeartbeats 4000000 in
set_option maxRecDepth 100000 in
/-- degree: the first handler -/
theorem c_L_degree (l : Launch) (hfl : l.stackTraces = false) (D : va_G) (sz : Nat) (h0 : Nat) (q : Nat → Nat) (p0 : Int32) (o0 : Nat) : Met l yL_degree (Cond.codeWith yL_degree cL_degree 4 (some .int) [(0, 9, 12, 23)] :: pv_W) ({ frames := 9, cells := 1, slots := 6, locals := 143 } : Room) (va_Pc [.ref h0, .int p0, .ref o0] (pv_P D [] [(h0, .inr (0, [.ref (q 0), .int 0, .int 108, .ref (q 1), .int 0, .ref (q 2), .int 0, .ref (q 3), .ref (q 4), .int 1, .ref (q 5), .ref (q 6), .ref (q 7), .ref (q 8), .ref (q 9)]))] (va_A [] sz) sz)) (va_Qi (fun r (_ : Unit) => r = 1) (fun _ _ => True) (va_A [] sz)) 1 6 (va_A [] sz) := by
  refine pv_ofWH (cc := cL_degree) (maxL := 4) (ret := (some .int)) (by decide) rfl ?_
  intro p e s m args below meth c s₁ B hml hv
  obtain ⟨rfl, hsz, hE, hP, hK, hD0⟩ := hv
  have hx := B.exec
  have hb := B.bytes
  have hr := B.returns
  have hts := fun (w : Cond) (h : w ∈ pv_W) => atoms_spec (ws := Cond.codeWith yL_degree cL_degree 4 (some .int) [(0, 9, 12, 23)] :: pv_W) B.pre w (List.mem_cons_of_mem _ h)
  have hg := fun {w : Cond} (h : w ∈ lw_tbl) (g : goodWord w = true) => hts w (pv_in h g)
  have hown : s.vm.findClass RL = some m.cls := findClass_of_methodNamed B.named
  have hlocks := B.notSynchronized
  have hcw := atoms_spec (ws := Cond.codeWith yL_degree cL_degree 4 (some .int) [(0, 9, 12, 23)] :: pv_W) B.pre _ List.mem_cons_self
  subst hsz
  have hD := hD0
  generalize hAe : va_A [] s.heap.size = A at hE ⊢
  have hA : ∀ q : Nat, s.heap.size ≤ q → A q := fun q h => by rw [← hAe]; exact Or.inr h
  have hS : va_S A s.heap s.heap [] := va_S.rf
  have hP : va_P D pv_cl [(h0, .inr (0, [.ref (q 0), .int 0, .int 108, .ref (q 1), .int 0, .ref (q 2), .int 0, .ref (q 3), .ref (q 4), .int 1, .ref (q 5), .ref (q 6), .ref (q 7), .ref (q 8), .ref (q 9)]))] s.heap := hP
  have hl := lv_entry ([.ref h0, .int p0, .ref o0]) (n := 4) (Nat.le_of_ble_eq_true rfl)
  rw [lg_entry_eq]
  generalize (lg_sl ([.ref h0, .int p0, .ref o0]) ++ List.replicate (4 - (lg_sl ([.ref h0, .int p0, .ref o0])).length) Slot.unset).toArray = ls at hl ⊢
  have hl : lv_has ls 4 [(0, .ref h0), (1, .int p0), (2, .ref o0)] := hl
  refine lv_aload_n hx hb dL_degree_0 rfl (lv_at hl 2 rfl) ?_
  refine lv_iconst (v := 0) hx hb dL_degree_1 (by decide) ?_
  refine lv_aload_n hx hb dL_degree_2 rfl (lv_at hl 0 rfl) ?_
  refine lv_iload_n hx hb dL_degree_3 rfl (lv_at hl 1 rfl) ?_
  have hF := pv_new hA hS.1
  refine pv_thrown (vx_runV (As := [.int p0]) (rest := [.int 0, .ref o0]) ⟨hx, hb, hml, hown, hts⟩ (c_X11_degree l hfl D _ h0 q p0) (cwV 1 hts (pv_gV w6_23 w6_24 w6_25 w1_1 w6_26) rfl rfl rfl (by decide +kernel) ⟨Nat.le_of_ble_eq_true rfl, Nat.le_of_ble_eq_true rfl⟩) (pv_pV hE hS hF (hP.sub [0] rfl) (hK.sub [] rfl) (hD.sub [0] (by decide) rfl) (va_recv (ci := 0) (q0 := 0) hK hP rfl rfl)) rfl rfl hl.1 rfl (lv_room (Nat.le_of_ble_eq_true rfl)) dL_degree_4 ⟨Nat.le_of_ble_eq_true rfl, Nat.le_of_ble_eq_true rfl⟩) (fun _ _ _ h => h) hS hF hF (fun E ce q9 u t H1 locs1 ht hvm hpx hbx hz1 hk1 hS hce hcv hcl => ?_)
  subst hbx
  have hP := pv_keep hP rfl hk1
  refine vx_catch (own := RL) (name := "java/lang/IndexOutOfBoundsException") hown [] ⟨0, 9, 12, 23⟩ _ ((vx_table (x := yL_law) B hcw).trans rfl) (fun z hz => nomatch hz) rfl (by decide) (hg w5_69 rfl) (va_Nw.use rfl (hE.2.2.1 _ (pv_ib w5_118 rfl))) hce hcv hcl ?_
  refine W.widen (k := 1) (n := 6) (Nat.le_of_ble_eq_true rfl) (Nat.le_of_ble_eq_true rfl) ?_
  refine lv_astore_n (lv' := [(3, .ref q9), (0, .ref h0), (1, .int p0), (2, .ref o0)]) hx hb dL_degree_12 rfl hl (by decide) rfl (fun ls hl => ?_)
  refine lv_iconst (v := 1) hx hb dL_degree_13 (by decide) ?_
  refine W.widen (k := 1) (n := 6) (Nat.le_of_ble_eq_true rfl) (Nat.le_of_ble_eq_true rfl) ?_
  exact W.iret (v := 1) hx hb hr (fun t ht hW => ⟨⟨1, (), rfl, rfl, trivial⟩, hS.F ht⟩) hS.2.2 dL_degree_14

theorem dL_degreeIn_0 : decode cL_degreeIn 0 = .ok (.aload_n 3, 1) := by decide +kernel
theorem dL_degreeIn_1 : decode cL_degreeIn 1 = .ok (.iconst 0, 1) := by decide +kernel
theorem dL_degreeIn_2 : decode cL_degreeIn 2 = .ok (.aload_n 0, 1) := by decide +kernel
theorem dL_degreeIn_3 : decode cL_degreeIn 3 = .ok (.iload_n 1, 1) := by decide +kernel
theorem dL_degreeIn_4 : decode cL_degreeIn 4 = .ok (.iload_n 2, 1) := by decide +kernel
theorem dL_degreeIn_5 : decode cL_degreeIn 5 = .ok (.invokevirtual 48, 3) := by decide +kernel
theorem w6_31 : (Jvm.Cond.methodLink "PolyforgeLaw" (48 : Nat) ({ cls := "Polyforge", name := "degreeIn", desc := "(II)I" } : Jvm.MethodName)) ∈ lw_tbl := pv_t6 (pv_mg 31 rfl)
theorem w6_34 : (Jvm.Cond.code ({ cls := "Polyforge", name := "degreeIn", desc := "(II)I" } : Jvm.MethodName) prog_1_method_12_code (4 : Nat) (Option.some Jvm.ClassFile.FieldType.int)) ∈ lw_tbl := pv_t6 (pv_mg 34 rfl)
theorem w6_33 : (Jvm.Cond.selects "Polyforge" ({ cls := "Polyforge", name := "degreeIn", desc := "(II)I" } : Jvm.MethodName) ({ cls := "Polyforge", name := "degreeIn", desc := "(II)I" } : Jvm.MethodName)) ∈ lw_tbl := pv_t6 (pv_mg 33 rfl)
theorem w6_32 : (Jvm.Cond.instanceMethod ({ cls := "Polyforge", name := "degreeIn", desc := "(II)I" } : Jvm.MethodName)) ∈ lw_tbl := pv_t6 (pv_mg 32 rfl)
theorem dL_degreeIn_13 : decode cL_degreeIn 13 = .ok (.astore 4, 2) := by decide +kernel
theorem dL_degreeIn_15 : decode cL_degreeIn 15 = .ok (.iconst 1, 1) := by decide +kernel
theorem dL_degreeIn_16 : decode cL_degreeIn 16 = .ok (.ireturn, 1) := by decide +kernel
set_option maxHeartbeats 4000000 in
set_option maxRecDepth 100000 in
/-- degreeIn: the first handler -/
theorem c_L_degreeIn (l : Launch) (hfl : l.stackTraces = false) (D : va_G) (sz : Nat) (h0 : Nat) (q : Nat → Nat) (p0 p1 : Int32) (o0 : Nat) : Met l yL_degreeIn (Cond.codeWith yL_degreeIn cL_degreeIn 5 (some .int) [(0, 10, 13, 23), (0, 10, 17, 13)] :: pv_W) ({ frames := 9, cells := 1, slots := 6, locals := 145 } : Room) (va_Pc [.ref h0, .int p0, .int p1, .ref o0] (pv_P D [] [(h0, .inr (0, [.ref (q 0), .int 0, .int 108, .ref (q 1), .int 0, .ref (q 2), .int 0, .ref (q 3), .ref (q 4), .int 1, .ref (q 5), .ref (q 6), .ref (q 7), .ref (q 8), .ref (q 9)]))] (va_A [] sz) sz)) (va_Qi (fun r (_ : Unit) => r = 1) (fun _ _ => True) (va_A [] sz)) 1 6 (va_A [] sz) := by
  refine pv_ofWH (cc := cL_degreeIn) (maxL := 5) (ret := (some .int)) (by decide) rfl ?_
  intro p e s m args below meth c s₁ B hml hv
  obtain ⟨rfl, hsz, hE, hP, hK, hD0⟩ := hv
  have hx := B.exec
  have hb := B.bytes
  have hr := B.returns
  have hts := fun (w : Cond) (h : w ∈ pv_W) => atoms_spec (ws := Cond.codeWith yL_degreeIn cL_degreeIn 5 (some .int) [(0, 10, 13, 23), (0, 10, 17, 13)] :: pv_W) B.pre w (List.mem_cons_of_mem _ h)
  have hg := fun {w : Cond} (h : w ∈ lw_tbl) (g : goodWord w = true) => hts w (pv_in h g)
  have hown : s.vm.findClass RL = some m.cls := findClass_of_methodNamed B.named
  have hlocks := B.notSynchronized
  have hcw := atoms_spec (ws := Cond.codeWith yL_degreeIn cL_degreeIn 5 (some .int) [(0, 10, 13, 23), (0, 10, 17, 13)] :: pv_W) B.pre _ List.mem_cons_self
  subst hsz
  have hD := hD0
  generalize hAe : va_A [] s.heap.size = A at hE ⊢
  have hA : ∀ q : Nat, s.heap.size ≤ q → A q := fun q h => by rw [← hAe]; exact Or.inr h
  have hS : va_S A s.heap s.heap [] := va_S.rf
  have hP : va_P D pv_cl [(h0, .inr (0, [.ref (q 0), .int 0, .int 108, .ref (q 1), .int 0, .ref (q 2), .int 0, .ref (q 3), .ref (q 4), .int 1, .ref (q 5), .ref (q 6), .ref (q 7), .ref (q 8), .ref (q 9)]))] s.heap := hP
  have hl := lv_entry ([.ref h0, .int p0, .int p1, .ref o0]) (n := 5) (Nat.le_of_ble_eq_true rfl)
  rw [lg_entry_eq]
  generalize (lg_sl ([.ref h0, .int p0, .int p1, .ref o0]) ++ List.replicate (5 - (lg_sl ([.ref h0, .int p0, .int p1, .ref o0])).length) Slot.unset).toArray = ls at hl ⊢
  have hl : lv_has ls 5 [(0, .ref h0), (1, .int p0), (2, .int p1), (3, .ref o0)] := hl
  refine lv_aload_n hx hb dL_degreeIn_0 rfl (lv_at hl 3 rfl) ?_
  refine lv_iconst (v := 0) hx hb dL_degreeIn_1 (by decide) ?_
  refine lv_aload_n hx hb dL_degreeIn_2 rfl (lv_at hl 0 rfl) ?_
  refine lv_iload_n hx hb dL_degreeIn_3 rfl (lv_at hl 1 rfl) ?_
  refine lv_iload_n hx hb dL_degreeIn_4 rfl (lv_at hl 2 rfl) ?_
  have hF := pv_new hA hS.1
  refine pv_thrown (vx_runV (As := [.int p0, .int p1]) (rest := [.int 0, .ref o0]) ⟨hx, hb, hml, hown, hts⟩ (c_X11_degreeIn l hfl D _ h0 q p0 p1) (cwV 2 hts (pv_gV w6_31 w6_32 w6_33 w1_1 w6_34) rfl rfl rfl (by decide +kernel) ⟨Nat.le_of_ble_eq_true rfl, Nat.le_of_ble_eq_true rfl⟩) (pv_pV hE hS hF (hP.sub [0] rfl) (hK.sub [] rfl) (hD.sub [0] (by decide) rfl) (va_recv (ci := 0) (q0 := 0) hK hP rfl rfl)) rfl rfl hl.1 rfl (lv_room (Nat.le_of_ble_eq_true rfl)) dL_degreeIn_5 ⟨Nat.le_of_ble_eq_true rfl, Nat.le_of_ble_eq_true rfl⟩) (fun _ _ _ h => h) hS hF hF (fun E ce q9 u t H1 locs1 ht hvm hpx hbx hz1 hk1 hS hce hcv hcl => ?_)
  subst hbx
  have hP := pv_keep hP rfl hk1
  refine vx_catch (own := RL) (name := "java/lang/IndexOutOfBoundsException") hown [] ⟨0, 10, 13, 23⟩ _ ((vx_table (x := yL_law) B hcw).trans rfl) (fun z hz => nomatch hz) rfl (by decide) (hg w5_69 rfl) (va_Nw.use rfl (hE.2.2.1 _ (pv_ib w5_118 rfl))) hce hcv hcl ?_
  refine W.widen (k := 1) (n := 6) (Nat.le_of_ble_eq_true rfl) (Nat.le_of_ble_eq_true rfl) ?_
  refine lv_astore (lv' := [(4, .ref q9), (0, .ref h0), (1, .int p0), (2, .int p1), (3, .ref o0)]) hx hb dL_degreeIn_13 hl (by decide) rfl (fun ls hl => ?_)
  refine lv_iconst (v := 1) hx hb dL_degreeIn_15 (by decide) ?_
  refine W.widen (k := 1) (n := 6) (Nat.le_of_ble_eq_true rfl) (Nat.le_of_ble_eq_true rfl) ?_
  exact W.iret (v := 1) hx hb hr (fun t ht hW => ⟨⟨1, (), rfl, rfl, trivial⟩, hS.F ht⟩) hS.2.2 dL_degreeIn_16

theorem dL_coefficientAt_0 : decode cL_coefficientAt 0 = .ok (.aload_n 3, 1) := by decide +kernel
theorem dL_coefficientAt_1 : decode cL_coefficientAt 1 = .ok (.iconst 0, 1) := by decide +kernel
theorem dL_coefficientAt_2 : decode cL_coefficientAt 2 = .ok (.aload_n 0, 1) := by decide +kernel
theorem dL_coefficientAt_3 : decode cL_coefficientAt 3 = .ok (.iload_n 1, 1) := by decide +kernel
theorem dL_coefficientAt_4 : decode cL_coefficientAt 4 = .ok (.iload_n 2, 1) := by decide +kernel
theorem dL_coefficientAt_5 : decode cL_coefficientAt 5 = .ok (.invokevirtual 51, 3) := by decide +kernel
theorem w6_40 : (Jvm.Cond.methodLink "PolyforgeLaw" (51 : Nat) ({ cls := "Polyforge", name := "coefficientAt", desc := "(II)J" } : Jvm.MethodName)) ∈ lw_tbl := pv_t6 (pv_mg 40 rfl)
theorem w6_43 : (Jvm.Cond.code ({ cls := "Polyforge", name := "coefficientAt", desc := "(II)J" } : Jvm.MethodName) prog_1_method_13_code (4 : Nat) (Option.some Jvm.ClassFile.FieldType.long)) ∈ lw_tbl := pv_t6 (pv_mg 43 rfl)
theorem w6_42 : (Jvm.Cond.selects "Polyforge" ({ cls := "Polyforge", name := "coefficientAt", desc := "(II)J" } : Jvm.MethodName) ({ cls := "Polyforge", name := "coefficientAt", desc := "(II)J" } : Jvm.MethodName)) ∈ lw_tbl := pv_t6 (pv_mg 42 rfl)
theorem w6_41 : (Jvm.Cond.instanceMethod ({ cls := "Polyforge", name := "coefficientAt", desc := "(II)J" } : Jvm.MethodName)) ∈ lw_tbl := pv_t6 (pv_mg 41 rfl)
theorem dL_coefficientAt_12 : decode cL_coefficientAt 12 = .ok (.astore 4, 2) := by decide +kernel
theorem dL_coefficientAt_14 : decode cL_coefficientAt 14 = .ok (.iconst 1, 1) := by decide +kernel
theorem dL_coefficientAt_15 : decode cL_coefficientAt 15 = .ok (.ireturn, 1) := by decide +kernel
set_option maxHeartbeats 4000000 in
set_option maxRecDepth 100000 in
/-- coefficientAt: the first handler -/
theorem c_L_coefficientAt (l : Launch) (hfl : l.stackTraces = false) (D : va_G) (sz : Nat) (h0 : Nat) (q : Nat → Nat) (p0 p1 : Int32) (o0 : Nat) : Met l yL_coefficientAt (Cond.codeWith yL_coefficientAt cL_coefficientAt 5 (some .int) [(0, 9, 12, 23), (0, 9, 16, 55)] :: pv_W) ({ frames := 9, cells := 1, slots := 6, locals := 145 } : Room) (va_Pc [.ref h0, .int p0, .int p1, .ref o0] (pv_P D [] [(h0, .inr (0, [.ref (q 0), .int 0, .int 108, .ref (q 1), .int 0, .ref (q 2), .int 0, .ref (q 3), .ref (q 4), .int 1, .ref (q 5), .ref (q 6), .ref (q 7), .ref (q 8), .ref (q 9)]))] (va_A [] sz) sz)) (va_Qi (fun r (_ : Unit) => r = 1) (fun _ _ => True) (va_A [] sz)) 1 6 (va_A [] sz) := by
  refine pv_ofWH (cc := cL_coefficientAt) (maxL := 5) (ret := (some .int)) (by decide) rfl ?_
  intro p e s m args below meth c s₁ B hml hv
  obtain ⟨rfl, hsz, hE, hP, hK, hD0⟩ := hv
  have hx := B.exec
  have hb := B.bytes
  have hr := B.returns
  have hts := fun (w : Cond) (h : w ∈ pv_W) => atoms_spec (ws := Cond.codeWith yL_coefficientAt cL_coefficientAt 5 (some .int) [(0, 9, 12, 23), (0, 9, 16, 55)] :: pv_W) B.pre w (List.mem_cons_of_mem _ h)
  have hg := fun {w : Cond} (h : w ∈ lw_tbl) (g : goodWord w = true) => hts w (pv_in h g)
  have hown : s.vm.findClass RL = some m.cls := findClass_of_methodNamed B.named
  have hlocks := B.notSynchronized
  have hcw := atoms_spec (ws := Cond.codeWith yL_coefficientAt cL_coefficientAt 5 (some .int) [(0, 9, 12, 23), (0, 9, 16, 55)] :: pv_W) B.pre _ List.mem_cons_self
  subst hsz
  have hD := hD0
  generalize hAe : va_A [] s.heap.size = A at hE ⊢
  have hA : ∀ q : Nat, s.heap.size ≤ q → A q := fun q h => by rw [← hAe]; exact Or.inr h
  have hS : va_S A s.heap s.heap [] := va_S.rf
  have hP : va_P D pv_cl [(h0, .inr (0, [.ref (q 0), .int 0, .int 108, .ref (q 1), .int 0, .ref (q 2), .int 0, .ref (q 3), .ref (q 4), .int 1, .ref (q 5), .ref (q 6), .ref (q 7), .ref (q 8), .ref (q 9)]))] s.heap := hP
  have hl := lv_entry ([.ref h0, .int p0, .int p1, .ref o0]) (n := 5) (Nat.le_of_ble_eq_true rfl)
  rw [lg_entry_eq]
  generalize (lg_sl ([.ref h0, .int p0, .int p1, .ref o0]) ++ List.replicate (5 - (lg_sl ([.ref h0, .int p0, .int p1, .ref o0])).length) Slot.unset).toArray = ls at hl ⊢
  have hl : lv_has ls 5 [(0, .ref h0), (1, .int p0), (2, .int p1), (3, .ref o0)] := hl
  refine lv_aload_n hx hb dL_coefficientAt_0 rfl (lv_at hl 3 rfl) ?_
  refine lv_iconst (v := 0) hx hb dL_coefficientAt_1 (by decide) ?_
  refine lv_aload_n hx hb dL_coefficientAt_2 rfl (lv_at hl 0 rfl) ?_
  refine lv_iload_n hx hb dL_coefficientAt_3 rfl (lv_at hl 1 rfl) ?_
  refine lv_iload_n hx hb dL_coefficientAt_4 rfl (lv_at hl 2 rfl) ?_
  have hF := pv_new hA hS.1
  refine pv_thrown (vx_runV (As := [.int p0, .int p1]) (rest := [.int 0, .ref o0]) ⟨hx, hb, hml, hown, hts⟩ (c_X11_coefficientAt l hfl D _ h0 q p0 p1) (cwV 2 hts (pv_gV w6_40 w6_41 w6_42 w1_1 w6_43) rfl rfl rfl (by decide +kernel) ⟨Nat.le_of_ble_eq_true rfl, Nat.le_of_ble_eq_true rfl⟩) (pv_pV hE hS hF (hP.sub [0] rfl) (hK.sub [] rfl) (hD.sub [0] (by decide) rfl) (va_recv (ci := 0) (q0 := 0) hK hP rfl rfl)) rfl rfl hl.1 rfl (lv_room (Nat.le_of_ble_eq_true rfl)) dL_coefficientAt_5 ⟨Nat.le_of_ble_eq_true rfl, Nat.le_of_ble_eq_true rfl⟩) (fun _ _ _ h => h) hS hF hF (fun E ce q9 u t H1 locs1 ht hvm hpx hbx hz1 hk1 hS hce hcv hcl => ?_)
  subst hbx
  have hP := pv_keep hP rfl hk1
  refine vx_catch (own := RL) (name := "java/lang/IndexOutOfBoundsException") hown [] ⟨0, 9, 12, 23⟩ _ ((vx_table (x := yL_law) B hcw).trans rfl) (fun z hz => nomatch hz) rfl (by decide) (hg w5_69 rfl) (va_Nw.use rfl (hE.2.2.1 _ (pv_ib w5_118 rfl))) hce hcv hcl ?_
  refine W.widen (k := 1) (n := 6) (Nat.le_of_ble_eq_true rfl) (Nat.le_of_ble_eq_true rfl) ?_
  refine lv_astore (lv' := [(4, .ref q9), (0, .ref h0), (1, .int p0), (2, .int p1), (3, .ref o0)]) hx hb dL_coefficientAt_12 hl (by decide) rfl (fun ls hl => ?_)
  refine lv_iconst (v := 1) hx hb dL_coefficientAt_14 (by decide) ?_
  refine W.widen (k := 1) (n := 6) (Nat.le_of_ble_eq_true rfl) (Nat.le_of_ble_eq_true rfl) ?_
  exact W.iret (v := 1) hx hb hr (fun t ht hW => ⟨⟨1, (), rfl, rfl, trivial⟩, hS.F ht⟩) hS.2.2 dL_coefficientAt_15

theorem dL_exponentAt_0 : decode cL_exponentAt 0 = .ok (.aload 4, 2) := by decide +kernel
theorem dL_exponentAt_2 : decode cL_exponentAt 2 = .ok (.iconst 0, 1) := by decide +kernel
theorem dL_exponentAt_3 : decode cL_exponentAt 3 = .ok (.aload_n 0, 1) := by decide +kernel
theorem dL_exponentAt_4 : decode cL_exponentAt 4 = .ok (.iload_n 1, 1) := by decide +kernel
theorem dL_exponentAt_5 : decode cL_exponentAt 5 = .ok (.iload_n 2, 1) := by decide +kernel
theorem dL_exponentAt_6 : decode cL_exponentAt 6 = .ok (.iload_n 3, 1) := by decide +kernel
theorem dL_exponentAt_7 : decode cL_exponentAt 7 = .ok (.invokevirtual 57, 3) := by decide +kernel
theorem w6_84 : (Jvm.Cond.methodLink "PolyforgeLaw" (57 : Nat) ({ cls := "Polyforge", name := "exponentAt", desc := "(III)I" } : Jvm.MethodName)) ∈ lw_tbl := pv_t6 (pv_mg 84 rfl)
theorem w6_87 : (Jvm.Cond.code ({ cls := "Polyforge", name := "exponentAt", desc := "(III)I" } : Jvm.MethodName) prog_1_method_14_code (5 : Nat) (Option.some Jvm.ClassFile.FieldType.int)) ∈ lw_tbl := pv_t6 (pv_mg 87 rfl)
theorem w6_86 : (Jvm.Cond.selects "Polyforge" ({ cls := "Polyforge", name := "exponentAt", desc := "(III)I" } : Jvm.MethodName) ({ cls := "Polyforge", name := "exponentAt", desc := "(III)I" } : Jvm.MethodName)) ∈ lw_tbl := pv_t6 (pv_mg 86 rfl)
theorem w6_85 : (Jvm.Cond.instanceMethod ({ cls := "Polyforge", name := "exponentAt", desc := "(III)I" } : Jvm.MethodName)) ∈ lw_tbl := pv_t6 (pv_mg 85 rfl)
theorem dL_exponentAt_15 : decode cL_exponentAt 15 = .ok (.astore 5, 2) := by decide +kernel
theorem dL_exponentAt_17 : decode cL_exponentAt 17 = .ok (.iconst 1, 1) := by decide +kernel
theorem dL_exponentAt_18 : decode cL_exponentAt 18 = .ok (.ireturn, 1) := by decide +kernel
set_option maxHeartbeats 4000000 in
set_option maxRecDepth 100000 in
/-- exponentAt: the first handler -/
theorem c_L_exponentAt (l : Launch) (hfl : l.stackTraces = false) (D : va_G) (sz : Nat) (h0 : Nat) (q : Nat → Nat) (p0 p1 p2 : Int32) (o0 : Nat) : Met l yL_exponentAt (Cond.codeWith yL_exponentAt cL_exponentAt 6 (some .int) [(0, 12, 15, 23), (0, 12, 19, 13), (0, 12, 23, 55)] :: pv_W) ({ frames := 9, cells := 1, slots := 6, locals := 146 } : Room) (va_Pc [.ref h0, .int p0, .int p1, .int p2, .ref o0] (pv_P D [] [(h0, .inr (0, [.ref (q 0), .int 0, .int 108, .ref (q 1), .int 0, .ref (q 2), .int 0, .ref (q 3), .ref (q 4), .int 1, .ref (q 5), .ref (q 6), .ref (q 7), .ref (q 8), .ref (q 9)]))] (va_A [] sz) sz)) (va_Qi (fun r (_ : Unit) => r = 1) (fun _ _ => True) (va_A [] sz)) 1 6 (va_A [] sz) := by
  refine pv_ofWH (cc := cL_exponentAt) (maxL := 6) (ret := (some .int)) (by decide) rfl ?_
  intro p e s m args below meth c s₁ B hml hv
  obtain ⟨rfl, hsz, hE, hP, hK, hD0⟩ := hv
  have hx := B.exec
  have hb := B.bytes
  have hr := B.returns
  have hts := fun (w : Cond) (h : w ∈ pv_W) => atoms_spec (ws := Cond.codeWith yL_exponentAt cL_exponentAt 6 (some .int) [(0, 12, 15, 23), (0, 12, 19, 13), (0, 12, 23, 55)] :: pv_W) B.pre w (List.mem_cons_of_mem _ h)
  have hg := fun {w : Cond} (h : w ∈ lw_tbl) (g : goodWord w = true) => hts w (pv_in h g)
  have hown : s.vm.findClass RL = some m.cls := findClass_of_methodNamed B.named
  have hlocks := B.notSynchronized
  have hcw := atoms_spec (ws := Cond.codeWith yL_exponentAt cL_exponentAt 6 (some .int) [(0, 12, 15, 23), (0, 12, 19, 13), (0, 12, 23, 55)] :: pv_W) B.pre _ List.mem_cons_self
  subst hsz
  have hD := hD0
  generalize hAe : va_A [] s.heap.size = A at hE ⊢
  have hA : ∀ q : Nat, s.heap.size ≤ q → A q := fun q h => by rw [← hAe]; exact Or.inr h
  have hS : va_S A s.heap s.heap [] := va_S.rf
  have hP : va_P D pv_cl [(h0, .inr (0, [.ref (q 0), .int 0, .int 108, .ref (q 1), .int 0, .ref (q 2), .int 0, .ref (q 3), .ref (q 4), .int 1, .ref (q 5), .ref (q 6), .ref (q 7), .ref (q 8), .ref (q 9)]))] s.heap := hP
  have hl := lv_entry ([.ref h0, .int p0, .int p1, .int p2, .ref o0]) (n := 6) (Nat.le_of_ble_eq_true rfl)
  rw [lg_entry_eq]
  generalize (lg_sl ([.ref h0, .int p0, .int p1, .int p2, .ref o0]) ++ List.replicate (6 - (lg_sl ([.ref h0, .int p0, .int p1, .int p2, .ref o0])).length) Slot.unset).toArray = ls at hl ⊢
  have hl : lv_has ls 6 [(0, .ref h0), (1, .int p0), (2, .int p1), (3, .int p2), (4, .ref o0)] := hl
  refine lv_aload hx hb dL_exponentAt_0 (lv_at hl 4 rfl) ?_
  refine lv_iconst (v := 0) hx hb dL_exponentAt_2 (by decide) ?_
  refine lv_aload_n hx hb dL_exponentAt_3 rfl (lv_at hl 0 rfl) ?_
  refine lv_iload_n hx hb dL_exponentAt_4 rfl (lv_at hl 1 rfl) ?_
  refine lv_iload_n hx hb dL_exponentAt_5 rfl (lv_at hl 2 rfl) ?_
  refine lv_iload_n hx hb dL_exponentAt_6 rfl (lv_at hl 3 rfl) ?_
  have hF := pv_new hA hS.1
  refine pv_thrown (vx_runV (As := [.int p0, .int p1, .int p2]) (rest := [.int 0, .ref o0]) ⟨hx, hb, hml, hown, hts⟩ (c_X11_exponentAt l hfl D _ h0 q p0 p1 p2) (cwV 3 hts (pv_gV w6_84 w6_85 w6_86 w1_1 w6_87) rfl rfl rfl (by decide +kernel) ⟨Nat.le_of_ble_eq_true rfl, Nat.le_of_ble_eq_true rfl⟩) (pv_pV hE hS hF (hP.sub [0] rfl) (hK.sub [] rfl) (hD.sub [0] (by decide) rfl) (va_recv (ci := 0) (q0 := 0) hK hP rfl rfl)) rfl rfl hl.1 rfl (lv_room (Nat.le_of_ble_eq_true rfl)) dL_exponentAt_7 ⟨Nat.le_of_ble_eq_true rfl, Nat.le_of_ble_eq_true rfl⟩) (fun _ _ _ h => h) hS hF hF (fun E ce q9 u t H1 locs1 ht hvm hpx hbx hz1 hk1 hS hce hcv hcl => ?_)
  subst hbx
  have hP := pv_keep hP rfl hk1
  refine vx_catch (own := RL) (name := "java/lang/IndexOutOfBoundsException") hown [] ⟨0, 12, 15, 23⟩ _ ((vx_table (x := yL_law) B hcw).trans rfl) (fun z hz => nomatch hz) rfl (by decide) (hg w5_69 rfl) (va_Nw.use rfl (hE.2.2.1 _ (pv_ib w5_118 rfl))) hce hcv hcl ?_
  refine W.widen (k := 1) (n := 6) (Nat.le_of_ble_eq_true rfl) (Nat.le_of_ble_eq_true rfl) ?_
  refine lv_astore (lv' := [(5, .ref q9), (0, .ref h0), (1, .int p0), (2, .int p1), (3, .int p2), (4, .ref o0)]) hx hb dL_exponentAt_15 hl (by decide) rfl (fun ls hl => ?_)
  refine lv_iconst (v := 1) hx hb dL_exponentAt_17 (by decide) ?_
  refine W.widen (k := 1) (n := 6) (Nat.le_of_ble_eq_true rfl) (Nat.le_of_ble_eq_true rfl) ?_
  exact W.iret (v := 1) hx hb hr (fun t ht hW => ⟨⟨1, (), rfl, rfl, trivial⟩, hS.F ht⟩) hS.2.2 dL_exponentAt_18

theorem dL_derive_0 : decode cL_derive 0 = .ok (.aload_n 3, 1) := by decide +kernel
theorem dL_derive_1 : decode cL_derive 1 = .ok (.iconst 0, 1) := by decide +kernel
theorem dL_derive_2 : decode cL_derive 2 = .ok (.aload_n 0, 1) := by decide +kernel
theorem dL_derive_3 : decode cL_derive 3 = .ok (.iload_n 1, 1) := by decide +kernel
theorem dL_derive_4 : decode cL_derive 4 = .ok (.iload_n 2, 1) := by decide +kernel
theorem dL_derive_5 : decode cL_derive 5 = .ok (.invokevirtual 65, 3) := by decide +kernel
theorem w6_100 : (Jvm.Cond.methodLink "PolyforgeLaw" (65 : Nat) ({ cls := "Polyforge", name := "derive", desc := "(II)I" } : Jvm.MethodName)) ∈ lw_tbl := pv_t6 (pv_mg 100 rfl)
theorem w6_103 : (Jvm.Cond.code ({ cls := "Polyforge", name := "derive", desc := "(II)I" } : Jvm.MethodName) prog_1_method_16_code (7 : Nat) (Option.some Jvm.ClassFile.FieldType.int)) ∈ lw_tbl := pv_t6 (pv_mg 103 rfl)
theorem w6_102 : (Jvm.Cond.selects "Polyforge" ({ cls := "Polyforge", name := "derive", desc := "(II)I" } : Jvm.MethodName) ({ cls := "Polyforge", name := "derive", desc := "(II)I" } : Jvm.MethodName)) ∈ lw_tbl := pv_t6 (pv_mg 102 rfl)
theorem w6_101 : (Jvm.Cond.instanceMethod ({ cls := "Polyforge", name := "derive", desc := "(II)I" } : Jvm.MethodName)) ∈ lw_tbl := pv_t6 (pv_mg 101 rfl)
theorem dL_derive_13 : decode cL_derive 13 = .ok (.astore 4, 2) := by decide +kernel
theorem dL_derive_15 : decode cL_derive 15 = .ok (.iconst 1, 1) := by decide +kernel
theorem dL_derive_16 : decode cL_derive 16 = .ok (.ireturn, 1) := by decide +kernel
set_option maxHeartbeats 4000000 in
set_option maxRecDepth 100000 in
/-- derive: the first handler -/
theorem c_L_derive (l : Launch) (hfl : l.stackTraces = false) (D : va_G) (sz : Nat) (h0 : Nat) (q : Nat → Nat) (p0 p1 : Int32) (o0 : Nat) : Met l yL_derive (Cond.codeWith yL_derive cL_derive 5 (some .int) [(0, 10, 13, 23), (0, 10, 17, 13), (0, 10, 21, 27), (0, 10, 25, 15)] :: pv_W) ({ frames := 9, cells := 1, slots := 6, locals := 148 } : Room) (va_Pc [.ref h0, .int p0, .int p1, .ref o0] (pv_P D [] [(h0, .inr (0, [.ref (q 0), .int 0, .int 108, .ref (q 1), .int 0, .ref (q 2), .int 0, .ref (q 3), .ref (q 4), .int 1, .ref (q 5), .ref (q 6), .ref (q 7), .ref (q 8), .ref (q 9)]))] (va_A [] sz) sz)) (va_Qi (fun r (_ : Unit) => r = 1) (fun _ _ => True) (va_A [] sz)) 1 6 (va_A [] sz) := by
  refine pv_ofWH (cc := cL_derive) (maxL := 5) (ret := (some .int)) (by decide) rfl ?_
  intro p e s m args below meth c s₁ B hml hv
  obtain ⟨rfl, hsz, hE, hP, hK, hD0⟩ := hv
  have hx := B.exec
  have hb := B.bytes
  have hr := B.returns
  have hts := fun (w : Cond) (h : w ∈ pv_W) => atoms_spec (ws := Cond.codeWith yL_derive cL_derive 5 (some .int) [(0, 10, 13, 23), (0, 10, 17, 13), (0, 10, 21, 27), (0, 10, 25, 15)] :: pv_W) B.pre w (List.mem_cons_of_mem _ h)
  have hg := fun {w : Cond} (h : w ∈ lw_tbl) (g : goodWord w = true) => hts w (pv_in h g)
  have hown : s.vm.findClass RL = some m.cls := findClass_of_methodNamed B.named
  have hlocks := B.notSynchronized
  have hcw := atoms_spec (ws := Cond.codeWith yL_derive cL_derive 5 (some .int) [(0, 10, 13, 23), (0, 10, 17, 13), (0, 10, 21, 27), (0, 10, 25, 15)] :: pv_W) B.pre _ List.mem_cons_self
  subst hsz
  have hD := hD0
  generalize hAe : va_A [] s.heap.size = A at hE ⊢
  have hA : ∀ q : Nat, s.heap.size ≤ q → A q := fun q h => by rw [← hAe]; exact Or.inr h
  have hS : va_S A s.heap s.heap [] := va_S.rf
  have hP : va_P D pv_cl [(h0, .inr (0, [.ref (q 0), .int 0, .int 108, .ref (q 1), .int 0, .ref (q 2), .int 0, .ref (q 3), .ref (q 4), .int 1, .ref (q 5), .ref (q 6), .ref (q 7), .ref (q 8), .ref (q 9)]))] s.heap := hP
  have hl := lv_entry ([.ref h0, .int p0, .int p1, .ref o0]) (n := 5) (Nat.le_of_ble_eq_true rfl)
  rw [lg_entry_eq]
  generalize (lg_sl ([.ref h0, .int p0, .int p1, .ref o0]) ++ List.replicate (5 - (lg_sl ([.ref h0, .int p0, .int p1, .ref o0])).length) Slot.unset).toArray = ls at hl ⊢
  have hl : lv_has ls 5 [(0, .ref h0), (1, .int p0), (2, .int p1), (3, .ref o0)] := hl
  refine lv_aload_n hx hb dL_derive_0 rfl (lv_at hl 3 rfl) ?_
  refine lv_iconst (v := 0) hx hb dL_derive_1 (by decide) ?_
  refine lv_aload_n hx hb dL_derive_2 rfl (lv_at hl 0 rfl) ?_
  refine lv_iload_n hx hb dL_derive_3 rfl (lv_at hl 1 rfl) ?_
  refine lv_iload_n hx hb dL_derive_4 rfl (lv_at hl 2 rfl) ?_
  have hF := pv_new hA hS.1
  refine pv_thrown (vx_runV (As := [.int p0, .int p1]) (rest := [.int 0, .ref o0]) ⟨hx, hb, hml, hown, hts⟩ (c_X11_derive l hfl D _ h0 q p0 p1) (cwV 2 hts (pv_gV w6_100 w6_101 w6_102 w1_1 w6_103) rfl rfl rfl (by decide +kernel) ⟨Nat.le_of_ble_eq_true rfl, Nat.le_of_ble_eq_true rfl⟩) (pv_pV hE hS hF (hP.sub [0] rfl) (hK.sub [] rfl) (hD.sub [0] (by decide) rfl) (va_recv (ci := 0) (q0 := 0) hK hP rfl rfl)) rfl rfl hl.1 rfl (lv_room (Nat.le_of_ble_eq_true rfl)) dL_derive_5 ⟨Nat.le_of_ble_eq_true rfl, Nat.le_of_ble_eq_true rfl⟩) (fun _ _ _ h => h) hS hF hF (fun E ce q9 u t H1 locs1 ht hvm hpx hbx hz1 hk1 hS hce hcv hcl => ?_)
  subst hbx
  have hP := pv_keep hP rfl hk1
  refine vx_catch (own := RL) (name := "java/lang/IndexOutOfBoundsException") hown [] ⟨0, 10, 13, 23⟩ _ ((vx_table (x := yL_law) B hcw).trans rfl) (fun z hz => nomatch hz) rfl (by decide) (hg w5_69 rfl) (va_Nw.use rfl (hE.2.2.1 _ (pv_ib w5_118 rfl))) hce hcv hcl ?_
  refine W.widen (k := 1) (n := 6) (Nat.le_of_ble_eq_true rfl) (Nat.le_of_ble_eq_true rfl) ?_
  refine lv_astore (lv' := [(4, .ref q9), (0, .ref h0), (1, .int p0), (2, .int p1), (3, .ref o0)]) hx hb dL_derive_13 hl (by decide) rfl (fun ls hl => ?_)
  refine lv_iconst (v := 1) hx hb dL_derive_15 (by decide) ?_
  refine W.widen (k := 1) (n := 6) (Nat.le_of_ble_eq_true rfl) (Nat.le_of_ble_eq_true rfl) ?_
  exact W.iret (v := 1) hx hb hr (fun t ht hW => ⟨⟨1, (), rfl, rfl, trivial⟩, hS.F ht⟩) hS.2.2 dL_derive_16

theorem dL_integrate_0 : decode cL_integrate 0 = .ok (.aload_n 3, 1) := by decide +kernel
theorem dL_integrate_1 : decode cL_integrate 1 = .ok (.iconst 0, 1) := by decide +kernel
theorem dL_integrate_2 : decode cL_integrate 2 = .ok (.aload_n 0, 1) := by decide +kernel
theorem dL_integrate_3 : decode cL_integrate 3 = .ok (.iload_n 1, 1) := by decide +kernel
theorem dL_integrate_4 : decode cL_integrate 4 = .ok (.iload_n 2, 1) := by decide +kernel
theorem dL_integrate_5 : decode cL_integrate 5 = .ok (.invokevirtual 68, 3) := by decide +kernel
theorem w6_108 : (Jvm.Cond.methodLink "PolyforgeLaw" (68 : Nat) ({ cls := "Polyforge", name := "integrate", desc := "(II)I" } : Jvm.MethodName)) ∈ lw_tbl := pv_t6 (pv_mg 108 rfl)
theorem w6_111 : (Jvm.Cond.code ({ cls := "Polyforge", name := "integrate", desc := "(II)I" } : Jvm.MethodName) prog_1_method_17_code (7 : Nat) (Option.some Jvm.ClassFile.FieldType.int)) ∈ lw_tbl := pv_t6 (pv_mg 111 rfl)
theorem w6_110 : (Jvm.Cond.selects "Polyforge" ({ cls := "Polyforge", name := "integrate", desc := "(II)I" } : Jvm.MethodName) ({ cls := "Polyforge", name := "integrate", desc := "(II)I" } : Jvm.MethodName)) ∈ lw_tbl := pv_t6 (pv_mg 110 rfl)
theorem w6_109 : (Jvm.Cond.instanceMethod ({ cls := "Polyforge", name := "integrate", desc := "(II)I" } : Jvm.MethodName)) ∈ lw_tbl := pv_t6 (pv_mg 109 rfl)
theorem dL_integrate_13 : decode cL_integrate 13 = .ok (.astore 4, 2) := by decide +kernel
theorem dL_integrate_15 : decode cL_integrate 15 = .ok (.iconst 1, 1) := by decide +kernel
theorem dL_integrate_16 : decode cL_integrate 16 = .ok (.ireturn, 1) := by decide +kernel
set_option maxHeartbeats 4000000 in
set_option maxRecDepth 100000 in
/-- integrate: the first handler -/
theorem c_L_integrate (l : Launch) (hfl : l.stackTraces = false) (D : va_G) (sz : Nat) (h0 : Nat) (q : Nat → Nat) (p0 p1 : Int32) (o0 : Nat) : Met l yL_integrate (Cond.codeWith yL_integrate cL_integrate 5 (some .int) [(0, 10, 13, 23), (0, 10, 17, 13), (0, 10, 21, 25), (0, 10, 25, 27), (0, 10, 29, 15)] :: pv_W) ({ frames := 9, cells := 1, slots := 6, locals := 148 } : Room) (va_Pc [.ref h0, .int p0, .int p1, .ref o0] (pv_P D [] [(h0, .inr (0, [.ref (q 0), .int 0, .int 108, .ref (q 1), .int 0, .ref (q 2), .int 0, .ref (q 3), .ref (q 4), .int 1, .ref (q 5), .ref (q 6), .ref (q 7), .ref (q 8), .ref (q 9)]))] (va_A [] sz) sz)) (va_Qi (fun r (_ : Unit) => r = 1) (fun _ _ => True) (va_A [] sz)) 1 6 (va_A [] sz) := by
  refine pv_ofWH (cc := cL_integrate) (maxL := 5) (ret := (some .int)) (by decide) rfl ?_
  intro p e s m args below meth c s₁ B hml hv
  obtain ⟨rfl, hsz, hE, hP, hK, hD0⟩ := hv
  have hx := B.exec
  have hb := B.bytes
  have hr := B.returns
  have hts := fun (w : Cond) (h : w ∈ pv_W) => atoms_spec (ws := Cond.codeWith yL_integrate cL_integrate 5 (some .int) [(0, 10, 13, 23), (0, 10, 17, 13), (0, 10, 21, 25), (0, 10, 25, 27), (0, 10, 29, 15)] :: pv_W) B.pre w (List.mem_cons_of_mem _ h)
  have hg := fun {w : Cond} (h : w ∈ lw_tbl) (g : goodWord w = true) => hts w (pv_in h g)
  have hown : s.vm.findClass RL = some m.cls := findClass_of_methodNamed B.named
  have hlocks := B.notSynchronized
  have hcw := atoms_spec (ws := Cond.codeWith yL_integrate cL_integrate 5 (some .int) [(0, 10, 13, 23), (0, 10, 17, 13), (0, 10, 21, 25), (0, 10, 25, 27), (0, 10, 29, 15)] :: pv_W) B.pre _ List.mem_cons_self
  subst hsz
  have hD := hD0
  generalize hAe : va_A [] s.heap.size = A at hE ⊢
  have hA : ∀ q : Nat, s.heap.size ≤ q → A q := fun q h => by rw [← hAe]; exact Or.inr h
  have hS : va_S A s.heap s.heap [] := va_S.rf
  have hP : va_P D pv_cl [(h0, .inr (0, [.ref (q 0), .int 0, .int 108, .ref (q 1), .int 0, .ref (q 2), .int 0, .ref (q 3), .ref (q 4), .int 1, .ref (q 5), .ref (q 6), .ref (q 7), .ref (q 8), .ref (q 9)]))] s.heap := hP
  have hl := lv_entry ([.ref h0, .int p0, .int p1, .ref o0]) (n := 5) (Nat.le_of_ble_eq_true rfl)
  rw [lg_entry_eq]
  generalize (lg_sl ([.ref h0, .int p0, .int p1, .ref o0]) ++ List.replicate (5 - (lg_sl ([.ref h0, .int p0, .int p1, .ref o0])).length) Slot.unset).toArray = ls at hl ⊢
  have hl : lv_has ls 5 [(0, .ref h0), (1, .int p0), (2, .int p1), (3, .ref o0)] := hl
  refine lv_aload_n hx hb dL_integrate_0 rfl (lv_at hl 3 rfl) ?_
  refine lv_iconst (v := 0) hx hb dL_integrate_1 (by decide) ?_
  refine lv_aload_n hx hb dL_integrate_2 rfl (lv_at hl 0 rfl) ?_
  refine lv_iload_n hx hb dL_integrate_3 rfl (lv_at hl 1 rfl) ?_
  refine lv_iload_n hx hb dL_integrate_4 rfl (lv_at hl 2 rfl) ?_
  have hF := pv_new hA hS.1
  refine pv_thrown (vx_runV (As := [.int p0, .int p1]) (rest := [.int 0, .ref o0]) ⟨hx, hb, hml, hown, hts⟩ (c_X11_integrate l hfl D _ h0 q p0 p1) (cwV 2 hts (pv_gV w6_108 w6_109 w6_110 w1_1 w6_111) rfl rfl rfl (by decide +kernel) ⟨Nat.le_of_ble_eq_true rfl, Nat.le_of_ble_eq_true rfl⟩) (pv_pV hE hS hF (hP.sub [0] rfl) (hK.sub [] rfl) (hD.sub [0] (by decide) rfl) (va_recv (ci := 0) (q0 := 0) hK hP rfl rfl)) rfl rfl hl.1 rfl (lv_room (Nat.le_of_ble_eq_true rfl)) dL_integrate_5 ⟨Nat.le_of_ble_eq_true rfl, Nat.le_of_ble_eq_true rfl⟩) (fun _ _ _ h => h) hS hF hF (fun E ce q9 u t H1 locs1 ht hvm hpx hbx hz1 hk1 hS hce hcv hcl => ?_)
  subst hbx
  have hP := pv_keep hP rfl hk1
  refine vx_catch (own := RL) (name := "java/lang/IndexOutOfBoundsException") hown [] ⟨0, 10, 13, 23⟩ _ ((vx_table (x := yL_law) B hcw).trans rfl) (fun z hz => nomatch hz) rfl (by decide) (hg w5_69 rfl) (va_Nw.use rfl (hE.2.2.1 _ (pv_ib w5_118 rfl))) hce hcv hcl ?_
  refine W.widen (k := 1) (n := 6) (Nat.le_of_ble_eq_true rfl) (Nat.le_of_ble_eq_true rfl) ?_
  refine lv_astore (lv' := [(4, .ref q9), (0, .ref h0), (1, .int p0), (2, .int p1), (3, .ref o0)]) hx hb dL_integrate_13 hl (by decide) rfl (fun ls hl => ?_)
  refine lv_iconst (v := 1) hx hb dL_integrate_15 (by decide) ?_
  refine W.widen (k := 1) (n := 6) (Nat.le_of_ble_eq_true rfl) (Nat.le_of_ble_eq_true rfl) ?_
  exact W.iret (v := 1) hx hb hr (fun t ht hW => ⟨⟨1, (), rfl, rfl, trivial⟩, hS.F ht⟩) hS.2.2 dL_integrate_16

theorem dL_substitute_0 : decode cL_substitute 0 = .ok (.aload 4, 2) := by decide +kernel
theorem dL_substitute_2 : decode cL_substitute 2 = .ok (.iconst 0, 1) := by decide +kernel
theorem dL_substitute_3 : decode cL_substitute 3 = .ok (.aload_n 0, 1) := by decide +kernel
theorem dL_substitute_4 : decode cL_substitute 4 = .ok (.iload_n 1, 1) := by decide +kernel
theorem dL_substitute_5 : decode cL_substitute 5 = .ok (.iload_n 2, 1) := by decide +kernel
theorem dL_substitute_6 : decode cL_substitute 6 = .ok (.iload_n 3, 1) := by decide +kernel
theorem dL_substitute_7 : decode cL_substitute 7 = .ok (.invokevirtual 71, 3) := by decide +kernel
theorem w6_124 : (Jvm.Cond.methodLink "PolyforgeLaw" (71 : Nat) ({ cls := "Polyforge", name := "substitute", desc := "(III)I" } : Jvm.MethodName)) ∈ lw_tbl := pv_t6 (pv_mg 124 rfl)
theorem w6_127 : (Jvm.Cond.code ({ cls := "Polyforge", name := "substitute", desc := "(III)I" } : Jvm.MethodName) prog_1_method_18_code (7 : Nat) (Option.some Jvm.ClassFile.FieldType.int)) ∈ lw_tbl := pv_t6 (pv_mg 127 rfl)
theorem w6_126 : (Jvm.Cond.selects "Polyforge" ({ cls := "Polyforge", name := "substitute", desc := "(III)I" } : Jvm.MethodName) ({ cls := "Polyforge", name := "substitute", desc := "(III)I" } : Jvm.MethodName)) ∈ lw_tbl := pv_t6 (pv_mg 126 rfl)
theorem w6_125 : (Jvm.Cond.instanceMethod ({ cls := "Polyforge", name := "substitute", desc := "(III)I" } : Jvm.MethodName)) ∈ lw_tbl := pv_t6 (pv_mg 125 rfl)
theorem dL_substitute_15 : decode cL_substitute 15 = .ok (.astore 5, 2) := by decide +kernel
theorem dL_substitute_17 : decode cL_substitute 17 = .ok (.iconst 1, 1) := by decide +kernel
theorem dL_substitute_18 : decode cL_substitute 18 = .ok (.ireturn, 1) := by decide +kernel
set_option maxHeartbeats 4000000 in
set_option maxRecDepth 100000 in
/-- substitute: the first handler -/
theorem c_L_substitute (l : Launch) (hfl : l.stackTraces = false) (D : va_G) (sz : Nat) (h0 : Nat) (q : Nat → Nat) (p0 p1 p2 : Int32) (o0 : Nat) : Met l yL_substitute (Cond.codeWith yL_substitute cL_substitute 6 (some .int) [(0, 12, 15, 23), (0, 12, 19, 13), (0, 12, 23, 25), (0, 12, 27, 27), (0, 12, 31, 15)] :: pv_W) ({ frames := 9, cells := 1, slots := 6, locals := 148 } : Room) (va_Pc [.ref h0, .int p0, .int p1, .int p2, .ref o0] (pv_P D [] [(h0, .inr (0, [.ref (q 0), .int 0, .int 108, .ref (q 1), .int 0, .ref (q 2), .int 0, .ref (q 3), .ref (q 4), .int 1, .ref (q 5), .ref (q 6), .ref (q 7), .ref (q 8), .ref (q 9)]))] (va_A [] sz) sz)) (va_Qi (fun r (_ : Unit) => r = 1) (fun _ _ => True) (va_A [] sz)) 1 6 (va_A [] sz) := by
  refine pv_ofWH (cc := cL_substitute) (maxL := 6) (ret := (some .int)) (by decide) rfl ?_
  intro p e s m args below meth c s₁ B hml hv
  obtain ⟨rfl, hsz, hE, hP, hK, hD0⟩ := hv
  have hx := B.exec
  have hb := B.bytes
  have hr := B.returns
  have hts := fun (w : Cond) (h : w ∈ pv_W) => atoms_spec (ws := Cond.codeWith yL_substitute cL_substitute 6 (some .int) [(0, 12, 15, 23), (0, 12, 19, 13), (0, 12, 23, 25), (0, 12, 27, 27), (0, 12, 31, 15)] :: pv_W) B.pre w (List.mem_cons_of_mem _ h)
  have hg := fun {w : Cond} (h : w ∈ lw_tbl) (g : goodWord w = true) => hts w (pv_in h g)
  have hown : s.vm.findClass RL = some m.cls := findClass_of_methodNamed B.named
  have hlocks := B.notSynchronized
  have hcw := atoms_spec (ws := Cond.codeWith yL_substitute cL_substitute 6 (some .int) [(0, 12, 15, 23), (0, 12, 19, 13), (0, 12, 23, 25), (0, 12, 27, 27), (0, 12, 31, 15)] :: pv_W) B.pre _ List.mem_cons_self
  subst hsz
  have hD := hD0
  generalize hAe : va_A [] s.heap.size = A at hE ⊢
  have hA : ∀ q : Nat, s.heap.size ≤ q → A q := fun q h => by rw [← hAe]; exact Or.inr h
  have hS : va_S A s.heap s.heap [] := va_S.rf
  have hP : va_P D pv_cl [(h0, .inr (0, [.ref (q 0), .int 0, .int 108, .ref (q 1), .int 0, .ref (q 2), .int 0, .ref (q 3), .ref (q 4), .int 1, .ref (q 5), .ref (q 6), .ref (q 7), .ref (q 8), .ref (q 9)]))] s.heap := hP
  have hl := lv_entry ([.ref h0, .int p0, .int p1, .int p2, .ref o0]) (n := 6) (Nat.le_of_ble_eq_true rfl)
  rw [lg_entry_eq]
  generalize (lg_sl ([.ref h0, .int p0, .int p1, .int p2, .ref o0]) ++ List.replicate (6 - (lg_sl ([.ref h0, .int p0, .int p1, .int p2, .ref o0])).length) Slot.unset).toArray = ls at hl ⊢
  have hl : lv_has ls 6 [(0, .ref h0), (1, .int p0), (2, .int p1), (3, .int p2), (4, .ref o0)] := hl
  refine lv_aload hx hb dL_substitute_0 (lv_at hl 4 rfl) ?_
  refine lv_iconst (v := 0) hx hb dL_substitute_2 (by decide) ?_
  refine lv_aload_n hx hb dL_substitute_3 rfl (lv_at hl 0 rfl) ?_
  refine lv_iload_n hx hb dL_substitute_4 rfl (lv_at hl 1 rfl) ?_
  refine lv_iload_n hx hb dL_substitute_5 rfl (lv_at hl 2 rfl) ?_
  refine lv_iload_n hx hb dL_substitute_6 rfl (lv_at hl 3 rfl) ?_
  have hF := pv_new hA hS.1
  refine pv_thrown (vx_runV (As := [.int p0, .int p1, .int p2]) (rest := [.int 0, .ref o0]) ⟨hx, hb, hml, hown, hts⟩ (c_X11_substitute l hfl D _ h0 q p0 p1 p2) (cwV 3 hts (pv_gV w6_124 w6_125 w6_126 w1_1 w6_127) rfl rfl rfl (by decide +kernel) ⟨Nat.le_of_ble_eq_true rfl, Nat.le_of_ble_eq_true rfl⟩) (pv_pV hE hS hF (hP.sub [0] rfl) (hK.sub [] rfl) (hD.sub [0] (by decide) rfl) (va_recv (ci := 0) (q0 := 0) hK hP rfl rfl)) rfl rfl hl.1 rfl (lv_room (Nat.le_of_ble_eq_true rfl)) dL_substitute_7 ⟨Nat.le_of_ble_eq_true rfl, Nat.le_of_ble_eq_true rfl⟩) (fun _ _ _ h => h) hS hF hF (fun E ce q9 u t H1 locs1 ht hvm hpx hbx hz1 hk1 hS hce hcv hcl => ?_)
  subst hbx
  have hP := pv_keep hP rfl hk1
  refine vx_catch (own := RL) (name := "java/lang/IndexOutOfBoundsException") hown [] ⟨0, 12, 15, 23⟩ _ ((vx_table (x := yL_law) B hcw).trans rfl) (fun z hz => nomatch hz) rfl (by decide) (hg w5_69 rfl) (va_Nw.use rfl (hE.2.2.1 _ (pv_ib w5_118 rfl))) hce hcv hcl ?_
  refine W.widen (k := 1) (n := 6) (Nat.le_of_ble_eq_true rfl) (Nat.le_of_ble_eq_true rfl) ?_
  refine lv_astore (lv' := [(5, .ref q9), (0, .ref h0), (1, .int p0), (2, .int p1), (3, .int p2), (4, .ref o0)]) hx hb dL_substitute_15 hl (by decide) rfl (fun ls hl => ?_)
  refine lv_iconst (v := 1) hx hb dL_substitute_17 (by decide) ?_
  refine W.widen (k := 1) (n := 6) (Nat.le_of_ble_eq_true rfl) (Nat.le_of_ble_eq_true rfl) ?_
  exact W.iret (v := 1) hx hb hr (fun t ht hW => ⟨⟨1, (), rfl, rfl, trivial⟩, hS.F ht⟩) hS.2.2 dL_substitute_18

theorem dL_value_0 : decode cL_value 0 = .ok (.aload 5, 2) := by decide +kernel
theorem dL_value_2 : decode cL_value 2 = .ok (.iconst 0, 1) := by decide +kernel
theorem dL_value_3 : decode cL_value 3 = .ok (.aload_n 0, 1) := by decide +kernel
theorem dL_value_4 : decode cL_value 4 = .ok (.iload_n 1, 1) := by decide +kernel
theorem dL_value_5 : decode cL_value 5 = .ok (.iload_n 2, 1) := by decide +kernel
theorem dL_value_6 : decode cL_value 6 = .ok (.iload_n 3, 1) := by decide +kernel
theorem dL_value_7 : decode cL_value 7 = .ok (.iload 4, 2) := by decide +kernel
theorem dL_value_9 : decode cL_value 9 = .ok (.invokevirtual 74, 3) := by decide +kernel
theorem w6_148 : (Jvm.Cond.methodLink "PolyforgeLaw" (74 : Nat) ({ cls := "Polyforge", name := "value", desc := "(IIII)I" } : Jvm.MethodName)) ∈ lw_tbl := pv_t6 (pv_mg 148 rfl)
theorem w6_151 : (Jvm.Cond.code ({ cls := "Polyforge", name := "value", desc := "(IIII)I" } : Jvm.MethodName) prog_1_method_19_code (11 : Nat) (Option.some Jvm.ClassFile.FieldType.int)) ∈ lw_tbl := pv_t6 (pv_mg 151 rfl)
theorem w6_150 : (Jvm.Cond.selects "Polyforge" ({ cls := "Polyforge", name := "value", desc := "(IIII)I" } : Jvm.MethodName) ({ cls := "Polyforge", name := "value", desc := "(IIII)I" } : Jvm.MethodName)) ∈ lw_tbl := pv_t6 (pv_mg 150 rfl)
theorem w6_149 : (Jvm.Cond.instanceMethod ({ cls := "Polyforge", name := "value", desc := "(IIII)I" } : Jvm.MethodName)) ∈ lw_tbl := pv_t6 (pv_mg 149 rfl)
theorem dL_value_17 : decode cL_value 17 = .ok (.astore 6, 2) := by decide +kernel
theorem dL_value_19 : decode cL_value 19 = .ok (.iconst 1, 1) := by decide +kernel
theorem dL_value_20 : decode cL_value 20 = .ok (.ireturn, 1) := by decide +kernel
set_option maxHeartbeats 4000000 in
set_option maxRecDepth 100000 in
/-- value: the first handler -/
theorem c_L_value (l : Launch) (hfl : l.stackTraces = false) (D : va_G) (sz : Nat) (h0 : Nat) (q : Nat → Nat) (p0 p1 p2 p3 : Int32) (o0 : Nat) : Met l yL_value (Cond.codeWith yL_value cL_value 7 (some .int) [(0, 14, 17, 23), (0, 14, 21, 13), (0, 14, 25, 25)] :: pv_W) ({ frames := 9, cells := 1, slots := 6, locals := 152 } : Room) (va_Pc [.ref h0, .int p0, .int p1, .int p2, .int p3, .ref o0] (pv_P D [] [(h0, .inr (0, [.ref (q 0), .int 0, .int 108, .ref (q 1), .int 0, .ref (q 2), .int 0, .ref (q 3), .ref (q 4), .int 1, .ref (q 5), .ref (q 6), .ref (q 7), .ref (q 8), .ref (q 9)]))] (va_A [] sz) sz)) (va_Qi (fun r (_ : Unit) => r = 1) (fun _ _ => True) (va_A [] sz)) 1 6 (va_A [] sz) := by
  refine pv_ofWH (cc := cL_value) (maxL := 7) (ret := (some .int)) (by decide) rfl ?_
  intro p e s m args below meth c s₁ B hml hv
  obtain ⟨rfl, hsz, hE, hP, hK, hD0⟩ := hv
  have hx := B.exec
  have hb := B.bytes
  have hr := B.returns
  have hts := fun (w : Cond) (h : w ∈ pv_W) => atoms_spec (ws := Cond.codeWith yL_value cL_value 7 (some .int) [(0, 14, 17, 23), (0, 14, 21, 13), (0, 14, 25, 25)] :: pv_W) B.pre w (List.mem_cons_of_mem _ h)
  have hg := fun {w : Cond} (h : w ∈ lw_tbl) (g : goodWord w = true) => hts w (pv_in h g)
  have hown : s.vm.findClass RL = some m.cls := findClass_of_methodNamed B.named
  have hlocks := B.notSynchronized
  have hcw := atoms_spec (ws := Cond.codeWith yL_value cL_value 7 (some .int) [(0, 14, 17, 23), (0, 14, 21, 13), (0, 14, 25, 25)] :: pv_W) B.pre _ List.mem_cons_self
  subst hsz
  have hD := hD0
  generalize hAe : va_A [] s.heap.size = A at hE ⊢
  have hA : ∀ q : Nat, s.heap.size ≤ q → A q := fun q h => by rw [← hAe]; exact Or.inr h
  have hS : va_S A s.heap s.heap [] := va_S.rf
  have hP : va_P D pv_cl [(h0, .inr (0, [.ref (q 0), .int 0, .int 108, .ref (q 1), .int 0, .ref (q 2), .int 0, .ref (q 3), .ref (q 4), .int 1, .ref (q 5), .ref (q 6), .ref (q 7), .ref (q 8), .ref (q 9)]))] s.heap := hP
  have hl := lv_entry ([.ref h0, .int p0, .int p1, .int p2, .int p3, .ref o0]) (n := 7) (Nat.le_of_ble_eq_true rfl)
  rw [lg_entry_eq]
  generalize (lg_sl ([.ref h0, .int p0, .int p1, .int p2, .int p3, .ref o0]) ++ List.replicate (7 - (lg_sl ([.ref h0, .int p0, .int p1, .int p2, .int p3, .ref o0])).length) Slot.unset).toArray = ls at hl ⊢
  have hl : lv_has ls 7 [(0, .ref h0), (1, .int p0), (2, .int p1), (3, .int p2), (4, .int p3), (5, .ref o0)] := hl
  refine lv_aload hx hb dL_value_0 (lv_at hl 5 rfl) ?_
  refine lv_iconst (v := 0) hx hb dL_value_2 (by decide) ?_
  refine lv_aload_n hx hb dL_value_3 rfl (lv_at hl 0 rfl) ?_
  refine lv_iload_n hx hb dL_value_4 rfl (lv_at hl 1 rfl) ?_
  refine lv_iload_n hx hb dL_value_5 rfl (lv_at hl 2 rfl) ?_
  refine lv_iload_n hx hb dL_value_6 rfl (lv_at hl 3 rfl) ?_
  refine lv_iload hx hb dL_value_7 (lv_at hl 4 rfl) ?_
  have hF := pv_new hA hS.1
  refine pv_thrown (vx_runV (As := [.int p0, .int p1, .int p2, .int p3]) (rest := [.int 0, .ref o0]) ⟨hx, hb, hml, hown, hts⟩ (c_X11_value l hfl D _ h0 q p0 p1 p2 p3) (cwV 4 hts (pv_gV w6_148 w6_149 w6_150 w1_1 w6_151) rfl rfl rfl (by decide +kernel) ⟨Nat.le_of_ble_eq_true rfl, Nat.le_of_ble_eq_true rfl⟩) (pv_pV hE hS hF (hP.sub [0] rfl) (hK.sub [] rfl) (hD.sub [0] (by decide) rfl) (va_recv (ci := 0) (q0 := 0) hK hP rfl rfl)) rfl rfl hl.1 rfl (lv_room (Nat.le_of_ble_eq_true rfl)) dL_value_9 ⟨Nat.le_of_ble_eq_true rfl, Nat.le_of_ble_eq_true rfl⟩) (fun _ _ _ h => h) hS hF hF (fun E ce q9 u t H1 locs1 ht hvm hpx hbx hz1 hk1 hS hce hcv hcl => ?_)
  subst hbx
  have hP := pv_keep hP rfl hk1
  refine vx_catch (own := RL) (name := "java/lang/IndexOutOfBoundsException") hown [] ⟨0, 14, 17, 23⟩ _ ((vx_table (x := yL_law) B hcw).trans rfl) (fun z hz => nomatch hz) rfl (by decide) (hg w5_69 rfl) (va_Nw.use rfl (hE.2.2.1 _ (pv_ib w5_118 rfl))) hce hcv hcl ?_
  refine W.widen (k := 1) (n := 6) (Nat.le_of_ble_eq_true rfl) (Nat.le_of_ble_eq_true rfl) ?_
  refine lv_astore (lv' := [(6, .ref q9), (0, .ref h0), (1, .int p0), (2, .int p1), (3, .int p2), (4, .int p3), (5, .ref o0)]) hx hb dL_value_17 hl (by decide) rfl (fun ls hl => ?_)
  refine lv_iconst (v := 1) hx hb dL_value_19 (by decide) ?_
  refine W.widen (k := 1) (n := 6) (Nat.le_of_ble_eq_true rfl) (Nat.le_of_ble_eq_true rfl) ?_
  exact W.iret (v := 1) hx hb hr (fun t ht hW => ⟨⟨1, (), rfl, rfl, trivial⟩, hS.F ht⟩) hS.2.2 dL_value_20

theorem dL_content_0 : decode cL_content 0 = .ok (.aload_n 2, 1) := by decide +kernel
theorem dL_content_1 : decode cL_content 1 = .ok (.iconst 0, 1) := by decide +kernel
theorem dL_content_2 : decode cL_content 2 = .ok (.aload_n 0, 1) := by decide +kernel
theorem dL_content_3 : decode cL_content 3 = .ok (.iload_n 1, 1) := by decide +kernel
theorem dL_content_4 : decode cL_content 4 = .ok (.invokevirtual 78, 3) := by decide +kernel
theorem w6_162 : (Jvm.Cond.methodLink "PolyforgeLaw" (78 : Nat) ({ cls := "Polyforge", name := "content", desc := "(I)J" } : Jvm.MethodName)) ∈ lw_tbl := pv_t6 (pv_mg 162 rfl)
theorem w6_165 : (Jvm.Cond.code ({ cls := "Polyforge", name := "content", desc := "(I)J" } : Jvm.MethodName) prog_1_method_20_code (3 : Nat) (Option.some Jvm.ClassFile.FieldType.long)) ∈ lw_tbl := pv_t6 (pv_mg 165 rfl)
theorem w6_164 : (Jvm.Cond.selects "Polyforge" ({ cls := "Polyforge", name := "content", desc := "(I)J" } : Jvm.MethodName) ({ cls := "Polyforge", name := "content", desc := "(I)J" } : Jvm.MethodName)) ∈ lw_tbl := pv_t6 (pv_mg 164 rfl)
theorem w6_163 : (Jvm.Cond.instanceMethod ({ cls := "Polyforge", name := "content", desc := "(I)J" } : Jvm.MethodName)) ∈ lw_tbl := pv_t6 (pv_mg 163 rfl)
theorem dL_content_11 : decode cL_content 11 = .ok (.astore_n 3, 1) := by decide +kernel
theorem dL_content_12 : decode cL_content 12 = .ok (.iconst 1, 1) := by decide +kernel
theorem dL_content_13 : decode cL_content 13 = .ok (.ireturn, 1) := by decide +kernel
set_option maxHeartbeats 4000000 in
set_option maxRecDepth 100000 in
/-- content: the first handler -/
theorem c_L_content (l : Launch) (hfl : l.stackTraces = false) (D : va_G) (sz : Nat) (h0 : Nat) (q : Nat → Nat) (p0 : Int32) (o0 : Nat) : Met l yL_content (Cond.codeWith yL_content cL_content 4 (some .int) [(0, 8, 11, 23), (0, 8, 14, 25)] :: pv_W) ({ frames := 9, cells := 1, slots := 6, locals := 144 } : Room) (va_Pc [.ref h0, .int p0, .ref o0] (pv_P D [] [(h0, .inr (0, [.ref (q 0), .int 0, .int 108, .ref (q 1), .int 0, .ref (q 2), .int 0, .ref (q 3), .ref (q 4), .int 1, .ref (q 5), .ref (q 6), .ref (q 7), .ref (q 8), .ref (q 9)]))] (va_A [] sz) sz)) (va_Qi (fun r (_ : Unit) => r = 1) (fun _ _ => True) (va_A [] sz)) 1 6 (va_A [] sz) := by
  refine pv_ofWH (cc := cL_content) (maxL := 4) (ret := (some .int)) (by decide) rfl ?_
  intro p e s m args below meth c s₁ B hml hv
  obtain ⟨rfl, hsz, hE, hP, hK, hD0⟩ := hv
  have hx := B.exec
  have hb := B.bytes
  have hr := B.returns
  have hts := fun (w : Cond) (h : w ∈ pv_W) => atoms_spec (ws := Cond.codeWith yL_content cL_content 4 (some .int) [(0, 8, 11, 23), (0, 8, 14, 25)] :: pv_W) B.pre w (List.mem_cons_of_mem _ h)
  have hg := fun {w : Cond} (h : w ∈ lw_tbl) (g : goodWord w = true) => hts w (pv_in h g)
  have hown : s.vm.findClass RL = some m.cls := findClass_of_methodNamed B.named
  have hlocks := B.notSynchronized
  have hcw := atoms_spec (ws := Cond.codeWith yL_content cL_content 4 (some .int) [(0, 8, 11, 23), (0, 8, 14, 25)] :: pv_W) B.pre _ List.mem_cons_self
  subst hsz
  have hD := hD0
  generalize hAe : va_A [] s.heap.size = A at hE ⊢
  have hA : ∀ q : Nat, s.heap.size ≤ q → A q := fun q h => by rw [← hAe]; exact Or.inr h
  have hS : va_S A s.heap s.heap [] := va_S.rf
  have hP : va_P D pv_cl [(h0, .inr (0, [.ref (q 0), .int 0, .int 108, .ref (q 1), .int 0, .ref (q 2), .int 0, .ref (q 3), .ref (q 4), .int 1, .ref (q 5), .ref (q 6), .ref (q 7), .ref (q 8), .ref (q 9)]))] s.heap := hP
  have hl := lv_entry ([.ref h0, .int p0, .ref o0]) (n := 4) (Nat.le_of_ble_eq_true rfl)
  rw [lg_entry_eq]
  generalize (lg_sl ([.ref h0, .int p0, .ref o0]) ++ List.replicate (4 - (lg_sl ([.ref h0, .int p0, .ref o0])).length) Slot.unset).toArray = ls at hl ⊢
  have hl : lv_has ls 4 [(0, .ref h0), (1, .int p0), (2, .ref o0)] := hl
  refine lv_aload_n hx hb dL_content_0 rfl (lv_at hl 2 rfl) ?_
  refine lv_iconst (v := 0) hx hb dL_content_1 (by decide) ?_
  refine lv_aload_n hx hb dL_content_2 rfl (lv_at hl 0 rfl) ?_
  refine lv_iload_n hx hb dL_content_3 rfl (lv_at hl 1 rfl) ?_
  have hF := pv_new hA hS.1
  refine pv_thrown (vx_runV (As := [.int p0]) (rest := [.int 0, .ref o0]) ⟨hx, hb, hml, hown, hts⟩ (c_X11_content l hfl D _ h0 q p0) (cwV 1 hts (pv_gV w6_162 w6_163 w6_164 w1_1 w6_165) rfl rfl rfl (by decide +kernel) ⟨Nat.le_of_ble_eq_true rfl, Nat.le_of_ble_eq_true rfl⟩) (pv_pV hE hS hF (hP.sub [0] rfl) (hK.sub [] rfl) (hD.sub [0] (by decide) rfl) (va_recv (ci := 0) (q0 := 0) hK hP rfl rfl)) rfl rfl hl.1 rfl (lv_room (Nat.le_of_ble_eq_true rfl)) dL_content_4 ⟨Nat.le_of_ble_eq_true rfl, Nat.le_of_ble_eq_true rfl⟩) (fun _ _ _ h => h) hS hF hF (fun E ce q9 u t H1 locs1 ht hvm hpx hbx hz1 hk1 hS hce hcv hcl => ?_)
  subst hbx
  have hP := pv_keep hP rfl hk1
  refine vx_catch (own := RL) (name := "java/lang/IndexOutOfBoundsException") hown [] ⟨0, 8, 11, 23⟩ _ ((vx_table (x := yL_law) B hcw).trans rfl) (fun z hz => nomatch hz) rfl (by decide) (hg w5_69 rfl) (va_Nw.use rfl (hE.2.2.1 _ (pv_ib w5_118 rfl))) hce hcv hcl ?_
  refine W.widen (k := 1) (n := 6) (Nat.le_of_ble_eq_true rfl) (Nat.le_of_ble_eq_true rfl) ?_
  refine lv_astore_n (lv' := [(3, .ref q9), (0, .ref h0), (1, .int p0), (2, .ref o0)]) hx hb dL_content_11 rfl hl (by decide) rfl (fun ls hl => ?_)
  refine lv_iconst (v := 1) hx hb dL_content_12 (by decide) ?_
  refine W.widen (k := 1) (n := 6) (Nat.le_of_ble_eq_true rfl) (Nat.le_of_ble_eq_true rfl) ?_
  exact W.iret (v := 1) hx hb hr (fun t ht hW => ⟨⟨1, (), rfl, rfl, trivial⟩, hS.F ht⟩) hS.2.2 dL_content_13

theorem dL_primitive_0 : decode cL_primitive 0 = .ok (.aload_n 2, 1) := by decide +kernel
theorem dL_primitive_1 : decode cL_primitive 1 = .ok (.iconst 0, 1) := by decide +kernel
theorem dL_primitive_2 : decode cL_primitive 2 = .ok (.aload_n 0, 1) := by decide +kernel
theorem dL_primitive_3 : decode cL_primitive 3 = .ok (.iload_n 1, 1) := by decide +kernel
theorem dL_primitive_4 : decode cL_primitive 4 = .ok (.invokevirtual 82, 3) := by decide +kernel
theorem w6_177 : (Jvm.Cond.methodLink "PolyforgeLaw" (82 : Nat) ({ cls := "Polyforge", name := "primitive", desc := "(I)I" } : Jvm.MethodName)) ∈ lw_tbl := pv_t6 (pv_mg 177 rfl)
theorem w6_180 : (Jvm.Cond.code ({ cls := "Polyforge", name := "primitive", desc := "(I)I" } : Jvm.MethodName) prog_1_method_21_code (6 : Nat) (Option.some Jvm.ClassFile.FieldType.int)) ∈ lw_tbl := pv_t6 (pv_mg 180 rfl)
theorem w6_179 : (Jvm.Cond.selects "Polyforge" ({ cls := "Polyforge", name := "primitive", desc := "(I)I" } : Jvm.MethodName) ({ cls := "Polyforge", name := "primitive", desc := "(I)I" } : Jvm.MethodName)) ∈ lw_tbl := pv_t6 (pv_mg 179 rfl)
theorem w6_178 : (Jvm.Cond.instanceMethod ({ cls := "Polyforge", name := "primitive", desc := "(I)I" } : Jvm.MethodName)) ∈ lw_tbl := pv_t6 (pv_mg 178 rfl)
theorem dL_primitive_12 : decode cL_primitive 12 = .ok (.astore_n 3, 1) := by decide +kernel
theorem dL_primitive_13 : decode cL_primitive 13 = .ok (.iconst 1, 1) := by decide +kernel
theorem dL_primitive_14 : decode cL_primitive 14 = .ok (.ireturn, 1) := by decide +kernel
set_option maxHeartbeats 4000000 in
set_option maxRecDepth 100000 in
/-- primitive: the first handler -/
theorem c_L_primitive (l : Launch) (hfl : l.stackTraces = false) (D : va_G) (sz : Nat) (h0 : Nat) (q : Nat → Nat) (p0 : Int32) (o0 : Nat) : Met l yL_primitive (Cond.codeWith yL_primitive cL_primitive 4 (some .int) [(0, 9, 12, 23), (0, 9, 15, 25), (0, 9, 18, 15)] :: pv_W) ({ frames := 9, cells := 1, slots := 6, locals := 147 } : Room) (va_Pc [.ref h0, .int p0, .ref o0] (pv_P D [] [(h0, .inr (0, [.ref (q 0), .int 0, .int 108, .ref (q 1), .int 0, .ref (q 2), .int 0, .ref (q 3), .ref (q 4), .int 1, .ref (q 5), .ref (q 6), .ref (q 7), .ref (q 8), .ref (q 9)]))] (va_A [] sz) sz)) (va_Qi (fun r (_ : Unit) => r = 1) (fun _ _ => True) (va_A [] sz)) 1 6 (va_A [] sz) := by
  refine pv_ofWH (cc := cL_primitive) (maxL := 4) (ret := (some .int)) (by decide) rfl ?_
  intro p e s m args below meth c s₁ B hml hv
  obtain ⟨rfl, hsz, hE, hP, hK, hD0⟩ := hv
  have hx := B.exec
  have hb := B.bytes
  have hr := B.returns
  have hts := fun (w : Cond) (h : w ∈ pv_W) => atoms_spec (ws := Cond.codeWith yL_primitive cL_primitive 4 (some .int) [(0, 9, 12, 23), (0, 9, 15, 25), (0, 9, 18, 15)] :: pv_W) B.pre w (List.mem_cons_of_mem _ h)
  have hg := fun {w : Cond} (h : w ∈ lw_tbl) (g : goodWord w = true) => hts w (pv_in h g)
  have hown : s.vm.findClass RL = some m.cls := findClass_of_methodNamed B.named
  have hlocks := B.notSynchronized
  have hcw := atoms_spec (ws := Cond.codeWith yL_primitive cL_primitive 4 (some .int) [(0, 9, 12, 23), (0, 9, 15, 25), (0, 9, 18, 15)] :: pv_W) B.pre _ List.mem_cons_self
  subst hsz
  have hD := hD0
  generalize hAe : va_A [] s.heap.size = A at hE ⊢
  have hA : ∀ q : Nat, s.heap.size ≤ q → A q := fun q h => by rw [← hAe]; exact Or.inr h
  have hS : va_S A s.heap s.heap [] := va_S.rf
  have hP : va_P D pv_cl [(h0, .inr (0, [.ref (q 0), .int 0, .int 108, .ref (q 1), .int 0, .ref (q 2), .int 0, .ref (q 3), .ref (q 4), .int 1, .ref (q 5), .ref (q 6), .ref (q 7), .ref (q 8), .ref (q 9)]))] s.heap := hP
  have hl := lv_entry ([.ref h0, .int p0, .ref o0]) (n := 4) (Nat.le_of_ble_eq_true rfl)
  rw [lg_entry_eq]
  generalize (lg_sl ([.ref h0, .int p0, .ref o0]) ++ List.replicate (4 - (lg_sl ([.ref h0, .int p0, .ref o0])).length) Slot.unset).toArray = ls at hl ⊢
  have hl : lv_has ls 4 [(0, .ref h0), (1, .int p0), (2, .ref o0)] := hl
  refine lv_aload_n hx hb dL_primitive_0 rfl (lv_at hl 2 rfl) ?_
  refine lv_iconst (v := 0) hx hb dL_primitive_1 (by decide) ?_
  refine lv_aload_n hx hb dL_primitive_2 rfl (lv_at hl 0 rfl) ?_
  refine lv_iload_n hx hb dL_primitive_3 rfl (lv_at hl 1 rfl) ?_
  have hF := pv_new hA hS.1
  refine pv_thrown (vx_runV (As := [.int p0]) (rest := [.int 0, .ref o0]) ⟨hx, hb, hml, hown, hts⟩ (c_X11_primitive l hfl D _ h0 q p0) (cwV 1 hts (pv_gV w6_177 w6_178 w6_179 w1_1 w6_180) rfl rfl rfl (by decide +kernel) ⟨Nat.le_of_ble_eq_true rfl, Nat.le_of_ble_eq_true rfl⟩) (pv_pV hE hS hF (hP.sub [0] rfl) (hK.sub [] rfl) (hD.sub [0] (by decide) rfl) (va_recv (ci := 0) (q0 := 0) hK hP rfl rfl)) rfl rfl hl.1 rfl (lv_room (Nat.le_of_ble_eq_true rfl)) dL_primitive_4 ⟨Nat.le_of_ble_eq_true rfl, Nat.le_of_ble_eq_true rfl⟩) (fun _ _ _ h => h) hS hF hF (fun E ce q9 u t H1 locs1 ht hvm hpx hbx hz1 hk1 hS hce hcv hcl => ?_)
  subst hbx
  have hP := pv_keep hP rfl hk1
  refine vx_catch (own := RL) (name := "java/lang/IndexOutOfBoundsException") hown [] ⟨0, 9, 12, 23⟩ _ ((vx_table (x := yL_law) B hcw).trans rfl) (fun z hz => nomatch hz) rfl (by decide) (hg w5_69 rfl) (va_Nw.use rfl (hE.2.2.1 _ (pv_ib w5_118 rfl))) hce hcv hcl ?_
  refine W.widen (k := 1) (n := 6) (Nat.le_of_ble_eq_true rfl) (Nat.le_of_ble_eq_true rfl) ?_
  refine lv_astore_n (lv' := [(3, .ref q9), (0, .ref h0), (1, .int p0), (2, .ref o0)]) hx hb dL_primitive_12 rfl hl (by decide) rfl (fun ls hl => ?_)
  refine lv_iconst (v := 1) hx hb dL_primitive_13 (by decide) ?_
  refine W.widen (k := 1) (n := 6) (Nat.le_of_ble_eq_true rfl) (Nat.le_of_ble_eq_true rfl) ?_
  exact W.iret (v := 1) hx hb hr (fun t ht hW => ⟨⟨1, (), rfl, rfl, trivial⟩, hS.F ht⟩) hS.2.2 dL_primitive_14

theorem dL_modulo_0 : decode cL_modulo 0 = .ok (.aload_n 3, 1) := by decide +kernel
theorem dL_modulo_1 : decode cL_modulo 1 = .ok (.iconst 0, 1) := by decide +kernel
theorem dL_modulo_2 : decode cL_modulo 2 = .ok (.aload_n 0, 1) := by decide +kernel
theorem dL_modulo_3 : decode cL_modulo 3 = .ok (.iload_n 1, 1) := by decide +kernel
theorem dL_modulo_4 : decode cL_modulo 4 = .ok (.iload_n 2, 1) := by decide +kernel
theorem dL_modulo_5 : decode cL_modulo 5 = .ok (.invokevirtual 85, 3) := by decide +kernel
theorem w6_184 : (Jvm.Cond.methodLink "PolyforgeLaw" (85 : Nat) ({ cls := "Polyforge", name := "modulo", desc := "(II)I" } : Jvm.MethodName)) ∈ lw_tbl := pv_t6 (pv_mg 184 rfl)
theorem w6_187 : (Jvm.Cond.code ({ cls := "Polyforge", name := "modulo", desc := "(II)I" } : Jvm.MethodName) prog_1_method_22_code (5 : Nat) (Option.some Jvm.ClassFile.FieldType.int)) ∈ lw_tbl := pv_t6 (pv_mg 187 rfl)
theorem w6_186 : (Jvm.Cond.selects "Polyforge" ({ cls := "Polyforge", name := "modulo", desc := "(II)I" } : Jvm.MethodName) ({ cls := "Polyforge", name := "modulo", desc := "(II)I" } : Jvm.MethodName)) ∈ lw_tbl := pv_t6 (pv_mg 186 rfl)
theorem w6_185 : (Jvm.Cond.instanceMethod ({ cls := "Polyforge", name := "modulo", desc := "(II)I" } : Jvm.MethodName)) ∈ lw_tbl := pv_t6 (pv_mg 185 rfl)
theorem dL_modulo_13 : decode cL_modulo 13 = .ok (.astore 4, 2) := by decide +kernel
theorem dL_modulo_15 : decode cL_modulo 15 = .ok (.iconst 1, 1) := by decide +kernel
theorem dL_modulo_16 : decode cL_modulo 16 = .ok (.ireturn, 1) := by decide +kernel
set_option maxHeartbeats 4000000 in
set_option maxRecDepth 100000 in
/-- modulo: the first handler -/
theorem c_L_modulo (l : Launch) (hfl : l.stackTraces = false) (D : va_G) (sz : Nat) (h0 : Nat) (q : Nat → Nat) (p0 p1 : Int32) (o0 : Nat) : Met l yL_modulo (Cond.codeWith yL_modulo cL_modulo 5 (some .int) [(0, 10, 13, 23), (0, 10, 17, 13), (0, 10, 21, 25), (0, 10, 25, 15)] :: pv_W) ({ frames := 9, cells := 1, slots := 6, locals := 146 } : Room) (va_Pc [.ref h0, .int p0, .int p1, .ref o0] (pv_P D [] [(h0, .inr (0, [.ref (q 0), .int 0, .int 108, .ref (q 1), .int 0, .ref (q 2), .int 0, .ref (q 3), .ref (q 4), .int 1, .ref (q 5), .ref (q 6), .ref (q 7), .ref (q 8), .ref (q 9)]))] (va_A [] sz) sz)) (va_Qi (fun r (_ : Unit) => r = 1) (fun _ _ => True) (va_A [] sz)) 1 6 (va_A [] sz) := by
  refine pv_ofWH (cc := cL_modulo) (maxL := 5) (ret := (some .int)) (by decide) rfl ?_
  intro p e s m args below meth c s₁ B hml hv
  obtain ⟨rfl, hsz, hE, hP, hK, hD0⟩ := hv
  have hx := B.exec
  have hb := B.bytes
  have hr := B.returns
  have hts := fun (w : Cond) (h : w ∈ pv_W) => atoms_spec (ws := Cond.codeWith yL_modulo cL_modulo 5 (some .int) [(0, 10, 13, 23), (0, 10, 17, 13), (0, 10, 21, 25), (0, 10, 25, 15)] :: pv_W) B.pre w (List.mem_cons_of_mem _ h)
  have hg := fun {w : Cond} (h : w ∈ lw_tbl) (g : goodWord w = true) => hts w (pv_in h g)
  have hown : s.vm.findClass RL = some m.cls := findClass_of_methodNamed B.named
  have hlocks := B.notSynchronized
  have hcw := atoms_spec (ws := Cond.codeWith yL_modulo cL_modulo 5 (some .int) [(0, 10, 13, 23), (0, 10, 17, 13), (0, 10, 21, 25), (0, 10, 25, 15)] :: pv_W) B.pre _ List.mem_cons_self
  subst hsz
  have hD := hD0
  generalize hAe : va_A [] s.heap.size = A at hE ⊢
  have hA : ∀ q : Nat, s.heap.size ≤ q → A q := fun q h => by rw [← hAe]; exact Or.inr h
  have hS : va_S A s.heap s.heap [] := va_S.rf
  have hP : va_P D pv_cl [(h0, .inr (0, [.ref (q 0), .int 0, .int 108, .ref (q 1), .int 0, .ref (q 2), .int 0, .ref (q 3), .ref (q 4), .int 1, .ref (q 5), .ref (q 6), .ref (q 7), .ref (q 8), .ref (q 9)]))] s.heap := hP
  have hl := lv_entry ([.ref h0, .int p0, .int p1, .ref o0]) (n := 5) (Nat.le_of_ble_eq_true rfl)
  rw [lg_entry_eq]
  generalize (lg_sl ([.ref h0, .int p0, .int p1, .ref o0]) ++ List.replicate (5 - (lg_sl ([.ref h0, .int p0, .int p1, .ref o0])).length) Slot.unset).toArray = ls at hl ⊢
  have hl : lv_has ls 5 [(0, .ref h0), (1, .int p0), (2, .int p1), (3, .ref o0)] := hl
  refine lv_aload_n hx hb dL_modulo_0 rfl (lv_at hl 3 rfl) ?_
  refine lv_iconst (v := 0) hx hb dL_modulo_1 (by decide) ?_
  refine lv_aload_n hx hb dL_modulo_2 rfl (lv_at hl 0 rfl) ?_
  refine lv_iload_n hx hb dL_modulo_3 rfl (lv_at hl 1 rfl) ?_
  refine lv_iload_n hx hb dL_modulo_4 rfl (lv_at hl 2 rfl) ?_
  have hF := pv_new hA hS.1
  refine pv_thrown (vx_runV (As := [.int p0, .int p1]) (rest := [.int 0, .ref o0]) ⟨hx, hb, hml, hown, hts⟩ (c_X11_modulo l hfl D _ h0 q p0 p1) (cwV 2 hts (pv_gV w6_184 w6_185 w6_186 w1_1 w6_187) rfl rfl rfl (by decide +kernel) ⟨Nat.le_of_ble_eq_true rfl, Nat.le_of_ble_eq_true rfl⟩) (pv_pV hE hS hF (hP.sub [0] rfl) (hK.sub [] rfl) (hD.sub [0] (by decide) rfl) (va_recv (ci := 0) (q0 := 0) hK hP rfl rfl)) rfl rfl hl.1 rfl (lv_room (Nat.le_of_ble_eq_true rfl)) dL_modulo_5 ⟨Nat.le_of_ble_eq_true rfl, Nat.le_of_ble_eq_true rfl⟩) (fun _ _ _ h => h) hS hF hF (fun E ce q9 u t H1 locs1 ht hvm hpx hbx hz1 hk1 hS hce hcv hcl => ?_)
  subst hbx
  have hP := pv_keep hP rfl hk1
  refine vx_catch (own := RL) (name := "java/lang/IndexOutOfBoundsException") hown [] ⟨0, 10, 13, 23⟩ _ ((vx_table (x := yL_law) B hcw).trans rfl) (fun z hz => nomatch hz) rfl (by decide) (hg w5_69 rfl) (va_Nw.use rfl (hE.2.2.1 _ (pv_ib w5_118 rfl))) hce hcv hcl ?_
  refine W.widen (k := 1) (n := 6) (Nat.le_of_ble_eq_true rfl) (Nat.le_of_ble_eq_true rfl) ?_
  refine lv_astore (lv' := [(4, .ref q9), (0, .ref h0), (1, .int p0), (2, .int p1), (3, .ref o0)]) hx hb dL_modulo_13 hl (by decide) rfl (fun ls hl => ?_)
  refine lv_iconst (v := 1) hx hb dL_modulo_15 (by decide) ?_
  refine W.widen (k := 1) (n := 6) (Nat.le_of_ble_eq_true rfl) (Nat.le_of_ble_eq_true rfl) ?_
  exact W.iret (v := 1) hx hb hr (fun t ht hW => ⟨⟨1, (), rfl, rfl, trivial⟩, hS.F ht⟩) hS.2.2 dL_modulo_16

theorem dL_quotient_0 : decode cL_quotient 0 = .ok (.aload_n 3, 1) := by decide +kernel
theorem dL_quotient_1 : decode cL_quotient 1 = .ok (.iconst 0, 1) := by decide +kernel
theorem dL_quotient_2 : decode cL_quotient 2 = .ok (.aload_n 0, 1) := by decide +kernel
theorem dL_quotient_3 : decode cL_quotient 3 = .ok (.iload_n 1, 1) := by decide +kernel
theorem dL_quotient_4 : decode cL_quotient 4 = .ok (.iload_n 2, 1) := by decide +kernel
theorem dL_quotient_5 : decode cL_quotient 5 = .ok (.invokevirtual 88, 3) := by decide +kernel
theorem w6_195 : (Jvm.Cond.methodLink "PolyforgeLaw" (88 : Nat) ({ cls := "Polyforge", name := "quotient", desc := "(II)I" } : Jvm.MethodName)) ∈ lw_tbl := pv_t6 (pv_mg 195 rfl)
theorem w6_198 : (Jvm.Cond.code ({ cls := "Polyforge", name := "quotient", desc := "(II)I" } : Jvm.MethodName) prog_1_method_23_code (5 : Nat) (Option.some Jvm.ClassFile.FieldType.int)) ∈ lw_tbl := pv_t6 (pv_mg 198 rfl)
theorem w6_197 : (Jvm.Cond.selects "Polyforge" ({ cls := "Polyforge", name := "quotient", desc := "(II)I" } : Jvm.MethodName) ({ cls := "Polyforge", name := "quotient", desc := "(II)I" } : Jvm.MethodName)) ∈ lw_tbl := pv_t6 (pv_mg 197 rfl)
theorem w6_196 : (Jvm.Cond.instanceMethod ({ cls := "Polyforge", name := "quotient", desc := "(II)I" } : Jvm.MethodName)) ∈ lw_tbl := pv_t6 (pv_mg 196 rfl)
theorem dL_quotient_13 : decode cL_quotient 13 = .ok (.astore 4, 2) := by decide +kernel
theorem dL_quotient_15 : decode cL_quotient 15 = .ok (.iconst 1, 1) := by decide +kernel
theorem dL_quotient_16 : decode cL_quotient 16 = .ok (.ireturn, 1) := by decide +kernel
set_option maxHeartbeats 4000000 in
set_option maxRecDepth 100000 in
/-- quotient: the first handler -/
theorem c_L_quotient (l : Launch) (hfl : l.stackTraces = false) (D : va_G) (sz : Nat) (h0 : Nat) (q : Nat → Nat) (p0 p1 : Int32) (o0 : Nat) : Met l yL_quotient (Cond.codeWith yL_quotient cL_quotient 5 (some .int) [(0, 10, 13, 23), (0, 10, 17, 25), (0, 10, 21, 27), (0, 10, 25, 15)] :: pv_W) ({ frames := 9, cells := 1, slots := 6, locals := 146 } : Room) (va_Pc [.ref h0, .int p0, .int p1, .ref o0] (pv_P D [] [(h0, .inr (0, [.ref (q 0), .int 0, .int 108, .ref (q 1), .int 0, .ref (q 2), .int 0, .ref (q 3), .ref (q 4), .int 1, .ref (q 5), .ref (q 6), .ref (q 7), .ref (q 8), .ref (q 9)]))] (va_A [] sz) sz)) (va_Qi (fun r (_ : Unit) => r = 1) (fun _ _ => True) (va_A [] sz)) 1 6 (va_A [] sz) := by
  refine pv_ofWH (cc := cL_quotient) (maxL := 5) (ret := (some .int)) (by decide) rfl ?_
  intro p e s m args below meth c s₁ B hml hv
  obtain ⟨rfl, hsz, hE, hP, hK, hD0⟩ := hv
  have hx := B.exec
  have hb := B.bytes
  have hr := B.returns
  have hts := fun (w : Cond) (h : w ∈ pv_W) => atoms_spec (ws := Cond.codeWith yL_quotient cL_quotient 5 (some .int) [(0, 10, 13, 23), (0, 10, 17, 25), (0, 10, 21, 27), (0, 10, 25, 15)] :: pv_W) B.pre w (List.mem_cons_of_mem _ h)
  have hg := fun {w : Cond} (h : w ∈ lw_tbl) (g : goodWord w = true) => hts w (pv_in h g)
  have hown : s.vm.findClass RL = some m.cls := findClass_of_methodNamed B.named
  have hlocks := B.notSynchronized
  have hcw := atoms_spec (ws := Cond.codeWith yL_quotient cL_quotient 5 (some .int) [(0, 10, 13, 23), (0, 10, 17, 25), (0, 10, 21, 27), (0, 10, 25, 15)] :: pv_W) B.pre _ List.mem_cons_self
  subst hsz
  have hD := hD0
  generalize hAe : va_A [] s.heap.size = A at hE ⊢
  have hA : ∀ q : Nat, s.heap.size ≤ q → A q := fun q h => by rw [← hAe]; exact Or.inr h
  have hS : va_S A s.heap s.heap [] := va_S.rf
  have hP : va_P D pv_cl [(h0, .inr (0, [.ref (q 0), .int 0, .int 108, .ref (q 1), .int 0, .ref (q 2), .int 0, .ref (q 3), .ref (q 4), .int 1, .ref (q 5), .ref (q 6), .ref (q 7), .ref (q 8), .ref (q 9)]))] s.heap := hP
  have hl := lv_entry ([.ref h0, .int p0, .int p1, .ref o0]) (n := 5) (Nat.le_of_ble_eq_true rfl)
  rw [lg_entry_eq]
  generalize (lg_sl ([.ref h0, .int p0, .int p1, .ref o0]) ++ List.replicate (5 - (lg_sl ([.ref h0, .int p0, .int p1, .ref o0])).length) Slot.unset).toArray = ls at hl ⊢
  have hl : lv_has ls 5 [(0, .ref h0), (1, .int p0), (2, .int p1), (3, .ref o0)] := hl
  refine lv_aload_n hx hb dL_quotient_0 rfl (lv_at hl 3 rfl) ?_
  refine lv_iconst (v := 0) hx hb dL_quotient_1 (by decide) ?_
  refine lv_aload_n hx hb dL_quotient_2 rfl (lv_at hl 0 rfl) ?_
  refine lv_iload_n hx hb dL_quotient_3 rfl (lv_at hl 1 rfl) ?_
  refine lv_iload_n hx hb dL_quotient_4 rfl (lv_at hl 2 rfl) ?_
  have hF := pv_new hA hS.1
  refine pv_thrown (vx_runV (As := [.int p0, .int p1]) (rest := [.int 0, .ref o0]) ⟨hx, hb, hml, hown, hts⟩ (c_X11_quotient l hfl D _ h0 q p0 p1) (cwV 2 hts (pv_gV w6_195 w6_196 w6_197 w1_1 w6_198) rfl rfl rfl (by decide +kernel) ⟨Nat.le_of_ble_eq_true rfl, Nat.le_of_ble_eq_true rfl⟩) (pv_pV hE hS hF (hP.sub [0] rfl) (hK.sub [] rfl) (hD.sub [0] (by decide) rfl) (va_recv (ci := 0) (q0 := 0) hK hP rfl rfl)) rfl rfl hl.1 rfl (lv_room (Nat.le_of_ble_eq_true rfl)) dL_quotient_5 ⟨Nat.le_of_ble_eq_true rfl, Nat.le_of_ble_eq_true rfl⟩) (fun _ _ _ h => h) hS hF hF (fun E ce q9 u t H1 locs1 ht hvm hpx hbx hz1 hk1 hS hce hcv hcl => ?_)
  subst hbx
  have hP := pv_keep hP rfl hk1
  refine vx_catch (own := RL) (name := "java/lang/IndexOutOfBoundsException") hown [] ⟨0, 10, 13, 23⟩ _ ((vx_table (x := yL_law) B hcw).trans rfl) (fun z hz => nomatch hz) rfl (by decide) (hg w5_69 rfl) (va_Nw.use rfl (hE.2.2.1 _ (pv_ib w5_118 rfl))) hce hcv hcl ?_
  refine W.widen (k := 1) (n := 6) (Nat.le_of_ble_eq_true rfl) (Nat.le_of_ble_eq_true rfl) ?_
  refine lv_astore (lv' := [(4, .ref q9), (0, .ref h0), (1, .int p0), (2, .int p1), (3, .ref o0)]) hx hb dL_quotient_13 hl (by decide) rfl (fun ls hl => ?_)
  refine lv_iconst (v := 1) hx hb dL_quotient_15 (by decide) ?_
  refine W.widen (k := 1) (n := 6) (Nat.le_of_ble_eq_true rfl) (Nat.le_of_ble_eq_true rfl) ?_
  exact W.iret (v := 1) hx hb hr (fun t ht hW => ⟨⟨1, (), rfl, rfl, trivial⟩, hS.F ht⟩) hS.2.2 dL_quotient_16

theorem dL_remainder_0 : decode cL_remainder 0 = .ok (.aload_n 3, 1) := by decide +kernel
theorem dL_remainder_1 : decode cL_remainder 1 = .ok (.iconst 0, 1) := by decide +kernel
theorem dL_remainder_2 : decode cL_remainder 2 = .ok (.aload_n 0, 1) := by decide +kernel
theorem dL_remainder_3 : decode cL_remainder 3 = .ok (.iload_n 1, 1) := by decide +kernel
theorem dL_remainder_4 : decode cL_remainder 4 = .ok (.iload_n 2, 1) := by decide +kernel
theorem dL_remainder_5 : decode cL_remainder 5 = .ok (.invokevirtual 91, 3) := by decide +kernel
theorem w6_228 : (Jvm.Cond.methodLink "PolyforgeLaw" (91 : Nat) ({ cls := "Polyforge", name := "remainder", desc := "(II)I" } : Jvm.MethodName)) ∈ lw_tbl := pv_t6 (pv_mg 228 rfl)
theorem w6_231 : (Jvm.Cond.code ({ cls := "Polyforge", name := "remainder", desc := "(II)I" } : Jvm.MethodName) prog_1_method_24_code (5 : Nat) (Option.some Jvm.ClassFile.FieldType.int)) ∈ lw_tbl := pv_t6 (pv_mg 231 rfl)
theorem w6_230 : (Jvm.Cond.selects "Polyforge" ({ cls := "Polyforge", name := "remainder", desc := "(II)I" } : Jvm.MethodName) ({ cls := "Polyforge", name := "remainder", desc := "(II)I" } : Jvm.MethodName)) ∈ lw_tbl := pv_t6 (pv_mg 230 rfl)
theorem w6_229 : (Jvm.Cond.instanceMethod ({ cls := "Polyforge", name := "remainder", desc := "(II)I" } : Jvm.MethodName)) ∈ lw_tbl := pv_t6 (pv_mg 229 rfl)
theorem dL_remainder_13 : decode cL_remainder 13 = .ok (.astore 4, 2) := by decide +kernel
theorem dL_remainder_15 : decode cL_remainder 15 = .ok (.iconst 1, 1) := by decide +kernel
theorem dL_remainder_16 : decode cL_remainder 16 = .ok (.ireturn, 1) := by decide +kernel
set_option maxHeartbeats 4000000 in
set_option maxRecDepth 100000 in
/-- remainder: the first handler -/
theorem c_L_remainder (l : Launch) (hfl : l.stackTraces = false) (D : va_G) (sz : Nat) (h0 : Nat) (q : Nat → Nat) (p0 p1 : Int32) (o0 : Nat) : Met l yL_remainder (Cond.codeWith yL_remainder cL_remainder 5 (some .int) [(0, 10, 13, 23), (0, 10, 17, 25), (0, 10, 21, 27), (0, 10, 25, 15)] :: pv_W) ({ frames := 9, cells := 1, slots := 6, locals := 146 } : Room) (va_Pc [.ref h0, .int p0, .int p1, .ref o0] (pv_P D [] [(h0, .inr (0, [.ref (q 0), .int 0, .int 108, .ref (q 1), .int 0, .ref (q 2), .int 0, .ref (q 3), .ref (q 4), .int 1, .ref (q 5), .ref (q 6), .ref (q 7), .ref (q 8), .ref (q 9)]))] (va_A [] sz) sz)) (va_Qi (fun r (_ : Unit) => r = 1) (fun _ _ => True) (va_A [] sz)) 1 6 (va_A [] sz) := by
  refine pv_ofWH (cc := cL_remainder) (maxL := 5) (ret := (some .int)) (by decide) rfl ?_
  intro p e s m args below meth c s₁ B hml hv
  obtain ⟨rfl, hsz, hE, hP, hK, hD0⟩ := hv
  have hx := B.exec
  have hb := B.bytes
  have hr := B.returns
  have hts := fun (w : Cond) (h : w ∈ pv_W) => atoms_spec (ws := Cond.codeWith yL_remainder cL_remainder 5 (some .int) [(0, 10, 13, 23), (0, 10, 17, 25), (0, 10, 21, 27), (0, 10, 25, 15)] :: pv_W) B.pre w (List.mem_cons_of_mem _ h)
  have hg := fun {w : Cond} (h : w ∈ lw_tbl) (g : goodWord w = true) => hts w (pv_in h g)
  have hown : s.vm.findClass RL = some m.cls := findClass_of_methodNamed B.named
  have hlocks := B.notSynchronized
  have hcw := atoms_spec (ws := Cond.codeWith yL_remainder cL_remainder 5 (some .int) [(0, 10, 13, 23), (0, 10, 17, 25), (0, 10, 21, 27), (0, 10, 25, 15)] :: pv_W) B.pre _ List.mem_cons_self
  subst hsz
  have hD := hD0
  generalize hAe : va_A [] s.heap.size = A at hE ⊢
  have hA : ∀ q : Nat, s.heap.size ≤ q → A q := fun q h => by rw [← hAe]; exact Or.inr h
  have hS : va_S A s.heap s.heap [] := va_S.rf
  have hP : va_P D pv_cl [(h0, .inr (0, [.ref (q 0), .int 0, .int 108, .ref (q 1), .int 0, .ref (q 2), .int 0, .ref (q 3), .ref (q 4), .int 1, .ref (q 5), .ref (q 6), .ref (q 7), .ref (q 8), .ref (q 9)]))] s.heap := hP
  have hl := lv_entry ([.ref h0, .int p0, .int p1, .ref o0]) (n := 5) (Nat.le_of_ble_eq_true rfl)
  rw [lg_entry_eq]
  generalize (lg_sl ([.ref h0, .int p0, .int p1, .ref o0]) ++ List.replicate (5 - (lg_sl ([.ref h0, .int p0, .int p1, .ref o0])).length) Slot.unset).toArray = ls at hl ⊢
  have hl : lv_has ls 5 [(0, .ref h0), (1, .int p0), (2, .int p1), (3, .ref o0)] := hl
  refine lv_aload_n hx hb dL_remainder_0 rfl (lv_at hl 3 rfl) ?_
  refine lv_iconst (v := 0) hx hb dL_remainder_1 (by decide) ?_
  refine lv_aload_n hx hb dL_remainder_2 rfl (lv_at hl 0 rfl) ?_
  refine lv_iload_n hx hb dL_remainder_3 rfl (lv_at hl 1 rfl) ?_
  refine lv_iload_n hx hb dL_remainder_4 rfl (lv_at hl 2 rfl) ?_
  have hF := pv_new hA hS.1
  refine pv_thrown (vx_runV (As := [.int p0, .int p1]) (rest := [.int 0, .ref o0]) ⟨hx, hb, hml, hown, hts⟩ (c_X11_remainder l hfl D _ h0 q p0 p1) (cwV 2 hts (pv_gV w6_228 w6_229 w6_230 w1_1 w6_231) rfl rfl rfl (by decide +kernel) ⟨Nat.le_of_ble_eq_true rfl, Nat.le_of_ble_eq_true rfl⟩) (pv_pV hE hS hF (hP.sub [0] rfl) (hK.sub [] rfl) (hD.sub [0] (by decide) rfl) (va_recv (ci := 0) (q0 := 0) hK hP rfl rfl)) rfl rfl hl.1 rfl (lv_room (Nat.le_of_ble_eq_true rfl)) dL_remainder_5 ⟨Nat.le_of_ble_eq_true rfl, Nat.le_of_ble_eq_true rfl⟩) (fun _ _ _ h => h) hS hF hF (fun E ce q9 u t H1 locs1 ht hvm hpx hbx hz1 hk1 hS hce hcv hcl => ?_)
  subst hbx
  have hP := pv_keep hP rfl hk1
  refine vx_catch (own := RL) (name := "java/lang/IndexOutOfBoundsException") hown [] ⟨0, 10, 13, 23⟩ _ ((vx_table (x := yL_law) B hcw).trans rfl) (fun z hz => nomatch hz) rfl (by decide) (hg w5_69 rfl) (va_Nw.use rfl (hE.2.2.1 _ (pv_ib w5_118 rfl))) hce hcv hcl ?_
  refine W.widen (k := 1) (n := 6) (Nat.le_of_ble_eq_true rfl) (Nat.le_of_ble_eq_true rfl) ?_
  refine lv_astore (lv' := [(4, .ref q9), (0, .ref h0), (1, .int p0), (2, .int p1), (3, .ref o0)]) hx hb dL_remainder_13 hl (by decide) rfl (fun ls hl => ?_)
  refine lv_iconst (v := 1) hx hb dL_remainder_15 (by decide) ?_
  refine W.widen (k := 1) (n := 6) (Nat.le_of_ble_eq_true rfl) (Nat.le_of_ble_eq_true rfl) ?_
  exact W.iret (v := 1) hx hb hr (fun t ht hW => ⟨⟨1, (), rfl, rfl, trivial⟩, hS.F ht⟩) hS.2.2 dL_remainder_16

theorem dL_divisor_0 : decode cL_divisor 0 = .ok (.aload_n 3, 1) := by decide +kernel
theorem dL_divisor_1 : decode cL_divisor 1 = .ok (.iconst 0, 1) := by decide +kernel
theorem dL_divisor_2 : decode cL_divisor 2 = .ok (.aload_n 0, 1) := by decide +kernel
theorem dL_divisor_3 : decode cL_divisor 3 = .ok (.iload_n 1, 1) := by decide +kernel
theorem dL_divisor_4 : decode cL_divisor 4 = .ok (.iload_n 2, 1) := by decide +kernel
theorem dL_divisor_5 : decode cL_divisor 5 = .ok (.invokevirtual 94, 3) := by decide +kernel
theorem w6_239 : (Jvm.Cond.methodLink "PolyforgeLaw" (94 : Nat) ({ cls := "Polyforge", name := "divisor", desc := "(II)I" } : Jvm.MethodName)) ∈ lw_tbl := pv_t6 (pv_mg 239 rfl)
theorem w7_2 : (Jvm.Cond.code ({ cls := "Polyforge", name := "divisor", desc := "(II)I" } : Jvm.MethodName) prog_1_method_25_code (5 : Nat) (Option.some Jvm.ClassFile.FieldType.int)) ∈ lw_tbl := pv_t7 (pv_mg 2 rfl)
theorem w7_1 : (Jvm.Cond.selects "Polyforge" ({ cls := "Polyforge", name := "divisor", desc := "(II)I" } : Jvm.MethodName) ({ cls := "Polyforge", name := "divisor", desc := "(II)I" } : Jvm.MethodName)) ∈ lw_tbl := pv_t7 (pv_mg 1 rfl)
theorem w7_0 : (Jvm.Cond.instanceMethod ({ cls := "Polyforge", name := "divisor", desc := "(II)I" } : Jvm.MethodName)) ∈ lw_tbl := pv_t7 (pv_mg 0 rfl)
theorem dL_divisor_13 : decode cL_divisor 13 = .ok (.astore 4, 2) := by decide +kernel
theorem dL_divisor_15 : decode cL_divisor 15 = .ok (.iconst 1, 1) := by decide +kernel
theorem dL_divisor_16 : decode cL_divisor 16 = .ok (.ireturn, 1) := by decide +kernel
set_option maxHeartbeats 4000000 in
set_option maxRecDepth 100000 in
/-- divisor: the first handler -/
theorem c_L_divisor (l : Launch) (hfl : l.stackTraces = false) (D : va_G) (sz : Nat) (h0 : Nat) (q : Nat → Nat) (p0 p1 : Int32) (o0 : Nat) : Met l yL_divisor (Cond.codeWith yL_divisor cL_divisor 5 (some .int) [(0, 10, 13, 23), (0, 10, 17, 25), (0, 10, 21, 15)] :: pv_W) ({ frames := 9, cells := 1, slots := 6, locals := 146 } : Room) (va_Pc [.ref h0, .int p0, .int p1, .ref o0] (pv_P D [] [(h0, .inr (0, [.ref (q 0), .int 0, .int 108, .ref (q 1), .int 0, .ref (q 2), .int 0, .ref (q 3), .ref (q 4), .int 1, .ref (q 5), .ref (q 6), .ref (q 7), .ref (q 8), .ref (q 9)]))] (va_A [] sz) sz)) (va_Qi (fun r (_ : Unit) => r = 1) (fun _ _ => True) (va_A [] sz)) 1 6 (va_A [] sz) := by
  refine pv_ofWH (cc := cL_divisor) (maxL := 5) (ret := (some .int)) (by decide) rfl ?_
  intro p e s m args below meth c s₁ B hml hv
  obtain ⟨rfl, hsz, hE, hP, hK, hD0⟩ := hv
  have hx := B.exec
  have hb := B.bytes
  have hr := B.returns
  have hts := fun (w : Cond) (h : w ∈ pv_W) => atoms_spec (ws := Cond.codeWith yL_divisor cL_divisor 5 (some .int) [(0, 10, 13, 23), (0, 10, 17, 25), (0, 10, 21, 15)] :: pv_W) B.pre w (List.mem_cons_of_mem _ h)
  have hg := fun {w : Cond} (h : w ∈ lw_tbl) (g : goodWord w = true) => hts w (pv_in h g)
  have hown : s.vm.findClass RL = some m.cls := findClass_of_methodNamed B.named
  have hlocks := B.notSynchronized
  have hcw := atoms_spec (ws := Cond.codeWith yL_divisor cL_divisor 5 (some .int) [(0, 10, 13, 23), (0, 10, 17, 25), (0, 10, 21, 15)] :: pv_W) B.pre _ List.mem_cons_self
  subst hsz
  have hD := hD0
  generalize hAe : va_A [] s.heap.size = A at hE ⊢
  have hA : ∀ q : Nat, s.heap.size ≤ q → A q := fun q h => by rw [← hAe]; exact Or.inr h
  have hS : va_S A s.heap s.heap [] := va_S.rf
  have hP : va_P D pv_cl [(h0, .inr (0, [.ref (q 0), .int 0, .int 108, .ref (q 1), .int 0, .ref (q 2), .int 0, .ref (q 3), .ref (q 4), .int 1, .ref (q 5), .ref (q 6), .ref (q 7), .ref (q 8), .ref (q 9)]))] s.heap := hP
  have hl := lv_entry ([.ref h0, .int p0, .int p1, .ref o0]) (n := 5) (Nat.le_of_ble_eq_true rfl)
  rw [lg_entry_eq]
  generalize (lg_sl ([.ref h0, .int p0, .int p1, .ref o0]) ++ List.replicate (5 - (lg_sl ([.ref h0, .int p0, .int p1, .ref o0])).length) Slot.unset).toArray = ls at hl ⊢
  have hl : lv_has ls 5 [(0, .ref h0), (1, .int p0), (2, .int p1), (3, .ref o0)] := hl
  refine lv_aload_n hx hb dL_divisor_0 rfl (lv_at hl 3 rfl) ?_
  refine lv_iconst (v := 0) hx hb dL_divisor_1 (by decide) ?_
  refine lv_aload_n hx hb dL_divisor_2 rfl (lv_at hl 0 rfl) ?_
  refine lv_iload_n hx hb dL_divisor_3 rfl (lv_at hl 1 rfl) ?_
  refine lv_iload_n hx hb dL_divisor_4 rfl (lv_at hl 2 rfl) ?_
  have hF := pv_new hA hS.1
  refine pv_thrown (vx_runV (As := [.int p0, .int p1]) (rest := [.int 0, .ref o0]) ⟨hx, hb, hml, hown, hts⟩ (c_X11_divisor l hfl D _ h0 q p0 p1) (cwV 2 hts (pv_gV w6_239 w7_0 w7_1 w1_1 w7_2) rfl rfl rfl (by decide +kernel) ⟨Nat.le_of_ble_eq_true rfl, Nat.le_of_ble_eq_true rfl⟩) (pv_pV hE hS hF (hP.sub [0] rfl) (hK.sub [] rfl) (hD.sub [0] (by decide) rfl) (va_recv (ci := 0) (q0 := 0) hK hP rfl rfl)) rfl rfl hl.1 rfl (lv_room (Nat.le_of_ble_eq_true rfl)) dL_divisor_5 ⟨Nat.le_of_ble_eq_true rfl, Nat.le_of_ble_eq_true rfl⟩) (fun _ _ _ h => h) hS hF hF (fun E ce q9 u t H1 locs1 ht hvm hpx hbx hz1 hk1 hS hce hcv hcl => ?_)
  subst hbx
  have hP := pv_keep hP rfl hk1
  refine vx_catch (own := RL) (name := "java/lang/IndexOutOfBoundsException") hown [] ⟨0, 10, 13, 23⟩ _ ((vx_table (x := yL_law) B hcw).trans rfl) (fun z hz => nomatch hz) rfl (by decide) (hg w5_69 rfl) (va_Nw.use rfl (hE.2.2.1 _ (pv_ib w5_118 rfl))) hce hcv hcl ?_
  refine W.widen (k := 1) (n := 6) (Nat.le_of_ble_eq_true rfl) (Nat.le_of_ble_eq_true rfl) ?_
  refine lv_astore (lv' := [(4, .ref q9), (0, .ref h0), (1, .int p0), (2, .int p1), (3, .ref o0)]) hx hb dL_divisor_13 hl (by decide) rfl (fun ls hl => ?_)
  refine lv_iconst (v := 1) hx hb dL_divisor_15 (by decide) ?_
  refine W.widen (k := 1) (n := 6) (Nat.le_of_ble_eq_true rfl) (Nat.le_of_ble_eq_true rfl) ?_
  exact W.iret (v := 1) hx hb hr (fun t ht hW => ⟨⟨1, (), rfl, rfl, trivial⟩, hS.F ht⟩) hS.2.2 dL_divisor_16

theorem dL_factors_0 : decode cL_factors 0 = .ok (.aload_n 2, 1) := by decide +kernel
theorem dL_factors_1 : decode cL_factors 1 = .ok (.iconst 0, 1) := by decide +kernel
theorem dL_factors_2 : decode cL_factors 2 = .ok (.aload_n 0, 1) := by decide +kernel
theorem dL_factors_3 : decode cL_factors 3 = .ok (.iload_n 1, 1) := by decide +kernel
theorem dL_factors_4 : decode cL_factors 4 = .ok (.invokevirtual 97, 3) := by decide +kernel
theorem w7_10 : (Jvm.Cond.methodLink "PolyforgeLaw" (97 : Nat) ({ cls := "Polyforge", name := "factors", desc := "(I)I" } : Jvm.MethodName)) ∈ lw_tbl := pv_t7 (pv_mg 10 rfl)
theorem w7_13 : (Jvm.Cond.code ({ cls := "Polyforge", name := "factors", desc := "(I)I" } : Jvm.MethodName) prog_1_method_26_code (3 : Nat) (Option.some Jvm.ClassFile.FieldType.int)) ∈ lw_tbl := pv_t7 (pv_mg 13 rfl)
theorem w7_12 : (Jvm.Cond.selects "Polyforge" ({ cls := "Polyforge", name := "factors", desc := "(I)I" } : Jvm.MethodName) ({ cls := "Polyforge", name := "factors", desc := "(I)I" } : Jvm.MethodName)) ∈ lw_tbl := pv_t7 (pv_mg 12 rfl)
theorem w7_11 : (Jvm.Cond.instanceMethod ({ cls := "Polyforge", name := "factors", desc := "(I)I" } : Jvm.MethodName)) ∈ lw_tbl := pv_t7 (pv_mg 11 rfl)
theorem dL_factors_12 : decode cL_factors 12 = .ok (.astore_n 3, 1) := by decide +kernel
theorem dL_factors_13 : decode cL_factors 13 = .ok (.iconst 1, 1) := by decide +kernel
theorem dL_factors_14 : decode cL_factors 14 = .ok (.ireturn, 1) := by decide +kernel
set_option maxHeartbeats 4000000 in
set_option maxRecDepth 100000 in
/-- factors: the first handler -/
theorem c_L_factors (l : Launch) (hfl : l.stackTraces = false) (D : va_G) (sz : Nat) (h0 : Nat) (q : Nat → Nat) (p0 : Int32) (o0 : Nat) : Met l yL_factors (Cond.codeWith yL_factors cL_factors 4 (some .int) [(0, 9, 12, 23), (0, 9, 15, 25)] :: pv_W) ({ frames := 9, cells := 1, slots := 6, locals := 144 } : Room) (va_Pc [.ref h0, .int p0, .ref o0] (pv_P D [] [(h0, .inr (0, [.ref (q 0), .int 0, .int 108, .ref (q 1), .int 0, .ref (q 2), .int 0, .ref (q 3), .ref (q 4), .int 1, .ref (q 5), .ref (q 6), .ref (q 7), .ref (q 8), .ref (q 9)]))] (va_A [] sz) sz)) (va_Qi (fun r (_ : Unit) => r = 1) (fun _ _ => True) (va_A [] sz)) 1 6 (va_A [] sz) := by
  refine pv_ofWH (cc := cL_factors) (maxL := 4) (ret := (some .int)) (by decide) rfl ?_
  intro p e s m args below meth c s₁ B hml hv
  obtain ⟨rfl, hsz, hE, hP, hK, hD0⟩ := hv
  have hx := B.exec
  have hb := B.bytes
  have hr := B.returns
  have hts := fun (w : Cond) (h : w ∈ pv_W) => atoms_spec (ws := Cond.codeWith yL_factors cL_factors 4 (some .int) [(0, 9, 12, 23), (0, 9, 15, 25)] :: pv_W) B.pre w (List.mem_cons_of_mem _ h)
  have hg := fun {w : Cond} (h : w ∈ lw_tbl) (g : goodWord w = true) => hts w (pv_in h g)
  have hown : s.vm.findClass RL = some m.cls := findClass_of_methodNamed B.named
  have hlocks := B.notSynchronized
  have hcw := atoms_spec (ws := Cond.codeWith yL_factors cL_factors 4 (some .int) [(0, 9, 12, 23), (0, 9, 15, 25)] :: pv_W) B.pre _ List.mem_cons_self
  subst hsz
  have hD := hD0
  generalize hAe : va_A [] s.heap.size = A at hE ⊢
  have hA : ∀ q : Nat, s.heap.size ≤ q → A q := fun q h => by rw [← hAe]; exact Or.inr h
  have hS : va_S A s.heap s.heap [] := va_S.rf
  have hP : va_P D pv_cl [(h0, .inr (0, [.ref (q 0), .int 0, .int 108, .ref (q 1), .int 0, .ref (q 2), .int 0, .ref (q 3), .ref (q 4), .int 1, .ref (q 5), .ref (q 6), .ref (q 7), .ref (q 8), .ref (q 9)]))] s.heap := hP
  have hl := lv_entry ([.ref h0, .int p0, .ref o0]) (n := 4) (Nat.le_of_ble_eq_true rfl)
  rw [lg_entry_eq]
  generalize (lg_sl ([.ref h0, .int p0, .ref o0]) ++ List.replicate (4 - (lg_sl ([.ref h0, .int p0, .ref o0])).length) Slot.unset).toArray = ls at hl ⊢
  have hl : lv_has ls 4 [(0, .ref h0), (1, .int p0), (2, .ref o0)] := hl
  refine lv_aload_n hx hb dL_factors_0 rfl (lv_at hl 2 rfl) ?_
  refine lv_iconst (v := 0) hx hb dL_factors_1 (by decide) ?_
  refine lv_aload_n hx hb dL_factors_2 rfl (lv_at hl 0 rfl) ?_
  refine lv_iload_n hx hb dL_factors_3 rfl (lv_at hl 1 rfl) ?_
  have hF := pv_new hA hS.1
  refine pv_thrown (vx_runV (As := [.int p0]) (rest := [.int 0, .ref o0]) ⟨hx, hb, hml, hown, hts⟩ (c_X11_factors l hfl D _ h0 q p0) (cwV 1 hts (pv_gV w7_10 w7_11 w7_12 w1_1 w7_13) rfl rfl rfl (by decide +kernel) ⟨Nat.le_of_ble_eq_true rfl, Nat.le_of_ble_eq_true rfl⟩) (pv_pV hE hS hF (hP.sub [0] rfl) (hK.sub [] rfl) (hD.sub [0] (by decide) rfl) (va_recv (ci := 0) (q0 := 0) hK hP rfl rfl)) rfl rfl hl.1 rfl (lv_room (Nat.le_of_ble_eq_true rfl)) dL_factors_4 ⟨Nat.le_of_ble_eq_true rfl, Nat.le_of_ble_eq_true rfl⟩) (fun _ _ _ h => h) hS hF hF (fun E ce q9 u t H1 locs1 ht hvm hpx hbx hz1 hk1 hS hce hcv hcl => ?_)
  subst hbx
  have hP := pv_keep hP rfl hk1
  refine vx_catch (own := RL) (name := "java/lang/IndexOutOfBoundsException") hown [] ⟨0, 9, 12, 23⟩ _ ((vx_table (x := yL_law) B hcw).trans rfl) (fun z hz => nomatch hz) rfl (by decide) (hg w5_69 rfl) (va_Nw.use rfl (hE.2.2.1 _ (pv_ib w5_118 rfl))) hce hcv hcl ?_
  refine W.widen (k := 1) (n := 6) (Nat.le_of_ble_eq_true rfl) (Nat.le_of_ble_eq_true rfl) ?_
  refine lv_astore_n (lv' := [(3, .ref q9), (0, .ref h0), (1, .int p0), (2, .ref o0)]) hx hb dL_factors_12 rfl hl (by decide) rfl (fun ls hl => ?_)
  refine lv_iconst (v := 1) hx hb dL_factors_13 (by decide) ?_
  refine W.widen (k := 1) (n := 6) (Nat.le_of_ble_eq_true rfl) (Nat.le_of_ble_eq_true rfl) ?_
  exact W.iret (v := 1) hx hb hr (fun t ht hW => ⟨⟨1, (), rfl, rfl, trivial⟩, hS.F ht⟩) hS.2.2 dL_factors_14

theorem dL_factorAt_0 : decode cL_factorAt 0 = .ok (.aload_n 3, 1) := by decide +kernel
theorem dL_factorAt_1 : decode cL_factorAt 1 = .ok (.iconst 0, 1) := by decide +kernel
theorem dL_factorAt_2 : decode cL_factorAt 2 = .ok (.aload_n 0, 1) := by decide +kernel
theorem dL_factorAt_3 : decode cL_factorAt 3 = .ok (.iload_n 1, 1) := by decide +kernel
theorem dL_factorAt_4 : decode cL_factorAt 4 = .ok (.iload_n 2, 1) := by decide +kernel
theorem dL_factorAt_5 : decode cL_factorAt 5 = .ok (.invokevirtual 100, 3) := by decide +kernel
theorem w7_21 : (Jvm.Cond.methodLink "PolyforgeLaw" (100 : Nat) ({ cls := "Polyforge", name := "factorAt", desc := "(II)I" } : Jvm.MethodName)) ∈ lw_tbl := pv_t7 (pv_mg 21 rfl)
theorem w7_24 : (Jvm.Cond.code ({ cls := "Polyforge", name := "factorAt", desc := "(II)I" } : Jvm.MethodName) prog_1_method_27_code (4 : Nat) (Option.some Jvm.ClassFile.FieldType.int)) ∈ lw_tbl := pv_t7 (pv_mg 24 rfl)
theorem w7_23 : (Jvm.Cond.selects "Polyforge" ({ cls := "Polyforge", name := "factorAt", desc := "(II)I" } : Jvm.MethodName) ({ cls := "Polyforge", name := "factorAt", desc := "(II)I" } : Jvm.MethodName)) ∈ lw_tbl := pv_t7 (pv_mg 23 rfl)
theorem w7_22 : (Jvm.Cond.instanceMethod ({ cls := "Polyforge", name := "factorAt", desc := "(II)I" } : Jvm.MethodName)) ∈ lw_tbl := pv_t7 (pv_mg 22 rfl)
theorem dL_factorAt_13 : decode cL_factorAt 13 = .ok (.astore 4, 2) := by decide +kernel
theorem dL_factorAt_15 : decode cL_factorAt 15 = .ok (.iconst 1, 1) := by decide +kernel
theorem dL_factorAt_16 : decode cL_factorAt 16 = .ok (.ireturn, 1) := by decide +kernel
set_option maxHeartbeats 4000000 in
set_option maxRecDepth 100000 in
/-- factorAt: the first handler -/
theorem c_L_factorAt (l : Launch) (hfl : l.stackTraces = false) (D : va_G) (sz : Nat) (h0 : Nat) (q : Nat → Nat) (p0 p1 : Int32) (o0 : Nat) : Met l yL_factorAt (Cond.codeWith yL_factorAt cL_factorAt 5 (some .int) [(0, 10, 13, 23), (0, 10, 17, 25), (0, 10, 21, 55), (0, 10, 25, 15)] :: pv_W) ({ frames := 9, cells := 1, slots := 6, locals := 145 } : Room) (va_Pc [.ref h0, .int p0, .int p1, .ref o0] (pv_P D [] [(h0, .inr (0, [.ref (q 0), .int 0, .int 108, .ref (q 1), .int 0, .ref (q 2), .int 0, .ref (q 3), .ref (q 4), .int 1, .ref (q 5), .ref (q 6), .ref (q 7), .ref (q 8), .ref (q 9)]))] (va_A [] sz) sz)) (va_Qi (fun r (_ : Unit) => r = 1) (fun _ _ => True) (va_A [] sz)) 1 6 (va_A [] sz) := by
  refine pv_ofWH (cc := cL_factorAt) (maxL := 5) (ret := (some .int)) (by decide) rfl ?_
  intro p e s m args below meth c s₁ B hml hv
  obtain ⟨rfl, hsz, hE, hP, hK, hD0⟩ := hv
  have hx := B.exec
  have hb := B.bytes
  have hr := B.returns
  have hts := fun (w : Cond) (h : w ∈ pv_W) => atoms_spec (ws := Cond.codeWith yL_factorAt cL_factorAt 5 (some .int) [(0, 10, 13, 23), (0, 10, 17, 25), (0, 10, 21, 55), (0, 10, 25, 15)] :: pv_W) B.pre w (List.mem_cons_of_mem _ h)
  have hg := fun {w : Cond} (h : w ∈ lw_tbl) (g : goodWord w = true) => hts w (pv_in h g)
  have hown : s.vm.findClass RL = some m.cls := findClass_of_methodNamed B.named
  have hlocks := B.notSynchronized
  have hcw := atoms_spec (ws := Cond.codeWith yL_factorAt cL_factorAt 5 (some .int) [(0, 10, 13, 23), (0, 10, 17, 25), (0, 10, 21, 55), (0, 10, 25, 15)] :: pv_W) B.pre _ List.mem_cons_self
  subst hsz
  have hD := hD0
  generalize hAe : va_A [] s.heap.size = A at hE ⊢
  have hA : ∀ q : Nat, s.heap.size ≤ q → A q := fun q h => by rw [← hAe]; exact Or.inr h
  have hS : va_S A s.heap s.heap [] := va_S.rf
  have hP : va_P D pv_cl [(h0, .inr (0, [.ref (q 0), .int 0, .int 108, .ref (q 1), .int 0, .ref (q 2), .int 0, .ref (q 3), .ref (q 4), .int 1, .ref (q 5), .ref (q 6), .ref (q 7), .ref (q 8), .ref (q 9)]))] s.heap := hP
  have hl := lv_entry ([.ref h0, .int p0, .int p1, .ref o0]) (n := 5) (Nat.le_of_ble_eq_true rfl)
  rw [lg_entry_eq]
  generalize (lg_sl ([.ref h0, .int p0, .int p1, .ref o0]) ++ List.replicate (5 - (lg_sl ([.ref h0, .int p0, .int p1, .ref o0])).length) Slot.unset).toArray = ls at hl ⊢
  have hl : lv_has ls 5 [(0, .ref h0), (1, .int p0), (2, .int p1), (3, .ref o0)] := hl
  refine lv_aload_n hx hb dL_factorAt_0 rfl (lv_at hl 3 rfl) ?_
  refine lv_iconst (v := 0) hx hb dL_factorAt_1 (by decide) ?_
  refine lv_aload_n hx hb dL_factorAt_2 rfl (lv_at hl 0 rfl) ?_
  refine lv_iload_n hx hb dL_factorAt_3 rfl (lv_at hl 1 rfl) ?_
  refine lv_iload_n hx hb dL_factorAt_4 rfl (lv_at hl 2 rfl) ?_
  have hF := pv_new hA hS.1
  refine pv_thrown (vx_runV (As := [.int p0, .int p1]) (rest := [.int 0, .ref o0]) ⟨hx, hb, hml, hown, hts⟩ (c_X11_factorAt l hfl D _ h0 q p0 p1) (cwV 2 hts (pv_gV w7_21 w7_22 w7_23 w1_1 w7_24) rfl rfl rfl (by decide +kernel) ⟨Nat.le_of_ble_eq_true rfl, Nat.le_of_ble_eq_true rfl⟩) (pv_pV hE hS hF (hP.sub [0] rfl) (hK.sub [] rfl) (hD.sub [0] (by decide) rfl) (va_recv (ci := 0) (q0 := 0) hK hP rfl rfl)) rfl rfl hl.1 rfl (lv_room (Nat.le_of_ble_eq_true rfl)) dL_factorAt_5 ⟨Nat.le_of_ble_eq_true rfl, Nat.le_of_ble_eq_true rfl⟩) (fun _ _ _ h => h) hS hF hF (fun E ce q9 u t H1 locs1 ht hvm hpx hbx hz1 hk1 hS hce hcv hcl => ?_)
  subst hbx
  have hP := pv_keep hP rfl hk1
  refine vx_catch (own := RL) (name := "java/lang/IndexOutOfBoundsException") hown [] ⟨0, 10, 13, 23⟩ _ ((vx_table (x := yL_law) B hcw).trans rfl) (fun z hz => nomatch hz) rfl (by decide) (hg w5_69 rfl) (va_Nw.use rfl (hE.2.2.1 _ (pv_ib w5_118 rfl))) hce hcv hcl ?_
  refine W.widen (k := 1) (n := 6) (Nat.le_of_ble_eq_true rfl) (Nat.le_of_ble_eq_true rfl) ?_
  refine lv_astore (lv' := [(4, .ref q9), (0, .ref h0), (1, .int p0), (2, .int p1), (3, .ref o0)]) hx hb dL_factorAt_13 hl (by decide) rfl (fun ls hl => ?_)
  refine lv_iconst (v := 1) hx hb dL_factorAt_15 (by decide) ?_
  refine W.widen (k := 1) (n := 6) (Nat.le_of_ble_eq_true rfl) (Nat.le_of_ble_eq_true rfl) ?_
  exact W.iret (v := 1) hx hb hr (fun t ht hW => ⟨⟨1, (), rfl, rfl, trivial⟩, hS.F ht⟩) hS.2.2 dL_factorAt_16

theorem dL_multiplicity_0 : decode cL_multiplicity 0 = .ok (.aload_n 3, 1) := by decide +kernel
theorem dL_multiplicity_1 : decode cL_multiplicity 1 = .ok (.iconst 0, 1) := by decide +kernel
theorem dL_multiplicity_2 : decode cL_multiplicity 2 = .ok (.aload_n 0, 1) := by decide +kernel
theorem dL_multiplicity_3 : decode cL_multiplicity 3 = .ok (.iload_n 1, 1) := by decide +kernel
theorem dL_multiplicity_4 : decode cL_multiplicity 4 = .ok (.iload_n 2, 1) := by decide +kernel
theorem dL_multiplicity_5 : decode cL_multiplicity 5 = .ok (.invokevirtual 103, 3) := by decide +kernel
theorem w7_34 : (Jvm.Cond.methodLink "PolyforgeLaw" (103 : Nat) ({ cls := "Polyforge", name := "multiplicity", desc := "(II)I" } : Jvm.MethodName)) ∈ lw_tbl := pv_t7 (pv_mg 34 rfl)
theorem w7_37 : (Jvm.Cond.code ({ cls := "Polyforge", name := "multiplicity", desc := "(II)I" } : Jvm.MethodName) prog_1_method_28_code (4 : Nat) (Option.some Jvm.ClassFile.FieldType.int)) ∈ lw_tbl := pv_t7 (pv_mg 37 rfl)
theorem w7_36 : (Jvm.Cond.selects "Polyforge" ({ cls := "Polyforge", name := "multiplicity", desc := "(II)I" } : Jvm.MethodName) ({ cls := "Polyforge", name := "multiplicity", desc := "(II)I" } : Jvm.MethodName)) ∈ lw_tbl := pv_t7 (pv_mg 36 rfl)
theorem w7_35 : (Jvm.Cond.instanceMethod ({ cls := "Polyforge", name := "multiplicity", desc := "(II)I" } : Jvm.MethodName)) ∈ lw_tbl := pv_t7 (pv_mg 35 rfl)
theorem dL_multiplicity_13 : decode cL_multiplicity 13 = .ok (.astore 4, 2) := by decide +kernel
theorem dL_multiplicity_15 : decode cL_multiplicity 15 = .ok (.iconst 1, 1) := by decide +kernel
theorem dL_multiplicity_16 : decode cL_multiplicity 16 = .ok (.ireturn, 1) := by decide +kernel
set_option maxHeartbeats 4000000 in
set_option maxRecDepth 100000 in
/-- multiplicity: the first handler -/
theorem c_L_multiplicity (l : Launch) (hfl : l.stackTraces = false) (D : va_G) (sz : Nat) (h0 : Nat) (q : Nat → Nat) (p0 p1 : Int32) (o0 : Nat) : Met l yL_multiplicity (Cond.codeWith yL_multiplicity cL_multiplicity 5 (some .int) [(0, 10, 13, 23), (0, 10, 17, 25), (0, 10, 21, 55)] :: pv_W) ({ frames := 9, cells := 1, slots := 6, locals := 145 } : Room) (va_Pc [.ref h0, .int p0, .int p1, .ref o0] (pv_P D [] [(h0, .inr (0, [.ref (q 0), .int 0, .int 108, .ref (q 1), .int 0, .ref (q 2), .int 0, .ref (q 3), .ref (q 4), .int 1, .ref (q 5), .ref (q 6), .ref (q 7), .ref (q 8), .ref (q 9)]))] (va_A [] sz) sz)) (va_Qi (fun r (_ : Unit) => r = 1) (fun _ _ => True) (va_A [] sz)) 1 6 (va_A [] sz) := by
  refine pv_ofWH (cc := cL_multiplicity) (maxL := 5) (ret := (some .int)) (by decide) rfl ?_
  intro p e s m args below meth c s₁ B hml hv
  obtain ⟨rfl, hsz, hE, hP, hK, hD0⟩ := hv
  have hx := B.exec
  have hb := B.bytes
  have hr := B.returns
  have hts := fun (w : Cond) (h : w ∈ pv_W) => atoms_spec (ws := Cond.codeWith yL_multiplicity cL_multiplicity 5 (some .int) [(0, 10, 13, 23), (0, 10, 17, 25), (0, 10, 21, 55)] :: pv_W) B.pre w (List.mem_cons_of_mem _ h)
  have hg := fun {w : Cond} (h : w ∈ lw_tbl) (g : goodWord w = true) => hts w (pv_in h g)
  have hown : s.vm.findClass RL = some m.cls := findClass_of_methodNamed B.named
  have hlocks := B.notSynchronized
  have hcw := atoms_spec (ws := Cond.codeWith yL_multiplicity cL_multiplicity 5 (some .int) [(0, 10, 13, 23), (0, 10, 17, 25), (0, 10, 21, 55)] :: pv_W) B.pre _ List.mem_cons_self
  subst hsz
  have hD := hD0
  generalize hAe : va_A [] s.heap.size = A at hE ⊢
  have hA : ∀ q : Nat, s.heap.size ≤ q → A q := fun q h => by rw [← hAe]; exact Or.inr h
  have hS : va_S A s.heap s.heap [] := va_S.rf
  have hP : va_P D pv_cl [(h0, .inr (0, [.ref (q 0), .int 0, .int 108, .ref (q 1), .int 0, .ref (q 2), .int 0, .ref (q 3), .ref (q 4), .int 1, .ref (q 5), .ref (q 6), .ref (q 7), .ref (q 8), .ref (q 9)]))] s.heap := hP
  have hl := lv_entry ([.ref h0, .int p0, .int p1, .ref o0]) (n := 5) (Nat.le_of_ble_eq_true rfl)
  rw [lg_entry_eq]
  generalize (lg_sl ([.ref h0, .int p0, .int p1, .ref o0]) ++ List.replicate (5 - (lg_sl ([.ref h0, .int p0, .int p1, .ref o0])).length) Slot.unset).toArray = ls at hl ⊢
  have hl : lv_has ls 5 [(0, .ref h0), (1, .int p0), (2, .int p1), (3, .ref o0)] := hl
  refine lv_aload_n hx hb dL_multiplicity_0 rfl (lv_at hl 3 rfl) ?_
  refine lv_iconst (v := 0) hx hb dL_multiplicity_1 (by decide) ?_
  refine lv_aload_n hx hb dL_multiplicity_2 rfl (lv_at hl 0 rfl) ?_
  refine lv_iload_n hx hb dL_multiplicity_3 rfl (lv_at hl 1 rfl) ?_
  refine lv_iload_n hx hb dL_multiplicity_4 rfl (lv_at hl 2 rfl) ?_
  have hF := pv_new hA hS.1
  refine pv_thrown (vx_runV (As := [.int p0, .int p1]) (rest := [.int 0, .ref o0]) ⟨hx, hb, hml, hown, hts⟩ (c_X11_multiplicity l hfl D _ h0 q p0 p1) (cwV 2 hts (pv_gV w7_34 w7_35 w7_36 w1_1 w7_37) rfl rfl rfl (by decide +kernel) ⟨Nat.le_of_ble_eq_true rfl, Nat.le_of_ble_eq_true rfl⟩) (pv_pV hE hS hF (hP.sub [0] rfl) (hK.sub [] rfl) (hD.sub [0] (by decide) rfl) (va_recv (ci := 0) (q0 := 0) hK hP rfl rfl)) rfl rfl hl.1 rfl (lv_room (Nat.le_of_ble_eq_true rfl)) dL_multiplicity_5 ⟨Nat.le_of_ble_eq_true rfl, Nat.le_of_ble_eq_true rfl⟩) (fun _ _ _ h => h) hS hF hF (fun E ce q9 u t H1 locs1 ht hvm hpx hbx hz1 hk1 hS hce hcv hcl => ?_)
  subst hbx
  have hP := pv_keep hP rfl hk1
  refine vx_catch (own := RL) (name := "java/lang/IndexOutOfBoundsException") hown [] ⟨0, 10, 13, 23⟩ _ ((vx_table (x := yL_law) B hcw).trans rfl) (fun z hz => nomatch hz) rfl (by decide) (hg w5_69 rfl) (va_Nw.use rfl (hE.2.2.1 _ (pv_ib w5_118 rfl))) hce hcv hcl ?_
  refine W.widen (k := 1) (n := 6) (Nat.le_of_ble_eq_true rfl) (Nat.le_of_ble_eq_true rfl) ?_
  refine lv_astore (lv' := [(4, .ref q9), (0, .ref h0), (1, .int p0), (2, .int p1), (3, .ref o0)]) hx hb dL_multiplicity_13 hl (by decide) rfl (fun ls hl => ?_)
  refine lv_iconst (v := 1) hx hb dL_multiplicity_15 (by decide) ?_
  refine W.widen (k := 1) (n := 6) (Nat.le_of_ble_eq_true rfl) (Nat.le_of_ble_eq_true rfl) ?_
  exact W.iret (v := 1) hx hb hr (fun t ht hW => ⟨⟨1, (), rfl, rfl, trivial⟩, hS.F ht⟩) hS.2.2 dL_multiplicity_16

theorem dL_isIrreducible_0 : decode cL_isIrreducible 0 = .ok (.aload_n 2, 1) := by decide +kernel
theorem dL_isIrreducible_1 : decode cL_isIrreducible 1 = .ok (.iconst 0, 1) := by decide +kernel
theorem dL_isIrreducible_2 : decode cL_isIrreducible 2 = .ok (.aload_n 0, 1) := by decide +kernel
theorem dL_isIrreducible_3 : decode cL_isIrreducible 3 = .ok (.iload_n 1, 1) := by decide +kernel
theorem dL_isIrreducible_4 : decode cL_isIrreducible 4 = .ok (.invokevirtual 106, 3) := by decide +kernel
theorem w7_42 : (Jvm.Cond.methodLink "PolyforgeLaw" (106 : Nat) ({ cls := "Polyforge", name := "isIrreducible", desc := "(I)Z" } : Jvm.MethodName)) ∈ lw_tbl := pv_t7 (pv_mg 42 rfl)
theorem w7_45 : (Jvm.Cond.code ({ cls := "Polyforge", name := "isIrreducible", desc := "(I)Z" } : Jvm.MethodName) prog_1_method_29_code (3 : Nat) (Option.some Jvm.ClassFile.FieldType.boolean)) ∈ lw_tbl := pv_t7 (pv_mg 45 rfl)
theorem w7_44 : (Jvm.Cond.selects "Polyforge" ({ cls := "Polyforge", name := "isIrreducible", desc := "(I)Z" } : Jvm.MethodName) ({ cls := "Polyforge", name := "isIrreducible", desc := "(I)Z" } : Jvm.MethodName)) ∈ lw_tbl := pv_t7 (pv_mg 44 rfl)
theorem w7_43 : (Jvm.Cond.instanceMethod ({ cls := "Polyforge", name := "isIrreducible", desc := "(I)Z" } : Jvm.MethodName)) ∈ lw_tbl := pv_t7 (pv_mg 43 rfl)
theorem dL_isIrreducible_19 : decode cL_isIrreducible 19 = .ok (.astore_n 3, 1) := by decide +kernel
theorem dL_isIrreducible_20 : decode cL_isIrreducible 20 = .ok (.iconst 1, 1) := by decide +kernel
theorem dL_isIrreducible_21 : decode cL_isIrreducible 21 = .ok (.ireturn, 1) := by decide +kernel
set_option maxHeartbeats 4000000 in
set_option maxRecDepth 100000 in
/-- isIrreducible: the first handler -/
theorem c_L_isIrreducible (l : Launch) (hfl : l.stackTraces = false) (D : va_G) (sz : Nat) (h0 : Nat) (q : Nat → Nat) (p0 : Int32) (o0 : Nat) : Met l yL_isIrreducible (Cond.codeWith yL_isIrreducible cL_isIrreducible 4 (some .int) [(0, 16, 19, 23), (0, 16, 22, 25)] :: pv_W) ({ frames := 9, cells := 1, slots := 6, locals := 144 } : Room) (va_Pc [.ref h0, .int p0, .ref o0] (pv_P D [] [(h0, .inr (0, [.ref (q 0), .int 0, .int 108, .ref (q 1), .int 0, .ref (q 2), .int 0, .ref (q 3), .ref (q 4), .int 1, .ref (q 5), .ref (q 6), .ref (q 7), .ref (q 8), .ref (q 9)]))] (va_A [] sz) sz)) (va_Qi (fun r (_ : Unit) => r = 1) (fun _ _ => True) (va_A [] sz)) 1 6 (va_A [] sz) := by
  refine pv_ofWH (cc := cL_isIrreducible) (maxL := 4) (ret := (some .int)) (by decide) rfl ?_
  intro p e s m args below meth c s₁ B hml hv
  obtain ⟨rfl, hsz, hE, hP, hK, hD0⟩ := hv
  have hx := B.exec
  have hb := B.bytes
  have hr := B.returns
  have hts := fun (w : Cond) (h : w ∈ pv_W) => atoms_spec (ws := Cond.codeWith yL_isIrreducible cL_isIrreducible 4 (some .int) [(0, 16, 19, 23), (0, 16, 22, 25)] :: pv_W) B.pre w (List.mem_cons_of_mem _ h)
  have hg := fun {w : Cond} (h : w ∈ lw_tbl) (g : goodWord w = true) => hts w (pv_in h g)
  have hown : s.vm.findClass RL = some m.cls := findClass_of_methodNamed B.named
  have hlocks := B.notSynchronized
  have hcw := atoms_spec (ws := Cond.codeWith yL_isIrreducible cL_isIrreducible 4 (some .int) [(0, 16, 19, 23), (0, 16, 22, 25)] :: pv_W) B.pre _ List.mem_cons_self
  subst hsz
  have hD := hD0
  generalize hAe : va_A [] s.heap.size = A at hE ⊢
  have hA : ∀ q : Nat, s.heap.size ≤ q → A q := fun q h => by rw [← hAe]; exact Or.inr h
  have hS : va_S A s.heap s.heap [] := va_S.rf
  have hP : va_P D pv_cl [(h0, .inr (0, [.ref (q 0), .int 0, .int 108, .ref (q 1), .int 0, .ref (q 2), .int 0, .ref (q 3), .ref (q 4), .int 1, .ref (q 5), .ref (q 6), .ref (q 7), .ref (q 8), .ref (q 9)]))] s.heap := hP
  have hl := lv_entry ([.ref h0, .int p0, .ref o0]) (n := 4) (Nat.le_of_ble_eq_true rfl)
  rw [lg_entry_eq]
  generalize (lg_sl ([.ref h0, .int p0, .ref o0]) ++ List.replicate (4 - (lg_sl ([.ref h0, .int p0, .ref o0])).length) Slot.unset).toArray = ls at hl ⊢
  have hl : lv_has ls 4 [(0, .ref h0), (1, .int p0), (2, .ref o0)] := hl
  refine lv_aload_n hx hb dL_isIrreducible_0 rfl (lv_at hl 2 rfl) ?_
  refine lv_iconst (v := 0) hx hb dL_isIrreducible_1 (by decide) ?_
  refine lv_aload_n hx hb dL_isIrreducible_2 rfl (lv_at hl 0 rfl) ?_
  refine lv_iload_n hx hb dL_isIrreducible_3 rfl (lv_at hl 1 rfl) ?_
  have hF := pv_new hA hS.1
  refine pv_thrown (vx_runV (As := [.int p0]) (rest := [.int 0, .ref o0]) ⟨hx, hb, hml, hown, hts⟩ (c_X11_isIrreducible l hfl D _ h0 q p0) (cwV 1 hts (pv_gV w7_42 w7_43 w7_44 w1_1 w7_45) rfl rfl rfl (by decide +kernel) ⟨Nat.le_of_ble_eq_true rfl, Nat.le_of_ble_eq_true rfl⟩) (pv_pV hE hS hF (hP.sub [0] rfl) (hK.sub [] rfl) (hD.sub [0] (by decide) rfl) (va_recv (ci := 0) (q0 := 0) hK hP rfl rfl)) rfl rfl hl.1 rfl (lv_room (Nat.le_of_ble_eq_true rfl)) dL_isIrreducible_4 ⟨Nat.le_of_ble_eq_true rfl, Nat.le_of_ble_eq_true rfl⟩) (fun _ _ _ h => h) hS hF hF (fun E ce q9 u t H1 locs1 ht hvm hpx hbx hz1 hk1 hS hce hcv hcl => ?_)
  subst hbx
  have hP := pv_keep hP rfl hk1
  refine vx_catch (own := RL) (name := "java/lang/IndexOutOfBoundsException") hown [] ⟨0, 16, 19, 23⟩ _ ((vx_table (x := yL_law) B hcw).trans rfl) (fun z hz => nomatch hz) rfl (by decide) (hg w5_69 rfl) (va_Nw.use rfl (hE.2.2.1 _ (pv_ib w5_118 rfl))) hce hcv hcl ?_
  refine W.widen (k := 1) (n := 6) (Nat.le_of_ble_eq_true rfl) (Nat.le_of_ble_eq_true rfl) ?_
  refine lv_astore_n (lv' := [(3, .ref q9), (0, .ref h0), (1, .int p0), (2, .ref o0)]) hx hb dL_isIrreducible_19 rfl hl (by decide) rfl (fun ls hl => ?_)
  refine lv_iconst (v := 1) hx hb dL_isIrreducible_20 (by decide) ?_
  refine W.widen (k := 1) (n := 6) (Nat.le_of_ble_eq_true rfl) (Nat.le_of_ble_eq_true rfl) ?_
  exact W.iret (v := 1) hx hb hr (fun t ht hW => ⟨⟨1, (), rfl, rfl, trivial⟩, hS.F ht⟩) hS.2.2 dL_isIrreducible_21

theorem dL_roots_0 : decode cL_roots 0 = .ok (.aload_n 2, 1) := by decide +kernel
theorem dL_roots_1 : decode cL_roots 1 = .ok (.iconst 0, 1) := by decide +kernel
theorem dL_roots_2 : decode cL_roots 2 = .ok (.aload_n 0, 1) := by decide +kernel
theorem dL_roots_3 : decode cL_roots 3 = .ok (.iload_n 1, 1) := by decide +kernel
theorem dL_roots_4 : decode cL_roots 4 = .ok (.invokevirtual 110, 3) := by decide +kernel
theorem w7_50 : (Jvm.Cond.methodLink "PolyforgeLaw" (110 : Nat) ({ cls := "Polyforge", name := "roots", desc := "(I)I" } : Jvm.MethodName)) ∈ lw_tbl := pv_t7 (pv_mg 50 rfl)
theorem w7_53 : (Jvm.Cond.code ({ cls := "Polyforge", name := "roots", desc := "(I)I" } : Jvm.MethodName) prog_1_method_30_code (3 : Nat) (Option.some Jvm.ClassFile.FieldType.int)) ∈ lw_tbl := pv_t7 (pv_mg 53 rfl)
theorem w7_52 : (Jvm.Cond.selects "Polyforge" ({ cls := "Polyforge", name := "roots", desc := "(I)I" } : Jvm.MethodName) ({ cls := "Polyforge", name := "roots", desc := "(I)I" } : Jvm.MethodName)) ∈ lw_tbl := pv_t7 (pv_mg 52 rfl)
theorem w7_51 : (Jvm.Cond.instanceMethod ({ cls := "Polyforge", name := "roots", desc := "(I)I" } : Jvm.MethodName)) ∈ lw_tbl := pv_t7 (pv_mg 51 rfl)
theorem dL_roots_12 : decode cL_roots 12 = .ok (.astore_n 3, 1) := by decide +kernel
theorem dL_roots_13 : decode cL_roots 13 = .ok (.iconst 1, 1) := by decide +kernel
theorem dL_roots_14 : decode cL_roots 14 = .ok (.ireturn, 1) := by decide +kernel
set_option maxHeartbeats 4000000 in
set_option maxRecDepth 100000 in
/-- roots: the first handler -/
theorem c_L_roots (l : Launch) (hfl : l.stackTraces = false) (D : va_G) (sz : Nat) (h0 : Nat) (q : Nat → Nat) (p0 : Int32) (o0 : Nat) : Met l yL_roots (Cond.codeWith yL_roots cL_roots 4 (some .int) [(0, 9, 12, 23), (0, 9, 15, 25), (0, 9, 18, 27)] :: pv_W) ({ frames := 9, cells := 1, slots := 6, locals := 144 } : Room) (va_Pc [.ref h0, .int p0, .ref o0] (pv_P D [] [(h0, .inr (0, [.ref (q 0), .int 0, .int 108, .ref (q 1), .int 0, .ref (q 2), .int 0, .ref (q 3), .ref (q 4), .int 1, .ref (q 5), .ref (q 6), .ref (q 7), .ref (q 8), .ref (q 9)]))] (va_A [] sz) sz)) (va_Qi (fun r (_ : Unit) => r = 1) (fun _ _ => True) (va_A [] sz)) 1 6 (va_A [] sz) := by
  refine pv_ofWH (cc := cL_roots) (maxL := 4) (ret := (some .int)) (by decide) rfl ?_
  intro p e s m args below meth c s₁ B hml hv
  obtain ⟨rfl, hsz, hE, hP, hK, hD0⟩ := hv
  have hx := B.exec
  have hb := B.bytes
  have hr := B.returns
  have hts := fun (w : Cond) (h : w ∈ pv_W) => atoms_spec (ws := Cond.codeWith yL_roots cL_roots 4 (some .int) [(0, 9, 12, 23), (0, 9, 15, 25), (0, 9, 18, 27)] :: pv_W) B.pre w (List.mem_cons_of_mem _ h)
  have hg := fun {w : Cond} (h : w ∈ lw_tbl) (g : goodWord w = true) => hts w (pv_in h g)
  have hown : s.vm.findClass RL = some m.cls := findClass_of_methodNamed B.named
  have hlocks := B.notSynchronized
  have hcw := atoms_spec (ws := Cond.codeWith yL_roots cL_roots 4 (some .int) [(0, 9, 12, 23), (0, 9, 15, 25), (0, 9, 18, 27)] :: pv_W) B.pre _ List.mem_cons_self
  subst hsz
  have hD := hD0
  generalize hAe : va_A [] s.heap.size = A at hE ⊢
  have hA : ∀ q : Nat, s.heap.size ≤ q → A q := fun q h => by rw [← hAe]; exact Or.inr h
  have hS : va_S A s.heap s.heap [] := va_S.rf
  have hP : va_P D pv_cl [(h0, .inr (0, [.ref (q 0), .int 0, .int 108, .ref (q 1), .int 0, .ref (q 2), .int 0, .ref (q 3), .ref (q 4), .int 1, .ref (q 5), .ref (q 6), .ref (q 7), .ref (q 8), .ref (q 9)]))] s.heap := hP
  have hl := lv_entry ([.ref h0, .int p0, .ref o0]) (n := 4) (Nat.le_of_ble_eq_true rfl)
  rw [lg_entry_eq]
  generalize (lg_sl ([.ref h0, .int p0, .ref o0]) ++ List.replicate (4 - (lg_sl ([.ref h0, .int p0, .ref o0])).length) Slot.unset).toArray = ls at hl ⊢
  have hl : lv_has ls 4 [(0, .ref h0), (1, .int p0), (2, .ref o0)] := hl
  refine lv_aload_n hx hb dL_roots_0 rfl (lv_at hl 2 rfl) ?_
  refine lv_iconst (v := 0) hx hb dL_roots_1 (by decide) ?_
  refine lv_aload_n hx hb dL_roots_2 rfl (lv_at hl 0 rfl) ?_
  refine lv_iload_n hx hb dL_roots_3 rfl (lv_at hl 1 rfl) ?_
  have hF := pv_new hA hS.1
  refine pv_thrown (vx_runV (As := [.int p0]) (rest := [.int 0, .ref o0]) ⟨hx, hb, hml, hown, hts⟩ (c_X11_roots l hfl D _ h0 q p0) (cwV 1 hts (pv_gV w7_50 w7_51 w7_52 w1_1 w7_53) rfl rfl rfl (by decide +kernel) ⟨Nat.le_of_ble_eq_true rfl, Nat.le_of_ble_eq_true rfl⟩) (pv_pV hE hS hF (hP.sub [0] rfl) (hK.sub [] rfl) (hD.sub [0] (by decide) rfl) (va_recv (ci := 0) (q0 := 0) hK hP rfl rfl)) rfl rfl hl.1 rfl (lv_room (Nat.le_of_ble_eq_true rfl)) dL_roots_4 ⟨Nat.le_of_ble_eq_true rfl, Nat.le_of_ble_eq_true rfl⟩) (fun _ _ _ h => h) hS hF hF (fun E ce q9 u t H1 locs1 ht hvm hpx hbx hz1 hk1 hS hce hcv hcl => ?_)
  subst hbx
  have hP := pv_keep hP rfl hk1
  refine vx_catch (own := RL) (name := "java/lang/IndexOutOfBoundsException") hown [] ⟨0, 9, 12, 23⟩ _ ((vx_table (x := yL_law) B hcw).trans rfl) (fun z hz => nomatch hz) rfl (by decide) (hg w5_69 rfl) (va_Nw.use rfl (hE.2.2.1 _ (pv_ib w5_118 rfl))) hce hcv hcl ?_
  refine W.widen (k := 1) (n := 6) (Nat.le_of_ble_eq_true rfl) (Nat.le_of_ble_eq_true rfl) ?_
  refine lv_astore_n (lv' := [(3, .ref q9), (0, .ref h0), (1, .int p0), (2, .ref o0)]) hx hb dL_roots_12 rfl hl (by decide) rfl (fun ls hl => ?_)
  refine lv_iconst (v := 1) hx hb dL_roots_13 (by decide) ?_
  refine W.widen (k := 1) (n := 6) (Nat.le_of_ble_eq_true rfl) (Nat.le_of_ble_eq_true rfl) ?_
  exact W.iret (v := 1) hx hb hr (fun t ht hW => ⟨⟨1, (), rfl, rfl, trivial⟩, hS.F ht⟩) hS.2.2 dL_roots_14

theorem dL_resultant_0 : decode cL_resultant 0 = .ok (.aload_n 3, 1) := by decide +kernel
theorem dL_resultant_1 : decode cL_resultant 1 = .ok (.iconst 0, 1) := by decide +kernel
theorem dL_resultant_2 : decode cL_resultant 2 = .ok (.aload_n 0, 1) := by decide +kernel
theorem dL_resultant_3 : decode cL_resultant 3 = .ok (.iload_n 1, 1) := by decide +kernel
theorem dL_resultant_4 : decode cL_resultant 4 = .ok (.iload_n 2, 1) := by decide +kernel
theorem dL_resultant_5 : decode cL_resultant 5 = .ok (.invokevirtual 113, 3) := by decide +kernel
theorem w7_65 : (Jvm.Cond.methodLink "PolyforgeLaw" (113 : Nat) ({ cls := "Polyforge", name := "resultant", desc := "(II)I" } : Jvm.MethodName)) ∈ lw_tbl := pv_t7 (pv_mg 65 rfl)
theorem w7_68 : (Jvm.Cond.code ({ cls := "Polyforge", name := "resultant", desc := "(II)I" } : Jvm.MethodName) prog_1_method_31_code (5 : Nat) (Option.some Jvm.ClassFile.FieldType.int)) ∈ lw_tbl := pv_t7 (pv_mg 68 rfl)
theorem w7_67 : (Jvm.Cond.selects "Polyforge" ({ cls := "Polyforge", name := "resultant", desc := "(II)I" } : Jvm.MethodName) ({ cls := "Polyforge", name := "resultant", desc := "(II)I" } : Jvm.MethodName)) ∈ lw_tbl := pv_t7 (pv_mg 67 rfl)
theorem w7_66 : (Jvm.Cond.instanceMethod ({ cls := "Polyforge", name := "resultant", desc := "(II)I" } : Jvm.MethodName)) ∈ lw_tbl := pv_t7 (pv_mg 66 rfl)
theorem dL_resultant_13 : decode cL_resultant 13 = .ok (.astore 4, 2) := by decide +kernel
theorem dL_resultant_15 : decode cL_resultant 15 = .ok (.iconst 1, 1) := by decide +kernel
theorem dL_resultant_16 : decode cL_resultant 16 = .ok (.ireturn, 1) := by decide +kernel
set_option maxHeartbeats 4000000 in
set_option maxRecDepth 100000 in
/-- resultant: the first handler -/
theorem c_L_resultant (l : Launch) (hfl : l.stackTraces = false) (D : va_G) (sz : Nat) (h0 : Nat) (q : Nat → Nat) (p0 p1 : Int32) (o0 : Nat) : Met l yL_resultant (Cond.codeWith yL_resultant cL_resultant 5 (some .int) [(0, 10, 13, 23), (0, 10, 17, 25), (0, 10, 21, 27)] :: pv_W) ({ frames := 9, cells := 1, slots := 6, locals := 146 } : Room) (va_Pc [.ref h0, .int p0, .int p1, .ref o0] (pv_P D [] [(h0, .inr (0, [.ref (q 0), .int 0, .int 108, .ref (q 1), .int 0, .ref (q 2), .int 0, .ref (q 3), .ref (q 4), .int 1, .ref (q 5), .ref (q 6), .ref (q 7), .ref (q 8), .ref (q 9)]))] (va_A [] sz) sz)) (va_Qi (fun r (_ : Unit) => r = 1) (fun _ _ => True) (va_A [] sz)) 1 6 (va_A [] sz) := by
  refine pv_ofWH (cc := cL_resultant) (maxL := 5) (ret := (some .int)) (by decide) rfl ?_
  intro p e s m args below meth c s₁ B hml hv
  obtain ⟨rfl, hsz, hE, hP, hK, hD0⟩ := hv
  have hx := B.exec
  have hb := B.bytes
  have hr := B.returns
  have hts := fun (w : Cond) (h : w ∈ pv_W) => atoms_spec (ws := Cond.codeWith yL_resultant cL_resultant 5 (some .int) [(0, 10, 13, 23), (0, 10, 17, 25), (0, 10, 21, 27)] :: pv_W) B.pre w (List.mem_cons_of_mem _ h)
  have hg := fun {w : Cond} (h : w ∈ lw_tbl) (g : goodWord w = true) => hts w (pv_in h g)
  have hown : s.vm.findClass RL = some m.cls := findClass_of_methodNamed B.named
  have hlocks := B.notSynchronized
  have hcw := atoms_spec (ws := Cond.codeWith yL_resultant cL_resultant 5 (some .int) [(0, 10, 13, 23), (0, 10, 17, 25), (0, 10, 21, 27)] :: pv_W) B.pre _ List.mem_cons_self
  subst hsz
  have hD := hD0
  generalize hAe : va_A [] s.heap.size = A at hE ⊢
  have hA : ∀ q : Nat, s.heap.size ≤ q → A q := fun q h => by rw [← hAe]; exact Or.inr h
  have hS : va_S A s.heap s.heap [] := va_S.rf
  have hP : va_P D pv_cl [(h0, .inr (0, [.ref (q 0), .int 0, .int 108, .ref (q 1), .int 0, .ref (q 2), .int 0, .ref (q 3), .ref (q 4), .int 1, .ref (q 5), .ref (q 6), .ref (q 7), .ref (q 8), .ref (q 9)]))] s.heap := hP
  have hl := lv_entry ([.ref h0, .int p0, .int p1, .ref o0]) (n := 5) (Nat.le_of_ble_eq_true rfl)
  rw [lg_entry_eq]
  generalize (lg_sl ([.ref h0, .int p0, .int p1, .ref o0]) ++ List.replicate (5 - (lg_sl ([.ref h0, .int p0, .int p1, .ref o0])).length) Slot.unset).toArray = ls at hl ⊢
  have hl : lv_has ls 5 [(0, .ref h0), (1, .int p0), (2, .int p1), (3, .ref o0)] := hl
  refine lv_aload_n hx hb dL_resultant_0 rfl (lv_at hl 3 rfl) ?_
  refine lv_iconst (v := 0) hx hb dL_resultant_1 (by decide) ?_
  refine lv_aload_n hx hb dL_resultant_2 rfl (lv_at hl 0 rfl) ?_
  refine lv_iload_n hx hb dL_resultant_3 rfl (lv_at hl 1 rfl) ?_
  refine lv_iload_n hx hb dL_resultant_4 rfl (lv_at hl 2 rfl) ?_
  have hF := pv_new hA hS.1
  refine pv_thrown (vx_runV (As := [.int p0, .int p1]) (rest := [.int 0, .ref o0]) ⟨hx, hb, hml, hown, hts⟩ (c_X11_resultant l hfl D _ h0 q p0 p1) (cwV 2 hts (pv_gV w7_65 w7_66 w7_67 w1_1 w7_68) rfl rfl rfl (by decide +kernel) ⟨Nat.le_of_ble_eq_true rfl, Nat.le_of_ble_eq_true rfl⟩) (pv_pV hE hS hF (hP.sub [0] rfl) (hK.sub [] rfl) (hD.sub [0] (by decide) rfl) (va_recv (ci := 0) (q0 := 0) hK hP rfl rfl)) rfl rfl hl.1 rfl (lv_room (Nat.le_of_ble_eq_true rfl)) dL_resultant_5 ⟨Nat.le_of_ble_eq_true rfl, Nat.le_of_ble_eq_true rfl⟩) (fun _ _ _ h => h) hS hF hF (fun E ce q9 u t H1 locs1 ht hvm hpx hbx hz1 hk1 hS hce hcv hcl => ?_)
  subst hbx
  have hP := pv_keep hP rfl hk1
  refine vx_catch (own := RL) (name := "java/lang/IndexOutOfBoundsException") hown [] ⟨0, 10, 13, 23⟩ _ ((vx_table (x := yL_law) B hcw).trans rfl) (fun z hz => nomatch hz) rfl (by decide) (hg w5_69 rfl) (va_Nw.use rfl (hE.2.2.1 _ (pv_ib w5_118 rfl))) hce hcv hcl ?_
  refine W.widen (k := 1) (n := 6) (Nat.le_of_ble_eq_true rfl) (Nat.le_of_ble_eq_true rfl) ?_
  refine lv_astore (lv' := [(4, .ref q9), (0, .ref h0), (1, .int p0), (2, .int p1), (3, .ref o0)]) hx hb dL_resultant_13 hl (by decide) rfl (fun ls hl => ?_)
  refine lv_iconst (v := 1) hx hb dL_resultant_15 (by decide) ?_
  refine W.widen (k := 1) (n := 6) (Nat.le_of_ble_eq_true rfl) (Nat.le_of_ble_eq_true rfl) ?_
  exact W.iret (v := 1) hx hb hr (fun t ht hW => ⟨⟨1, (), rfl, rfl, trivial⟩, hS.F ht⟩) hS.2.2 dL_resultant_16

theorem dL_resultantByDeterminant_0 : decode cL_resultantByDeterminant 0 = .ok (.aload_n 3, 1) := by decide +kernel
theorem dL_resultantByDeterminant_1 : decode cL_resultantByDeterminant 1 = .ok (.iconst 0, 1) := by decide +kernel
theorem dL_resultantByDeterminant_2 : decode cL_resultantByDeterminant 2 = .ok (.aload_n 0, 1) := by decide +kernel
theorem dL_resultantByDeterminant_3 : decode cL_resultantByDeterminant 3 = .ok (.iload_n 1, 1) := by decide +kernel
theorem dL_resultantByDeterminant_4 : decode cL_resultantByDeterminant 4 = .ok (.iload_n 2, 1) := by decide +kernel
theorem dL_resultantByDeterminant_5 : decode cL_resultantByDeterminant 5 = .ok (.invokevirtual 116, 3) := by decide +kernel
theorem w7_77 : (Jvm.Cond.methodLink "PolyforgeLaw" (116 : Nat) ({ cls := "Polyforge", name := "resultantByDeterminant", desc := "(II)I" } : Jvm.MethodName)) ∈ lw_tbl := pv_t7 (pv_mg 77 rfl)
theorem w7_80 : (Jvm.Cond.code ({ cls := "Polyforge", name := "resultantByDeterminant", desc := "(II)I" } : Jvm.MethodName) prog_1_method_32_code (5 : Nat) (Option.some Jvm.ClassFile.FieldType.int)) ∈ lw_tbl := pv_t7 (pv_mg 80 rfl)
theorem w7_79 : (Jvm.Cond.selects "Polyforge" ({ cls := "Polyforge", name := "resultantByDeterminant", desc := "(II)I" } : Jvm.MethodName) ({ cls := "Polyforge", name := "resultantByDeterminant", desc := "(II)I" } : Jvm.MethodName)) ∈ lw_tbl := pv_t7 (pv_mg 79 rfl)
theorem w7_78 : (Jvm.Cond.instanceMethod ({ cls := "Polyforge", name := "resultantByDeterminant", desc := "(II)I" } : Jvm.MethodName)) ∈ lw_tbl := pv_t7 (pv_mg 78 rfl)
theorem dL_resultantByDeterminant_13 : decode cL_resultantByDeterminant 13 = .ok (.astore 4, 2) := by decide +kernel
theorem dL_resultantByDeterminant_15 : decode cL_resultantByDeterminant 15 = .ok (.iconst 1, 1) := by decide +kernel
theorem dL_resultantByDeterminant_16 : decode cL_resultantByDeterminant 16 = .ok (.ireturn, 1) := by decide +kernel
set_option maxHeartbeats 4000000 in
set_option maxRecDepth 100000 in
/-- resultantByDeterminant: the first handler -/
theorem c_L_resultantByDeterminant (l : Launch) (hfl : l.stackTraces = false) (D : va_G) (sz : Nat) (h0 : Nat) (q : Nat → Nat) (p0 p1 : Int32) (o0 : Nat) : Met l yL_resultantByDeterminant (Cond.codeWith yL_resultantByDeterminant cL_resultantByDeterminant 5 (some .int) [(0, 10, 13, 23), (0, 10, 17, 25), (0, 10, 21, 27)] :: pv_W) ({ frames := 9, cells := 1, slots := 6, locals := 146 } : Room) (va_Pc [.ref h0, .int p0, .int p1, .ref o0] (pv_P D [] [(h0, .inr (0, [.ref (q 0), .int 0, .int 108, .ref (q 1), .int 0, .ref (q 2), .int 0, .ref (q 3), .ref (q 4), .int 1, .ref (q 5), .ref (q 6), .ref (q 7), .ref (q 8), .ref (q 9)]))] (va_A [] sz) sz)) (va_Qi (fun r (_ : Unit) => r = 1) (fun _ _ => True) (va_A [] sz)) 1 6 (va_A [] sz) := by
  refine pv_ofWH (cc := cL_resultantByDeterminant) (maxL := 5) (ret := (some .int)) (by decide) rfl ?_
  intro p e s m args below meth c s₁ B hml hv
  obtain ⟨rfl, hsz, hE, hP, hK, hD0⟩ := hv
  have hx := B.exec
  have hb := B.bytes
  have hr := B.returns
  have hts := fun (w : Cond) (h : w ∈ pv_W) => atoms_spec (ws := Cond.codeWith yL_resultantByDeterminant cL_resultantByDeterminant 5 (some .int) [(0, 10, 13, 23), (0, 10, 17, 25), (0, 10, 21, 27)] :: pv_W) B.pre w (List.mem_cons_of_mem _ h)
  have hg := fun {w : Cond} (h : w ∈ lw_tbl) (g : goodWord w = true) => hts w (pv_in h g)
  have hown : s.vm.findClass RL = some m.cls := findClass_of_methodNamed B.named
  have hlocks := B.notSynchronized
  have hcw := atoms_spec (ws := Cond.codeWith yL_resultantByDeterminant cL_resultantByDeterminant 5 (some .int) [(0, 10, 13, 23), (0, 10, 17, 25), (0, 10, 21, 27)] :: pv_W) B.pre _ List.mem_cons_self
  subst hsz
  have hD := hD0
  generalize hAe : va_A [] s.heap.size = A at hE ⊢
  have hA : ∀ q : Nat, s.heap.size ≤ q → A q := fun q h => by rw [← hAe]; exact Or.inr h
  have hS : va_S A s.heap s.heap [] := va_S.rf
  have hP : va_P D pv_cl [(h0, .inr (0, [.ref (q 0), .int 0, .int 108, .ref (q 1), .int 0, .ref (q 2), .int 0, .ref (q 3), .ref (q 4), .int 1, .ref (q 5), .ref (q 6), .ref (q 7), .ref (q 8), .ref (q 9)]))] s.heap := hP
  have hl := lv_entry ([.ref h0, .int p0, .int p1, .ref o0]) (n := 5) (Nat.le_of_ble_eq_true rfl)
  rw [lg_entry_eq]
  generalize (lg_sl ([.ref h0, .int p0, .int p1, .ref o0]) ++ List.replicate (5 - (lg_sl ([.ref h0, .int p0, .int p1, .ref o0])).length) Slot.unset).toArray = ls at hl ⊢
  have hl : lv_has ls 5 [(0, .ref h0), (1, .int p0), (2, .int p1), (3, .ref o0)] := hl
  refine lv_aload_n hx hb dL_resultantByDeterminant_0 rfl (lv_at hl 3 rfl) ?_
  refine lv_iconst (v := 0) hx hb dL_resultantByDeterminant_1 (by decide) ?_
  refine lv_aload_n hx hb dL_resultantByDeterminant_2 rfl (lv_at hl 0 rfl) ?_
  refine lv_iload_n hx hb dL_resultantByDeterminant_3 rfl (lv_at hl 1 rfl) ?_
  refine lv_iload_n hx hb dL_resultantByDeterminant_4 rfl (lv_at hl 2 rfl) ?_
  have hF := pv_new hA hS.1
  refine pv_thrown (vx_runV (As := [.int p0, .int p1]) (rest := [.int 0, .ref o0]) ⟨hx, hb, hml, hown, hts⟩ (c_X11_resultantByDeterminant l hfl D _ h0 q p0 p1) (cwV 2 hts (pv_gV w7_77 w7_78 w7_79 w1_1 w7_80) rfl rfl rfl (by decide +kernel) ⟨Nat.le_of_ble_eq_true rfl, Nat.le_of_ble_eq_true rfl⟩) (pv_pV hE hS hF (hP.sub [0] rfl) (hK.sub [] rfl) (hD.sub [0] (by decide) rfl) (va_recv (ci := 0) (q0 := 0) hK hP rfl rfl)) rfl rfl hl.1 rfl (lv_room (Nat.le_of_ble_eq_true rfl)) dL_resultantByDeterminant_5 ⟨Nat.le_of_ble_eq_true rfl, Nat.le_of_ble_eq_true rfl⟩) (fun _ _ _ h => h) hS hF hF (fun E ce q9 u t H1 locs1 ht hvm hpx hbx hz1 hk1 hS hce hcv hcl => ?_)
  subst hbx
  have hP := pv_keep hP rfl hk1
  refine vx_catch (own := RL) (name := "java/lang/IndexOutOfBoundsException") hown [] ⟨0, 10, 13, 23⟩ _ ((vx_table (x := yL_law) B hcw).trans rfl) (fun z hz => nomatch hz) rfl (by decide) (hg w5_69 rfl) (va_Nw.use rfl (hE.2.2.1 _ (pv_ib w5_118 rfl))) hce hcv hcl ?_
  refine W.widen (k := 1) (n := 6) (Nat.le_of_ble_eq_true rfl) (Nat.le_of_ble_eq_true rfl) ?_
  refine lv_astore (lv' := [(4, .ref q9), (0, .ref h0), (1, .int p0), (2, .int p1), (3, .ref o0)]) hx hb dL_resultantByDeterminant_13 hl (by decide) rfl (fun ls hl => ?_)
  refine lv_iconst (v := 1) hx hb dL_resultantByDeterminant_15 (by decide) ?_
  refine W.widen (k := 1) (n := 6) (Nat.le_of_ble_eq_true rfl) (Nat.le_of_ble_eq_true rfl) ?_
  exact W.iret (v := 1) hx hb hr (fun t ht hW => ⟨⟨1, (), rfl, rfl, trivial⟩, hS.F ht⟩) hS.2.2 dL_resultantByDeterminant_16

theorem dL_series_0 : decode cL_series 0 = .ok (.aload 4, 2) := by decide +kernel
theorem dL_series_2 : decode cL_series 2 = .ok (.iconst 0, 1) := by decide +kernel
theorem dL_series_3 : decode cL_series 3 = .ok (.aload_n 0, 1) := by decide +kernel
theorem dL_series_4 : decode cL_series 4 = .ok (.iload_n 1, 1) := by decide +kernel
theorem dL_series_5 : decode cL_series 5 = .ok (.iload_n 2, 1) := by decide +kernel
theorem dL_series_6 : decode cL_series 6 = .ok (.iload_n 3, 1) := by decide +kernel
theorem dL_series_7 : decode cL_series 7 = .ok (.invokevirtual 119, 3) := by decide +kernel
theorem w7_101 : (Jvm.Cond.methodLink "PolyforgeLaw" (119 : Nat) ({ cls := "Polyforge", name := "series", desc := "(III)I" } : Jvm.MethodName)) ∈ lw_tbl := pv_t7 (pv_mg 101 rfl)
theorem w7_104 : (Jvm.Cond.code ({ cls := "Polyforge", name := "series", desc := "(III)I" } : Jvm.MethodName) prog_1_method_33_code (6 : Nat) (Option.some Jvm.ClassFile.FieldType.int)) ∈ lw_tbl := pv_t7 (pv_mg 104 rfl)
theorem w7_103 : (Jvm.Cond.selects "Polyforge" ({ cls := "Polyforge", name := "series", desc := "(III)I" } : Jvm.MethodName) ({ cls := "Polyforge", name := "series", desc := "(III)I" } : Jvm.MethodName)) ∈ lw_tbl := pv_t7 (pv_mg 103 rfl)
theorem w7_102 : (Jvm.Cond.instanceMethod ({ cls := "Polyforge", name := "series", desc := "(III)I" } : Jvm.MethodName)) ∈ lw_tbl := pv_t7 (pv_mg 102 rfl)
theorem dL_series_15 : decode cL_series 15 = .ok (.astore 5, 2) := by decide +kernel
theorem dL_series_17 : decode cL_series 17 = .ok (.iconst 1, 1) := by decide +kernel
theorem dL_series_18 : decode cL_series 18 = .ok (.ireturn, 1) := by decide +kernel
set_option maxHeartbeats 4000000 in
set_option maxRecDepth 100000 in
/-- series: the first handler -/
theorem c_L_series (l : Launch) (hfl : l.stackTraces = false) (D : va_G) (sz : Nat) (h0 : Nat) (q : Nat → Nat) (p0 p1 p2 : Int32) (o0 : Nat) : Met l yL_series (Cond.codeWith yL_series cL_series 6 (some .int) [(0, 12, 15, 23), (0, 12, 19, 25), (0, 12, 23, 13), (0, 12, 27, 27)] :: pv_W) ({ frames := 9, cells := 1, slots := 6, locals := 147 } : Room) (va_Pc [.ref h0, .int p0, .int p1, .int p2, .ref o0] (pv_P D [] [(h0, .inr (0, [.ref (q 0), .int 0, .int 108, .ref (q 1), .int 0, .ref (q 2), .int 0, .ref (q 3), .ref (q 4), .int 1, .ref (q 5), .ref (q 6), .ref (q 7), .ref (q 8), .ref (q 9)]))] (va_A [] sz) sz)) (va_Qi (fun r (_ : Unit) => r = 1) (fun _ _ => True) (va_A [] sz)) 1 6 (va_A [] sz) := by
  refine pv_ofWH (cc := cL_series) (maxL := 6) (ret := (some .int)) (by decide) rfl ?_
  intro p e s m args below meth c s₁ B hml hv
  obtain ⟨rfl, hsz, hE, hP, hK, hD0⟩ := hv
  have hx := B.exec
  have hb := B.bytes
  have hr := B.returns
  have hts := fun (w : Cond) (h : w ∈ pv_W) => atoms_spec (ws := Cond.codeWith yL_series cL_series 6 (some .int) [(0, 12, 15, 23), (0, 12, 19, 25), (0, 12, 23, 13), (0, 12, 27, 27)] :: pv_W) B.pre w (List.mem_cons_of_mem _ h)
  have hg := fun {w : Cond} (h : w ∈ lw_tbl) (g : goodWord w = true) => hts w (pv_in h g)
  have hown : s.vm.findClass RL = some m.cls := findClass_of_methodNamed B.named
  have hlocks := B.notSynchronized
  have hcw := atoms_spec (ws := Cond.codeWith yL_series cL_series 6 (some .int) [(0, 12, 15, 23), (0, 12, 19, 25), (0, 12, 23, 13), (0, 12, 27, 27)] :: pv_W) B.pre _ List.mem_cons_self
  subst hsz
  have hD := hD0
  generalize hAe : va_A [] s.heap.size = A at hE ⊢
  have hA : ∀ q : Nat, s.heap.size ≤ q → A q := fun q h => by rw [← hAe]; exact Or.inr h
  have hS : va_S A s.heap s.heap [] := va_S.rf
  have hP : va_P D pv_cl [(h0, .inr (0, [.ref (q 0), .int 0, .int 108, .ref (q 1), .int 0, .ref (q 2), .int 0, .ref (q 3), .ref (q 4), .int 1, .ref (q 5), .ref (q 6), .ref (q 7), .ref (q 8), .ref (q 9)]))] s.heap := hP
  have hl := lv_entry ([.ref h0, .int p0, .int p1, .int p2, .ref o0]) (n := 6) (Nat.le_of_ble_eq_true rfl)
  rw [lg_entry_eq]
  generalize (lg_sl ([.ref h0, .int p0, .int p1, .int p2, .ref o0]) ++ List.replicate (6 - (lg_sl ([.ref h0, .int p0, .int p1, .int p2, .ref o0])).length) Slot.unset).toArray = ls at hl ⊢
  have hl : lv_has ls 6 [(0, .ref h0), (1, .int p0), (2, .int p1), (3, .int p2), (4, .ref o0)] := hl
  refine lv_aload hx hb dL_series_0 (lv_at hl 4 rfl) ?_
  refine lv_iconst (v := 0) hx hb dL_series_2 (by decide) ?_
  refine lv_aload_n hx hb dL_series_3 rfl (lv_at hl 0 rfl) ?_
  refine lv_iload_n hx hb dL_series_4 rfl (lv_at hl 1 rfl) ?_
  refine lv_iload_n hx hb dL_series_5 rfl (lv_at hl 2 rfl) ?_
  refine lv_iload_n hx hb dL_series_6 rfl (lv_at hl 3 rfl) ?_
  have hF := pv_new hA hS.1
  refine pv_thrown (vx_runV (As := [.int p0, .int p1, .int p2]) (rest := [.int 0, .ref o0]) ⟨hx, hb, hml, hown, hts⟩ (c_X11_series l hfl D _ h0 q p0 p1 p2) (cwV 3 hts (pv_gV w7_101 w7_102 w7_103 w1_1 w7_104) rfl rfl rfl (by decide +kernel) ⟨Nat.le_of_ble_eq_true rfl, Nat.le_of_ble_eq_true rfl⟩) (pv_pV hE hS hF (hP.sub [0] rfl) (hK.sub [] rfl) (hD.sub [0] (by decide) rfl) (va_recv (ci := 0) (q0 := 0) hK hP rfl rfl)) rfl rfl hl.1 rfl (lv_room (Nat.le_of_ble_eq_true rfl)) dL_series_7 ⟨Nat.le_of_ble_eq_true rfl, Nat.le_of_ble_eq_true rfl⟩) (fun _ _ _ h => h) hS hF hF (fun E ce q9 u t H1 locs1 ht hvm hpx hbx hz1 hk1 hS hce hcv hcl => ?_)
  subst hbx
  have hP := pv_keep hP rfl hk1
  refine vx_catch (own := RL) (name := "java/lang/IndexOutOfBoundsException") hown [] ⟨0, 12, 15, 23⟩ _ ((vx_table (x := yL_law) B hcw).trans rfl) (fun z hz => nomatch hz) rfl (by decide) (hg w5_69 rfl) (va_Nw.use rfl (hE.2.2.1 _ (pv_ib w5_118 rfl))) hce hcv hcl ?_
  refine W.widen (k := 1) (n := 6) (Nat.le_of_ble_eq_true rfl) (Nat.le_of_ble_eq_true rfl) ?_
  refine lv_astore (lv' := [(5, .ref q9), (0, .ref h0), (1, .int p0), (2, .int p1), (3, .int p2), (4, .ref o0)]) hx hb dL_series_15 hl (by decide) rfl (fun ls hl => ?_)
  refine lv_iconst (v := 1) hx hb dL_series_17 (by decide) ?_
  refine W.widen (k := 1) (n := 6) (Nat.le_of_ble_eq_true rfl) (Nat.le_of_ble_eq_true rfl) ?_
  exact W.iret (v := 1) hx hb hr (fun t ht hW => ⟨⟨1, (), rfl, rfl, trivial⟩, hS.F ht⟩) hS.2.2 dL_series_18

theorem dL_limit_0 : decode cL_limit 0 = .ok (.aload 4, 2) := by decide +kernel
theorem dL_limit_2 : decode cL_limit 2 = .ok (.iconst 0, 1) := by decide +kernel
theorem dL_limit_3 : decode cL_limit 3 = .ok (.aload_n 0, 1) := by decide +kernel
theorem dL_limit_4 : decode cL_limit 4 = .ok (.iload_n 1, 1) := by decide +kernel
theorem dL_limit_5 : decode cL_limit 5 = .ok (.iload_n 2, 1) := by decide +kernel
theorem dL_limit_6 : decode cL_limit 6 = .ok (.iload_n 3, 1) := by decide +kernel
theorem dL_limit_7 : decode cL_limit 7 = .ok (.invokevirtual 122, 3) := by decide +kernel
theorem w7_118 : (Jvm.Cond.methodLink "PolyforgeLaw" (122 : Nat) ({ cls := "Polyforge", name := "limit", desc := "(III)I" } : Jvm.MethodName)) ∈ lw_tbl := pv_t7 (pv_mg 118 rfl)
theorem w7_121 : (Jvm.Cond.code ({ cls := "Polyforge", name := "limit", desc := "(III)I" } : Jvm.MethodName) prog_1_method_34_code (7 : Nat) (Option.some Jvm.ClassFile.FieldType.int)) ∈ lw_tbl := pv_t7 (pv_mg 121 rfl)
theorem w7_120 : (Jvm.Cond.selects "Polyforge" ({ cls := "Polyforge", name := "limit", desc := "(III)I" } : Jvm.MethodName) ({ cls := "Polyforge", name := "limit", desc := "(III)I" } : Jvm.MethodName)) ∈ lw_tbl := pv_t7 (pv_mg 120 rfl)
theorem w7_119 : (Jvm.Cond.instanceMethod ({ cls := "Polyforge", name := "limit", desc := "(III)I" } : Jvm.MethodName)) ∈ lw_tbl := pv_t7 (pv_mg 119 rfl)
theorem dL_limit_15 : decode cL_limit 15 = .ok (.astore 5, 2) := by decide +kernel
theorem dL_limit_17 : decode cL_limit 17 = .ok (.iconst 1, 1) := by decide +kernel
theorem dL_limit_18 : decode cL_limit 18 = .ok (.ireturn, 1) := by decide +kernel
set_option maxHeartbeats 4000000 in
set_option maxRecDepth 100000 in
/-- limit: the first handler -/
theorem c_L_limit (l : Launch) (hfl : l.stackTraces = false) (D : va_G) (sz : Nat) (h0 : Nat) (q : Nat → Nat) (p0 p1 p2 : Int32) (o0 : Nat) : Met l yL_limit (Cond.codeWith yL_limit cL_limit 6 (some .int) [(0, 12, 15, 23), (0, 12, 19, 25), (0, 12, 23, 13), (0, 12, 27, 27), (0, 12, 31, 55)] :: pv_W) ({ frames := 9, cells := 1, slots := 6, locals := 148 } : Room) (va_Pc [.ref h0, .int p0, .int p1, .int p2, .ref o0] (pv_P D [] [(h0, .inr (0, [.ref (q 0), .int 0, .int 108, .ref (q 1), .int 0, .ref (q 2), .int 0, .ref (q 3), .ref (q 4), .int 1, .ref (q 5), .ref (q 6), .ref (q 7), .ref (q 8), .ref (q 9)]))] (va_A [] sz) sz)) (va_Qi (fun r (_ : Unit) => r = 1) (fun _ _ => True) (va_A [] sz)) 1 6 (va_A [] sz) := by
  refine pv_ofWH (cc := cL_limit) (maxL := 6) (ret := (some .int)) (by decide) rfl ?_
  intro p e s m args below meth c s₁ B hml hv
  obtain ⟨rfl, hsz, hE, hP, hK, hD0⟩ := hv
  have hx := B.exec
  have hb := B.bytes
  have hr := B.returns
  have hts := fun (w : Cond) (h : w ∈ pv_W) => atoms_spec (ws := Cond.codeWith yL_limit cL_limit 6 (some .int) [(0, 12, 15, 23), (0, 12, 19, 25), (0, 12, 23, 13), (0, 12, 27, 27), (0, 12, 31, 55)] :: pv_W) B.pre w (List.mem_cons_of_mem _ h)
  have hg := fun {w : Cond} (h : w ∈ lw_tbl) (g : goodWord w = true) => hts w (pv_in h g)
  have hown : s.vm.findClass RL = some m.cls := findClass_of_methodNamed B.named
  have hlocks := B.notSynchronized
  have hcw := atoms_spec (ws := Cond.codeWith yL_limit cL_limit 6 (some .int) [(0, 12, 15, 23), (0, 12, 19, 25), (0, 12, 23, 13), (0, 12, 27, 27), (0, 12, 31, 55)] :: pv_W) B.pre _ List.mem_cons_self
  subst hsz
  have hD := hD0
  generalize hAe : va_A [] s.heap.size = A at hE ⊢
  have hA : ∀ q : Nat, s.heap.size ≤ q → A q := fun q h => by rw [← hAe]; exact Or.inr h
  have hS : va_S A s.heap s.heap [] := va_S.rf
  have hP : va_P D pv_cl [(h0, .inr (0, [.ref (q 0), .int 0, .int 108, .ref (q 1), .int 0, .ref (q 2), .int 0, .ref (q 3), .ref (q 4), .int 1, .ref (q 5), .ref (q 6), .ref (q 7), .ref (q 8), .ref (q 9)]))] s.heap := hP
  have hl := lv_entry ([.ref h0, .int p0, .int p1, .int p2, .ref o0]) (n := 6) (Nat.le_of_ble_eq_true rfl)
  rw [lg_entry_eq]
  generalize (lg_sl ([.ref h0, .int p0, .int p1, .int p2, .ref o0]) ++ List.replicate (6 - (lg_sl ([.ref h0, .int p0, .int p1, .int p2, .ref o0])).length) Slot.unset).toArray = ls at hl ⊢
  have hl : lv_has ls 6 [(0, .ref h0), (1, .int p0), (2, .int p1), (3, .int p2), (4, .ref o0)] := hl
  refine lv_aload hx hb dL_limit_0 (lv_at hl 4 rfl) ?_
  refine lv_iconst (v := 0) hx hb dL_limit_2 (by decide) ?_
  refine lv_aload_n hx hb dL_limit_3 rfl (lv_at hl 0 rfl) ?_
  refine lv_iload_n hx hb dL_limit_4 rfl (lv_at hl 1 rfl) ?_
  refine lv_iload_n hx hb dL_limit_5 rfl (lv_at hl 2 rfl) ?_
  refine lv_iload_n hx hb dL_limit_6 rfl (lv_at hl 3 rfl) ?_
  have hF := pv_new hA hS.1
  refine pv_thrown (vx_runV (As := [.int p0, .int p1, .int p2]) (rest := [.int 0, .ref o0]) ⟨hx, hb, hml, hown, hts⟩ (c_X11_limit l hfl D _ h0 q p0 p1 p2) (cwV 3 hts (pv_gV w7_118 w7_119 w7_120 w1_1 w7_121) rfl rfl rfl (by decide +kernel) ⟨Nat.le_of_ble_eq_true rfl, Nat.le_of_ble_eq_true rfl⟩) (pv_pV hE hS hF (hP.sub [0] rfl) (hK.sub [] rfl) (hD.sub [0] (by decide) rfl) (va_recv (ci := 0) (q0 := 0) hK hP rfl rfl)) rfl rfl hl.1 rfl (lv_room (Nat.le_of_ble_eq_true rfl)) dL_limit_7 ⟨Nat.le_of_ble_eq_true rfl, Nat.le_of_ble_eq_true rfl⟩) (fun _ _ _ h => h) hS hF hF (fun E ce q9 u t H1 locs1 ht hvm hpx hbx hz1 hk1 hS hce hcv hcl => ?_)
  subst hbx
  have hP := pv_keep hP rfl hk1
  refine vx_catch (own := RL) (name := "java/lang/IndexOutOfBoundsException") hown [] ⟨0, 12, 15, 23⟩ _ ((vx_table (x := yL_law) B hcw).trans rfl) (fun z hz => nomatch hz) rfl (by decide) (hg w5_69 rfl) (va_Nw.use rfl (hE.2.2.1 _ (pv_ib w5_118 rfl))) hce hcv hcl ?_
  refine W.widen (k := 1) (n := 6) (Nat.le_of_ble_eq_true rfl) (Nat.le_of_ble_eq_true rfl) ?_
  refine lv_astore (lv' := [(5, .ref q9), (0, .ref h0), (1, .int p0), (2, .int p1), (3, .int p2), (4, .ref o0)]) hx hb dL_limit_15 hl (by decide) rfl (fun ls hl => ?_)
  refine lv_iconst (v := 1) hx hb dL_limit_17 (by decide) ?_
  refine W.widen (k := 1) (n := 6) (Nat.le_of_ble_eq_true rfl) (Nat.le_of_ble_eq_true rfl) ?_
  exact W.iret (v := 1) hx hb hr (fun t ht hW => ⟨⟨1, (), rfl, rfl, trivial⟩, hS.F ht⟩) hS.2.2 dL_limit_18

theorem dL_partial_0 : decode cL_partial 0 = .ok (.aload 4, 2) := by decide +kernel
theorem dL_partial_2 : decode cL_partial 2 = .ok (.iconst 0, 1) := by decide +kernel
theorem dL_partial_3 : decode cL_partial 3 = .ok (.aload_n 0, 1) := by decide +kernel
theorem dL_partial_4 : decode cL_partial 4 = .ok (.iload_n 1, 1) := by decide +kernel
theorem dL_partial_5 : decode cL_partial 5 = .ok (.iload_n 2, 1) := by decide +kernel
theorem dL_partial_6 : decode cL_partial 6 = .ok (.iload_n 3, 1) := by decide +kernel
theorem dL_partial_7 : decode cL_partial 7 = .ok (.invokevirtual 125, 3) := by decide +kernel
theorem w7_131 : (Jvm.Cond.methodLink "PolyforgeLaw" (125 : Nat) ({ cls := "Polyforge", name := "partial", desc := "(III)I" } : Jvm.MethodName)) ∈ lw_tbl := pv_t7 (pv_mg 131 rfl)
theorem w7_134 : (Jvm.Cond.code ({ cls := "Polyforge", name := "partial", desc := "(III)I" } : Jvm.MethodName) prog_1_method_35_code (6 : Nat) (Option.some Jvm.ClassFile.FieldType.int)) ∈ lw_tbl := pv_t7 (pv_mg 134 rfl)
theorem w7_133 : (Jvm.Cond.selects "Polyforge" ({ cls := "Polyforge", name := "partial", desc := "(III)I" } : Jvm.MethodName) ({ cls := "Polyforge", name := "partial", desc := "(III)I" } : Jvm.MethodName)) ∈ lw_tbl := pv_t7 (pv_mg 133 rfl)
theorem w7_132 : (Jvm.Cond.instanceMethod ({ cls := "Polyforge", name := "partial", desc := "(III)I" } : Jvm.MethodName)) ∈ lw_tbl := pv_t7 (pv_mg 132 rfl)
theorem dL_partial_15 : decode cL_partial 15 = .ok (.astore 5, 2) := by decide +kernel
theorem dL_partial_17 : decode cL_partial 17 = .ok (.iconst 1, 1) := by decide +kernel
theorem dL_partial_18 : decode cL_partial 18 = .ok (.ireturn, 1) := by decide +kernel
set_option maxHeartbeats 4000000 in
set_option maxRecDepth 100000 in
/-- partial: the first handler -/
theorem c_L_partial (l : Launch) (hfl : l.stackTraces = false) (D : va_G) (sz : Nat) (h0 : Nat) (q : Nat → Nat) (p0 p1 p2 : Int32) (o0 : Nat) : Met l yL_partial (Cond.codeWith yL_partial cL_partial 6 (some .int) [(0, 12, 15, 23), (0, 12, 19, 25), (0, 12, 23, 55), (0, 12, 27, 15)] :: pv_W) ({ frames := 9, cells := 1, slots := 6, locals := 147 } : Room) (va_Pc [.ref h0, .int p0, .int p1, .int p2, .ref o0] (pv_P D [] [(h0, .inr (0, [.ref (q 0), .int 0, .int 108, .ref (q 1), .int 0, .ref (q 2), .int 0, .ref (q 3), .ref (q 4), .int 1, .ref (q 5), .ref (q 6), .ref (q 7), .ref (q 8), .ref (q 9)]))] (va_A [] sz) sz)) (va_Qi (fun r (_ : Unit) => r = 1) (fun _ _ => True) (va_A [] sz)) 1 6 (va_A [] sz) := by
  refine pv_ofWH (cc := cL_partial) (maxL := 6) (ret := (some .int)) (by decide) rfl ?_
  intro p e s m args below meth c s₁ B hml hv
  obtain ⟨rfl, hsz, hE, hP, hK, hD0⟩ := hv
  have hx := B.exec
  have hb := B.bytes
  have hr := B.returns
  have hts := fun (w : Cond) (h : w ∈ pv_W) => atoms_spec (ws := Cond.codeWith yL_partial cL_partial 6 (some .int) [(0, 12, 15, 23), (0, 12, 19, 25), (0, 12, 23, 55), (0, 12, 27, 15)] :: pv_W) B.pre w (List.mem_cons_of_mem _ h)
  have hg := fun {w : Cond} (h : w ∈ lw_tbl) (g : goodWord w = true) => hts w (pv_in h g)
  have hown : s.vm.findClass RL = some m.cls := findClass_of_methodNamed B.named
  have hlocks := B.notSynchronized
  have hcw := atoms_spec (ws := Cond.codeWith yL_partial cL_partial 6 (some .int) [(0, 12, 15, 23), (0, 12, 19, 25), (0, 12, 23, 55), (0, 12, 27, 15)] :: pv_W) B.pre _ List.mem_cons_self
  subst hsz
  have hD := hD0
  generalize hAe : va_A [] s.heap.size = A at hE ⊢
  have hA : ∀ q : Nat, s.heap.size ≤ q → A q := fun q h => by rw [← hAe]; exact Or.inr h
  have hS : va_S A s.heap s.heap [] := va_S.rf
  have hP : va_P D pv_cl [(h0, .inr (0, [.ref (q 0), .int 0, .int 108, .ref (q 1), .int 0, .ref (q 2), .int 0, .ref (q 3), .ref (q 4), .int 1, .ref (q 5), .ref (q 6), .ref (q 7), .ref (q 8), .ref (q 9)]))] s.heap := hP
  have hl := lv_entry ([.ref h0, .int p0, .int p1, .int p2, .ref o0]) (n := 6) (Nat.le_of_ble_eq_true rfl)
  rw [lg_entry_eq]
  generalize (lg_sl ([.ref h0, .int p0, .int p1, .int p2, .ref o0]) ++ List.replicate (6 - (lg_sl ([.ref h0, .int p0, .int p1, .int p2, .ref o0])).length) Slot.unset).toArray = ls at hl ⊢
  have hl : lv_has ls 6 [(0, .ref h0), (1, .int p0), (2, .int p1), (3, .int p2), (4, .ref o0)] := hl
  refine lv_aload hx hb dL_partial_0 (lv_at hl 4 rfl) ?_
  refine lv_iconst (v := 0) hx hb dL_partial_2 (by decide) ?_
  refine lv_aload_n hx hb dL_partial_3 rfl (lv_at hl 0 rfl) ?_
  refine lv_iload_n hx hb dL_partial_4 rfl (lv_at hl 1 rfl) ?_
  refine lv_iload_n hx hb dL_partial_5 rfl (lv_at hl 2 rfl) ?_
  refine lv_iload_n hx hb dL_partial_6 rfl (lv_at hl 3 rfl) ?_
  have hF := pv_new hA hS.1
  refine pv_thrown (vx_runV (As := [.int p0, .int p1, .int p2]) (rest := [.int 0, .ref o0]) ⟨hx, hb, hml, hown, hts⟩ (c_X11_partial l hfl D _ h0 q p0 p1 p2) (cwV 3 hts (pv_gV w7_131 w7_132 w7_133 w1_1 w7_134) rfl rfl rfl (by decide +kernel) ⟨Nat.le_of_ble_eq_true rfl, Nat.le_of_ble_eq_true rfl⟩) (pv_pV hE hS hF (hP.sub [0] rfl) (hK.sub [] rfl) (hD.sub [0] (by decide) rfl) (va_recv (ci := 0) (q0 := 0) hK hP rfl rfl)) rfl rfl hl.1 rfl (lv_room (Nat.le_of_ble_eq_true rfl)) dL_partial_7 ⟨Nat.le_of_ble_eq_true rfl, Nat.le_of_ble_eq_true rfl⟩) (fun _ _ _ h => h) hS hF hF (fun E ce q9 u t H1 locs1 ht hvm hpx hbx hz1 hk1 hS hce hcv hcl => ?_)
  subst hbx
  have hP := pv_keep hP rfl hk1
  refine vx_catch (own := RL) (name := "java/lang/IndexOutOfBoundsException") hown [] ⟨0, 12, 15, 23⟩ _ ((vx_table (x := yL_law) B hcw).trans rfl) (fun z hz => nomatch hz) rfl (by decide) (hg w5_69 rfl) (va_Nw.use rfl (hE.2.2.1 _ (pv_ib w5_118 rfl))) hce hcv hcl ?_
  refine W.widen (k := 1) (n := 6) (Nat.le_of_ble_eq_true rfl) (Nat.le_of_ble_eq_true rfl) ?_
  refine lv_astore (lv' := [(5, .ref q9), (0, .ref h0), (1, .int p0), (2, .int p1), (3, .int p2), (4, .ref o0)]) hx hb dL_partial_15 hl (by decide) rfl (fun ls hl => ?_)
  refine lv_iconst (v := 1) hx hb dL_partial_17 (by decide) ?_
  refine W.widen (k := 1) (n := 6) (Nat.le_of_ble_eq_true rfl) (Nat.le_of_ble_eq_true rfl) ?_
  exact W.iret (v := 1) hx hb hr (fun t ht hW => ⟨⟨1, (), rfl, rfl, trivial⟩, hS.F ht⟩) hS.2.2 dL_partial_18

theorem dL_addRule_0 : decode cL_addRule 0 = .ok (.aload 7, 2) := by decide +kernel
theorem dL_addRule_2 : decode cL_addRule 2 = .ok (.iconst 0, 1) := by decide +kernel
theorem dL_addRule_3 : decode cL_addRule 3 = .ok (.aload_n 0, 1) := by decide +kernel
theorem dL_addRule_4 : decode cL_addRule 4 = .ok (.iload_n 1, 1) := by decide +kernel
theorem dL_addRule_5 : decode cL_addRule 5 = .ok (.iload_n 2, 1) := by decide +kernel
theorem dL_addRule_6 : decode cL_addRule 6 = .ok (.iload_n 3, 1) := by decide +kernel
theorem dL_addRule_7 : decode cL_addRule 7 = .ok (.iload 4, 2) := by decide +kernel
theorem dL_addRule_9 : decode cL_addRule 9 = .ok (.iload 5, 2) := by decide +kernel
theorem dL_addRule_11 : decode cL_addRule 11 = .ok (.iload 6, 2) := by decide +kernel
theorem dL_addRule_13 : decode cL_addRule 13 = .ok (.invokevirtual 156, 3) := by decide +kernel
theorem w8_50 : (Jvm.Cond.methodLink "PolyforgeLaw" (156 : Nat) ({ cls := "Polyforge", name := "addRule", desc := "(IIIIIC)I" } : Jvm.MethodName)) ∈ lw_tbl := pv_t8 (pv_mg 50 rfl)
theorem w8_53 : (Jvm.Cond.code ({ cls := "Polyforge", name := "addRule", desc := "(IIIIIC)I" } : Jvm.MethodName) prog_1_method_45_code (8 : Nat) (Option.some Jvm.ClassFile.FieldType.int)) ∈ lw_tbl := pv_t8 (pv_mg 53 rfl)
theorem w8_52 : (Jvm.Cond.selects "Polyforge" ({ cls := "Polyforge", name := "addRule", desc := "(IIIIIC)I" } : Jvm.MethodName) ({ cls := "Polyforge", name := "addRule", desc := "(IIIIIC)I" } : Jvm.MethodName)) ∈ lw_tbl := pv_t8 (pv_mg 52 rfl)
theorem w8_51 : (Jvm.Cond.instanceMethod ({ cls := "Polyforge", name := "addRule", desc := "(IIIIIC)I" } : Jvm.MethodName)) ∈ lw_tbl := pv_t8 (pv_mg 51 rfl)
theorem dL_addRule_21 : decode cL_addRule 21 = .ok (.astore 8, 2) := by decide +kernel
theorem dL_addRule_23 : decode cL_addRule 23 = .ok (.iconst 1, 1) := by decide +kernel
theorem dL_addRule_24 : decode cL_addRule 24 = .ok (.ireturn, 1) := by decide +kernel
set_option maxHeartbeats 4000000 in
set_option maxRecDepth 100000 in
/-- addRule: the first handler -/
theorem c_L_addRule (l : Launch) (hfl : l.stackTraces = false) (D : va_G) (sz : Nat) (h0 : Nat) (q : Nat → Nat) (p0 p1 p2 p3 p4 p5 : Int32) (o0 : Nat) : Met l yL_addRule (Cond.codeWith yL_addRule cL_addRule 9 (some .int) [(0, 18, 21, 23), (0, 18, 25, 13), (0, 18, 29, 25), (0, 18, 33, 15)] :: pv_W) ({ frames := 9, cells := 1, slots := 6, locals := 149 } : Room) (va_Pc [.ref h0, .int p0, .int p1, .int p2, .int p3, .int p4, .int p5, .ref o0] (pv_P D [] [(h0, .inr (0, [.ref (q 0), .int 0, .int 108, .ref (q 1), .int 0, .ref (q 2), .int 0, .ref (q 3), .ref (q 4), .int 1, .ref (q 5), .ref (q 6), .ref (q 7), .ref (q 8), .ref (q 9)]))] (va_A [] sz) sz)) (va_Qi (fun r (_ : Unit) => r = 1) (fun _ _ => True) (va_A [] sz)) 1 6 (va_A [] sz) := by
  refine pv_ofWH (cc := cL_addRule) (maxL := 9) (ret := (some .int)) (by decide) rfl ?_
  intro p e s m args below meth c s₁ B hml hv
  obtain ⟨rfl, hsz, hE, hP, hK, hD0⟩ := hv
  have hx := B.exec
  have hb := B.bytes
  have hr := B.returns
  have hts := fun (w : Cond) (h : w ∈ pv_W) => atoms_spec (ws := Cond.codeWith yL_addRule cL_addRule 9 (some .int) [(0, 18, 21, 23), (0, 18, 25, 13), (0, 18, 29, 25), (0, 18, 33, 15)] :: pv_W) B.pre w (List.mem_cons_of_mem _ h)
  have hg := fun {w : Cond} (h : w ∈ lw_tbl) (g : goodWord w = true) => hts w (pv_in h g)
  have hown : s.vm.findClass RL = some m.cls := findClass_of_methodNamed B.named
  have hlocks := B.notSynchronized
  have hcw := atoms_spec (ws := Cond.codeWith yL_addRule cL_addRule 9 (some .int) [(0, 18, 21, 23), (0, 18, 25, 13), (0, 18, 29, 25), (0, 18, 33, 15)] :: pv_W) B.pre _ List.mem_cons_self
  subst hsz
  have hD := hD0
  generalize hAe : va_A [] s.heap.size = A at hE ⊢
  have hA : ∀ q : Nat, s.heap.size ≤ q → A q := fun q h => by rw [← hAe]; exact Or.inr h
  have hS : va_S A s.heap s.heap [] := va_S.rf
  have hP : va_P D pv_cl [(h0, .inr (0, [.ref (q 0), .int 0, .int 108, .ref (q 1), .int 0, .ref (q 2), .int 0, .ref (q 3), .ref (q 4), .int 1, .ref (q 5), .ref (q 6), .ref (q 7), .ref (q 8), .ref (q 9)]))] s.heap := hP
  have hl := lv_entry ([.ref h0, .int p0, .int p1, .int p2, .int p3, .int p4, .int p5, .ref o0]) (n := 9) (Nat.le_of_ble_eq_true rfl)
  rw [lg_entry_eq]
  generalize (lg_sl ([.ref h0, .int p0, .int p1, .int p2, .int p3, .int p4, .int p5, .ref o0]) ++ List.replicate (9 - (lg_sl ([.ref h0, .int p0, .int p1, .int p2, .int p3, .int p4, .int p5, .ref o0])).length) Slot.unset).toArray = ls at hl ⊢
  have hl : lv_has ls 9 [(0, .ref h0), (1, .int p0), (2, .int p1), (3, .int p2), (4, .int p3), (5, .int p4), (6, .int p5), (7, .ref o0)] := hl
  refine lv_aload hx hb dL_addRule_0 (lv_at hl 7 rfl) ?_
  refine lv_iconst (v := 0) hx hb dL_addRule_2 (by decide) ?_
  refine lv_aload_n hx hb dL_addRule_3 rfl (lv_at hl 0 rfl) ?_
  refine lv_iload_n hx hb dL_addRule_4 rfl (lv_at hl 1 rfl) ?_
  refine lv_iload_n hx hb dL_addRule_5 rfl (lv_at hl 2 rfl) ?_
  refine lv_iload_n hx hb dL_addRule_6 rfl (lv_at hl 3 rfl) ?_
  refine lv_iload hx hb dL_addRule_7 (lv_at hl 4 rfl) ?_
  refine lv_iload hx hb dL_addRule_9 (lv_at hl 5 rfl) ?_
  refine lv_iload hx hb dL_addRule_11 (lv_at hl 6 rfl) ?_
  have hF := pv_new hA hS.1
  refine pv_thrown (vx_runV (As := [.int p0, .int p1, .int p2, .int p3, .int p4, .int p5]) (rest := [.int 0, .ref o0]) ⟨hx, hb, hml, hown, hts⟩ (c_X11_addRule l hfl D _ h0 q p0 p1 p2 p3 p4 p5) (cwV 6 hts (pv_gV w8_50 w8_51 w8_52 w1_1 w8_53) rfl rfl rfl (by decide +kernel) ⟨Nat.le_of_ble_eq_true rfl, Nat.le_of_ble_eq_true rfl⟩) (pv_pV hE hS hF (hP.sub [0] rfl) (hK.sub [] rfl) (hD.sub [0] (by decide) rfl) (va_recv (ci := 0) (q0 := 0) hK hP rfl rfl)) rfl rfl hl.1 rfl (lv_room (Nat.le_of_ble_eq_true rfl)) dL_addRule_13 ⟨Nat.le_of_ble_eq_true rfl, Nat.le_of_ble_eq_true rfl⟩) (fun _ _ _ h => h) hS hF hF (fun E ce q9 u t H1 locs1 ht hvm hpx hbx hz1 hk1 hS hce hcv hcl => ?_)
  subst hbx
  have hP := pv_keep hP rfl hk1
  refine vx_catch (own := RL) (name := "java/lang/IndexOutOfBoundsException") hown [] ⟨0, 18, 21, 23⟩ _ ((vx_table (x := yL_law) B hcw).trans rfl) (fun z hz => nomatch hz) rfl (by decide) (hg w5_69 rfl) (va_Nw.use rfl (hE.2.2.1 _ (pv_ib w5_118 rfl))) hce hcv hcl ?_
  refine W.widen (k := 1) (n := 6) (Nat.le_of_ble_eq_true rfl) (Nat.le_of_ble_eq_true rfl) ?_
  refine lv_astore (lv' := [(8, .ref q9), (0, .ref h0), (1, .int p0), (2, .int p1), (3, .int p2), (4, .int p3), (5, .int p4), (6, .int p5), (7, .ref o0)]) hx hb dL_addRule_21 hl (by decide) rfl (fun ls hl => ?_)
  refine lv_iconst (v := 1) hx hb dL_addRule_23 (by decide) ?_
  refine W.widen (k := 1) (n := 6) (Nat.le_of_ble_eq_true rfl) (Nat.le_of_ble_eq_true rfl) ?_
  exact W.iret (v := 1) hx hb hr (fun t ht hW => ⟨⟨1, (), rfl, rfl, trivial⟩, hS.F ht⟩) hS.2.2 dL_addRule_24

theorem dL_rewrite_0 : decode cL_rewrite 0 = .ok (.aload_n 2, 1) := by decide +kernel
theorem dL_rewrite_1 : decode cL_rewrite 1 = .ok (.iconst 0, 1) := by decide +kernel
theorem dL_rewrite_2 : decode cL_rewrite 2 = .ok (.aload_n 0, 1) := by decide +kernel
theorem dL_rewrite_3 : decode cL_rewrite 3 = .ok (.iload_n 1, 1) := by decide +kernel
theorem dL_rewrite_4 : decode cL_rewrite 4 = .ok (.invokevirtual 175, 3) := by decide +kernel
theorem w8_128 : (Jvm.Cond.methodLink "PolyforgeLaw" (175 : Nat) ({ cls := "Polyforge", name := "rewrite", desc := "(I)I" } : Jvm.MethodName)) ∈ lw_tbl := pv_t8 (pv_mg 128 rfl)
theorem w8_131 : (Jvm.Cond.code ({ cls := "Polyforge", name := "rewrite", desc := "(I)I" } : Jvm.MethodName) prog_1_method_50_code (3 : Nat) (Option.some Jvm.ClassFile.FieldType.int)) ∈ lw_tbl := pv_t8 (pv_mg 131 rfl)
theorem w8_130 : (Jvm.Cond.selects "Polyforge" ({ cls := "Polyforge", name := "rewrite", desc := "(I)I" } : Jvm.MethodName) ({ cls := "Polyforge", name := "rewrite", desc := "(I)I" } : Jvm.MethodName)) ∈ lw_tbl := pv_t8 (pv_mg 130 rfl)
theorem w8_129 : (Jvm.Cond.instanceMethod ({ cls := "Polyforge", name := "rewrite", desc := "(I)I" } : Jvm.MethodName)) ∈ lw_tbl := pv_t8 (pv_mg 129 rfl)
theorem dL_rewrite_12 : decode cL_rewrite 12 = .ok (.astore_n 3, 1) := by decide +kernel
theorem dL_rewrite_13 : decode cL_rewrite 13 = .ok (.iconst 1, 1) := by decide +kernel
theorem dL_rewrite_14 : decode cL_rewrite 14 = .ok (.ireturn, 1) := by decide +kernel
set_option maxHeartbeats 4000000 in
set_option maxRecDepth 100000 in
/-- rewrite: the first handler -/
theorem c_L_rewrite (l : Launch) (hfl : l.stackTraces = false) (D : va_G) (sz : Nat) (h0 : Nat) (q : Nat → Nat) (p0 : Int32) (o0 : Nat) : Met l yL_rewrite (Cond.codeWith yL_rewrite cL_rewrite 4 (some .int) [(0, 9, 12, 23), (0, 9, 15, 25), (0, 9, 18, 27), (0, 9, 21, 15)] :: pv_W) ({ frames := 9, cells := 1, slots := 6, locals := 144 } : Room) (va_Pc [.ref h0, .int p0, .ref o0] (pv_P D [] [(h0, .inr (0, [.ref (q 0), .int 0, .int 108, .ref (q 1), .int 0, .ref (q 2), .int 0, .ref (q 3), .ref (q 4), .int 1, .ref (q 5), .ref (q 6), .ref (q 7), .ref (q 8), .ref (q 9)]))] (va_A [] sz) sz)) (va_Qi (fun r (_ : Unit) => r = 1) (fun _ _ => True) (va_A [] sz)) 1 6 (va_A [] sz) := by
  refine pv_ofWH (cc := cL_rewrite) (maxL := 4) (ret := (some .int)) (by decide) rfl ?_
  intro p e s m args below meth c s₁ B hml hv
  obtain ⟨rfl, hsz, hE, hP, hK, hD0⟩ := hv
  have hx := B.exec
  have hb := B.bytes
  have hr := B.returns
  have hts := fun (w : Cond) (h : w ∈ pv_W) => atoms_spec (ws := Cond.codeWith yL_rewrite cL_rewrite 4 (some .int) [(0, 9, 12, 23), (0, 9, 15, 25), (0, 9, 18, 27), (0, 9, 21, 15)] :: pv_W) B.pre w (List.mem_cons_of_mem _ h)
  have hg := fun {w : Cond} (h : w ∈ lw_tbl) (g : goodWord w = true) => hts w (pv_in h g)
  have hown : s.vm.findClass RL = some m.cls := findClass_of_methodNamed B.named
  have hlocks := B.notSynchronized
  have hcw := atoms_spec (ws := Cond.codeWith yL_rewrite cL_rewrite 4 (some .int) [(0, 9, 12, 23), (0, 9, 15, 25), (0, 9, 18, 27), (0, 9, 21, 15)] :: pv_W) B.pre _ List.mem_cons_self
  subst hsz
  have hD := hD0
  generalize hAe : va_A [] s.heap.size = A at hE ⊢
  have hA : ∀ q : Nat, s.heap.size ≤ q → A q := fun q h => by rw [← hAe]; exact Or.inr h
  have hS : va_S A s.heap s.heap [] := va_S.rf
  have hP : va_P D pv_cl [(h0, .inr (0, [.ref (q 0), .int 0, .int 108, .ref (q 1), .int 0, .ref (q 2), .int 0, .ref (q 3), .ref (q 4), .int 1, .ref (q 5), .ref (q 6), .ref (q 7), .ref (q 8), .ref (q 9)]))] s.heap := hP
  have hl := lv_entry ([.ref h0, .int p0, .ref o0]) (n := 4) (Nat.le_of_ble_eq_true rfl)
  rw [lg_entry_eq]
  generalize (lg_sl ([.ref h0, .int p0, .ref o0]) ++ List.replicate (4 - (lg_sl ([.ref h0, .int p0, .ref o0])).length) Slot.unset).toArray = ls at hl ⊢
  have hl : lv_has ls 4 [(0, .ref h0), (1, .int p0), (2, .ref o0)] := hl
  refine lv_aload_n hx hb dL_rewrite_0 rfl (lv_at hl 2 rfl) ?_
  refine lv_iconst (v := 0) hx hb dL_rewrite_1 (by decide) ?_
  refine lv_aload_n hx hb dL_rewrite_2 rfl (lv_at hl 0 rfl) ?_
  refine lv_iload_n hx hb dL_rewrite_3 rfl (lv_at hl 1 rfl) ?_
  have hF := pv_new hA hS.1
  refine pv_thrown (vx_runV (As := [.int p0]) (rest := [.int 0, .ref o0]) ⟨hx, hb, hml, hown, hts⟩ (c_X11_rewrite l hfl D _ h0 q p0) (cwV 1 hts (pv_gV w8_128 w8_129 w8_130 w1_1 w8_131) rfl rfl rfl (by decide +kernel) ⟨Nat.le_of_ble_eq_true rfl, Nat.le_of_ble_eq_true rfl⟩) (pv_pV hE hS hF (hP.sub [0] rfl) (hK.sub [] rfl) (hD.sub [0] (by decide) rfl) (va_recv (ci := 0) (q0 := 0) hK hP rfl rfl)) rfl rfl hl.1 rfl (lv_room (Nat.le_of_ble_eq_true rfl)) dL_rewrite_4 ⟨Nat.le_of_ble_eq_true rfl, Nat.le_of_ble_eq_true rfl⟩) (fun _ _ _ h => h) hS hF hF (fun E ce q9 u t H1 locs1 ht hvm hpx hbx hz1 hk1 hS hce hcv hcl => ?_)
  subst hbx
  have hP := pv_keep hP rfl hk1
  refine vx_catch (own := RL) (name := "java/lang/IndexOutOfBoundsException") hown [] ⟨0, 9, 12, 23⟩ _ ((vx_table (x := yL_law) B hcw).trans rfl) (fun z hz => nomatch hz) rfl (by decide) (hg w5_69 rfl) (va_Nw.use rfl (hE.2.2.1 _ (pv_ib w5_118 rfl))) hce hcv hcl ?_
  refine W.widen (k := 1) (n := 6) (Nat.le_of_ble_eq_true rfl) (Nat.le_of_ble_eq_true rfl) ?_
  refine lv_astore_n (lv' := [(3, .ref q9), (0, .ref h0), (1, .int p0), (2, .ref o0)]) hx hb dL_rewrite_12 rfl hl (by decide) rfl (fun ls hl => ?_)
  refine lv_iconst (v := 1) hx hb dL_rewrite_13 (by decide) ?_
  refine W.widen (k := 1) (n := 6) (Nat.le_of_ble_eq_true rfl) (Nat.le_of_ble_eq_true rfl) ?_
  exact W.iret (v := 1) hx hb hr (fun t ht hW => ⟨⟨1, (), rfl, rfl, trivial⟩, hS.F ht⟩) hS.2.2 dL_rewrite_14

theorem dL_steps_0 : decode cL_steps 0 = .ok (.aload_n 2, 1) := by decide +kernel
theorem dL_steps_1 : decode cL_steps 1 = .ok (.iconst 0, 1) := by decide +kernel
theorem dL_steps_2 : decode cL_steps 2 = .ok (.aload_n 0, 1) := by decide +kernel
theorem dL_steps_3 : decode cL_steps 3 = .ok (.iload_n 1, 1) := by decide +kernel
theorem dL_steps_4 : decode cL_steps 4 = .ok (.invokevirtual 178, 3) := by decide +kernel
theorem w8_165 : (Jvm.Cond.methodLink "PolyforgeLaw" (178 : Nat) ({ cls := "Polyforge", name := "steps", desc := "(I)I" } : Jvm.MethodName)) ∈ lw_tbl := pv_t8 (pv_mg 165 rfl)
theorem w8_168 : (Jvm.Cond.code ({ cls := "Polyforge", name := "steps", desc := "(I)I" } : Jvm.MethodName) prog_1_method_51_code (4 : Nat) (Option.some Jvm.ClassFile.FieldType.int)) ∈ lw_tbl := pv_t8 (pv_mg 168 rfl)
theorem w8_167 : (Jvm.Cond.selects "Polyforge" ({ cls := "Polyforge", name := "steps", desc := "(I)I" } : Jvm.MethodName) ({ cls := "Polyforge", name := "steps", desc := "(I)I" } : Jvm.MethodName)) ∈ lw_tbl := pv_t8 (pv_mg 167 rfl)
theorem w8_166 : (Jvm.Cond.instanceMethod ({ cls := "Polyforge", name := "steps", desc := "(I)I" } : Jvm.MethodName)) ∈ lw_tbl := pv_t8 (pv_mg 166 rfl)
theorem dL_steps_12 : decode cL_steps 12 = .ok (.astore_n 3, 1) := by decide +kernel
theorem dL_steps_13 : decode cL_steps 13 = .ok (.iconst 1, 1) := by decide +kernel
theorem dL_steps_14 : decode cL_steps 14 = .ok (.ireturn, 1) := by decide +kernel
set_option maxHeartbeats 4000000 in
set_option maxRecDepth 100000 in
/-- steps: the first handler -/
theorem c_L_steps (l : Launch) (hfl : l.stackTraces = false) (D : va_G) (sz : Nat) (h0 : Nat) (q : Nat → Nat) (p0 : Int32) (o0 : Nat) : Met l yL_steps (Cond.codeWith yL_steps cL_steps 4 (some .int) [(0, 9, 12, 23), (0, 9, 15, 25), (0, 9, 18, 27)] :: pv_W) ({ frames := 9, cells := 1, slots := 6, locals := 145 } : Room) (va_Pc [.ref h0, .int p0, .ref o0] (pv_P D [] [(h0, .inr (0, [.ref (q 0), .int 0, .int 108, .ref (q 1), .int 0, .ref (q 2), .int 0, .ref (q 3), .ref (q 4), .int 1, .ref (q 5), .ref (q 6), .ref (q 7), .ref (q 8), .ref (q 9)]))] (va_A [] sz) sz)) (va_Qi (fun r (_ : Unit) => r = 1) (fun _ _ => True) (va_A [] sz)) 1 6 (va_A [] sz) := by
  refine pv_ofWH (cc := cL_steps) (maxL := 4) (ret := (some .int)) (by decide) rfl ?_
  intro p e s m args below meth c s₁ B hml hv
  obtain ⟨rfl, hsz, hE, hP, hK, hD0⟩ := hv
  have hx := B.exec
  have hb := B.bytes
  have hr := B.returns
  have hts := fun (w : Cond) (h : w ∈ pv_W) => atoms_spec (ws := Cond.codeWith yL_steps cL_steps 4 (some .int) [(0, 9, 12, 23), (0, 9, 15, 25), (0, 9, 18, 27)] :: pv_W) B.pre w (List.mem_cons_of_mem _ h)
  have hg := fun {w : Cond} (h : w ∈ lw_tbl) (g : goodWord w = true) => hts w (pv_in h g)
  have hown : s.vm.findClass RL = some m.cls := findClass_of_methodNamed B.named
  have hlocks := B.notSynchronized
  have hcw := atoms_spec (ws := Cond.codeWith yL_steps cL_steps 4 (some .int) [(0, 9, 12, 23), (0, 9, 15, 25), (0, 9, 18, 27)] :: pv_W) B.pre _ List.mem_cons_self
  subst hsz
  have hD := hD0
  generalize hAe : va_A [] s.heap.size = A at hE ⊢
  have hA : ∀ q : Nat, s.heap.size ≤ q → A q := fun q h => by rw [← hAe]; exact Or.inr h
  have hS : va_S A s.heap s.heap [] := va_S.rf
  have hP : va_P D pv_cl [(h0, .inr (0, [.ref (q 0), .int 0, .int 108, .ref (q 1), .int 0, .ref (q 2), .int 0, .ref (q 3), .ref (q 4), .int 1, .ref (q 5), .ref (q 6), .ref (q 7), .ref (q 8), .ref (q 9)]))] s.heap := hP
  have hl := lv_entry ([.ref h0, .int p0, .ref o0]) (n := 4) (Nat.le_of_ble_eq_true rfl)
  rw [lg_entry_eq]
  generalize (lg_sl ([.ref h0, .int p0, .ref o0]) ++ List.replicate (4 - (lg_sl ([.ref h0, .int p0, .ref o0])).length) Slot.unset).toArray = ls at hl ⊢
  have hl : lv_has ls 4 [(0, .ref h0), (1, .int p0), (2, .ref o0)] := hl
  refine lv_aload_n hx hb dL_steps_0 rfl (lv_at hl 2 rfl) ?_
  refine lv_iconst (v := 0) hx hb dL_steps_1 (by decide) ?_
  refine lv_aload_n hx hb dL_steps_2 rfl (lv_at hl 0 rfl) ?_
  refine lv_iload_n hx hb dL_steps_3 rfl (lv_at hl 1 rfl) ?_
  have hF := pv_new hA hS.1
  refine pv_thrown (vx_runV (As := [.int p0]) (rest := [.int 0, .ref o0]) ⟨hx, hb, hml, hown, hts⟩ (c_X11_steps l hfl D _ h0 q p0) (cwV 1 hts (pv_gV w8_165 w8_166 w8_167 w1_1 w8_168) rfl rfl rfl (by decide +kernel) ⟨Nat.le_of_ble_eq_true rfl, Nat.le_of_ble_eq_true rfl⟩) (pv_pV hE hS hF (hP.sub [0] rfl) (hK.sub [] rfl) (hD.sub [0] (by decide) rfl) (va_recv (ci := 0) (q0 := 0) hK hP rfl rfl)) rfl rfl hl.1 rfl (lv_room (Nat.le_of_ble_eq_true rfl)) dL_steps_4 ⟨Nat.le_of_ble_eq_true rfl, Nat.le_of_ble_eq_true rfl⟩) (fun _ _ _ h => h) hS hF hF (fun E ce q9 u t H1 locs1 ht hvm hpx hbx hz1 hk1 hS hce hcv hcl => ?_)
  subst hbx
  have hP := pv_keep hP rfl hk1
  refine vx_catch (own := RL) (name := "java/lang/IndexOutOfBoundsException") hown [] ⟨0, 9, 12, 23⟩ _ ((vx_table (x := yL_law) B hcw).trans rfl) (fun z hz => nomatch hz) rfl (by decide) (hg w5_69 rfl) (va_Nw.use rfl (hE.2.2.1 _ (pv_ib w5_118 rfl))) hce hcv hcl ?_
  refine W.widen (k := 1) (n := 6) (Nat.le_of_ble_eq_true rfl) (Nat.le_of_ble_eq_true rfl) ?_
  refine lv_astore_n (lv' := [(3, .ref q9), (0, .ref h0), (1, .int p0), (2, .ref o0)]) hx hb dL_steps_12 rfl hl (by decide) rfl (fun ls hl => ?_)
  refine lv_iconst (v := 1) hx hb dL_steps_13 (by decide) ?_
  refine W.widen (k := 1) (n := 6) (Nat.le_of_ble_eq_true rfl) (Nat.le_of_ble_eq_true rfl) ?_
  exact W.iret (v := 1) hx hb hr (fun t ht hW => ⟨⟨1, (), rfl, rfl, trivial⟩, hS.F ht⟩) hS.2.2 dL_steps_14

theorem dL_addGenerator_0 : decode cL_addGenerator 0 = .ok (.aload_n 3, 1) := by decide +kernel
theorem dL_addGenerator_1 : decode cL_addGenerator 1 = .ok (.iconst 0, 1) := by decide +kernel
theorem dL_addGenerator_2 : decode cL_addGenerator 2 = .ok (.aload_n 0, 1) := by decide +kernel
theorem dL_addGenerator_3 : decode cL_addGenerator 3 = .ok (.iload_n 1, 1) := by decide +kernel
theorem dL_addGenerator_4 : decode cL_addGenerator 4 = .ok (.iload_n 2, 1) := by decide +kernel
theorem dL_addGenerator_5 : decode cL_addGenerator 5 = .ok (.invokevirtual 131, 3) := by decide +kernel
theorem w7_186 : (Jvm.Cond.methodLink "PolyforgeLaw" (131 : Nat) ({ cls := "Polyforge", name := "addGenerator", desc := "(II)I" } : Jvm.MethodName)) ∈ lw_tbl := pv_t7 (pv_mg 186 rfl)
theorem w7_189 : (Jvm.Cond.code ({ cls := "Polyforge", name := "addGenerator", desc := "(II)I" } : Jvm.MethodName) prog_1_method_37_code (5 : Nat) (Option.some Jvm.ClassFile.FieldType.int)) ∈ lw_tbl := pv_t7 (pv_mg 189 rfl)
theorem w7_188 : (Jvm.Cond.selects "Polyforge" ({ cls := "Polyforge", name := "addGenerator", desc := "(II)I" } : Jvm.MethodName) ({ cls := "Polyforge", name := "addGenerator", desc := "(II)I" } : Jvm.MethodName)) ∈ lw_tbl := pv_t7 (pv_mg 188 rfl)
theorem w7_187 : (Jvm.Cond.instanceMethod ({ cls := "Polyforge", name := "addGenerator", desc := "(II)I" } : Jvm.MethodName)) ∈ lw_tbl := pv_t7 (pv_mg 187 rfl)
theorem w6_39 : (Jvm.Cond.classLink "PolyforgeLaw" (55 : Nat) "java/util/NoSuchElementException") ∈ lw_tbl := pv_t6 (pv_mg 39 rfl)
theorem w6_50 : (Jvm.Cond.castable "java/util/NoSuchElementException" "java/util/NoSuchElementException") ∈ lw_tbl := pv_t6 (pv_mg 50 rfl)
theorem dL_addGenerator_13 : decode cL_addGenerator 13 = .ok (.astore 4, 2) := by decide +kernel
theorem dL_addGenerator_15 : decode cL_addGenerator 15 = .ok (.iconst 1, 1) := by decide +kernel
theorem dL_addGenerator_16 : decode cL_addGenerator 16 = .ok (.ireturn, 1) := by decide +kernel
set_option maxHeartbeats 4000000 in
set_option maxRecDepth 100000 in
/-- addGenerator: the first handler -/
theorem c_L_addGenerator (l : Launch) (hfl : l.stackTraces = false) (D : va_G) (sz : Nat) (h0 : Nat) (q : Nat → Nat) (p0 p1 : Int32) (o0 : Nat) : Met l yL_addGenerator (Cond.codeWith yL_addGenerator cL_addGenerator 5 (some .int) [(0, 10, 13, 55), (0, 10, 17, 23), (0, 10, 21, 25), (0, 10, 25, 15)] :: pv_W) ({ frames := 9, cells := 1, slots := 6, locals := 146 } : Room) (va_Pc [.ref h0, .int p0, .int p1, .ref o0] (pv_P D [] [(h0, .inr (0, [.ref (q 0), .int 0, .int 108, .ref (q 1), .int 0, .ref (q 2), .int 0, .ref (q 3), .ref (q 4), .int 1, .ref (q 5), .ref (q 6), .ref (q 7), .ref (q 8), .ref (q 9)]))] (va_A [] sz) sz)) (va_Qi (fun r (_ : Unit) => r = 1) (fun _ _ => True) (va_A [] sz)) 1 6 (va_A [] sz) := by
  refine pv_ofWH (cc := cL_addGenerator) (maxL := 5) (ret := (some .int)) (by decide) rfl ?_
  intro p e s m args below meth c s₁ B hml hv
  obtain ⟨rfl, hsz, hE, hP, hK, hD0⟩ := hv
  have hx := B.exec
  have hb := B.bytes
  have hr := B.returns
  have hts := fun (w : Cond) (h : w ∈ pv_W) => atoms_spec (ws := Cond.codeWith yL_addGenerator cL_addGenerator 5 (some .int) [(0, 10, 13, 55), (0, 10, 17, 23), (0, 10, 21, 25), (0, 10, 25, 15)] :: pv_W) B.pre w (List.mem_cons_of_mem _ h)
  have hg := fun {w : Cond} (h : w ∈ lw_tbl) (g : goodWord w = true) => hts w (pv_in h g)
  have hown : s.vm.findClass RL = some m.cls := findClass_of_methodNamed B.named
  have hlocks := B.notSynchronized
  have hcw := atoms_spec (ws := Cond.codeWith yL_addGenerator cL_addGenerator 5 (some .int) [(0, 10, 13, 55), (0, 10, 17, 23), (0, 10, 21, 25), (0, 10, 25, 15)] :: pv_W) B.pre _ List.mem_cons_self
  subst hsz
  have hD := hD0
  generalize hAe : va_A [] s.heap.size = A at hE ⊢
  have hA : ∀ q : Nat, s.heap.size ≤ q → A q := fun q h => by rw [← hAe]; exact Or.inr h
  have hS : va_S A s.heap s.heap [] := va_S.rf
  have hP : va_P D pv_cl [(h0, .inr (0, [.ref (q 0), .int 0, .int 108, .ref (q 1), .int 0, .ref (q 2), .int 0, .ref (q 3), .ref (q 4), .int 1, .ref (q 5), .ref (q 6), .ref (q 7), .ref (q 8), .ref (q 9)]))] s.heap := hP
  have hl := lv_entry ([.ref h0, .int p0, .int p1, .ref o0]) (n := 5) (Nat.le_of_ble_eq_true rfl)
  rw [lg_entry_eq]
  generalize (lg_sl ([.ref h0, .int p0, .int p1, .ref o0]) ++ List.replicate (5 - (lg_sl ([.ref h0, .int p0, .int p1, .ref o0])).length) Slot.unset).toArray = ls at hl ⊢
  have hl : lv_has ls 5 [(0, .ref h0), (1, .int p0), (2, .int p1), (3, .ref o0)] := hl
  refine lv_aload_n hx hb dL_addGenerator_0 rfl (lv_at hl 3 rfl) ?_
  refine lv_iconst (v := 0) hx hb dL_addGenerator_1 (by decide) ?_
  refine lv_aload_n hx hb dL_addGenerator_2 rfl (lv_at hl 0 rfl) ?_
  refine lv_iload_n hx hb dL_addGenerator_3 rfl (lv_at hl 1 rfl) ?_
  refine lv_iload_n hx hb dL_addGenerator_4 rfl (lv_at hl 2 rfl) ?_
  have hF := pv_new hA hS.1
  refine pv_thrown (vx_runV (As := [.int p0, .int p1]) (rest := [.int 0, .ref o0]) ⟨hx, hb, hml, hown, hts⟩ (c_X11_addGenerator l hfl D _ h0 q p0 p1) (cwV 2 hts (pv_gV w7_186 w7_187 w7_188 w1_1 w7_189) rfl rfl rfl (by decide +kernel) ⟨Nat.le_of_ble_eq_true rfl, Nat.le_of_ble_eq_true rfl⟩) (pv_pV hE hS hF (hP.sub [0] rfl) (hK.sub [] rfl) (hD.sub [0] (by decide) rfl) (va_recv (ci := 0) (q0 := 0) hK hP rfl rfl)) rfl rfl hl.1 rfl (lv_room (Nat.le_of_ble_eq_true rfl)) dL_addGenerator_5 ⟨Nat.le_of_ble_eq_true rfl, Nat.le_of_ble_eq_true rfl⟩) (fun _ _ _ h => h) hS hF hF (fun E ce q9 u t H1 locs1 ht hvm hpx hbx hz1 hk1 hS hce hcv hcl => ?_)
  subst hbx
  have hP := pv_keep hP rfl hk1
  refine vx_catch (own := RL) (name := "java/util/NoSuchElementException") hown [] ⟨0, 10, 13, 55⟩ _ ((vx_table (x := yL_law) B hcw).trans rfl) (fun z hz => nomatch hz) rfl (by decide) (hg w6_39 rfl) (va_Nw.use rfl (hE.2.2.1 _ (pv_ib w6_50 rfl))) hce hcv hcl ?_
  refine W.widen (k := 1) (n := 6) (Nat.le_of_ble_eq_true rfl) (Nat.le_of_ble_eq_true rfl) ?_
  refine lv_astore (lv' := [(4, .ref q9), (0, .ref h0), (1, .int p0), (2, .int p1), (3, .ref o0)]) hx hb dL_addGenerator_13 hl (by decide) rfl (fun ls hl => ?_)
  refine lv_iconst (v := 1) hx hb dL_addGenerator_15 (by decide) ?_
  refine W.widen (k := 1) (n := 6) (Nat.le_of_ble_eq_true rfl) (Nat.le_of_ble_eq_true rfl) ?_
  exact W.iret (v := 1) hx hb hr (fun t ht hW => ⟨⟨1, (), rfl, rfl, trivial⟩, hS.F ht⟩) hS.2.2 dL_addGenerator_16

theorem dL_basis_0 : decode cL_basis 0 = .ok (.aload_n 2, 1) := by decide +kernel
theorem dL_basis_1 : decode cL_basis 1 = .ok (.iconst 0, 1) := by decide +kernel
theorem dL_basis_2 : decode cL_basis 2 = .ok (.aload_n 0, 1) := by decide +kernel
theorem dL_basis_3 : decode cL_basis 3 = .ok (.iload_n 1, 1) := by decide +kernel
theorem dL_basis_4 : decode cL_basis 4 = .ok (.invokevirtual 134, 3) := by decide +kernel
theorem w7_207 : (Jvm.Cond.methodLink "PolyforgeLaw" (134 : Nat) ({ cls := "Polyforge", name := "basis", desc := "(I)I" } : Jvm.MethodName)) ∈ lw_tbl := pv_t7 (pv_mg 207 rfl)
theorem w7_210 : (Jvm.Cond.code ({ cls := "Polyforge", name := "basis", desc := "(I)I" } : Jvm.MethodName) prog_1_method_38_code (2 : Nat) (Option.some Jvm.ClassFile.FieldType.int)) ∈ lw_tbl := pv_t7 (pv_mg 210 rfl)
theorem w7_209 : (Jvm.Cond.selects "Polyforge" ({ cls := "Polyforge", name := "basis", desc := "(I)I" } : Jvm.MethodName) ({ cls := "Polyforge", name := "basis", desc := "(I)I" } : Jvm.MethodName)) ∈ lw_tbl := pv_t7 (pv_mg 209 rfl)
theorem w7_208 : (Jvm.Cond.instanceMethod ({ cls := "Polyforge", name := "basis", desc := "(I)I" } : Jvm.MethodName)) ∈ lw_tbl := pv_t7 (pv_mg 208 rfl)
theorem dL_basis_12 : decode cL_basis 12 = .ok (.astore_n 3, 1) := by decide +kernel
theorem dL_basis_13 : decode cL_basis 13 = .ok (.iconst 1, 1) := by decide +kernel
theorem dL_basis_14 : decode cL_basis 14 = .ok (.ireturn, 1) := by decide +kernel
set_option maxHeartbeats 4000000 in
set_option maxRecDepth 100000 in
/-- basis: the first handler -/
theorem c_L_basis (l : Launch) (hfl : l.stackTraces = false) (D : va_G) (sz : Nat) (h0 : Nat) (q : Nat → Nat) (p0 : Int32) (o0 : Nat) : Met l yL_basis (Cond.codeWith yL_basis cL_basis 4 (some .int) [(0, 9, 12, 55)] :: pv_W) ({ frames := 9, cells := 1, slots := 6, locals := 143 } : Room) (va_Pc [.ref h0, .int p0, .ref o0] (pv_P D [] [(h0, .inr (0, [.ref (q 0), .int 0, .int 108, .ref (q 1), .int 0, .ref (q 2), .int 0, .ref (q 3), .ref (q 4), .int 1, .ref (q 5), .ref (q 6), .ref (q 7), .ref (q 8), .ref (q 9)]))] (va_A [] sz) sz)) (va_Qi (fun r (_ : Unit) => r = 1) (fun _ _ => True) (va_A [] sz)) 1 6 (va_A [] sz) := by
  refine pv_ofWH (cc := cL_basis) (maxL := 4) (ret := (some .int)) (by decide) rfl ?_
  intro p e s m args below meth c s₁ B hml hv
  obtain ⟨rfl, hsz, hE, hP, hK, hD0⟩ := hv
  have hx := B.exec
  have hb := B.bytes
  have hr := B.returns
  have hts := fun (w : Cond) (h : w ∈ pv_W) => atoms_spec (ws := Cond.codeWith yL_basis cL_basis 4 (some .int) [(0, 9, 12, 55)] :: pv_W) B.pre w (List.mem_cons_of_mem _ h)
  have hg := fun {w : Cond} (h : w ∈ lw_tbl) (g : goodWord w = true) => hts w (pv_in h g)
  have hown : s.vm.findClass RL = some m.cls := findClass_of_methodNamed B.named
  have hlocks := B.notSynchronized
  have hcw := atoms_spec (ws := Cond.codeWith yL_basis cL_basis 4 (some .int) [(0, 9, 12, 55)] :: pv_W) B.pre _ List.mem_cons_self
  subst hsz
  have hD := hD0
  generalize hAe : va_A [] s.heap.size = A at hE ⊢
  have hA : ∀ q : Nat, s.heap.size ≤ q → A q := fun q h => by rw [← hAe]; exact Or.inr h
  have hS : va_S A s.heap s.heap [] := va_S.rf
  have hP : va_P D pv_cl [(h0, .inr (0, [.ref (q 0), .int 0, .int 108, .ref (q 1), .int 0, .ref (q 2), .int 0, .ref (q 3), .ref (q 4), .int 1, .ref (q 5), .ref (q 6), .ref (q 7), .ref (q 8), .ref (q 9)]))] s.heap := hP
  have hl := lv_entry ([.ref h0, .int p0, .ref o0]) (n := 4) (Nat.le_of_ble_eq_true rfl)
  rw [lg_entry_eq]
  generalize (lg_sl ([.ref h0, .int p0, .ref o0]) ++ List.replicate (4 - (lg_sl ([.ref h0, .int p0, .ref o0])).length) Slot.unset).toArray = ls at hl ⊢
  have hl : lv_has ls 4 [(0, .ref h0), (1, .int p0), (2, .ref o0)] := hl
  refine lv_aload_n hx hb dL_basis_0 rfl (lv_at hl 2 rfl) ?_
  refine lv_iconst (v := 0) hx hb dL_basis_1 (by decide) ?_
  refine lv_aload_n hx hb dL_basis_2 rfl (lv_at hl 0 rfl) ?_
  refine lv_iload_n hx hb dL_basis_3 rfl (lv_at hl 1 rfl) ?_
  have hF := pv_new hA hS.1
  refine pv_thrown (vx_runV (As := [.int p0]) (rest := [.int 0, .ref o0]) ⟨hx, hb, hml, hown, hts⟩ (c_X11_basis l hfl D _ h0 q p0) (cwV 1 hts (pv_gV w7_207 w7_208 w7_209 w1_1 w7_210) rfl rfl rfl (by decide +kernel) ⟨Nat.le_of_ble_eq_true rfl, Nat.le_of_ble_eq_true rfl⟩) (pv_pV hE hS hF (hP.sub [0] rfl) (hK.sub [] rfl) (hD.sub [0] (by decide) rfl) (va_recv (ci := 0) (q0 := 0) hK hP rfl rfl)) rfl rfl hl.1 rfl (lv_room (Nat.le_of_ble_eq_true rfl)) dL_basis_4 ⟨Nat.le_of_ble_eq_true rfl, Nat.le_of_ble_eq_true rfl⟩) (fun _ _ _ h => h) hS hF hF (fun E ce q9 u t H1 locs1 ht hvm hpx hbx hz1 hk1 hS hce hcv hcl => ?_)
  subst hbx
  have hP := pv_keep hP rfl hk1
  refine vx_catch (own := RL) (name := "java/util/NoSuchElementException") hown [] ⟨0, 9, 12, 55⟩ _ ((vx_table (x := yL_law) B hcw).trans rfl) (fun z hz => nomatch hz) rfl (by decide) (hg w6_39 rfl) (va_Nw.use rfl (hE.2.2.1 _ (pv_ib w6_50 rfl))) hce hcv hcl ?_
  refine W.widen (k := 1) (n := 6) (Nat.le_of_ble_eq_true rfl) (Nat.le_of_ble_eq_true rfl) ?_
  refine lv_astore_n (lv' := [(3, .ref q9), (0, .ref h0), (1, .int p0), (2, .ref o0)]) hx hb dL_basis_12 rfl hl (by decide) rfl (fun ls hl => ?_)
  refine lv_iconst (v := 1) hx hb dL_basis_13 (by decide) ?_
  refine W.widen (k := 1) (n := 6) (Nat.le_of_ble_eq_true rfl) (Nat.le_of_ble_eq_true rfl) ?_
  exact W.iret (v := 1) hx hb hr (fun t ht hW => ⟨⟨1, (), rfl, rfl, trivial⟩, hS.F ht⟩) hS.2.2 dL_basis_14

theorem dL_basisTerms_0 : decode cL_basisTerms 0 = .ok (.aload_n 3, 1) := by decide +kernel
theorem dL_basisTerms_1 : decode cL_basisTerms 1 = .ok (.iconst 0, 1) := by decide +kernel
theorem dL_basisTerms_2 : decode cL_basisTerms 2 = .ok (.aload_n 0, 1) := by decide +kernel
theorem dL_basisTerms_3 : decode cL_basisTerms 3 = .ok (.iload_n 1, 1) := by decide +kernel
theorem dL_basisTerms_4 : decode cL_basisTerms 4 = .ok (.iload_n 2, 1) := by decide +kernel
theorem dL_basisTerms_5 : decode cL_basisTerms 5 = .ok (.invokevirtual 137, 3) := by decide +kernel
theorem w7_214 : (Jvm.Cond.methodLink "PolyforgeLaw" (137 : Nat) ({ cls := "Polyforge", name := "basisTerms", desc := "(II)I" } : Jvm.MethodName)) ∈ lw_tbl := pv_t7 (pv_mg 214 rfl)
theorem w7_217 : (Jvm.Cond.code ({ cls := "Polyforge", name := "basisTerms", desc := "(II)I" } : Jvm.MethodName) prog_1_method_39_code (4 : Nat) (Option.some Jvm.ClassFile.FieldType.int)) ∈ lw_tbl := pv_t7 (pv_mg 217 rfl)
theorem w7_216 : (Jvm.Cond.selects "Polyforge" ({ cls := "Polyforge", name := "basisTerms", desc := "(II)I" } : Jvm.MethodName) ({ cls := "Polyforge", name := "basisTerms", desc := "(II)I" } : Jvm.MethodName)) ∈ lw_tbl := pv_t7 (pv_mg 216 rfl)
theorem w7_215 : (Jvm.Cond.instanceMethod ({ cls := "Polyforge", name := "basisTerms", desc := "(II)I" } : Jvm.MethodName)) ∈ lw_tbl := pv_t7 (pv_mg 215 rfl)
theorem dL_basisTerms_13 : decode cL_basisTerms 13 = .ok (.astore 4, 2) := by decide +kernel
theorem dL_basisTerms_15 : decode cL_basisTerms 15 = .ok (.iconst 1, 1) := by decide +kernel
theorem dL_basisTerms_16 : decode cL_basisTerms 16 = .ok (.ireturn, 1) := by decide +kernel
set_option maxHeartbeats 4000000 in
set_option maxRecDepth 100000 in
/-- basisTerms: the first handler -/
theorem c_L_basisTerms (l : Launch) (hfl : l.stackTraces = false) (D : va_G) (sz : Nat) (h0 : Nat) (q : Nat → Nat) (p0 p1 : Int32) (o0 : Nat) : Met l yL_basisTerms (Cond.codeWith yL_basisTerms cL_basisTerms 5 (some .int) [(0, 10, 13, 55)] :: pv_W) ({ frames := 9, cells := 1, slots := 6, locals := 145 } : Room) (va_Pc [.ref h0, .int p0, .int p1, .ref o0] (pv_P D [] [(h0, .inr (0, [.ref (q 0), .int 0, .int 108, .ref (q 1), .int 0, .ref (q 2), .int 0, .ref (q 3), .ref (q 4), .int 1, .ref (q 5), .ref (q 6), .ref (q 7), .ref (q 8), .ref (q 9)]))] (va_A [] sz) sz)) (va_Qi (fun r (_ : Unit) => r = 1) (fun _ _ => True) (va_A [] sz)) 1 6 (va_A [] sz) := by
  refine pv_ofWH (cc := cL_basisTerms) (maxL := 5) (ret := (some .int)) (by decide) rfl ?_
  intro p e s m args below meth c s₁ B hml hv
  obtain ⟨rfl, hsz, hE, hP, hK, hD0⟩ := hv
  have hx := B.exec
  have hb := B.bytes
  have hr := B.returns
  have hts := fun (w : Cond) (h : w ∈ pv_W) => atoms_spec (ws := Cond.codeWith yL_basisTerms cL_basisTerms 5 (some .int) [(0, 10, 13, 55)] :: pv_W) B.pre w (List.mem_cons_of_mem _ h)
  have hg := fun {w : Cond} (h : w ∈ lw_tbl) (g : goodWord w = true) => hts w (pv_in h g)
  have hown : s.vm.findClass RL = some m.cls := findClass_of_methodNamed B.named
  have hlocks := B.notSynchronized
  have hcw := atoms_spec (ws := Cond.codeWith yL_basisTerms cL_basisTerms 5 (some .int) [(0, 10, 13, 55)] :: pv_W) B.pre _ List.mem_cons_self
  subst hsz
  have hD := hD0
  generalize hAe : va_A [] s.heap.size = A at hE ⊢
  have hA : ∀ q : Nat, s.heap.size ≤ q → A q := fun q h => by rw [← hAe]; exact Or.inr h
  have hS : va_S A s.heap s.heap [] := va_S.rf
  have hP : va_P D pv_cl [(h0, .inr (0, [.ref (q 0), .int 0, .int 108, .ref (q 1), .int 0, .ref (q 2), .int 0, .ref (q 3), .ref (q 4), .int 1, .ref (q 5), .ref (q 6), .ref (q 7), .ref (q 8), .ref (q 9)]))] s.heap := hP
  have hl := lv_entry ([.ref h0, .int p0, .int p1, .ref o0]) (n := 5) (Nat.le_of_ble_eq_true rfl)
  rw [lg_entry_eq]
  generalize (lg_sl ([.ref h0, .int p0, .int p1, .ref o0]) ++ List.replicate (5 - (lg_sl ([.ref h0, .int p0, .int p1, .ref o0])).length) Slot.unset).toArray = ls at hl ⊢
  have hl : lv_has ls 5 [(0, .ref h0), (1, .int p0), (2, .int p1), (3, .ref o0)] := hl
  refine lv_aload_n hx hb dL_basisTerms_0 rfl (lv_at hl 3 rfl) ?_
  refine lv_iconst (v := 0) hx hb dL_basisTerms_1 (by decide) ?_
  refine lv_aload_n hx hb dL_basisTerms_2 rfl (lv_at hl 0 rfl) ?_
  refine lv_iload_n hx hb dL_basisTerms_3 rfl (lv_at hl 1 rfl) ?_
  refine lv_iload_n hx hb dL_basisTerms_4 rfl (lv_at hl 2 rfl) ?_
  have hF := pv_new hA hS.1
  refine pv_thrown (vx_runV (As := [.int p0, .int p1]) (rest := [.int 0, .ref o0]) ⟨hx, hb, hml, hown, hts⟩ (c_X11_basisTerms l hfl D _ h0 q p0 p1) (cwV 2 hts (pv_gV w7_214 w7_215 w7_216 w1_1 w7_217) rfl rfl rfl (by decide +kernel) ⟨Nat.le_of_ble_eq_true rfl, Nat.le_of_ble_eq_true rfl⟩) (pv_pV hE hS hF (hP.sub [0] rfl) (hK.sub [] rfl) (hD.sub [0] (by decide) rfl) (va_recv (ci := 0) (q0 := 0) hK hP rfl rfl)) rfl rfl hl.1 rfl (lv_room (Nat.le_of_ble_eq_true rfl)) dL_basisTerms_5 ⟨Nat.le_of_ble_eq_true rfl, Nat.le_of_ble_eq_true rfl⟩) (fun _ _ _ h => h) hS hF hF (fun E ce q9 u t H1 locs1 ht hvm hpx hbx hz1 hk1 hS hce hcv hcl => ?_)
  subst hbx
  have hP := pv_keep hP rfl hk1
  refine vx_catch (own := RL) (name := "java/util/NoSuchElementException") hown [] ⟨0, 10, 13, 55⟩ _ ((vx_table (x := yL_law) B hcw).trans rfl) (fun z hz => nomatch hz) rfl (by decide) (hg w6_39 rfl) (va_Nw.use rfl (hE.2.2.1 _ (pv_ib w6_50 rfl))) hce hcv hcl ?_
  refine W.widen (k := 1) (n := 6) (Nat.le_of_ble_eq_true rfl) (Nat.le_of_ble_eq_true rfl) ?_
  refine lv_astore (lv' := [(4, .ref q9), (0, .ref h0), (1, .int p0), (2, .int p1), (3, .ref o0)]) hx hb dL_basisTerms_13 hl (by decide) rfl (fun ls hl => ?_)
  refine lv_iconst (v := 1) hx hb dL_basisTerms_15 (by decide) ?_
  refine W.widen (k := 1) (n := 6) (Nat.le_of_ble_eq_true rfl) (Nat.le_of_ble_eq_true rfl) ?_
  exact W.iret (v := 1) hx hb hr (fun t ht hW => ⟨⟨1, (), rfl, rfl, trivial⟩, hS.F ht⟩) hS.2.2 dL_basisTerms_16

theorem dL_basisCoefficient_0 : decode cL_basisCoefficient 0 = .ok (.aload 4, 2) := by decide +kernel
theorem dL_basisCoefficient_2 : decode cL_basisCoefficient 2 = .ok (.iconst 0, 1) := by decide +kernel
theorem dL_basisCoefficient_3 : decode cL_basisCoefficient 3 = .ok (.aload_n 0, 1) := by decide +kernel
theorem dL_basisCoefficient_4 : decode cL_basisCoefficient 4 = .ok (.iload_n 1, 1) := by decide +kernel
theorem dL_basisCoefficient_5 : decode cL_basisCoefficient 5 = .ok (.iload_n 2, 1) := by decide +kernel
theorem dL_basisCoefficient_6 : decode cL_basisCoefficient 6 = .ok (.iload_n 3, 1) := by decide +kernel
theorem dL_basisCoefficient_7 : decode cL_basisCoefficient 7 = .ok (.invokevirtual 140, 3) := by decide +kernel
theorem w7_226 : (Jvm.Cond.methodLink "PolyforgeLaw" (140 : Nat) ({ cls := "Polyforge", name := "basisCoefficient", desc := "(III)I" } : Jvm.MethodName)) ∈ lw_tbl := pv_t7 (pv_mg 226 rfl)
theorem w7_229 : (Jvm.Cond.code ({ cls := "Polyforge", name := "basisCoefficient", desc := "(III)I" } : Jvm.MethodName) prog_1_method_40_code (5 : Nat) (Option.some Jvm.ClassFile.FieldType.int)) ∈ lw_tbl := pv_t7 (pv_mg 229 rfl)
theorem w7_228 : (Jvm.Cond.selects "Polyforge" ({ cls := "Polyforge", name := "basisCoefficient", desc := "(III)I" } : Jvm.MethodName) ({ cls := "Polyforge", name := "basisCoefficient", desc := "(III)I" } : Jvm.MethodName)) ∈ lw_tbl := pv_t7 (pv_mg 228 rfl)
theorem w7_227 : (Jvm.Cond.instanceMethod ({ cls := "Polyforge", name := "basisCoefficient", desc := "(III)I" } : Jvm.MethodName)) ∈ lw_tbl := pv_t7 (pv_mg 227 rfl)
theorem dL_basisCoefficient_15 : decode cL_basisCoefficient 15 = .ok (.astore 5, 2) := by decide +kernel
theorem dL_basisCoefficient_17 : decode cL_basisCoefficient 17 = .ok (.iconst 1, 1) := by decide +kernel
theorem dL_basisCoefficient_18 : decode cL_basisCoefficient 18 = .ok (.ireturn, 1) := by decide +kernel
set_option maxHeartbeats 4000000 in
set_option maxRecDepth 100000 in
/-- basisCoefficient: the first handler -/
theorem c_L_basisCoefficient (l : Launch) (hfl : l.stackTraces = false) (D : va_G) (sz : Nat) (h0 : Nat) (q : Nat → Nat) (p0 p1 p2 : Int32) (o0 : Nat) : Met l yL_basisCoefficient (Cond.codeWith yL_basisCoefficient cL_basisCoefficient 6 (some .int) [(0, 12, 15, 55), (0, 12, 19, 23)] :: pv_W) ({ frames := 9, cells := 1, slots := 6, locals := 146 } : Room) (va_Pc [.ref h0, .int p0, .int p1, .int p2, .ref o0] (pv_P D [] [(h0, .inr (0, [.ref (q 0), .int 0, .int 108, .ref (q 1), .int 0, .ref (q 2), .int 0, .ref (q 3), .ref (q 4), .int 1, .ref (q 5), .ref (q 6), .ref (q 7), .ref (q 8), .ref (q 9)]))] (va_A [] sz) sz)) (va_Qi (fun r (_ : Unit) => r = 1) (fun _ _ => True) (va_A [] sz)) 1 6 (va_A [] sz) := by
  refine pv_ofWH (cc := cL_basisCoefficient) (maxL := 6) (ret := (some .int)) (by decide) rfl ?_
  intro p e s m args below meth c s₁ B hml hv
  obtain ⟨rfl, hsz, hE, hP, hK, hD0⟩ := hv
  have hx := B.exec
  have hb := B.bytes
  have hr := B.returns
  have hts := fun (w : Cond) (h : w ∈ pv_W) => atoms_spec (ws := Cond.codeWith yL_basisCoefficient cL_basisCoefficient 6 (some .int) [(0, 12, 15, 55), (0, 12, 19, 23)] :: pv_W) B.pre w (List.mem_cons_of_mem _ h)
  have hg := fun {w : Cond} (h : w ∈ lw_tbl) (g : goodWord w = true) => hts w (pv_in h g)
  have hown : s.vm.findClass RL = some m.cls := findClass_of_methodNamed B.named
  have hlocks := B.notSynchronized
  have hcw := atoms_spec (ws := Cond.codeWith yL_basisCoefficient cL_basisCoefficient 6 (some .int) [(0, 12, 15, 55), (0, 12, 19, 23)] :: pv_W) B.pre _ List.mem_cons_self
  subst hsz
  have hD := hD0
  generalize hAe : va_A [] s.heap.size = A at hE ⊢
  have hA : ∀ q : Nat, s.heap.size ≤ q → A q := fun q h => by rw [← hAe]; exact Or.inr h
  have hS : va_S A s.heap s.heap [] := va_S.rf
  have hP : va_P D pv_cl [(h0, .inr (0, [.ref (q 0), .int 0, .int 108, .ref (q 1), .int 0, .ref (q 2), .int 0, .ref (q 3), .ref (q 4), .int 1, .ref (q 5), .ref (q 6), .ref (q 7), .ref (q 8), .ref (q 9)]))] s.heap := hP
  have hl := lv_entry ([.ref h0, .int p0, .int p1, .int p2, .ref o0]) (n := 6) (Nat.le_of_ble_eq_true rfl)
  rw [lg_entry_eq]
  generalize (lg_sl ([.ref h0, .int p0, .int p1, .int p2, .ref o0]) ++ List.replicate (6 - (lg_sl ([.ref h0, .int p0, .int p1, .int p2, .ref o0])).length) Slot.unset).toArray = ls at hl ⊢
  have hl : lv_has ls 6 [(0, .ref h0), (1, .int p0), (2, .int p1), (3, .int p2), (4, .ref o0)] := hl
  refine lv_aload hx hb dL_basisCoefficient_0 (lv_at hl 4 rfl) ?_
  refine lv_iconst (v := 0) hx hb dL_basisCoefficient_2 (by decide) ?_
  refine lv_aload_n hx hb dL_basisCoefficient_3 rfl (lv_at hl 0 rfl) ?_
  refine lv_iload_n hx hb dL_basisCoefficient_4 rfl (lv_at hl 1 rfl) ?_
  refine lv_iload_n hx hb dL_basisCoefficient_5 rfl (lv_at hl 2 rfl) ?_
  refine lv_iload_n hx hb dL_basisCoefficient_6 rfl (lv_at hl 3 rfl) ?_
  have hF := pv_new hA hS.1
  refine pv_thrown (vx_runV (As := [.int p0, .int p1, .int p2]) (rest := [.int 0, .ref o0]) ⟨hx, hb, hml, hown, hts⟩ (c_X11_basisCoefficient l hfl D _ h0 q p0 p1 p2) (cwV 3 hts (pv_gV w7_226 w7_227 w7_228 w1_1 w7_229) rfl rfl rfl (by decide +kernel) ⟨Nat.le_of_ble_eq_true rfl, Nat.le_of_ble_eq_true rfl⟩) (pv_pV hE hS hF (hP.sub [0] rfl) (hK.sub [] rfl) (hD.sub [0] (by decide) rfl) (va_recv (ci := 0) (q0 := 0) hK hP rfl rfl)) rfl rfl hl.1 rfl (lv_room (Nat.le_of_ble_eq_true rfl)) dL_basisCoefficient_7 ⟨Nat.le_of_ble_eq_true rfl, Nat.le_of_ble_eq_true rfl⟩) (fun _ _ _ h => h) hS hF hF (fun E ce q9 u t H1 locs1 ht hvm hpx hbx hz1 hk1 hS hce hcv hcl => ?_)
  subst hbx
  have hP := pv_keep hP rfl hk1
  refine vx_catch (own := RL) (name := "java/util/NoSuchElementException") hown [] ⟨0, 12, 15, 55⟩ _ ((vx_table (x := yL_law) B hcw).trans rfl) (fun z hz => nomatch hz) rfl (by decide) (hg w6_39 rfl) (va_Nw.use rfl (hE.2.2.1 _ (pv_ib w6_50 rfl))) hce hcv hcl ?_
  refine W.widen (k := 1) (n := 6) (Nat.le_of_ble_eq_true rfl) (Nat.le_of_ble_eq_true rfl) ?_
  refine lv_astore (lv' := [(5, .ref q9), (0, .ref h0), (1, .int p0), (2, .int p1), (3, .int p2), (4, .ref o0)]) hx hb dL_basisCoefficient_15 hl (by decide) rfl (fun ls hl => ?_)
  refine lv_iconst (v := 1) hx hb dL_basisCoefficient_17 (by decide) ?_
  refine W.widen (k := 1) (n := 6) (Nat.le_of_ble_eq_true rfl) (Nat.le_of_ble_eq_true rfl) ?_
  exact W.iret (v := 1) hx hb hr (fun t ht hW => ⟨⟨1, (), rfl, rfl, trivial⟩, hS.F ht⟩) hS.2.2 dL_basisCoefficient_18

theorem dL_basisExponent_0 : decode cL_basisExponent 0 = .ok (.aload 5, 2) := by decide +kernel
theorem dL_basisExponent_2 : decode cL_basisExponent 2 = .ok (.iconst 0, 1) := by decide +kernel
theorem dL_basisExponent_3 : decode cL_basisExponent 3 = .ok (.aload_n 0, 1) := by decide +kernel
theorem dL_basisExponent_4 : decode cL_basisExponent 4 = .ok (.iload_n 1, 1) := by decide +kernel
theorem dL_basisExponent_5 : decode cL_basisExponent 5 = .ok (.iload_n 2, 1) := by decide +kernel
theorem dL_basisExponent_6 : decode cL_basisExponent 6 = .ok (.iload_n 3, 1) := by decide +kernel
theorem dL_basisExponent_7 : decode cL_basisExponent 7 = .ok (.iload 4, 2) := by decide +kernel
theorem dL_basisExponent_9 : decode cL_basisExponent 9 = .ok (.invokevirtual 143, 3) := by decide +kernel
theorem w7_237 : (Jvm.Cond.methodLink "PolyforgeLaw" (143 : Nat) ({ cls := "Polyforge", name := "basisExponent", desc := "(IIII)I" } : Jvm.MethodName)) ∈ lw_tbl := pv_t7 (pv_mg 237 rfl)
theorem w8_0 : (Jvm.Cond.code ({ cls := "Polyforge", name := "basisExponent", desc := "(IIII)I" } : Jvm.MethodName) prog_1_method_41_code (6 : Nat) (Option.some Jvm.ClassFile.FieldType.int)) ∈ lw_tbl := pv_t8 (pv_mg 0 rfl)
theorem w7_239 : (Jvm.Cond.selects "Polyforge" ({ cls := "Polyforge", name := "basisExponent", desc := "(IIII)I" } : Jvm.MethodName) ({ cls := "Polyforge", name := "basisExponent", desc := "(IIII)I" } : Jvm.MethodName)) ∈ lw_tbl := pv_t7 (pv_mg 239 rfl)
theorem w7_238 : (Jvm.Cond.instanceMethod ({ cls := "Polyforge", name := "basisExponent", desc := "(IIII)I" } : Jvm.MethodName)) ∈ lw_tbl := pv_t7 (pv_mg 238 rfl)
theorem dL_basisExponent_17 : decode cL_basisExponent 17 = .ok (.astore 6, 2) := by decide +kernel
theorem dL_basisExponent_19 : decode cL_basisExponent 19 = .ok (.iconst 1, 1) := by decide +kernel
theorem dL_basisExponent_20 : decode cL_basisExponent 20 = .ok (.ireturn, 1) := by decide +kernel
set_option maxHeartbeats 4000000 in
set_option maxRecDepth 100000 in
/-- basisExponent: the first handler -/
theorem c_L_basisExponent (l : Launch) (hfl : l.stackTraces = false) (D : va_G) (sz : Nat) (h0 : Nat) (q : Nat → Nat) (p0 p1 p2 p3 : Int32) (o0 : Nat) : Met l yL_basisExponent (Cond.codeWith yL_basisExponent cL_basisExponent 7 (some .int) [(0, 14, 17, 55), (0, 14, 21, 13), (0, 14, 25, 23)] :: pv_W) ({ frames := 9, cells := 1, slots := 6, locals := 147 } : Room) (va_Pc [.ref h0, .int p0, .int p1, .int p2, .int p3, .ref o0] (pv_P D [] [(h0, .inr (0, [.ref (q 0), .int 0, .int 108, .ref (q 1), .int 0, .ref (q 2), .int 0, .ref (q 3), .ref (q 4), .int 1, .ref (q 5), .ref (q 6), .ref (q 7), .ref (q 8), .ref (q 9)]))] (va_A [] sz) sz)) (va_Qi (fun r (_ : Unit) => r = 1) (fun _ _ => True) (va_A [] sz)) 1 6 (va_A [] sz) := by
  refine pv_ofWH (cc := cL_basisExponent) (maxL := 7) (ret := (some .int)) (by decide) rfl ?_
  intro p e s m args below meth c s₁ B hml hv
  obtain ⟨rfl, hsz, hE, hP, hK, hD0⟩ := hv
  have hx := B.exec
  have hb := B.bytes
  have hr := B.returns
  have hts := fun (w : Cond) (h : w ∈ pv_W) => atoms_spec (ws := Cond.codeWith yL_basisExponent cL_basisExponent 7 (some .int) [(0, 14, 17, 55), (0, 14, 21, 13), (0, 14, 25, 23)] :: pv_W) B.pre w (List.mem_cons_of_mem _ h)
  have hg := fun {w : Cond} (h : w ∈ lw_tbl) (g : goodWord w = true) => hts w (pv_in h g)
  have hown : s.vm.findClass RL = some m.cls := findClass_of_methodNamed B.named
  have hlocks := B.notSynchronized
  have hcw := atoms_spec (ws := Cond.codeWith yL_basisExponent cL_basisExponent 7 (some .int) [(0, 14, 17, 55), (0, 14, 21, 13), (0, 14, 25, 23)] :: pv_W) B.pre _ List.mem_cons_self
  subst hsz
  have hD := hD0
  generalize hAe : va_A [] s.heap.size = A at hE ⊢
  have hA : ∀ q : Nat, s.heap.size ≤ q → A q := fun q h => by rw [← hAe]; exact Or.inr h
  have hS : va_S A s.heap s.heap [] := va_S.rf
  have hP : va_P D pv_cl [(h0, .inr (0, [.ref (q 0), .int 0, .int 108, .ref (q 1), .int 0, .ref (q 2), .int 0, .ref (q 3), .ref (q 4), .int 1, .ref (q 5), .ref (q 6), .ref (q 7), .ref (q 8), .ref (q 9)]))] s.heap := hP
  have hl := lv_entry ([.ref h0, .int p0, .int p1, .int p2, .int p3, .ref o0]) (n := 7) (Nat.le_of_ble_eq_true rfl)
  rw [lg_entry_eq]
  generalize (lg_sl ([.ref h0, .int p0, .int p1, .int p2, .int p3, .ref o0]) ++ List.replicate (7 - (lg_sl ([.ref h0, .int p0, .int p1, .int p2, .int p3, .ref o0])).length) Slot.unset).toArray = ls at hl ⊢
  have hl : lv_has ls 7 [(0, .ref h0), (1, .int p0), (2, .int p1), (3, .int p2), (4, .int p3), (5, .ref o0)] := hl
  refine lv_aload hx hb dL_basisExponent_0 (lv_at hl 5 rfl) ?_
  refine lv_iconst (v := 0) hx hb dL_basisExponent_2 (by decide) ?_
  refine lv_aload_n hx hb dL_basisExponent_3 rfl (lv_at hl 0 rfl) ?_
  refine lv_iload_n hx hb dL_basisExponent_4 rfl (lv_at hl 1 rfl) ?_
  refine lv_iload_n hx hb dL_basisExponent_5 rfl (lv_at hl 2 rfl) ?_
  refine lv_iload_n hx hb dL_basisExponent_6 rfl (lv_at hl 3 rfl) ?_
  refine lv_iload hx hb dL_basisExponent_7 (lv_at hl 4 rfl) ?_
  have hF := pv_new hA hS.1
  refine pv_thrown (vx_runV (As := [.int p0, .int p1, .int p2, .int p3]) (rest := [.int 0, .ref o0]) ⟨hx, hb, hml, hown, hts⟩ (c_X11_basisExponent l hfl D _ h0 q p0 p1 p2 p3) (cwV 4 hts (pv_gV w7_237 w7_238 w7_239 w1_1 w8_0) rfl rfl rfl (by decide +kernel) ⟨Nat.le_of_ble_eq_true rfl, Nat.le_of_ble_eq_true rfl⟩) (pv_pV hE hS hF (hP.sub [0] rfl) (hK.sub [] rfl) (hD.sub [0] (by decide) rfl) (va_recv (ci := 0) (q0 := 0) hK hP rfl rfl)) rfl rfl hl.1 rfl (lv_room (Nat.le_of_ble_eq_true rfl)) dL_basisExponent_9 ⟨Nat.le_of_ble_eq_true rfl, Nat.le_of_ble_eq_true rfl⟩) (fun _ _ _ h => h) hS hF hF (fun E ce q9 u t H1 locs1 ht hvm hpx hbx hz1 hk1 hS hce hcv hcl => ?_)
  subst hbx
  have hP := pv_keep hP rfl hk1
  refine vx_catch (own := RL) (name := "java/util/NoSuchElementException") hown [] ⟨0, 14, 17, 55⟩ _ ((vx_table (x := yL_law) B hcw).trans rfl) (fun z hz => nomatch hz) rfl (by decide) (hg w6_39 rfl) (va_Nw.use rfl (hE.2.2.1 _ (pv_ib w6_50 rfl))) hce hcv hcl ?_
  refine W.widen (k := 1) (n := 6) (Nat.le_of_ble_eq_true rfl) (Nat.le_of_ble_eq_true rfl) ?_
  refine lv_astore (lv' := [(6, .ref q9), (0, .ref h0), (1, .int p0), (2, .int p1), (3, .int p2), (4, .int p3), (5, .ref o0)]) hx hb dL_basisExponent_17 hl (by decide) rfl (fun ls hl => ?_)
  refine lv_iconst (v := 1) hx hb dL_basisExponent_19 (by decide) ?_
  refine W.widen (k := 1) (n := 6) (Nat.le_of_ble_eq_true rfl) (Nat.le_of_ble_eq_true rfl) ?_
  exact W.iret (v := 1) hx hb hr (fun t ht hW => ⟨⟨1, (), rfl, rfl, trivial⟩, hS.F ht⟩) hS.2.2 dL_basisExponent_20

theorem dL_normalForm_0 : decode cL_normalForm 0 = .ok (.aload_n 3, 1) := by decide +kernel
theorem dL_normalForm_1 : decode cL_normalForm 1 = .ok (.iconst 0, 1) := by decide +kernel
theorem dL_normalForm_2 : decode cL_normalForm 2 = .ok (.aload_n 0, 1) := by decide +kernel
theorem dL_normalForm_3 : decode cL_normalForm 3 = .ok (.iload_n 1, 1) := by decide +kernel
theorem dL_normalForm_4 : decode cL_normalForm 4 = .ok (.iload_n 2, 1) := by decide +kernel
theorem dL_normalForm_5 : decode cL_normalForm 5 = .ok (.invokevirtual 146, 3) := by decide +kernel
theorem w8_6 : (Jvm.Cond.methodLink "PolyforgeLaw" (146 : Nat) ({ cls := "Polyforge", name := "normalForm", desc := "(II)I" } : Jvm.MethodName)) ∈ lw_tbl := pv_t8 (pv_mg 6 rfl)
theorem w8_9 : (Jvm.Cond.code ({ cls := "Polyforge", name := "normalForm", desc := "(II)I" } : Jvm.MethodName) prog_1_method_42_code (7 : Nat) (Option.some Jvm.ClassFile.FieldType.int)) ∈ lw_tbl := pv_t8 (pv_mg 9 rfl)
theorem w8_8 : (Jvm.Cond.selects "Polyforge" ({ cls := "Polyforge", name := "normalForm", desc := "(II)I" } : Jvm.MethodName) ({ cls := "Polyforge", name := "normalForm", desc := "(II)I" } : Jvm.MethodName)) ∈ lw_tbl := pv_t8 (pv_mg 8 rfl)
theorem w8_7 : (Jvm.Cond.instanceMethod ({ cls := "Polyforge", name := "normalForm", desc := "(II)I" } : Jvm.MethodName)) ∈ lw_tbl := pv_t8 (pv_mg 7 rfl)
theorem dL_normalForm_13 : decode cL_normalForm 13 = .ok (.astore 4, 2) := by decide +kernel
theorem dL_normalForm_15 : decode cL_normalForm 15 = .ok (.iconst 1, 1) := by decide +kernel
theorem dL_normalForm_16 : decode cL_normalForm 16 = .ok (.ireturn, 1) := by decide +kernel
set_option maxHeartbeats 4000000 in
set_option maxRecDepth 100000 in
/-- normalForm: the first handler -/
theorem c_L_normalForm (l : Launch) (hfl : l.stackTraces = false) (D : va_G) (sz : Nat) (h0 : Nat) (q : Nat → Nat) (p0 p1 : Int32) (o0 : Nat) : Met l yL_normalForm (Cond.codeWith yL_normalForm cL_normalForm 5 (some .int) [(0, 10, 13, 55), (0, 10, 17, 23), (0, 10, 21, 25), (0, 10, 25, 27), (0, 10, 29, 15)] :: pv_W) ({ frames := 9, cells := 1, slots := 6, locals := 148 } : Room) (va_Pc [.ref h0, .int p0, .int p1, .ref o0] (pv_P D [] [(h0, .inr (0, [.ref (q 0), .int 0, .int 108, .ref (q 1), .int 0, .ref (q 2), .int 0, .ref (q 3), .ref (q 4), .int 1, .ref (q 5), .ref (q 6), .ref (q 7), .ref (q 8), .ref (q 9)]))] (va_A [] sz) sz)) (va_Qi (fun r (_ : Unit) => r = 1) (fun _ _ => True) (va_A [] sz)) 1 6 (va_A [] sz) := by
  refine pv_ofWH (cc := cL_normalForm) (maxL := 5) (ret := (some .int)) (by decide) rfl ?_
  intro p e s m args below meth c s₁ B hml hv
  obtain ⟨rfl, hsz, hE, hP, hK, hD0⟩ := hv
  have hx := B.exec
  have hb := B.bytes
  have hr := B.returns
  have hts := fun (w : Cond) (h : w ∈ pv_W) => atoms_spec (ws := Cond.codeWith yL_normalForm cL_normalForm 5 (some .int) [(0, 10, 13, 55), (0, 10, 17, 23), (0, 10, 21, 25), (0, 10, 25, 27), (0, 10, 29, 15)] :: pv_W) B.pre w (List.mem_cons_of_mem _ h)
  have hg := fun {w : Cond} (h : w ∈ lw_tbl) (g : goodWord w = true) => hts w (pv_in h g)
  have hown : s.vm.findClass RL = some m.cls := findClass_of_methodNamed B.named
  have hlocks := B.notSynchronized
  have hcw := atoms_spec (ws := Cond.codeWith yL_normalForm cL_normalForm 5 (some .int) [(0, 10, 13, 55), (0, 10, 17, 23), (0, 10, 21, 25), (0, 10, 25, 27), (0, 10, 29, 15)] :: pv_W) B.pre _ List.mem_cons_self
  subst hsz
  have hD := hD0
  generalize hAe : va_A [] s.heap.size = A at hE ⊢
  have hA : ∀ q : Nat, s.heap.size ≤ q → A q := fun q h => by rw [← hAe]; exact Or.inr h
  have hS : va_S A s.heap s.heap [] := va_S.rf
  have hP : va_P D pv_cl [(h0, .inr (0, [.ref (q 0), .int 0, .int 108, .ref (q 1), .int 0, .ref (q 2), .int 0, .ref (q 3), .ref (q 4), .int 1, .ref (q 5), .ref (q 6), .ref (q 7), .ref (q 8), .ref (q 9)]))] s.heap := hP
  have hl := lv_entry ([.ref h0, .int p0, .int p1, .ref o0]) (n := 5) (Nat.le_of_ble_eq_true rfl)
  rw [lg_entry_eq]
  generalize (lg_sl ([.ref h0, .int p0, .int p1, .ref o0]) ++ List.replicate (5 - (lg_sl ([.ref h0, .int p0, .int p1, .ref o0])).length) Slot.unset).toArray = ls at hl ⊢
  have hl : lv_has ls 5 [(0, .ref h0), (1, .int p0), (2, .int p1), (3, .ref o0)] := hl
  refine lv_aload_n hx hb dL_normalForm_0 rfl (lv_at hl 3 rfl) ?_
  refine lv_iconst (v := 0) hx hb dL_normalForm_1 (by decide) ?_
  refine lv_aload_n hx hb dL_normalForm_2 rfl (lv_at hl 0 rfl) ?_
  refine lv_iload_n hx hb dL_normalForm_3 rfl (lv_at hl 1 rfl) ?_
  refine lv_iload_n hx hb dL_normalForm_4 rfl (lv_at hl 2 rfl) ?_
  have hF := pv_new hA hS.1
  refine pv_thrown (vx_runV (As := [.int p0, .int p1]) (rest := [.int 0, .ref o0]) ⟨hx, hb, hml, hown, hts⟩ (c_X11_normalForm l hfl D _ h0 q p0 p1) (cwV 2 hts (pv_gV w8_6 w8_7 w8_8 w1_1 w8_9) rfl rfl rfl (by decide +kernel) ⟨Nat.le_of_ble_eq_true rfl, Nat.le_of_ble_eq_true rfl⟩) (pv_pV hE hS hF (hP.sub [0] rfl) (hK.sub [] rfl) (hD.sub [0] (by decide) rfl) (va_recv (ci := 0) (q0 := 0) hK hP rfl rfl)) rfl rfl hl.1 rfl (lv_room (Nat.le_of_ble_eq_true rfl)) dL_normalForm_5 ⟨Nat.le_of_ble_eq_true rfl, Nat.le_of_ble_eq_true rfl⟩) (fun _ _ _ h => h) hS hF hF (fun E ce q9 u t H1 locs1 ht hvm hpx hbx hz1 hk1 hS hce hcv hcl => ?_)
  subst hbx
  have hP := pv_keep hP rfl hk1
  refine vx_catch (own := RL) (name := "java/util/NoSuchElementException") hown [] ⟨0, 10, 13, 55⟩ _ ((vx_table (x := yL_law) B hcw).trans rfl) (fun z hz => nomatch hz) rfl (by decide) (hg w6_39 rfl) (va_Nw.use rfl (hE.2.2.1 _ (pv_ib w6_50 rfl))) hce hcv hcl ?_
  refine W.widen (k := 1) (n := 6) (Nat.le_of_ble_eq_true rfl) (Nat.le_of_ble_eq_true rfl) ?_
  refine lv_astore (lv' := [(4, .ref q9), (0, .ref h0), (1, .int p0), (2, .int p1), (3, .ref o0)]) hx hb dL_normalForm_13 hl (by decide) rfl (fun ls hl => ?_)
  refine lv_iconst (v := 1) hx hb dL_normalForm_15 (by decide) ?_
  refine W.widen (k := 1) (n := 6) (Nat.le_of_ble_eq_true rfl) (Nat.le_of_ble_eq_true rfl) ?_
  exact W.iret (v := 1) hx hb hr (fun t ht hW => ⟨⟨1, (), rfl, rfl, trivial⟩, hS.F ht⟩) hS.2.2 dL_normalForm_16

theorem dL_isIn_0 : decode cL_isIn 0 = .ok (.aload_n 3, 1) := by decide +kernel
theorem dL_isIn_1 : decode cL_isIn 1 = .ok (.iconst 0, 1) := by decide +kernel
theorem dL_isIn_2 : decode cL_isIn 2 = .ok (.aload_n 0, 1) := by decide +kernel
theorem dL_isIn_3 : decode cL_isIn 3 = .ok (.iload_n 1, 1) := by decide +kernel
theorem dL_isIn_4 : decode cL_isIn 4 = .ok (.iload_n 2, 1) := by decide +kernel
theorem dL_isIn_5 : decode cL_isIn 5 = .ok (.invokevirtual 149, 3) := by decide +kernel
theorem w8_25 : (Jvm.Cond.methodLink "PolyforgeLaw" (149 : Nat) ({ cls := "Polyforge", name := "isIn", desc := "(II)Z" } : Jvm.MethodName)) ∈ lw_tbl := pv_t8 (pv_mg 25 rfl)
theorem w8_28 : (Jvm.Cond.code ({ cls := "Polyforge", name := "isIn", desc := "(II)Z" } : Jvm.MethodName) prog_1_method_43_code (6 : Nat) (Option.some Jvm.ClassFile.FieldType.boolean)) ∈ lw_tbl := pv_t8 (pv_mg 28 rfl)
theorem w8_27 : (Jvm.Cond.selects "Polyforge" ({ cls := "Polyforge", name := "isIn", desc := "(II)Z" } : Jvm.MethodName) ({ cls := "Polyforge", name := "isIn", desc := "(II)Z" } : Jvm.MethodName)) ∈ lw_tbl := pv_t8 (pv_mg 27 rfl)
theorem w8_26 : (Jvm.Cond.instanceMethod ({ cls := "Polyforge", name := "isIn", desc := "(II)Z" } : Jvm.MethodName)) ∈ lw_tbl := pv_t8 (pv_mg 26 rfl)
theorem dL_isIn_20 : decode cL_isIn 20 = .ok (.astore 4, 2) := by decide +kernel
theorem dL_isIn_22 : decode cL_isIn 22 = .ok (.iconst 1, 1) := by decide +kernel
theorem dL_isIn_23 : decode cL_isIn 23 = .ok (.ireturn, 1) := by decide +kernel
set_option maxHeartbeats 4000000 in
set_option maxRecDepth 100000 in
/-- isIn: the first handler -/
theorem c_L_isIn (l : Launch) (hfl : l.stackTraces = false) (D : va_G) (sz : Nat) (h0 : Nat) (q : Nat → Nat) (p0 p1 : Int32) (o0 : Nat) : Met l yL_isIn (Cond.codeWith yL_isIn cL_isIn 5 (some .int) [(0, 17, 20, 55), (0, 17, 24, 23), (0, 17, 28, 25)] :: pv_W) ({ frames := 9, cells := 1, slots := 6, locals := 147 } : Room) (va_Pc [.ref h0, .int p0, .int p1, .ref o0] (pv_P D [] [(h0, .inr (0, [.ref (q 0), .int 0, .int 108, .ref (q 1), .int 0, .ref (q 2), .int 0, .ref (q 3), .ref (q 4), .int 1, .ref (q 5), .ref (q 6), .ref (q 7), .ref (q 8), .ref (q 9)]))] (va_A [] sz) sz)) (va_Qi (fun r (_ : Unit) => r = 1) (fun _ _ => True) (va_A [] sz)) 1 6 (va_A [] sz) := by
  refine pv_ofWH (cc := cL_isIn) (maxL := 5) (ret := (some .int)) (by decide) rfl ?_
  intro p e s m args below meth c s₁ B hml hv
  obtain ⟨rfl, hsz, hE, hP, hK, hD0⟩ := hv
  have hx := B.exec
  have hb := B.bytes
  have hr := B.returns
  have hts := fun (w : Cond) (h : w ∈ pv_W) => atoms_spec (ws := Cond.codeWith yL_isIn cL_isIn 5 (some .int) [(0, 17, 20, 55), (0, 17, 24, 23), (0, 17, 28, 25)] :: pv_W) B.pre w (List.mem_cons_of_mem _ h)
  have hg := fun {w : Cond} (h : w ∈ lw_tbl) (g : goodWord w = true) => hts w (pv_in h g)
  have hown : s.vm.findClass RL = some m.cls := findClass_of_methodNamed B.named
  have hlocks := B.notSynchronized
  have hcw := atoms_spec (ws := Cond.codeWith yL_isIn cL_isIn 5 (some .int) [(0, 17, 20, 55), (0, 17, 24, 23), (0, 17, 28, 25)] :: pv_W) B.pre _ List.mem_cons_self
  subst hsz
  have hD := hD0
  generalize hAe : va_A [] s.heap.size = A at hE ⊢
  have hA : ∀ q : Nat, s.heap.size ≤ q → A q := fun q h => by rw [← hAe]; exact Or.inr h
  have hS : va_S A s.heap s.heap [] := va_S.rf
  have hP : va_P D pv_cl [(h0, .inr (0, [.ref (q 0), .int 0, .int 108, .ref (q 1), .int 0, .ref (q 2), .int 0, .ref (q 3), .ref (q 4), .int 1, .ref (q 5), .ref (q 6), .ref (q 7), .ref (q 8), .ref (q 9)]))] s.heap := hP
  have hl := lv_entry ([.ref h0, .int p0, .int p1, .ref o0]) (n := 5) (Nat.le_of_ble_eq_true rfl)
  rw [lg_entry_eq]
  generalize (lg_sl ([.ref h0, .int p0, .int p1, .ref o0]) ++ List.replicate (5 - (lg_sl ([.ref h0, .int p0, .int p1, .ref o0])).length) Slot.unset).toArray = ls at hl ⊢
  have hl : lv_has ls 5 [(0, .ref h0), (1, .int p0), (2, .int p1), (3, .ref o0)] := hl
  refine lv_aload_n hx hb dL_isIn_0 rfl (lv_at hl 3 rfl) ?_
  refine lv_iconst (v := 0) hx hb dL_isIn_1 (by decide) ?_
  refine lv_aload_n hx hb dL_isIn_2 rfl (lv_at hl 0 rfl) ?_
  refine lv_iload_n hx hb dL_isIn_3 rfl (lv_at hl 1 rfl) ?_
  refine lv_iload_n hx hb dL_isIn_4 rfl (lv_at hl 2 rfl) ?_
  have hF := pv_new hA hS.1
  refine pv_thrown (vx_runV (As := [.int p0, .int p1]) (rest := [.int 0, .ref o0]) ⟨hx, hb, hml, hown, hts⟩ (c_X11_isIn l hfl D _ h0 q p0 p1) (cwV 2 hts (pv_gV w8_25 w8_26 w8_27 w1_1 w8_28) rfl rfl rfl (by decide +kernel) ⟨Nat.le_of_ble_eq_true rfl, Nat.le_of_ble_eq_true rfl⟩) (pv_pV hE hS hF (hP.sub [0] rfl) (hK.sub [] rfl) (hD.sub [0] (by decide) rfl) (va_recv (ci := 0) (q0 := 0) hK hP rfl rfl)) rfl rfl hl.1 rfl (lv_room (Nat.le_of_ble_eq_true rfl)) dL_isIn_5 ⟨Nat.le_of_ble_eq_true rfl, Nat.le_of_ble_eq_true rfl⟩) (fun _ _ _ h => h) hS hF hF (fun E ce q9 u t H1 locs1 ht hvm hpx hbx hz1 hk1 hS hce hcv hcl => ?_)
  subst hbx
  have hP := pv_keep hP rfl hk1
  refine vx_catch (own := RL) (name := "java/util/NoSuchElementException") hown [] ⟨0, 17, 20, 55⟩ _ ((vx_table (x := yL_law) B hcw).trans rfl) (fun z hz => nomatch hz) rfl (by decide) (hg w6_39 rfl) (va_Nw.use rfl (hE.2.2.1 _ (pv_ib w6_50 rfl))) hce hcv hcl ?_
  refine W.widen (k := 1) (n := 6) (Nat.le_of_ble_eq_true rfl) (Nat.le_of_ble_eq_true rfl) ?_
  refine lv_astore (lv' := [(4, .ref q9), (0, .ref h0), (1, .int p0), (2, .int p1), (3, .ref o0)]) hx hb dL_isIn_20 hl (by decide) rfl (fun ls hl => ?_)
  refine lv_iconst (v := 1) hx hb dL_isIn_22 (by decide) ?_
  refine W.widen (k := 1) (n := 6) (Nat.le_of_ble_eq_true rfl) (Nat.le_of_ble_eq_true rfl) ?_
  exact W.iret (v := 1) hx hb hr (fun t ht hW => ⟨⟨1, (), rfl, rfl, trivial⟩, hS.F ht⟩) hS.2.2 dL_isIn_23

theorem dL_size_0 : decode cL_size 0 = .ok (.aload_n 2, 1) := by decide +kernel
theorem dL_size_1 : decode cL_size 1 = .ok (.iconst 0, 1) := by decide +kernel
theorem dL_size_2 : decode cL_size 2 = .ok (.aload_n 0, 1) := by decide +kernel
theorem dL_size_3 : decode cL_size 3 = .ok (.iload_n 1, 1) := by decide +kernel
theorem dL_size_4 : decode cL_size 4 = .ok (.invokevirtual 153, 3) := by decide +kernel
theorem w8_32 : (Jvm.Cond.methodLink "PolyforgeLaw" (153 : Nat) ({ cls := "Polyforge", name := "size", desc := "(I)I" } : Jvm.MethodName)) ∈ lw_tbl := pv_t8 (pv_mg 32 rfl)
theorem w8_35 : (Jvm.Cond.code ({ cls := "Polyforge", name := "size", desc := "(I)I" } : Jvm.MethodName) prog_1_method_44_code (3 : Nat) (Option.some Jvm.ClassFile.FieldType.int)) ∈ lw_tbl := pv_t8 (pv_mg 35 rfl)
theorem w8_34 : (Jvm.Cond.selects "Polyforge" ({ cls := "Polyforge", name := "size", desc := "(I)I" } : Jvm.MethodName) ({ cls := "Polyforge", name := "size", desc := "(I)I" } : Jvm.MethodName)) ∈ lw_tbl := pv_t8 (pv_mg 34 rfl)
theorem w8_33 : (Jvm.Cond.instanceMethod ({ cls := "Polyforge", name := "size", desc := "(I)I" } : Jvm.MethodName)) ∈ lw_tbl := pv_t8 (pv_mg 33 rfl)
theorem dL_size_12 : decode cL_size 12 = .ok (.astore_n 3, 1) := by decide +kernel
theorem dL_size_13 : decode cL_size 13 = .ok (.iconst 1, 1) := by decide +kernel
theorem dL_size_14 : decode cL_size 14 = .ok (.ireturn, 1) := by decide +kernel
set_option maxHeartbeats 4000000 in
set_option maxRecDepth 100000 in
/-- size: the first handler -/
theorem c_L_size (l : Launch) (hfl : l.stackTraces = false) (D : va_G) (sz : Nat) (h0 : Nat) (q : Nat → Nat) (p0 : Int32) (o0 : Nat) : Met l yL_size (Cond.codeWith yL_size cL_size 4 (some .int) [(0, 9, 12, 55)] :: pv_W) ({ frames := 9, cells := 1, slots := 6, locals := 144 } : Room) (va_Pc [.ref h0, .int p0, .ref o0] (pv_P D [] [(h0, .inr (0, [.ref (q 0), .int 0, .int 108, .ref (q 1), .int 0, .ref (q 2), .int 0, .ref (q 3), .ref (q 4), .int 1, .ref (q 5), .ref (q 6), .ref (q 7), .ref (q 8), .ref (q 9)]))] (va_A [] sz) sz)) (va_Qi (fun r (_ : Unit) => r = 1) (fun _ _ => True) (va_A [] sz)) 1 6 (va_A [] sz) := by
  refine pv_ofWH (cc := cL_size) (maxL := 4) (ret := (some .int)) (by decide) rfl ?_
  intro p e s m args below meth c s₁ B hml hv
  obtain ⟨rfl, hsz, hE, hP, hK, hD0⟩ := hv
  have hx := B.exec
  have hb := B.bytes
  have hr := B.returns
  have hts := fun (w : Cond) (h : w ∈ pv_W) => atoms_spec (ws := Cond.codeWith yL_size cL_size 4 (some .int) [(0, 9, 12, 55)] :: pv_W) B.pre w (List.mem_cons_of_mem _ h)
  have hg := fun {w : Cond} (h : w ∈ lw_tbl) (g : goodWord w = true) => hts w (pv_in h g)
  have hown : s.vm.findClass RL = some m.cls := findClass_of_methodNamed B.named
  have hlocks := B.notSynchronized
  have hcw := atoms_spec (ws := Cond.codeWith yL_size cL_size 4 (some .int) [(0, 9, 12, 55)] :: pv_W) B.pre _ List.mem_cons_self
  subst hsz
  have hD := hD0
  generalize hAe : va_A [] s.heap.size = A at hE ⊢
  have hA : ∀ q : Nat, s.heap.size ≤ q → A q := fun q h => by rw [← hAe]; exact Or.inr h
  have hS : va_S A s.heap s.heap [] := va_S.rf
  have hP : va_P D pv_cl [(h0, .inr (0, [.ref (q 0), .int 0, .int 108, .ref (q 1), .int 0, .ref (q 2), .int 0, .ref (q 3), .ref (q 4), .int 1, .ref (q 5), .ref (q 6), .ref (q 7), .ref (q 8), .ref (q 9)]))] s.heap := hP
  have hl := lv_entry ([.ref h0, .int p0, .ref o0]) (n := 4) (Nat.le_of_ble_eq_true rfl)
  rw [lg_entry_eq]
  generalize (lg_sl ([.ref h0, .int p0, .ref o0]) ++ List.replicate (4 - (lg_sl ([.ref h0, .int p0, .ref o0])).length) Slot.unset).toArray = ls at hl ⊢
  have hl : lv_has ls 4 [(0, .ref h0), (1, .int p0), (2, .ref o0)] := hl
  refine lv_aload_n hx hb dL_size_0 rfl (lv_at hl 2 rfl) ?_
  refine lv_iconst (v := 0) hx hb dL_size_1 (by decide) ?_
  refine lv_aload_n hx hb dL_size_2 rfl (lv_at hl 0 rfl) ?_
  refine lv_iload_n hx hb dL_size_3 rfl (lv_at hl 1 rfl) ?_
  have hF := pv_new hA hS.1
  refine pv_thrown (vx_runV (As := [.int p0]) (rest := [.int 0, .ref o0]) ⟨hx, hb, hml, hown, hts⟩ (c_X11_size l hfl D _ h0 q p0) (cwV 1 hts (pv_gV w8_32 w8_33 w8_34 w1_1 w8_35) rfl rfl rfl (by decide +kernel) ⟨Nat.le_of_ble_eq_true rfl, Nat.le_of_ble_eq_true rfl⟩) (pv_pV hE hS hF (hP.sub [0] rfl) (hK.sub [] rfl) (hD.sub [0] (by decide) rfl) (va_recv (ci := 0) (q0 := 0) hK hP rfl rfl)) rfl rfl hl.1 rfl (lv_room (Nat.le_of_ble_eq_true rfl)) dL_size_4 ⟨Nat.le_of_ble_eq_true rfl, Nat.le_of_ble_eq_true rfl⟩) (fun _ _ _ h => h) hS hF hF (fun E ce q9 u t H1 locs1 ht hvm hpx hbx hz1 hk1 hS hce hcv hcl => ?_)
  subst hbx
  have hP := pv_keep hP rfl hk1
  refine vx_catch (own := RL) (name := "java/util/NoSuchElementException") hown [] ⟨0, 9, 12, 55⟩ _ ((vx_table (x := yL_law) B hcw).trans rfl) (fun z hz => nomatch hz) rfl (by decide) (hg w6_39 rfl) (va_Nw.use rfl (hE.2.2.1 _ (pv_ib w6_50 rfl))) hce hcv hcl ?_
  refine W.widen (k := 1) (n := 6) (Nat.le_of_ble_eq_true rfl) (Nat.le_of_ble_eq_true rfl) ?_
  refine lv_astore_n (lv' := [(3, .ref q9), (0, .ref h0), (1, .int p0), (2, .ref o0)]) hx hb dL_size_12 rfl hl (by decide) rfl (fun ls hl => ?_)
  refine lv_iconst (v := 1) hx hb dL_size_13 (by decide) ?_
  refine W.widen (k := 1) (n := 6) (Nat.le_of_ble_eq_true rfl) (Nat.le_of_ble_eq_true rfl) ?_
  exact W.iret (v := 1) hx hb hr (fun t ht hW => ⟨⟨1, (), rfl, rfl, trivial⟩, hS.F ht⟩) hS.2.2 dL_size_14

theorem dL_closeFrame_0 : decode cL_closeFrame 0 = .ok (.aload_n 1, 1) := by decide +kernel
theorem dL_closeFrame_1 : decode cL_closeFrame 1 = .ok (.iconst 0, 1) := by decide +kernel
theorem dL_closeFrame_2 : decode cL_closeFrame 2 = .ok (.aload_n 0, 1) := by decide +kernel
theorem dL_closeFrame_3 : decode cL_closeFrame 3 = .ok (.invokevirtual 168, 3) := by decide +kernel
theorem w8_113 : (Jvm.Cond.methodLink "PolyforgeLaw" (168 : Nat) ({ cls := "Polyforge", name := "closeFrame", desc := "()I" } : Jvm.MethodName)) ∈ lw_tbl := pv_t8 (pv_mg 113 rfl)
theorem w8_116 : (Jvm.Cond.code ({ cls := "Polyforge", name := "closeFrame", desc := "()I" } : Jvm.MethodName) prog_1_method_48_code (3 : Nat) (Option.some Jvm.ClassFile.FieldType.int)) ∈ lw_tbl := pv_t8 (pv_mg 116 rfl)
theorem w8_115 : (Jvm.Cond.selects "Polyforge" ({ cls := "Polyforge", name := "closeFrame", desc := "()I" } : Jvm.MethodName) ({ cls := "Polyforge", name := "closeFrame", desc := "()I" } : Jvm.MethodName)) ∈ lw_tbl := pv_t8 (pv_mg 115 rfl)
theorem w8_114 : (Jvm.Cond.instanceMethod ({ cls := "Polyforge", name := "closeFrame", desc := "()I" } : Jvm.MethodName)) ∈ lw_tbl := pv_t8 (pv_mg 114 rfl)
theorem w4_140 : (Jvm.Cond.classLink "PolyforgeLaw" (15 : Nat) "java/lang/IllegalStateException") ∈ lw_tbl := pv_t4 (pv_mg 140 rfl)
theorem w5_11 : (Jvm.Cond.castable "java/lang/IllegalStateException" "java/lang/IllegalStateException") ∈ lw_tbl := pv_t5 (pv_mg 11 rfl)
theorem dL_closeFrame_11 : decode cL_closeFrame 11 = .ok (.astore_n 2, 1) := by decide +kernel
theorem dL_closeFrame_12 : decode cL_closeFrame 12 = .ok (.iconst 1, 1) := by decide +kernel
theorem dL_closeFrame_13 : decode cL_closeFrame 13 = .ok (.ireturn, 1) := by decide +kernel
set_option maxHeartbeats 4000000 in
set_option maxRecDepth 100000 in
/-- closeFrame: the first handler -/
theorem c_L_closeFrame (l : Launch) (hfl : l.stackTraces = false) (D : va_G) (sz : Nat) (h0 : Nat) (q : Nat → Nat) (o0 : Nat) : Met l yL_closeFrame (Cond.codeWith yL_closeFrame cL_closeFrame 3 (some .int) [(0, 8, 11, 15)] :: pv_W) ({ frames := 8, cells := 1, slots := 6, locals := 122 } : Room) (va_Pc [.ref h0, .ref o0] (pv_P D [] [(h0, .inr (0, [.ref (q 0), .int 0, .int 108, .ref (q 1), .int 0, .ref (q 2), .int 0, .ref (q 3), .ref (q 4), .int 1, .ref (q 5), .ref (q 6), .ref (q 7), .ref (q 8), .ref (q 9)]))] (va_A [] sz) sz)) (va_Qi (fun r (_ : Unit) => r = 1) (fun _ _ => True) (va_A [] sz)) 1 6 (va_A [] sz) := by
  refine pv_ofWH (cc := cL_closeFrame) (maxL := 3) (ret := (some .int)) (by decide) rfl ?_
  intro p e s m args below meth c s₁ B hml hv
  obtain ⟨rfl, hsz, hE, hP, hK, hD0⟩ := hv
  have hx := B.exec
  have hb := B.bytes
  have hr := B.returns
  have hts := fun (w : Cond) (h : w ∈ pv_W) => atoms_spec (ws := Cond.codeWith yL_closeFrame cL_closeFrame 3 (some .int) [(0, 8, 11, 15)] :: pv_W) B.pre w (List.mem_cons_of_mem _ h)
  have hg := fun {w : Cond} (h : w ∈ lw_tbl) (g : goodWord w = true) => hts w (pv_in h g)
  have hown : s.vm.findClass RL = some m.cls := findClass_of_methodNamed B.named
  have hlocks := B.notSynchronized
  have hcw := atoms_spec (ws := Cond.codeWith yL_closeFrame cL_closeFrame 3 (some .int) [(0, 8, 11, 15)] :: pv_W) B.pre _ List.mem_cons_self
  subst hsz
  have hD := hD0
  generalize hAe : va_A [] s.heap.size = A at hE ⊢
  have hA : ∀ q : Nat, s.heap.size ≤ q → A q := fun q h => by rw [← hAe]; exact Or.inr h
  have hS : va_S A s.heap s.heap [] := va_S.rf
  have hP : va_P D pv_cl [(h0, .inr (0, [.ref (q 0), .int 0, .int 108, .ref (q 1), .int 0, .ref (q 2), .int 0, .ref (q 3), .ref (q 4), .int 1, .ref (q 5), .ref (q 6), .ref (q 7), .ref (q 8), .ref (q 9)]))] s.heap := hP
  have hl := lv_entry ([.ref h0, .ref o0]) (n := 3) (Nat.le_of_ble_eq_true rfl)
  rw [lg_entry_eq]
  generalize (lg_sl ([.ref h0, .ref o0]) ++ List.replicate (3 - (lg_sl ([.ref h0, .ref o0])).length) Slot.unset).toArray = ls at hl ⊢
  have hl : lv_has ls 3 [(0, .ref h0), (1, .ref o0)] := hl
  refine lv_aload_n hx hb dL_closeFrame_0 rfl (lv_at hl 1 rfl) ?_
  refine lv_iconst (v := 0) hx hb dL_closeFrame_1 (by decide) ?_
  refine lv_aload_n hx hb dL_closeFrame_2 rfl (lv_at hl 0 rfl) ?_
  have hF := pv_new hA hS.1
  refine pv_thrown (vx_runV (As := []) (rest := [.int 0, .ref o0]) ⟨hx, hb, hml, hown, hts⟩ (c_X11_closeFrame l hfl D _ h0 q ) (cwV 0 hts (pv_gV w8_113 w8_114 w8_115 w1_1 w8_116) rfl rfl rfl (by decide +kernel) ⟨Nat.le_of_ble_eq_true rfl, Nat.le_of_ble_eq_true rfl⟩) (pv_pV hE hS hF (hP.sub [0] rfl) (hK.sub [] rfl) (hD.sub [0] (by decide) rfl) (va_recv (ci := 0) (q0 := 0) hK hP rfl rfl)) rfl rfl hl.1 rfl (lv_room (Nat.le_of_ble_eq_true rfl)) dL_closeFrame_3 ⟨Nat.le_of_ble_eq_true rfl, Nat.le_of_ble_eq_true rfl⟩) (fun _ _ _ h => h) hS hF hF (fun E ce q9 u t H1 locs1 ht hvm hpx hbx hz1 hk1 hS hce hcv hcl => ?_)
  subst hbx
  have hP := pv_keep hP rfl hk1
  refine vx_catch (own := RL) (name := "java/lang/IllegalStateException") hown [] ⟨0, 8, 11, 15⟩ _ ((vx_table (x := yL_law) B hcw).trans rfl) (fun z hz => nomatch hz) rfl (by decide) (hg w4_140 rfl) (va_Nw.use rfl (hE.2.2.1 _ (pv_ib w5_11 rfl))) hce hcv hcl ?_
  refine W.widen (k := 1) (n := 6) (Nat.le_of_ble_eq_true rfl) (Nat.le_of_ble_eq_true rfl) ?_
  refine lv_astore_n (lv' := [(2, .ref q9), (0, .ref h0), (1, .ref o0)]) hx hb dL_closeFrame_11 rfl hl (by decide) rfl (fun ls hl => ?_)
  refine lv_iconst (v := 1) hx hb dL_closeFrame_12 (by decide) ?_
  refine W.widen (k := 1) (n := 6) (Nat.le_of_ble_eq_true rfl) (Nat.le_of_ble_eq_true rfl) ?_
  exact W.iret (v := 1) hx hb hr (fun t ht hW => ⟨⟨1, (), rfl, rfl, trivial⟩, hS.F ht⟩) hS.2.2 dL_closeFrame_13

theorem dL_lineShare_0 : decode cL_lineShare 0 = .ok (.aload_n 1, 1) := by decide +kernel
theorem dL_lineShare_1 : decode cL_lineShare 1 = .ok (.iconst 0, 1) := by decide +kernel
theorem dL_lineShare_2 : decode cL_lineShare 2 = .ok (.aload_n 0, 1) := by decide +kernel
theorem dL_lineShare_3 : decode cL_lineShare 3 = .ok (.invokevirtual 181, 3) := by decide +kernel
theorem w8_172 : (Jvm.Cond.methodLink "PolyforgeLaw" (181 : Nat) ({ cls := "Polyforge", name := "lineShare", desc := "()F" } : Jvm.MethodName)) ∈ lw_tbl := pv_t8 (pv_mg 172 rfl)
theorem w8_175 : (Jvm.Cond.code ({ cls := "Polyforge", name := "lineShare", desc := "()F" } : Jvm.MethodName) prog_1_method_52_code (3 : Nat) (Option.some Jvm.ClassFile.FieldType.float)) ∈ lw_tbl := pv_t8 (pv_mg 175 rfl)
theorem w8_174 : (Jvm.Cond.selects "Polyforge" ({ cls := "Polyforge", name := "lineShare", desc := "()F" } : Jvm.MethodName) ({ cls := "Polyforge", name := "lineShare", desc := "()F" } : Jvm.MethodName)) ∈ lw_tbl := pv_t8 (pv_mg 174 rfl)
theorem w8_173 : (Jvm.Cond.instanceMethod ({ cls := "Polyforge", name := "lineShare", desc := "()F" } : Jvm.MethodName)) ∈ lw_tbl := pv_t8 (pv_mg 173 rfl)
theorem w5_94 : (Jvm.Cond.classLink "PolyforgeLaw" (27 : Nat) "java/lang/ArithmeticException") ∈ lw_tbl := pv_t5 (pv_mg 94 rfl)
theorem w5_106 : (Jvm.Cond.castable "java/lang/ArithmeticException" "java/lang/ArithmeticException") ∈ lw_tbl := pv_t5 (pv_mg 106 rfl)
theorem dL_lineShare_11 : decode cL_lineShare 11 = .ok (.astore_n 2, 1) := by decide +kernel
theorem dL_lineShare_12 : decode cL_lineShare 12 = .ok (.iconst 1, 1) := by decide +kernel
theorem dL_lineShare_13 : decode cL_lineShare 13 = .ok (.ireturn, 1) := by decide +kernel
set_option maxHeartbeats 4000000 in
set_option maxRecDepth 100000 in
/-- lineShare: the first handler -/
theorem c_L_lineShare (l : Launch) (hfl : l.stackTraces = false) (D : va_G) (sz : Nat) (h0 : Nat) (q : Nat → Nat) (o0 : Nat) : Met l yL_lineShare (Cond.codeWith yL_lineShare cL_lineShare 3 (some .int) [(0, 8, 11, 27)] :: pv_W) ({ frames := 9, cells := 1, slots := 6, locals := 142 } : Room) (va_Pc [.ref h0, .ref o0] (pv_P D [] [(h0, .inr (0, [.ref (q 0), .int 0, .int 108, .ref (q 1), .int 0, .ref (q 2), .int 0, .ref (q 3), .ref (q 4), .int 1, .ref (q 5), .ref (q 6), .ref (q 7), .ref (q 8), .ref (q 9)]))] (va_A [] sz) sz)) (va_Qi (fun r (_ : Unit) => r = 1) (fun _ _ => True) (va_A [] sz)) 1 6 (va_A [] sz) := by
  refine pv_ofWH (cc := cL_lineShare) (maxL := 3) (ret := (some .int)) (by decide) rfl ?_
  intro p e s m args below meth c s₁ B hml hv
  obtain ⟨rfl, hsz, hE, hP, hK, hD0⟩ := hv
  have hx := B.exec
  have hb := B.bytes
  have hr := B.returns
  have hts := fun (w : Cond) (h : w ∈ pv_W) => atoms_spec (ws := Cond.codeWith yL_lineShare cL_lineShare 3 (some .int) [(0, 8, 11, 27)] :: pv_W) B.pre w (List.mem_cons_of_mem _ h)
  have hg := fun {w : Cond} (h : w ∈ lw_tbl) (g : goodWord w = true) => hts w (pv_in h g)
  have hown : s.vm.findClass RL = some m.cls := findClass_of_methodNamed B.named
  have hlocks := B.notSynchronized
  have hcw := atoms_spec (ws := Cond.codeWith yL_lineShare cL_lineShare 3 (some .int) [(0, 8, 11, 27)] :: pv_W) B.pre _ List.mem_cons_self
  subst hsz
  have hD := hD0
  generalize hAe : va_A [] s.heap.size = A at hE ⊢
  have hA : ∀ q : Nat, s.heap.size ≤ q → A q := fun q h => by rw [← hAe]; exact Or.inr h
  have hS : va_S A s.heap s.heap [] := va_S.rf
  have hP : va_P D pv_cl [(h0, .inr (0, [.ref (q 0), .int 0, .int 108, .ref (q 1), .int 0, .ref (q 2), .int 0, .ref (q 3), .ref (q 4), .int 1, .ref (q 5), .ref (q 6), .ref (q 7), .ref (q 8), .ref (q 9)]))] s.heap := hP
  have hl := lv_entry ([.ref h0, .ref o0]) (n := 3) (Nat.le_of_ble_eq_true rfl)
  rw [lg_entry_eq]
  generalize (lg_sl ([.ref h0, .ref o0]) ++ List.replicate (3 - (lg_sl ([.ref h0, .ref o0])).length) Slot.unset).toArray = ls at hl ⊢
  have hl : lv_has ls 3 [(0, .ref h0), (1, .ref o0)] := hl
  refine lv_aload_n hx hb dL_lineShare_0 rfl (lv_at hl 1 rfl) ?_
  refine lv_iconst (v := 0) hx hb dL_lineShare_1 (by decide) ?_
  refine lv_aload_n hx hb dL_lineShare_2 rfl (lv_at hl 0 rfl) ?_
  have hF := pv_new hA hS.1
  refine pv_thrown (vx_runV (As := []) (rest := [.int 0, .ref o0]) ⟨hx, hb, hml, hown, hts⟩ (c_X11_lineShare l hfl D _ h0 q ) (cwV 0 hts (pv_gV w8_172 w8_173 w8_174 w1_1 w8_175) rfl rfl rfl (by decide +kernel) ⟨Nat.le_of_ble_eq_true rfl, Nat.le_of_ble_eq_true rfl⟩) (pv_pV hE hS hF (hP.sub [0] rfl) (hK.sub [] rfl) (hD.sub [0] (by decide) rfl) (va_recv (ci := 0) (q0 := 0) hK hP rfl rfl)) rfl rfl hl.1 rfl (lv_room (Nat.le_of_ble_eq_true rfl)) dL_lineShare_3 ⟨Nat.le_of_ble_eq_true rfl, Nat.le_of_ble_eq_true rfl⟩) (fun _ _ _ h => h) hS hF hF (fun E ce q9 u t H1 locs1 ht hvm hpx hbx hz1 hk1 hS hce hcv hcl => ?_)
  subst hbx
  have hP := pv_keep hP rfl hk1
  refine vx_catch (own := RL) (name := "java/lang/ArithmeticException") hown [] ⟨0, 8, 11, 27⟩ _ ((vx_table (x := yL_law) B hcw).trans rfl) (fun z hz => nomatch hz) rfl (by decide) (hg w5_94 rfl) (va_Nw.use rfl (hE.2.2.1 _ (pv_ib w5_106 rfl))) hce hcv hcl ?_
  refine W.widen (k := 1) (n := 6) (Nat.le_of_ble_eq_true rfl) (Nat.le_of_ble_eq_true rfl) ?_
  refine lv_astore_n (lv' := [(2, .ref q9), (0, .ref h0), (1, .ref o0)]) hx hb dL_lineShare_11 rfl hl (by decide) rfl (fun ls hl => ?_)
  refine lv_iconst (v := 1) hx hb dL_lineShare_12 (by decide) ?_
  refine W.widen (k := 1) (n := 6) (Nat.le_of_ble_eq_true rfl) (Nat.le_of_ble_eq_true rfl) ?_
  exact W.iret (v := 1) hx hb hr (fun t ht hW => ⟨⟨1, (), rfl, rfl, trivial⟩, hS.F ht⟩) hS.2.2 dL_lineShare_13

theorem dL_meanTerms_0 : decode cL_meanTerms 0 = .ok (.aload_n 1, 1) := by decide +kernel
theorem dL_meanTerms_1 : decode cL_meanTerms 1 = .ok (.iconst 0, 1) := by decide +kernel
theorem dL_meanTerms_2 : decode cL_meanTerms 2 = .ok (.aload_n 0, 1) := by decide +kernel
theorem dL_meanTerms_3 : decode cL_meanTerms 3 = .ok (.invokevirtual 185, 3) := by decide +kernel
theorem w8_188 : (Jvm.Cond.methodLink "PolyforgeLaw" (185 : Nat) ({ cls := "Polyforge", name := "meanTerms", desc := "()D" } : Jvm.MethodName)) ∈ lw_tbl := pv_t8 (pv_mg 188 rfl)
theorem w8_191 : (Jvm.Cond.code ({ cls := "Polyforge", name := "meanTerms", desc := "()D" } : Jvm.MethodName) prog_1_method_53_code (4 : Nat) (Option.some Jvm.ClassFile.FieldType.double)) ∈ lw_tbl := pv_t8 (pv_mg 191 rfl)
theorem w8_190 : (Jvm.Cond.selects "Polyforge" ({ cls := "Polyforge", name := "meanTerms", desc := "()D" } : Jvm.MethodName) ({ cls := "Polyforge", name := "meanTerms", desc := "()D" } : Jvm.MethodName)) ∈ lw_tbl := pv_t8 (pv_mg 190 rfl)
theorem w8_189 : (Jvm.Cond.instanceMethod ({ cls := "Polyforge", name := "meanTerms", desc := "()D" } : Jvm.MethodName)) ∈ lw_tbl := pv_t8 (pv_mg 189 rfl)
theorem dL_meanTerms_10 : decode cL_meanTerms 10 = .ok (.astore_n 2, 1) := by decide +kernel
theorem dL_meanTerms_11 : decode cL_meanTerms 11 = .ok (.iconst 1, 1) := by decide +kernel
theorem dL_meanTerms_12 : decode cL_meanTerms 12 = .ok (.ireturn, 1) := by decide +kernel
set_option maxHeartbeats 4000000 in
set_option maxRecDepth 100000 in
/-- meanTerms: the first handler -/
theorem c_L_meanTerms (l : Launch) (hfl : l.stackTraces = false) (D : va_G) (sz : Nat) (h0 : Nat) (q : Nat → Nat) (o0 : Nat) : Met l yL_meanTerms (Cond.codeWith yL_meanTerms cL_meanTerms 3 (some .int) [(0, 7, 10, 27)] :: pv_W) ({ frames := 9, cells := 1, slots := 6, locals := 143 } : Room) (va_Pc [.ref h0, .ref o0] (pv_P D [] [(h0, .inr (0, [.ref (q 0), .int 0, .int 108, .ref (q 1), .int 0, .ref (q 2), .int 0, .ref (q 3), .ref (q 4), .int 1, .ref (q 5), .ref (q 6), .ref (q 7), .ref (q 8), .ref (q 9)]))] (va_A [] sz) sz)) (va_Qi (fun r (_ : Unit) => r = 1) (fun _ _ => True) (va_A [] sz)) 1 6 (va_A [] sz) := by
  refine pv_ofWH (cc := cL_meanTerms) (maxL := 3) (ret := (some .int)) (by decide) rfl ?_
  intro p e s m args below meth c s₁ B hml hv
  obtain ⟨rfl, hsz, hE, hP, hK, hD0⟩ := hv
  have hx := B.exec
  have hb := B.bytes
  have hr := B.returns
  have hts := fun (w : Cond) (h : w ∈ pv_W) => atoms_spec (ws := Cond.codeWith yL_meanTerms cL_meanTerms 3 (some .int) [(0, 7, 10, 27)] :: pv_W) B.pre w (List.mem_cons_of_mem _ h)
  have hg := fun {w : Cond} (h : w ∈ lw_tbl) (g : goodWord w = true) => hts w (pv_in h g)
  have hown : s.vm.findClass RL = some m.cls := findClass_of_methodNamed B.named
  have hlocks := B.notSynchronized
  have hcw := atoms_spec (ws := Cond.codeWith yL_meanTerms cL_meanTerms 3 (some .int) [(0, 7, 10, 27)] :: pv_W) B.pre _ List.mem_cons_self
  subst hsz
  have hD := hD0
  generalize hAe : va_A [] s.heap.size = A at hE ⊢
  have hA : ∀ q : Nat, s.heap.size ≤ q → A q := fun q h => by rw [← hAe]; exact Or.inr h
  have hS : va_S A s.heap s.heap [] := va_S.rf
  have hP : va_P D pv_cl [(h0, .inr (0, [.ref (q 0), .int 0, .int 108, .ref (q 1), .int 0, .ref (q 2), .int 0, .ref (q 3), .ref (q 4), .int 1, .ref (q 5), .ref (q 6), .ref (q 7), .ref (q 8), .ref (q 9)]))] s.heap := hP
  have hl := lv_entry ([.ref h0, .ref o0]) (n := 3) (Nat.le_of_ble_eq_true rfl)
  rw [lg_entry_eq]
  generalize (lg_sl ([.ref h0, .ref o0]) ++ List.replicate (3 - (lg_sl ([.ref h0, .ref o0])).length) Slot.unset).toArray = ls at hl ⊢
  have hl : lv_has ls 3 [(0, .ref h0), (1, .ref o0)] := hl
  refine lv_aload_n hx hb dL_meanTerms_0 rfl (lv_at hl 1 rfl) ?_
  refine lv_iconst (v := 0) hx hb dL_meanTerms_1 (by decide) ?_
  refine lv_aload_n hx hb dL_meanTerms_2 rfl (lv_at hl 0 rfl) ?_
  have hF := pv_new hA hS.1
  refine pv_thrown (vx_runV (As := []) (rest := [.int 0, .ref o0]) ⟨hx, hb, hml, hown, hts⟩ (c_X11_meanTerms l hfl D _ h0 q ) (cwV 0 hts (pv_gV w8_188 w8_189 w8_190 w1_1 w8_191) rfl rfl rfl (by decide +kernel) ⟨Nat.le_of_ble_eq_true rfl, Nat.le_of_ble_eq_true rfl⟩) (pv_pV hE hS hF (hP.sub [0] rfl) (hK.sub [] rfl) (hD.sub [0] (by decide) rfl) (va_recv (ci := 0) (q0 := 0) hK hP rfl rfl)) rfl rfl hl.1 rfl (lv_room (Nat.le_of_ble_eq_true rfl)) dL_meanTerms_3 ⟨Nat.le_of_ble_eq_true rfl, Nat.le_of_ble_eq_true rfl⟩) (fun _ _ _ h => h) hS hF hF (fun E ce q9 u t H1 locs1 ht hvm hpx hbx hz1 hk1 hS hce hcv hcl => ?_)
  subst hbx
  have hP := pv_keep hP rfl hk1
  refine vx_catch (own := RL) (name := "java/lang/ArithmeticException") hown [] ⟨0, 7, 10, 27⟩ _ ((vx_table (x := yL_law) B hcw).trans rfl) (fun z hz => nomatch hz) rfl (by decide) (hg w5_94 rfl) (va_Nw.use rfl (hE.2.2.1 _ (pv_ib w5_106 rfl))) hce hcv hcl ?_
  refine W.widen (k := 1) (n := 6) (Nat.le_of_ble_eq_true rfl) (Nat.le_of_ble_eq_true rfl) ?_
  refine lv_astore_n (lv' := [(2, .ref q9), (0, .ref h0), (1, .ref o0)]) hx hb dL_meanTerms_10 rfl hl (by decide) rfl (fun ls hl => ?_)
  refine lv_iconst (v := 1) hx hb dL_meanTerms_11 (by decide) ?_
  refine W.widen (k := 1) (n := 6) (Nat.le_of_ble_eq_true rfl) (Nat.le_of_ble_eq_true rfl) ?_
  exact W.iret (v := 1) hx hb hr (fun t ht hW => ⟨⟨1, (), rfl, rfl, trivial⟩, hS.F ht⟩) hS.2.2 dL_meanTerms_12

