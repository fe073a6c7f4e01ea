/-- a method of a class of which the machine has methods of its own, but not this one -/
theorem pv_ofWF {l : Launch} {y : MethodName} {ws ws' : List Cond} {rm : Room} {Pc : Array Value → State → Prop} {Qc : Array Value → State → Outcome → State → Prop} {mc ms : Nat} {free : Addr → Prop} {cc : ByteArray} {maxL : Nat} {ret : Option FieldType}
    (hy : plainFor y = true) (hw : ws = Cond.code y cc maxL ret :: ws')
    (body : ∀ p e s m args below meth c s₁, BodyLoose p l y (headSpec ws rm) cc maxL ret e s m args below meth c s₁ → c.maxLocals = maxL → Pc args s →
      W p l e (headSpec ws rm).room s m args below meth c s.heap [] 0 0 (MQ below Qc args s mc ms free) (entryFrame m args maxL)) : Met l y ws rm Pc Qc mc ms free := by
  refine MetFree.of_bodySF (code := cc) (maxLocals := maxL) (ret := ret) hy ?_ ?_
  · intro args s m h hn
    obtain ⟨meth, c, h1, h2, h3, h4, h5, h6, -, -⟩ := Cond.code_spec hn (atoms_spec (ws := ws) h _ (by rw [hw]; exact List.mem_cons_self))
    exact ⟨meth, c, h1, h2, h3, h4, h5, h6⟩
  · intro p e s m args below meth c s₁ B hml hP _
    obtain ⟨t, a1, o, b1, b2, b3⟩ := body p e s m args below meth c s₁ B hml hP s₁ (by rw [B.state]; rfl) (Stand.of_body B)
    exact ⟨t, o, a1, b1, b2, ⟨b3.1, b3.2⟩⟩
theorem pv_P0 {D : va_G} {cl : List vw_C} {H : Heap} : va_P D cl [] H := fun k q h => by simp at h
theorem pv_D0 {A : Nat → Prop} : va_D A [] := ⟨fun i j p q h => by simp at h, fun k q h => by simp at h⟩
theorem pv_l0 {g : Int32} (h : ¬ g ≤ 0) : ¬ g.toInt64 = 0 := by
  intro e
  have h1 : g.toInt64.toInt = (0 : Int64).toInt := by rw [e]
  rw [Int32.toInt_toInt64] at h1
  refine h ?_
  rw [Int32.le_iff_toInt_le]
  exact Int.le_of_eq h1

theorem dJ9_floorMod_f86c9_0 : decode cJ9_floorMod_f86c9 0 = .ok (.lload_n 0, 1) := by decide +kernel
theorem dJ9_floorMod_f86c9_1 : decode cJ9_floorMod_f86c9 1 = .ok (.lload_n 2, 1) := by decide +kernel
theorem dJ9_floorMod_f86c9_2 : decode cJ9_floorMod_f86c9 2 = .ok (.lrem, 1) := by decide +kernel
theorem dJ9_floorMod_f86c9_3 : decode cJ9_floorMod_f86c9 3 = .ok (.lstore 4, 2) := by decide +kernel
theorem dJ9_floorMod_f86c9_5 : decode cJ9_floorMod_f86c9 5 = .ok (.lload_n 0, 1) := by decide +kernel
theorem dJ9_floorMod_f86c9_6 : decode cJ9_floorMod_f86c9 6 = .ok (.lload_n 2, 1) := by decide +kernel
theorem dJ9_floorMod_f86c9_7 : decode cJ9_floorMod_f86c9 7 = .ok (.lxor, 1) := by decide +kernel
theorem dJ9_floorMod_f86c9_8 : decode cJ9_floorMod_f86c9 8 = .ok (.lconst 0, 1) := by decide +kernel
theorem dJ9_floorMod_f86c9_9 : decode cJ9_floorMod_f86c9 9 = .ok (.lcmp, 1) := by decide +kernel
theorem dJ9_floorMod_f86c9_10 : decode cJ9_floorMod_f86c9 10 = .ok (.ifCond .ge 15, 3) := by decide +kernel
theorem dJ9_floorMod_f86c9_25 : decode cJ9_floorMod_f86c9 25 = .ok (.lload 4, 2) := by decide +kernel
theorem dJ9_floorMod_f86c9_27 : decode cJ9_floorMod_f86c9 27 = .ok (.lreturn, 1) := by decide +kernel
theorem dJ9_floorMod_f86c9_13 : decode cJ9_floorMod_f86c9 13 = .ok (.lload 4, 2) := by decide +kernel
theorem dJ9_floorMod_f86c9_15 : decode cJ9_floorMod_f86c9 15 = .ok (.lconst 0, 1) := by decide +kernel
theorem dJ9_floorMod_f86c9_16 : decode cJ9_floorMod_f86c9 16 = .ok (.lcmp, 1) := by decide +kernel
theorem dJ9_floorMod_f86c9_17 : decode cJ9_floorMod_f86c9 17 = .ok (.ifCond .eq 8, 3) := by decide +kernel
theorem dJ9_floorMod_f86c9_20 : decode cJ9_floorMod_f86c9 20 = .ok (.lload 4, 2) := by decide +kernel
theorem dJ9_floorMod_f86c9_22 : decode cJ9_floorMod_f86c9 22 = .ok (.lload_n 2, 1) := by decide +kernel
theorem dJ9_floorMod_f86c9_23 : decode cJ9_floorMod_f86c9 23 = .ok (.ladd, 1) := by decide +kernel
theorem dJ9_floorMod_f86c9_24 : decode cJ9_floorMod_f86c9 24 = .ok (.lreturn, 1) := by decide +kernel
set_option maxHeartbeats 4000000 in
set_option maxRecDepth 100000 in
/-- floorMod -/
theorem c_J9_floorMod_f86c9 (l : Launch) (hfl : l.stackTraces = false) (D : va_G) (sz : Nat) (p0 p1 : Int64) (hy : ¬ p1 = 0) : Met l yJ9_floorMod_f86c9 (Cond.code yJ9_floorMod_f86c9 cJ9_floorMod_f86c9 6 (some .long) :: pv_W) ({ frames := 0, cells := 0, slots := 0, locals := 0 } : Room) (va_Pc [.long p0, .long p1] (pv_P D [] [] (va_A [] sz) sz)) (va_Ql (fun _ (_ : Unit) => True) (fun _ _ => True) (va_A [] sz)) 0 0 (va_A [] sz) := by
  refine pv_ofWF (cc := cJ9_floorMod_f86c9) (maxL := 6) (ret := (some .long)) (by decide +kernel) rfl ?_
  intro p e s m args below meth c s₁ B hml hv
  obtain ⟨rfl, hsz, hE, hP, hK, hD0⟩ := hv
  have hx := B.exec
  have hb := B.bytes
  have hr := B.returns
  have hts := fun (w : Cond) (h : w ∈ pv_W) => atoms_spec (ws := Cond.code yJ9_floorMod_f86c9 cJ9_floorMod_f86c9 6 (some .long) :: pv_W) B.pre w (List.mem_cons_of_mem _ h)
  have hg := fun {w : Cond} (h : w ∈ lw_tbl) (g : goodWord w = true) => hts w (pv_in h g)
  have hown : s.vm.findClass RJ9 = some m.cls := findClass_of_methodNamed B.named
  have hlocks := B.notSynchronized
  subst hsz
  have hD := hD0.self (sz := s.heap.size)
  generalize hAe : va_A [] s.heap.size = A at hD hE ⊢
  have hA : ∀ q : Nat, s.heap.size ≤ q → A q := fun q h => by rw [← hAe]; exact Or.inr h
  have hS : va_S A s.heap s.heap [] := va_S.rf
  have hP : va_P D pv_cl [] s.heap := hP
  have hl := lv_entry ([.long p0, .long p1]) (n := 6) (Nat.le_of_ble_eq_true rfl)
  rw [lg_entry_eq]
  generalize (lg_sl ([.long p0, .long p1]) ++ List.replicate (6 - (lg_sl ([.long p0, .long p1])).length) Slot.unset).toArray = ls at hl ⊢
  have hl : lv_has ls 6 [(0, .long p0), (2, .long p1)] := hl
  refine lv_lload_n hx hb dJ9_floorMod_f86c9_0 rfl (lv_at hl 0 rfl) ?_
  refine lv_lload_n hx hb dJ9_floorMod_f86c9_1 rfl (lv_at hl 1 rfl) ?_
  refine lv_lrem hx hb dJ9_floorMod_f86c9_2 hy ?_
  refine lv_topl (fun x_1 ex_1 => ?_)
  refine lv_lstore (lv' := [(4, .long x_1), (0, .long p0), (2, .long p1)]) hx hb dJ9_floorMod_f86c9_3 hl (by decide) rfl (fun ls hl => ?_)
  refine lv_lload_n hx hb dJ9_floorMod_f86c9_5 rfl (lv_at hl 1 rfl) ?_
  refine lv_lload_n hx hb dJ9_floorMod_f86c9_6 rfl (lv_at hl 2 rfl) ?_
  refine lv_lxor hx hb dJ9_floorMod_f86c9_7 ?_
  refine lv_topl (fun x_2 ex_2 => ?_)
  refine lv_lconst (v := 0) hx hb dJ9_floorMod_f86c9_8 (by decide) ?_
  refine W.lcmp hx hb dJ9_floorMod_f86c9_9 ?_
  refine lv_topi (fun x_3 ex_3 => ?_)
  refine lv_if_ge (tgt := 25) hx hb dJ9_floorMod_f86c9_10 (by decide) (fun c_4 => ?_) (fun c_4 => ?_)
  · refine lv_lload hx hb dJ9_floorMod_f86c9_25 (lv_at hl 0 rfl) ?_
    refine W.widen (k := 0) (n := 0) (Nat.le_of_ble_eq_true rfl) (Nat.le_of_ble_eq_true rfl) ?_
    exact W.lret (v := x_1) hx hb hr (fun t ht hW => ⟨⟨x_1, (), rfl, trivial, trivial⟩, hS.F ht⟩) hS.2.2 dJ9_floorMod_f86c9_27
  · refine lv_lload hx hb dJ9_floorMod_f86c9_13 (lv_at hl 0 rfl) ?_
    refine lv_lconst (v := 0) hx hb dJ9_floorMod_f86c9_15 (by decide) ?_
    refine W.lcmp hx hb dJ9_floorMod_f86c9_16 ?_
    refine lv_topi (fun x_5 ex_5 => ?_)
    refine lv_if_eq (tgt := 25) hx hb dJ9_floorMod_f86c9_17 (by decide) (fun c_6 => ?_) (fun c_6 => ?_)
    · refine lv_lload hx hb dJ9_floorMod_f86c9_25 (lv_at hl 0 rfl) ?_
      refine W.widen (k := 0) (n := 0) (Nat.le_of_ble_eq_true rfl) (Nat.le_of_ble_eq_true rfl) ?_
      exact W.lret (v := x_1) hx hb hr (fun t ht hW => ⟨⟨x_1, (), rfl, trivial, trivial⟩, hS.F ht⟩) hS.2.2 dJ9_floorMod_f86c9_27
    · refine lv_lload hx hb dJ9_floorMod_f86c9_20 (lv_at hl 0 rfl) ?_
      refine lv_lload_n hx hb dJ9_floorMod_f86c9_22 rfl (lv_at hl 2 rfl) ?_
      refine lv_ladd hx hb dJ9_floorMod_f86c9_23 ?_
      refine lv_topl (fun x_7 ex_7 => ?_)
      refine W.widen (k := 0) (n := 0) (Nat.le_of_ble_eq_true rfl) (Nat.le_of_ble_eq_true rfl) ?_
      exact W.lret (v := x_7) hx hb hr (fun t ht hW => ⟨⟨x_7, (), rfl, trivial, trivial⟩, hS.F ht⟩) hS.2.2 dJ9_floorMod_f86c9_24

theorem dX11_mod_0 : decode cX11_mod 0 = .ok (.iload_n 2, 1) := by decide +kernel
theorem dX11_mod_1 : decode cX11_mod 1 = .ok (.ifCond .le 13, 3) := by decide +kernel
theorem dX11_mod_14 : decode cX11_mod 14 = .ok (.iconst 0, 1) := by decide +kernel
theorem dX11_mod_15 : decode cX11_mod 15 = .ok (.ireturn, 1) := by decide +kernel
theorem dX11_mod_4 : decode cX11_mod 4 = .ok (.lload_n 0, 1) := by decide +kernel
theorem dX11_mod_5 : decode cX11_mod 5 = .ok (.iload_n 2, 1) := by decide +kernel
theorem dX11_mod_6 : decode cX11_mod 6 = .ok (.i2l, 1) := by decide +kernel
theorem dX11_mod_7 : decode cX11_mod 7 = .ok (.invokestatic 531, 3) := by decide +kernel
theorem w2_181 : (Jvm.Cond.methodLink "Polyforge" (531 : Nat) ({ cls := "java/lang/Math", name := "floorMod", desc := "(JJ)J" } : Jvm.MethodName)) ∈ lw_tbl := pv_t2 (pv_mg 181 rfl)
theorem w2_183 : (Jvm.Cond.code ({ cls := "java/lang/Math", name := "floorMod", desc := "(JJ)J" } : Jvm.MethodName) prog_25_method_52_code (6 : Nat) (Option.some Jvm.ClassFile.FieldType.long)) ∈ lw_tbl := pv_t2 (pv_mg 183 rfl)
theorem w2_182 : (Jvm.Cond.static ({ cls := "java/lang/Math", name := "floorMod", desc := "(JJ)J" } : Jvm.MethodName)) ∈ lw_tbl := pv_t2 (pv_mg 182 rfl)
theorem w1_9 : (Jvm.Cond.initialized "java/lang/Math") ∈ lw_tbl := pv_t1 (pv_mg 9 rfl)
theorem dX11_mod_10 : decode cX11_mod 10 = .ok (.l2i, 1) := by decide +kernel
theorem dX11_mod_11 : decode cX11_mod 11 = .ok (.goto 4, 3) := by decide +kernel
set_option maxHeartbeats 4000000 in
set_option maxRecDepth 100000 in
/-- mod -/
theorem c_X11_mod (l : Launch) (hfl : l.stackTraces = false) (D : va_G) (sz : Nat) (p0 : Int64) (p1 : Int32) : Met l yX11_mod (Cond.code yX11_mod cX11_mod 3 (some .int) :: pv_W) ({ frames := 1, cells := 0, slots := 0, locals := 25 } : Room) (va_Pc [.long p0, .int p1] (pv_P D [] [] (va_A [] sz) sz)) (va_Qi (fun _ (_ : Unit) => True) (fun _ _ => True) (va_A [] sz)) 0 0 (va_A [] sz) := by
  refine Met.ofW (cc := cX11_mod) (maxL := 3) (ret := (some .int)) (by decide) rfl ?_
  intro p e s m args below meth c s₁ B hml hv
  obtain ⟨rfl, hsz, hE, hP, hK, hD0⟩ := hv
  have hx := B.exec
  have hb := B.bytes
  have hr := B.returns
  have hts := fun (w : Cond) (h : w ∈ pv_W) => atoms_spec (ws := Cond.code yX11_mod cX11_mod 3 (some .int) :: pv_W) B.pre w (List.mem_cons_of_mem _ h)
  have hg := fun {w : Cond} (h : w ∈ lw_tbl) (g : goodWord w = true) => hts w (pv_in h g)
  have hown : s.vm.findClass RX11 = some m.cls := findClass_of_methodNamed B.named
  have hlocks := B.notSynchronized
  subst hsz
  have hD := hD0.self (sz := s.heap.size)
  generalize hAe : va_A [] s.heap.size = A at hD hE ⊢
  have hA : ∀ q : Nat, s.heap.size ≤ q → A q := fun q h => by rw [← hAe]; exact Or.inr h
  have hS : va_S A s.heap s.heap [] := va_S.rf
  have hP : va_P D pv_cl [] s.heap := hP
  have hl := lv_entry ([.long p0, .int p1]) (n := 3) (Nat.le_of_ble_eq_true rfl)
  rw [lg_entry_eq]
  generalize (lg_sl ([.long p0, .int p1]) ++ List.replicate (3 - (lg_sl ([.long p0, .int p1])).length) Slot.unset).toArray = ls at hl ⊢
  have hl : lv_has ls 3 [(0, .long p0), (2, .int p1)] := hl
  refine lv_iload_n hx hb dX11_mod_0 rfl (lv_at hl 1 rfl) ?_
  refine lv_if_le (tgt := 14) hx hb dX11_mod_1 (by decide) (fun c_1 => ?_) (fun c_1 => ?_)
  · refine lv_iconst (v := 0) hx hb dX11_mod_14 (by decide) ?_
    refine W.widen (k := 0) (n := 0) (Nat.le_of_ble_eq_true rfl) (Nat.le_of_ble_eq_true rfl) ?_
    exact W.iret (v := 0) hx hb hr (fun t ht hW => ⟨⟨0, (), rfl, trivial, trivial⟩, hS.F ht⟩) hS.2.2 dX11_mod_15
  · refine lv_lload_n hx hb dX11_mod_4 rfl (lv_at hl 0 rfl) ?_
    refine lv_iload_n hx hb dX11_mod_5 rfl (lv_at hl 1 rfl) ?_
    refine lv_i2l hx hb dX11_mod_6 rfl ?_
    have hF := pv_new hA hS.1
    refine va_calll (va_runS (As := [.long p0, .long p1.toInt64]) (rest := []) ⟨hx, hb, hml, hown, hts⟩ (c_J9_floorMod_f86c9 l hfl D _ p0 p1.toInt64 (pv_l0 c_1)) (va_cwS 2 hts (pv_gS w2_181 w2_182 w1_9 w2_183) rfl rfl rfl (by decide +kernel) ⟨Nat.le_of_ble_eq_true rfl, Nat.le_of_ble_eq_true rfl⟩) (pv_ps hE hS hF (hP.sub [] rfl) (hK.sub [] rfl) (hD.sub [] (by decide) rfl)) rfl rfl hl.1 rfl (lv_room (Nat.le_of_ble_eq_true rfl)) dX11_mod_7 ⟨Nat.le_of_ble_eq_true rfl, Nat.le_of_ble_eq_true rfl⟩) hS (fun q _ h => hF q h) hF (fun r_1 u t H1 locs1 ht hvm hw hB hz1 hk1 hS => ?_)
    refine W.widen (k := 0) (n := 0) (Nat.le_of_ble_eq_true rfl) (Nat.le_of_ble_eq_true rfl) ?_
    have hP := pv_keep hP rfl hk1
    refine lv_l2i hx hb dX11_mod_10 rfl ?_
    refine lv_topi (fun x_3 ex_3 => ?_)
    refine lv_goto (tgt := 15) hx hb dX11_mod_11 (by decide) ?_
    refine W.widen (k := 0) (n := 0) (Nat.le_of_ble_eq_true rfl) (Nat.le_of_ble_eq_true rfl) ?_
    exact W.iret (v := x_3) hx hb hr (fun t ht hW => ⟨⟨x_3, (), rfl, trivial, trivial⟩, hS.F ht⟩) hS.2.2 dX11_mod_15

theorem dX9_isInRange_0 : decode cX9_isInRange 0 = .ok (.lload_n 0, 1) := by decide +kernel
theorem dX9_isInRange_1 : decode cX9_isInRange 1 = .ok (.ldc2_w 79, 3) := by decide +kernel
theorem w4_239 : (Jvm.Cond.constantLong "Polyforge$Slate" (79 : Nat) (-1000000000000 : Int64)) ∈ lw_tbl := pv_t4 (pv_mg 239 rfl)
theorem dX9_isInRange_4 : decode cX9_isInRange 4 = .ok (.lcmp, 1) := by decide +kernel
theorem dX9_isInRange_5 : decode cX9_isInRange 5 = .ok (.ifCond .lt 15, 3) := by decide +kernel
theorem dX9_isInRange_20 : decode cX9_isInRange 20 = .ok (.iconst 0, 1) := by decide +kernel
theorem dX9_isInRange_21 : decode cX9_isInRange 21 = .ok (.ireturn, 1) := by decide +kernel
theorem dX9_isInRange_8 : decode cX9_isInRange 8 = .ok (.lload_n 0, 1) := by decide +kernel
theorem dX9_isInRange_9 : decode cX9_isInRange 9 = .ok (.ldc2_w 81, 3) := by decide +kernel
theorem w5_0 : (Jvm.Cond.constantLong "Polyforge$Slate" (81 : Nat) (1000000000000 : Int64)) ∈ lw_tbl := pv_t5 (pv_mg 0 rfl)
theorem dX9_isInRange_12 : decode cX9_isInRange 12 = .ok (.lcmp, 1) := by decide +kernel
theorem dX9_isInRange_13 : decode cX9_isInRange 13 = .ok (.ifCond .gt 7, 3) := by decide +kernel
theorem dX9_isInRange_16 : decode cX9_isInRange 16 = .ok (.iconst 1, 1) := by decide +kernel
theorem dX9_isInRange_17 : decode cX9_isInRange 17 = .ok (.goto 4, 3) := by decide +kernel
set_option maxHeartbeats 4000000 in
set_option maxRecDepth 100000 in
/-- isInRange -/
theorem c_X9_isInRange (l : Launch) (hfl : l.stackTraces = false) (D : va_G) (sz : Nat) (p0 : Int64) : Met l yX9_isInRange (Cond.code yX9_isInRange cX9_isInRange 2 (some .boolean) :: pv_W) ({ frames := 0, cells := 0, slots := 0, locals := 0 } : Room) (va_Pc [.long p0] (pv_P D [] [] (va_A [] sz) sz)) (va_Qi (fun _ (_ : Unit) => True) (fun _ _ => True) (va_A [] sz)) 0 0 (va_A [] sz) := by
  refine Met.ofW (cc := cX9_isInRange) (maxL := 2) (ret := (some .boolean)) (by decide) rfl ?_
  intro p e s m args below meth c s₁ B hml hv
  obtain ⟨rfl, hsz, hE, hP, hK, hD0⟩ := hv
  have hx := B.exec
  have hb := B.bytes
  have hr := B.returns
  have hts := fun (w : Cond) (h : w ∈ pv_W) => atoms_spec (ws := Cond.code yX9_isInRange cX9_isInRange 2 (some .boolean) :: pv_W) B.pre w (List.mem_cons_of_mem _ h)
  have hg := fun {w : Cond} (h : w ∈ lw_tbl) (g : goodWord w = true) => hts w (pv_in h g)
  have hown : s.vm.findClass RX9 = some m.cls := findClass_of_methodNamed B.named
  have hlocks := B.notSynchronized
  subst hsz
  have hD := hD0.self (sz := s.heap.size)
  generalize hAe : va_A [] s.heap.size = A at hD hE ⊢
  have hA : ∀ q : Nat, s.heap.size ≤ q → A q := fun q h => by rw [← hAe]; exact Or.inr h
  have hS : va_S A s.heap s.heap [] := va_S.rf
  have hP : va_P D pv_cl [] s.heap := hP
  have hl := lv_entry ([.long p0]) (n := 2) (Nat.le_of_ble_eq_true rfl)
  rw [lg_entry_eq]
  generalize (lg_sl ([.long p0]) ++ List.replicate (2 - (lg_sl ([.long p0])).length) Slot.unset).toArray = ls at hl ⊢
  have hl : lv_has ls 2 [(0, .long p0)] := hl
  refine lv_lload_n hx hb dX9_isInRange_0 rfl (lv_at hl 0 rfl) ?_
  refine lv_ldc2 (own := RX9) (v := (-1000000000000)) hx hb hown (hg w4_239 rfl) dX9_isInRange_1 ?_
  refine W.lcmp hx hb dX9_isInRange_4 ?_
  refine lv_topi (fun x_1 ex_1 => ?_)
  refine lv_if_lt (tgt := 20) hx hb dX9_isInRange_5 (by decide) (fun c_2 => ?_) (fun c_2 => ?_)
  · refine lv_iconst (v := 0) hx hb dX9_isInRange_20 (by decide) ?_
    refine W.widen (k := 0) (n := 0) (Nat.le_of_ble_eq_true rfl) (Nat.le_of_ble_eq_true rfl) ?_
    exact W.zret (v := 0) (ty := .boolean) hx hb hr rfl (fun t ht hW => ⟨⟨0, (), rfl, trivial, trivial⟩, hS.F ht⟩) hS.2.2 dX9_isInRange_21
  · refine lv_lload_n hx hb dX9_isInRange_8 rfl (lv_at hl 0 rfl) ?_
    refine lv_ldc2 (own := RX9) (v := 1000000000000) hx hb hown (hg w5_0 rfl) dX9_isInRange_9 ?_
    refine W.lcmp hx hb dX9_isInRange_12 ?_
    refine lv_topi (fun x_3 ex_3 => ?_)
    refine lv_if_gt (tgt := 20) hx hb dX9_isInRange_13 (by decide) (fun c_4 => ?_) (fun c_4 => ?_)
    · refine lv_iconst (v := 0) hx hb dX9_isInRange_20 (by decide) ?_
      refine W.widen (k := 0) (n := 0) (Nat.le_of_ble_eq_true rfl) (Nat.le_of_ble_eq_true rfl) ?_
      exact W.zret (v := 0) (ty := .boolean) hx hb hr rfl (fun t ht hW => ⟨⟨0, (), rfl, trivial, trivial⟩, hS.F ht⟩) hS.2.2 dX9_isInRange_21
    · refine lv_iconst (v := 1) hx hb dX9_isInRange_16 (by decide) ?_
      refine lv_goto (tgt := 21) hx hb dX9_isInRange_17 (by decide) ?_
      refine W.widen (k := 0) (n := 0) (Nat.le_of_ble_eq_true rfl) (Nat.le_of_ble_eq_true rfl) ?_
      exact W.zret (v := 1) (ty := .boolean) hx hb hr rfl (fun t ht hW => ⟨⟨1, (), rfl, trivial, trivial⟩, hS.F ht⟩) hS.2.2 dX9_isInRange_21

theorem dX7_term_0 : decode cX7_term 0 = .ok (.lload_n 0, 1) := by decide +kernel
theorem dX7_term_1 : decode cX7_term 1 = .ok (.bipush 15, 2) := by decide +kernel
theorem dX7_term_3 : decode cX7_term 3 = .ok (.lshl, 1) := by decide +kernel
theorem dX7_term_4 : decode cX7_term 4 = .ok (.iload_n 2, 1) := by decide +kernel
theorem dX7_term_5 : decode cX7_term 5 = .ok (.sipush 32767, 3) := by decide +kernel
theorem dX7_term_8 : decode cX7_term 8 = .ok (.iand, 1) := by decide +kernel
theorem dX7_term_9 : decode cX7_term 9 = .ok (.i2l, 1) := by decide +kernel
theorem dX7_term_10 : decode cX7_term 10 = .ok (.lor, 1) := by decide +kernel
theorem dX7_term_11 : decode cX7_term 11 = .ok (.lreturn, 1) := by decide +kernel
set_option maxHeartbeats 4000000 in
set_option maxRecDepth 100000 in
/-- term -/
theorem c_X7_term (l : Launch) (hfl : l.stackTraces = false) (D : va_G) (sz : Nat) (p0 : Int64) (p1 : Int32) : Met l yX7_term (Cond.code yX7_term cX7_term 3 (some .long) :: pv_W) ({ frames := 0, cells := 0, slots := 0, locals := 0 } : Room) (va_Pc [.long p0, .int p1] (pv_P D [] [] (va_A [] sz) sz)) (va_Ql (fun _ (_ : Unit) => True) (fun _ _ => True) (va_A [] sz)) 0 0 (va_A [] sz) := by
  refine Met.ofW (cc := cX7_term) (maxL := 3) (ret := (some .long)) (by decide) rfl ?_
  intro p e s m args below meth c s₁ B hml hv
  obtain ⟨rfl, hsz, hE, hP, hK, hD0⟩ := hv
  have hx := B.exec
  have hb := B.bytes
  have hr := B.returns
  have hts := fun (w : Cond) (h : w ∈ pv_W) => atoms_spec (ws := Cond.code yX7_term cX7_term 3 (some .long) :: pv_W) B.pre w (List.mem_cons_of_mem _ h)
  have hg := fun {w : Cond} (h : w ∈ lw_tbl) (g : goodWord w = true) => hts w (pv_in h g)
  have hown : s.vm.findClass RX7 = some m.cls := findClass_of_methodNamed B.named
  have hlocks := B.notSynchronized
  subst hsz
  have hD := hD0.self (sz := s.heap.size)
  generalize hAe : va_A [] s.heap.size = A at hD hE ⊢
  have hA : ∀ q : Nat, s.heap.size ≤ q → A q := fun q h => by rw [← hAe]; exact Or.inr h
  have hS : va_S A s.heap s.heap [] := va_S.rf
  have hP : va_P D pv_cl [] s.heap := hP
  have hl := lv_entry ([.long p0, .int p1]) (n := 3) (Nat.le_of_ble_eq_true rfl)
  rw [lg_entry_eq]
  generalize (lg_sl ([.long p0, .int p1]) ++ List.replicate (3 - (lg_sl ([.long p0, .int p1])).length) Slot.unset).toArray = ls at hl ⊢
  have hl : lv_has ls 3 [(0, .long p0), (2, .int p1)] := hl
  refine lv_lload_n hx hb dX7_term_0 rfl (lv_at hl 0 rfl) ?_
  refine lv_bipush (v := 15) hx hb dX7_term_1 (by decide) ?_
  refine lv_lshl hx hb dX7_term_3 rfl ?_
  refine lv_topl (fun x_1 ex_1 => ?_)
  refine lv_iload_n hx hb dX7_term_4 rfl (lv_at hl 1 rfl) ?_
  refine lv_sipush (v := 32767) hx hb dX7_term_5 (by decide) ?_
  refine lv_iand hx hb dX7_term_8 ?_
  refine lv_topi (fun x_2 ex_2 => ?_)
  refine lv_i2l hx hb dX7_term_9 rfl ?_
  refine lv_lor hx hb dX7_term_10 ?_
  refine lv_topl (fun x_3 ex_3 => ?_)
  refine W.widen (k := 0) (n := 0) (Nat.le_of_ble_eq_true rfl) (Nat.le_of_ble_eq_true rfl) ?_
  exact W.lret (v := x_3) hx hb hr (fun t ht hW => ⟨⟨x_3, (), rfl, trivial, trivial⟩, hS.F ht⟩) hS.2.2 dX7_term_11

theorem dX7_unit_0 : decode cX7_unit 0 = .ok (.iload_n 0, 1) := by decide +kernel
theorem dX7_unit_1 : decode cX7_unit 1 = .ok (.ifCond .ne 9, 3) := by decide +kernel
theorem dX7_unit_10 : decode cX7_unit 10 = .ok (.iload_n 0, 1) := by decide +kernel
theorem dX7_unit_11 : decode cX7_unit 11 = .ok (.iconst 1, 1) := by decide +kernel
theorem dX7_unit_12 : decode cX7_unit 12 = .ok (.if_icmp .ne 8, 3) := by decide +kernel
theorem dX7_unit_20 : decode cX7_unit 20 = .ok (.iconst 1, 1) := by decide +kernel
theorem dX7_unit_21 : decode cX7_unit 21 = .ok (.ireturn, 1) := by decide +kernel
theorem dX7_unit_15 : decode cX7_unit 15 = .ok (.bipush 32, 2) := by decide +kernel
theorem dX7_unit_17 : decode cX7_unit 17 = .ok (.goto 4, 3) := by decide +kernel
theorem dX7_unit_4 : decode cX7_unit 4 = .ok (.sipush 1024, 3) := by decide +kernel
theorem dX7_unit_7 : decode cX7_unit 7 = .ok (.goto 14, 3) := by decide +kernel
set_option maxHeartbeats 4000000 in
set_option maxRecDepth 100000 in
/-- unit -/
theorem c_X7_unit (l : Launch) (hfl : l.stackTraces = false) (D : va_G) (sz : Nat) (p0 : Int32) : Met l yX7_unit (Cond.code yX7_unit cX7_unit 1 (some .int) :: pv_W) ({ frames := 0, cells := 0, slots := 0, locals := 0 } : Room) (va_Pc [.int p0] (pv_P D [] [] (va_A [] sz) sz)) (va_Qi (fun _ (_ : Unit) => True) (fun _ _ => True) (va_A [] sz)) 0 0 (va_A [] sz) := by
  refine Met.ofW (cc := cX7_unit) (maxL := 1) (ret := (some .int)) (by decide) rfl ?_
  intro p e s m args below meth c s₁ B hml hv
  obtain ⟨rfl, hsz, hE, hP, hK, hD0⟩ := hv
  have hx := B.exec
  have hb := B.bytes
  have hr := B.returns
  have hts := fun (w : Cond) (h : w ∈ pv_W) => atoms_spec (ws := Cond.code yX7_unit cX7_unit 1 (some .int) :: pv_W) B.pre w (List.mem_cons_of_mem _ h)
  have hg := fun {w : Cond} (h : w ∈ lw_tbl) (g : goodWord w = true) => hts w (pv_in h g)
  have hown : s.vm.findClass RX7 = some m.cls := findClass_of_methodNamed B.named
  have hlocks := B.notSynchronized
  subst hsz
  have hD := hD0.self (sz := s.heap.size)
  generalize hAe : va_A [] s.heap.size = A at hD hE ⊢
  have hA : ∀ q : Nat, s.heap.size ≤ q → A q := fun q h => by rw [← hAe]; exact Or.inr h
  have hS : va_S A s.heap s.heap [] := va_S.rf
  have hP : va_P D pv_cl [] s.heap := hP
  have hl := lv_entry ([.int p0]) (n := 1) (Nat.le_of_ble_eq_true rfl)
  rw [lg_entry_eq]
  generalize (lg_sl ([.int p0]) ++ List.replicate (1 - (lg_sl ([.int p0])).length) Slot.unset).toArray = ls at hl ⊢
  have hl : lv_has ls 1 [(0, .int p0)] := hl
  refine lv_iload_n hx hb dX7_unit_0 rfl (lv_at hl 0 rfl) ?_
  refine lv_if_ne (tgt := 10) hx hb dX7_unit_1 (by decide) (fun c_1 => ?_) (fun c_1 => ?_)
  · refine lv_iload_n hx hb dX7_unit_10 rfl (lv_at hl 0 rfl) ?_
    refine lv_iconst (v := 1) hx hb dX7_unit_11 (by decide) ?_
    refine lv_icmp_ne (tgt := 20) hx hb dX7_unit_12 (by decide) (fun c_2 => ?_) (fun c_2 => ?_)
    · refine lv_iconst (v := 1) hx hb dX7_unit_20 (by decide) ?_
      refine W.widen (k := 0) (n := 0) (Nat.le_of_ble_eq_true rfl) (Nat.le_of_ble_eq_true rfl) ?_
      exact W.iret (v := 1) hx hb hr (fun t ht hW => ⟨⟨1, (), rfl, trivial, trivial⟩, hS.F ht⟩) hS.2.2 dX7_unit_21
    · refine lv_bipush (v := 32) hx hb dX7_unit_15 (by decide) ?_
      refine lv_goto (tgt := 21) hx hb dX7_unit_17 (by decide) ?_
      refine W.widen (k := 0) (n := 0) (Nat.le_of_ble_eq_true rfl) (Nat.le_of_ble_eq_true rfl) ?_
      exact W.iret (v := 32) hx hb hr (fun t ht hW => ⟨⟨32, (), rfl, trivial, trivial⟩, hS.F ht⟩) hS.2.2 dX7_unit_21
  · refine lv_sipush (v := 1024) hx hb dX7_unit_4 (by decide) ?_
    refine lv_goto (tgt := 21) hx hb dX7_unit_7 (by decide) ?_
    refine W.widen (k := 0) (n := 0) (Nat.le_of_ble_eq_true rfl) (Nat.le_of_ble_eq_true rfl) ?_
    exact W.iret (v := 1024) hx hb hr (fun t ht hW => ⟨⟨1024, (), rfl, trivial, trivial⟩, hS.F ht⟩) hS.2.2 dX7_unit_21

theorem dX11_roomy_0 : decode cX11_roomy 0 = .ok (.iload_n 1, 1) := by decide +kernel
theorem dX11_roomy_1 : decode cX11_roomy 1 = .ok (.aload_n 0, 1) := by decide +kernel
theorem dX11_roomy_2 : decode cX11_roomy 2 = .ok (.arraylength, 1) := by decide +kernel
theorem dX11_roomy_3 : decode cX11_roomy 3 = .ok (.if_icmp .gt 5, 3) := by decide +kernel
theorem dX11_roomy_6 : decode cX11_roomy 6 = .ok (.aload_n 0, 1) := by decide +kernel
theorem dX11_roomy_7 : decode cX11_roomy 7 = .ok (.areturn, 1) := by decide +kernel
set_option maxHeartbeats 4000000 in
set_option maxRecDepth 100000 in
/-- roomy, of a row that is long enough -/
theorem c_X11_roomy (l : Launch) (hfl : l.stackTraces = false) (D : va_G) (sz : Nat) (h0 : Nat) (cJ : ClassId) (f : Nat → Int64) : Met l yX11_roomy (Cond.code yX11_roomy cX11_roomy 2 (some (.array .long)) :: pv_W) ({ frames := 0, cells := 0, slots := 0, locals := 0 } : Room) (va_Pc [.ref h0, .int 1] (pv_P D [(cJ, .long)] [(h0, .inl (cJ, 64, .inr (.inl f)))] (va_A [] sz) sz)) (va_Qr (fun (_ : Unit) => True) (fun _ a _ => a = h0) (va_A [] sz)) 0 0 (va_A [] sz) := by
  refine Met.ofW (cc := cX11_roomy) (maxL := 2) (ret := (some (.array .long))) (by decide) rfl ?_
  intro p e s m args below meth c s₁ B hml hv
  obtain ⟨rfl, hsz, hE, hP, hK, hD0⟩ := hv
  have hx := B.exec
  have hb := B.bytes
  have hr := B.returns
  have hts := fun (w : Cond) (h : w ∈ pv_W) => atoms_spec (ws := Cond.code yX11_roomy cX11_roomy 2 (some (.array .long)) :: pv_W) B.pre w (List.mem_cons_of_mem _ h)
  have hg := fun {w : Cond} (h : w ∈ lw_tbl) (g : goodWord w = true) => hts w (pv_in h g)
  have hown : s.vm.findClass RX11 = some m.cls := findClass_of_methodNamed B.named
  have hlocks := B.notSynchronized
  subst hsz
  have hD := hD0
  generalize hAe : va_A [] s.heap.size = A at hE ⊢
  have hA : ∀ q : Nat, s.heap.size ≤ q → A q := fun q h => by rw [← hAe]; exact Or.inr h
  have hS : va_S A s.heap s.heap [] := va_S.rf
  have hP : va_P D pv_cl [(h0, .inl (cJ, 64, .inr (.inl f)))] s.heap := hP
  have hl := lv_entry ([.ref h0, .int 1]) (n := 2) (Nat.le_of_ble_eq_true rfl)
  rw [lg_entry_eq]
  generalize (lg_sl ([.ref h0, .int 1]) ++ List.replicate (2 - (lg_sl ([.ref h0, .int 1])).length) Slot.unset).toArray = ls at hl ⊢
  have hl : lv_has ls 2 [(0, .ref h0), (1, .int 1)] := hl
  refine lv_iload_n hx hb dX11_roomy_0 rfl (lv_at hl 1 rfl) ?_
  refine lv_aload_n hx hb dX11_roomy_1 rfl (lv_at hl 0 rfl) ?_
  refine va_alen hx hb hK hP 0 0 rfl rfl (v := 64) rfl dX11_roomy_2 ?_
  refine lv_icmp_gt (tgt := 8) hx hb dX11_roomy_3 (by decide) (fun c_1 => absurd c_1 (by decide)) (fun _ => ?_)
  refine lv_aload_n hx hb dX11_roomy_6 rfl (lv_at hl 0 rfl) ?_
  refine W.widen (k := 0) (n := 0) (Nat.le_of_ble_eq_true rfl) (Nat.le_of_ble_eq_true rfl) ?_
  exact W.aret (v := .ref h0) hx hb hr (Or.inr ⟨_, rfl⟩) (Or.inr ⟨_, rfl⟩) (fun t ht hW => ⟨⟨(), h0, rfl, trivial, rfl⟩, hS.F ht⟩) hS.2.2 dX11_roomy_7

theorem dX9_begin_0 : decode cX9_begin 0 = .ok (.aload_n 0, 1) := by decide +kernel
theorem dX9_begin_1 : decode cX9_begin 1 = .ok (.iload_n 1, 1) := by decide +kernel
theorem dX9_begin_2 : decode cX9_begin 2 = .ok (.putfield 32, 3) := by decide +kernel
theorem w1_58 : (Jvm.Cond.fieldLink "Polyforge$Slate" (32 : Nat) "Polyforge$Slate" "ground" "I") ∈ lw_tbl := pv_t1 (pv_mg 58 rfl)
theorem dX9_begin_5 : decode cX9_begin 5 = .ok (.aload_n 0, 1) := by decide +kernel
theorem dX9_begin_6 : decode cX9_begin 6 = .ok (.iconst 0, 1) := by decide +kernel
theorem dX9_begin_7 : decode cX9_begin 7 = .ok (.putfield 28, 3) := by decide +kernel
theorem w1_56 : (Jvm.Cond.fieldLink "Polyforge$Slate" (28 : Nat) "Polyforge$Slate" "length" "I") ∈ lw_tbl := pv_t1 (pv_mg 56 rfl)
theorem dX9_begin_10 : decode cX9_begin 10 = .ok (.return_, 1) := by decide +kernel
set_option maxHeartbeats 4000000 in
set_option maxRecDepth 100000 in
/-- begin -/
theorem c_X9_begin (l : Launch) (hfl : l.stackTraces = false) (D : va_G) (sz : Nat) (h0 : Nat) (w : Nat → Nat) (p0 : Int32) : Met l yX9_begin (Cond.code yX9_begin cX9_begin 2 none :: pv_W) ({ frames := 0, cells := 0, slots := 0, locals := 0 } : Room) (va_Pc [.ref h0, .int p0] (pv_P D [] [(h0, .inr (2, [.ref (w 0), .ref (w 1), .ref (w 2), .ref (w 3), .int 0, .int 0]))] (va_A [(h0, .inr (2, [.ref (w 0), .ref (w 1), .ref (w 2), .ref (w 3), .int 0, .int 0]))] sz) sz)) (va_Qv (fun (_ : Unit) => True) (fun _ t => va_P D pv_cl [(h0, .inr (2, [.ref (w 0), .ref (w 1), .ref (w 2), .ref (w 3), .int 0, .int p0]))] t.heap ∧ va_K D pv_cl [] t ∧ va_D (va_A [(h0, .inr (2, [.ref (w 0), .ref (w 1), .ref (w 2), .ref (w 3), .int 0, .int 0]))] sz) [(h0, .inr (2, [.ref (w 0), .ref (w 1), .ref (w 2), .ref (w 3), .int 0, .int p0]))]) (va_A [(h0, .inr (2, [.ref (w 0), .ref (w 1), .ref (w 2), .ref (w 3), .int 0, .int 0]))] sz)) 0 0 (va_A [(h0, .inr (2, [.ref (w 0), .ref (w 1), .ref (w 2), .ref (w 3), .int 0, .int 0]))] sz) := by
  refine Met.ofW (cc := cX9_begin) (maxL := 2) (ret := none) (by decide) rfl ?_
  intro p e s m args below meth c s₁ B hml hv
  obtain ⟨rfl, hsz, hE, hP, hK, hD0⟩ := hv
  have hx := B.exec
  have hb := B.bytes
  have hr := B.returns
  have hts := fun (w : Cond) (h : w ∈ pv_W) => atoms_spec (ws := Cond.code yX9_begin cX9_begin 2 none :: pv_W) B.pre w (List.mem_cons_of_mem _ h)
  have hg := fun {w : Cond} (h : w ∈ lw_tbl) (g : goodWord w = true) => hts w (pv_in h g)
  have hown : s.vm.findClass RX9 = some m.cls := findClass_of_methodNamed B.named
  have hlocks := B.notSynchronized
  subst hsz
  have hD := hD0.self (sz := s.heap.size)
  generalize hAe : va_A [(h0, .inr (2, [.ref (w 0), .ref (w 1), .ref (w 2), .ref (w 3), .int 0, .int 0]))] s.heap.size = A at hD hE ⊢
  have hA : ∀ q : Nat, s.heap.size ≤ q → A q := fun q h => by rw [← hAe]; exact Or.inr h
  have hS : va_S A s.heap s.heap [] := va_S.rf
  have hP : va_P D pv_cl [(h0, .inr (2, [.ref (w 0), .ref (w 1), .ref (w 2), .ref (w 3), .int 0, .int 0]))] s.heap := hP
  have hl := lv_entry ([.ref h0, .int p0]) (n := 2) (Nat.le_of_ble_eq_true rfl)
  rw [lg_entry_eq]
  generalize (lg_sl ([.ref h0, .int p0]) ++ List.replicate (2 - (lg_sl ([.ref h0, .int p0])).length) Slot.unset).toArray = ls at hl ⊢
  have hl : lv_has ls 2 [(0, .ref h0), (1, .int p0)] := hl
  refine lv_aload_n hx hb dX9_begin_0 rfl (lv_at hl 0 rfl) ?_
  refine lv_iload_n hx hb dX9_begin_1 rfl (lv_at hl 1 rfl) ?_
  refine va_put (own := RX9) (D := D) (ci := 2) (v := .int p0) (ty := .int) (C := RX9) (T := TX9) (N := 6) hx hb hts inF9 tyX9 tyX9_ok nmX9 hown hK hP hD hS 0 rfl rfl 5 (by decide) (hg w1_58 rfl) (fun _ h9 => h9) rfl (by decide +kernel) rfl rfl (Nat.le_of_ble_eq_true rfl) dX9_begin_2 (fun H locs hP hD hS => ?_)
  have hP : va_P D pv_cl [(h0, .inr (2, [.ref (w 0), .ref (w 1), .ref (w 2), .ref (w 3), .int 0, .int p0]))] _ := hP
  have hD : va_D A [(h0, .inr (2, [.ref (w 0), .ref (w 1), .ref (w 2), .ref (w 3), .int 0, .int p0]))] := hD
  refine lv_aload_n hx hb dX9_begin_5 rfl (lv_at hl 0 rfl) ?_
  refine lv_iconst (v := 0) hx hb dX9_begin_6 (by decide) ?_
  refine va_put (own := RX9) (D := D) (ci := 2) (v := .int 0) (ty := .int) (C := RX9) (T := TX9) (N := 6) hx hb hts inF9 tyX9 tyX9_ok nmX9 hown hK hP hD hS 0 rfl rfl 4 (by decide) (hg w1_56 rfl) (fun _ h9 => h9) rfl (by decide +kernel) rfl rfl (Nat.le_of_ble_eq_true rfl) dX9_begin_7 (fun H locs hP hD hS => ?_)
  have hP : va_P D pv_cl [(h0, .inr (2, [.ref (w 0), .ref (w 1), .ref (w 2), .ref (w 3), .int 0, .int p0]))] _ := hP
  have hD : va_D A [(h0, .inr (2, [.ref (w 0), .ref (w 1), .ref (w 2), .ref (w 3), .int 0, .int p0]))] := hD
  refine W.widen (k := 0) (n := 0) (Nat.le_of_ble_eq_true rfl) (Nat.le_of_ble_eq_true rfl) ?_
  exact W.vret hx hb hr (fun t ht hW => ⟨⟨(), rfl, trivial, (by rw [ht]; exact hP.sub [0] rfl), va_K.moved hW.alike (hK.sub [] rfl), hD.sub [0] (by decide) rfl⟩, hS.F ht⟩) hS.2.2 dX9_begin_10

theorem dX9_settled_0 : decode cX9_settled 0 = .ok (.aload_n 0, 1) := by decide +kernel
theorem dX9_settled_1 : decode cX9_settled 1 = .ok (.getfield 32, 3) := by decide +kernel
theorem dX9_settled_4 : decode cX9_settled 4 = .ok (.ifCond .ne 7, 3) := by decide +kernel
theorem dX9_settled_11 : decode cX9_settled 11 = .ok (.lload_n 1, 1) := by decide +kernel
theorem dX9_settled_12 : decode cX9_settled 12 = .ok (.aload_n 0, 1) := by decide +kernel
theorem dX9_settled_13 : decode cX9_settled 13 = .ok (.getfield 32, 3) := by decide +kernel
theorem dX9_settled_16 : decode cX9_settled 16 = .ok (.invokestatic 83, 3) := by decide +kernel
theorem w4_235 : (Jvm.Cond.methodLinkNest "Polyforge$Slate" (83 : Nat) ({ cls := "Polyforge", name := "mod", desc := "(JI)I" } : Jvm.MethodName) "Polyforge") ∈ lw_tbl := pv_t4 (pv_mg 235 rfl)
theorem w2_180 : (Jvm.Cond.code ({ cls := "Polyforge", name := "mod", desc := "(JI)I" } : Jvm.MethodName) prog_1_method_84_code (3 : Nat) (Option.some Jvm.ClassFile.FieldType.int)) ∈ lw_tbl := pv_t2 (pv_mg 180 rfl)
theorem w2_179 : (Jvm.Cond.static ({ cls := "Polyforge", name := "mod", desc := "(JI)I" } : Jvm.MethodName)) ∈ lw_tbl := pv_t2 (pv_mg 179 rfl)
theorem dX9_settled_19 : decode cX9_settled 19 = .ok (.i2l, 1) := by decide +kernel
theorem dX9_settled_20 : decode cX9_settled 20 = .ok (.lreturn, 1) := by decide +kernel
theorem dX9_settled_7 : decode cX9_settled 7 = .ok (.lload_n 1, 1) := by decide +kernel
theorem dX9_settled_8 : decode cX9_settled 8 = .ok (.goto 12, 3) := by decide +kernel
set_option maxHeartbeats 4000000 in
set_option maxRecDepth 100000 in
/-- settled -/
theorem c_X9_settled (l : Launch) (hfl : l.stackTraces = false) (D : va_G) (sz : Nat) (h0 : Nat) (w : Nat → Nat) (g0 : Int32) (p0 : Int64) : Met l yX9_settled (Cond.code yX9_settled cX9_settled 3 (some .long) :: pv_W) ({ frames := 2, cells := 0, slots := 0, locals := 47 } : Room) (va_Pc [.ref h0, .long p0] (pv_P D [] [(h0, .inr (2, [.ref (w 0), .ref (w 1), .ref (w 2), .ref (w 3), .int 0, .int g0]))] (va_A [] sz) sz)) (va_Ql (fun _ (_ : Unit) => True) (fun _ _ => True) (va_A [] sz)) 0 0 (va_A [] sz) := by
  refine Met.ofW (cc := cX9_settled) (maxL := 3) (ret := (some .long)) (by decide) rfl ?_
  intro p e s m args below meth c s₁ B hml hv
  obtain ⟨rfl, hsz, hE, hP, hK, hD0⟩ := hv
  have hx := B.exec
  have hb := B.bytes
  have hr := B.returns
  have hts := fun (w : Cond) (h : w ∈ pv_W) => atoms_spec (ws := Cond.code yX9_settled cX9_settled 3 (some .long) :: pv_W) B.pre w (List.mem_cons_of_mem _ h)
  have hg := fun {w : Cond} (h : w ∈ lw_tbl) (g : goodWord w = true) => hts w (pv_in h g)
  have hown : s.vm.findClass RX9 = some m.cls := findClass_of_methodNamed B.named
  have hlocks := B.notSynchronized
  subst hsz
  have hD := hD0
  generalize hAe : va_A [] s.heap.size = A at hE ⊢
  have hA : ∀ q : Nat, s.heap.size ≤ q → A q := fun q h => by rw [← hAe]; exact Or.inr h
  have hS : va_S A s.heap s.heap [] := va_S.rf
  have hP : va_P D pv_cl [(h0, .inr (2, [.ref (w 0), .ref (w 1), .ref (w 2), .ref (w 3), .int 0, .int g0]))] s.heap := hP
  have hl := lv_entry ([.ref h0, .long p0]) (n := 3) (Nat.le_of_ble_eq_true rfl)
  rw [lg_entry_eq]
  generalize (lg_sl ([.ref h0, .long p0]) ++ List.replicate (3 - (lg_sl ([.ref h0, .long p0])).length) Slot.unset).toArray = ls at hl ⊢
  have hl : lv_has ls 3 [(0, .ref h0), (1, .long p0)] := hl
  refine lv_aload_n hx hb dX9_settled_0 rfl (lv_at hl 0 rfl) ?_
  refine va_get (own := RX9) (D := D) (ci := 2) (v := .int g0) (C := RX9) (T := TX9) (N := 6) hx hb hts inF9 hown hK hP 0 rfl rfl 5 (by decide) (hg w1_58 rfl) (fun _ h9 => h9) rfl dX9_settled_1 ?_
  refine lv_if_ne (tgt := 11) hx hb dX9_settled_4 (by decide) (fun c_1 => ?_) (fun c_1 => ?_)
  · refine lv_lload_n hx hb dX9_settled_11 rfl (lv_at hl 1 rfl) ?_
    refine lv_aload_n hx hb dX9_settled_12 rfl (lv_at hl 0 rfl) ?_
    refine va_get (own := RX9) (D := D) (ci := 2) (v := .int g0) (C := RX9) (T := TX9) (N := 6) hx hb hts inF9 hown hK hP 0 rfl rfl 5 (by decide) (hg w1_58 rfl) (fun _ h9 => h9) rfl dX9_settled_13 ?_
    have hF := pv_new hA hS.1
    refine va_calli (va_runSN (As := [.long p0, .int g0]) (rest := []) ⟨hx, hb, hml, hown, hts⟩ (c_X11_mod l hfl D _ p0 g0) ⟨(va_cnB 2 hts (pv_gC w2_180) rfl rfl rfl (hE.2.2.1 _ (pv_ib w4_235 rfl)) (hg w1_1 rfl) (by decide +kernel) ⟨Nat.le_of_ble_eq_true rfl, Nat.le_of_ble_eq_true rfl⟩), hg w2_179 rfl, trivial⟩ (pv_ps hE hS hF (hP.sub [] rfl) (hK.sub [] rfl) (hD.sub [] (by decide) rfl)) rfl rfl hl.1 rfl (lv_room (Nat.le_of_ble_eq_true rfl)) dX9_settled_16 ⟨Nat.le_of_ble_eq_true rfl, Nat.le_of_ble_eq_true rfl⟩) hS (fun q _ h => hF q h) hF (fun r_1 u t H1 locs1 ht hvm hw hB hz1 hk1 hS => ?_)
    refine W.widen (k := 0) (n := 0) (Nat.le_of_ble_eq_true rfl) (Nat.le_of_ble_eq_true rfl) ?_
    have hP := pv_keep hP rfl hk1
    refine lv_i2l hx hb dX9_settled_19 rfl ?_
    refine W.widen (k := 0) (n := 0) (Nat.le_of_ble_eq_true rfl) (Nat.le_of_ble_eq_true rfl) ?_
    exact W.lret (v := r_1.toInt64) hx hb hr (fun t ht hW => ⟨⟨r_1.toInt64, (), rfl, trivial, trivial⟩, hS.F ht⟩) hS.2.2 dX9_settled_20
  · refine lv_lload_n hx hb dX9_settled_7 rfl (lv_at hl 1 rfl) ?_
    refine lv_goto (tgt := 20) hx hb dX9_settled_8 (by decide) ?_
    refine W.widen (k := 0) (n := 0) (Nat.le_of_ble_eq_true rfl) (Nat.le_of_ble_eq_true rfl) ?_
    exact W.lret (v := p0) hx hb hr (fun t ht hW => ⟨⟨p0, (), rfl, trivial, trivial⟩, hS.F ht⟩) hS.2.2 dX9_settled_20

theorem dX9_put_0 : decode cX9_put 0 = .ok (.aload_n 0, 1) := by decide +kernel
theorem dX9_put_1 : decode cX9_put 1 = .ok (.lload_n 1, 1) := by decide +kernel
theorem dX9_put_2 : decode cX9_put 2 = .ok (.invokevirtual 87, 3) := by decide +kernel
theorem w4_231 : (Jvm.Cond.methodLink "Polyforge$Slate" (87 : Nat) ({ cls := "Polyforge$Slate", name := "settled", desc := "(J)J" } : Jvm.MethodName)) ∈ lw_tbl := pv_t4 (pv_mg 231 rfl)
theorem w4_234 : (Jvm.Cond.code ({ cls := "Polyforge$Slate", name := "settled", desc := "(J)J" } : Jvm.MethodName) prog_11_method_9_code (3 : Nat) (Option.some Jvm.ClassFile.FieldType.long)) ∈ lw_tbl := pv_t4 (pv_mg 234 rfl)
theorem wp3_11 : Cond.selects "Polyforge$Slate" ⟨"Polyforge$Slate", "settled", "(J)J"⟩ ⟨"Polyforge$Slate", "settled", "(J)J"⟩ ∈ lw_tbl := pv_mg 43 rfl
theorem w4_233 : (Jvm.Cond.instanceMethod ({ cls := "Polyforge$Slate", name := "settled", desc := "(J)J" } : Jvm.MethodName)) ∈ lw_tbl := pv_t4 (pv_mg 233 rfl)
theorem w1_2 : (Jvm.Cond.initialized "Polyforge$Slate") ∈ lw_tbl := pv_t1 (pv_mg 2 rfl)
theorem dX9_put_5 : decode cX9_put 5 = .ok (.lstore 4, 2) := by decide +kernel
theorem dX9_put_7 : decode cX9_put 7 = .ok (.lload 4, 2) := by decide +kernel
theorem dX9_put_9 : decode cX9_put 9 = .ok (.invokestatic 90, 3) := by decide +kernel
theorem w4_236 : (Jvm.Cond.methodLink "Polyforge$Slate" (90 : Nat) ({ cls := "Polyforge$Slate", name := "isInRange", desc := "(J)Z" } : Jvm.MethodName)) ∈ lw_tbl := pv_t4 (pv_mg 236 rfl)
theorem w4_238 : (Jvm.Cond.code ({ cls := "Polyforge$Slate", name := "isInRange", desc := "(J)Z" } : Jvm.MethodName) prog_11_method_8_code (2 : Nat) (Option.some Jvm.ClassFile.FieldType.boolean)) ∈ lw_tbl := pv_t4 (pv_mg 238 rfl)
theorem w4_237 : (Jvm.Cond.static ({ cls := "Polyforge$Slate", name := "isInRange", desc := "(J)Z" } : Jvm.MethodName)) ∈ lw_tbl := pv_t4 (pv_mg 237 rfl)
theorem dX9_put_12 : decode cX9_put 12 = .ok (.ifCond .ne 5, 3) := by decide +kernel
theorem dX9_put_17 : decode cX9_put 17 = .ok (.lload 4, 2) := by decide +kernel
theorem dX9_put_19 : decode cX9_put 19 = .ok (.lconst 0, 1) := by decide +kernel
theorem dX9_put_20 : decode cX9_put 20 = .ok (.lcmp, 1) := by decide +kernel
theorem dX9_put_21 : decode cX9_put 21 = .ok (.ifCond .eq 45, 3) := by decide +kernel
theorem dX9_put_66 : decode cX9_put 66 = .ok (.iconst 1, 1) := by decide +kernel
theorem dX9_put_67 : decode cX9_put 67 = .ok (.ireturn, 1) := by decide +kernel
theorem dX9_put_24 : decode cX9_put 24 = .ok (.aload_n 0, 1) := by decide +kernel
theorem dX9_put_25 : decode cX9_put 25 = .ok (.aload_n 0, 1) := by decide +kernel
theorem dX9_put_26 : decode cX9_put 26 = .ok (.getfield 22, 3) := by decide +kernel
theorem w1_53 : (Jvm.Cond.fieldLink "Polyforge$Slate" (22 : Nat) "Polyforge$Slate" "result" "[J") ∈ lw_tbl := pv_t1 (pv_mg 53 rfl)
theorem dX9_put_29 : decode cX9_put 29 = .ok (.aload_n 0, 1) := by decide +kernel
theorem dX9_put_30 : decode cX9_put 30 = .ok (.getfield 28, 3) := by decide +kernel
theorem dX9_put_33 : decode cX9_put 33 = .ok (.iconst 1, 1) := by decide +kernel
theorem dX9_put_34 : decode cX9_put 34 = .ok (.iadd, 1) := by decide +kernel
theorem dX9_put_35 : decode cX9_put 35 = .ok (.invokestatic 43, 3) := by decide +kernel
theorem w5_1 : (Jvm.Cond.methodLinkNest "Polyforge$Slate" (43 : Nat) ({ cls := "Polyforge", name := "roomy", desc := "([JI)[J" } : Jvm.MethodName) "Polyforge") ∈ lw_tbl := pv_t5 (pv_mg 1 rfl)
theorem w3_83 : (Jvm.Cond.code ({ cls := "Polyforge", name := "roomy", desc := "([JI)[J" } : Jvm.MethodName) prog_1_method_91_code (2 : Nat) (Option.some (Jvm.ClassFile.FieldType.array Jvm.ClassFile.FieldType.long))) ∈ lw_tbl := pv_t3 (pv_mg 83 rfl)
theorem w3_82 : (Jvm.Cond.static ({ cls := "Polyforge", name := "roomy", desc := "([JI)[J" } : Jvm.MethodName)) ∈ lw_tbl := pv_t3 (pv_mg 82 rfl)
theorem dX9_put_38 : decode cX9_put 38 = .ok (.putfield 22, 3) := by decide +kernel
theorem dX9_put_41 : decode cX9_put 41 = .ok (.aload_n 0, 1) := by decide +kernel
theorem dX9_put_42 : decode cX9_put 42 = .ok (.getfield 22, 3) := by decide +kernel
theorem dX9_put_45 : decode cX9_put 45 = .ok (.aload_n 0, 1) := by decide +kernel
theorem dX9_put_46 : decode cX9_put 46 = .ok (.getfield 28, 3) := by decide +kernel
theorem dX9_put_49 : decode cX9_put 49 = .ok (.lload 4, 2) := by decide +kernel
theorem dX9_put_51 : decode cX9_put 51 = .ok (.iload_n 3, 1) := by decide +kernel
theorem dX9_put_52 : decode cX9_put 52 = .ok (.invokestatic 94, 3) := by decide +kernel
theorem w5_2 : (Jvm.Cond.methodLink "Polyforge$Slate" (94 : Nat) ({ cls := "Polyforge$Polynomial", name := "term", desc := "(JI)J" } : Jvm.MethodName)) ∈ lw_tbl := pv_t5 (pv_mg 2 rfl)
theorem w5_4 : (Jvm.Cond.code ({ cls := "Polyforge$Polynomial", name := "term", desc := "(JI)J" } : Jvm.MethodName) prog_9_method_7_code (3 : Nat) (Option.some Jvm.ClassFile.FieldType.long)) ∈ lw_tbl := pv_t5 (pv_mg 4 rfl)
theorem w5_3 : (Jvm.Cond.static ({ cls := "Polyforge$Polynomial", name := "term", desc := "(JI)J" } : Jvm.MethodName)) ∈ lw_tbl := pv_t5 (pv_mg 3 rfl)
theorem w1_17 : (Jvm.Cond.initialized "Polyforge$Polynomial") ∈ lw_tbl := pv_t1 (pv_mg 17 rfl)
theorem dX9_put_55 : decode cX9_put 55 = .ok (.lastore, 1) := by decide +kernel
theorem dX9_put_56 : decode cX9_put 56 = .ok (.aload_n 0, 1) := by decide +kernel
theorem dX9_put_57 : decode cX9_put 57 = .ok (.dup, 1) := by decide +kernel
theorem dX9_put_58 : decode cX9_put 58 = .ok (.getfield 28, 3) := by decide +kernel
theorem dX9_put_61 : decode cX9_put 61 = .ok (.iconst 1, 1) := by decide +kernel
theorem dX9_put_62 : decode cX9_put 62 = .ok (.iadd, 1) := by decide +kernel
theorem dX9_put_63 : decode cX9_put 63 = .ok (.putfield 28, 3) := by decide +kernel
theorem dX9_put_15 : decode cX9_put 15 = .ok (.iconst 0, 1) := by decide +kernel
theorem dX9_put_16 : decode cX9_put 16 = .ok (.ireturn, 1) := by decide +kernel
set_option maxHeartbeats 4000000 in
set_option maxRecDepth 100000 in
/-- put, on an empty slate -/
theorem c_X9_put (l : Launch) (hfl : l.stackTraces = false) (D : va_G) (sz : Nat) (h0 : Nat) (w : Nat → Nat) (cJ : ClassId) (f : Nat → Int64) (g0 : Int32) (p0 : Int64) (p1 : Int32) : Met l yX9_put (Cond.code yX9_put cX9_put 6 (some .boolean) :: pv_W) ({ frames := 3, cells := 0, slots := 0, locals := 69 } : Room) (va_Pc [.ref h0, .long p0, .int p1] (pv_P D [(cJ, .long)] [(h0, .inr (2, [.ref (w 0), .ref (w 1), .ref (w 2), .ref (w 3), .int 0, .int g0])), ((w 2), .inl (cJ, 64, .inr (.inl f)))] (va_A [(h0, .inr (2, [.ref (w 0), .ref (w 1), .ref (w 2), .ref (w 3), .int 0, .int g0])), ((w 2), .inl (cJ, 64, .inr (.inl f)))] sz) sz)) (va_Qi (fun (_ : Int32) (u : Int32 × (Nat → Int64)) => u.1 = 0 ∨ u.1 = 1) (fun u t => va_P D pv_cl [(h0, .inr (2, [.ref (w 0), .ref (w 1), .ref (w 2), .ref (w 3), .int u.1, .int g0])), ((w 2), .inl (cJ, 64, .inr (.inl u.2)))] t.heap ∧ va_K D pv_cl [(cJ, .long)] t ∧ va_D (va_A [(h0, .inr (2, [.ref (w 0), .ref (w 1), .ref (w 2), .ref (w 3), .int 0, .int g0])), ((w 2), .inl (cJ, 64, .inr (.inl f)))] sz) [(h0, .inr (2, [.ref (w 0), .ref (w 1), .ref (w 2), .ref (w 3), .int u.1, .int g0])), ((w 2), .inl (cJ, 64, .inr (.inl u.2)))]) (va_A [(h0, .inr (2, [.ref (w 0), .ref (w 1), .ref (w 2), .ref (w 3), .int 0, .int g0])), ((w 2), .inl (cJ, 64, .inr (.inl f)))] sz)) 0 0 (va_A [(h0, .inr (2, [.ref (w 0), .ref (w 1), .ref (w 2), .ref (w 3), .int 0, .int g0])), ((w 2), .inl (cJ, 64, .inr (.inl f)))] sz) := by
  refine Met.ofW (cc := cX9_put) (maxL := 6) (ret := (some .boolean)) (by decide) rfl ?_
  intro p e s m args below meth c s₁ B hml hv
  obtain ⟨rfl, hsz, hE, hP, hK, hD0⟩ := hv
  have hx := B.exec
  have hb := B.bytes
  have hr := B.returns
  have hts := fun (w : Cond) (h : w ∈ pv_W) => atoms_spec (ws := Cond.code yX9_put cX9_put 6 (some .boolean) :: pv_W) B.pre w (List.mem_cons_of_mem _ h)
  have hg := fun {w : Cond} (h : w ∈ lw_tbl) (g : goodWord w = true) => hts w (pv_in h g)
  have hown : s.vm.findClass RX9 = some m.cls := findClass_of_methodNamed B.named
  have hlocks := B.notSynchronized
  subst hsz
  have hD := hD0.self (sz := s.heap.size)
  generalize hAe : va_A [(h0, .inr (2, [.ref (w 0), .ref (w 1), .ref (w 2), .ref (w 3), .int 0, .int g0])), ((w 2), .inl (cJ, 64, .inr (.inl f)))] s.heap.size = A at hD hE ⊢
  have hA : ∀ q : Nat, s.heap.size ≤ q → A q := fun q h => by rw [← hAe]; exact Or.inr h
  have hS : va_S A s.heap s.heap [] := va_S.rf
  have hP : va_P D pv_cl [(h0, .inr (2, [.ref (w 0), .ref (w 1), .ref (w 2), .ref (w 3), .int 0, .int g0])), ((w 2), .inl (cJ, 64, .inr (.inl f)))] s.heap := hP
  have hl := lv_entry ([.ref h0, .long p0, .int p1]) (n := 6) (Nat.le_of_ble_eq_true rfl)
  rw [lg_entry_eq]
  generalize (lg_sl ([.ref h0, .long p0, .int p1]) ++ List.replicate (6 - (lg_sl ([.ref h0, .long p0, .int p1])).length) Slot.unset).toArray = ls at hl ⊢
  have hl : lv_has ls 6 [(0, .ref h0), (1, .long p0), (3, .int p1)] := hl
  refine lv_aload_n hx hb dX9_put_0 rfl (lv_at hl 0 rfl) ?_
  refine lv_lload_n hx hb dX9_put_1 rfl (lv_at hl 1 rfl) ?_
  have hF := pv_new hA hS.1
  refine va_calll (va_runV (As := [.long p0]) (rest := []) ⟨hx, hb, hml, hown, hts⟩ (c_X9_settled l hfl D _ h0 w g0 p0) (cwV 1 hts (pv_gV w4_231 w4_233 wp3_11 w1_2 w4_234) rfl rfl rfl (by decide +kernel) ⟨Nat.le_of_ble_eq_true rfl, Nat.le_of_ble_eq_true rfl⟩) (pv_pV hE hS hF (hP.sub [0] rfl) (hK.sub [] rfl) (hD.sub [0] (by decide) rfl) (va_recv (ci := 2) (q0 := 0) hK hP rfl rfl)) rfl rfl hl.1 rfl (lv_room (Nat.le_of_ble_eq_true rfl)) dX9_put_2 ⟨Nat.le_of_ble_eq_true rfl, Nat.le_of_ble_eq_true rfl⟩) hS (fun q _ h => hF q h) hF (fun r_0 u t H1 locs1 ht hvm hw hB hz1 hk1 hS => ?_)
  refine W.widen (k := 0) (n := 0) (Nat.le_of_ble_eq_true rfl) (Nat.le_of_ble_eq_true rfl) ?_
  have hP := pv_keep hP rfl hk1
  refine lv_lstore (lv' := [(4, .long r_0), (0, .ref h0), (1, .long p0), (3, .int p1)]) hx hb dX9_put_5 hl (by decide) rfl (fun ls hl => ?_)
  refine lv_lload hx hb dX9_put_7 (lv_at hl 0 rfl) ?_
  have hF := pv_new hA hS.1
  refine va_calli (va_runS (As := [.long r_0]) (rest := []) ⟨hx, hb, hml, hown, hts⟩ (c_X9_isInRange l hfl D _ r_0) (va_cwS 1 hts (pv_gS w4_236 w4_237 w1_2 w4_238) rfl rfl rfl (by decide +kernel) ⟨Nat.le_of_ble_eq_true rfl, Nat.le_of_ble_eq_true rfl⟩) (pv_ps hE hS hF (hP.sub [] rfl) (hK.sub [] rfl) (hD.sub [] (by decide) rfl)) rfl rfl hl.1 rfl (lv_room (Nat.le_of_ble_eq_true rfl)) dX9_put_9 ⟨Nat.le_of_ble_eq_true rfl, Nat.le_of_ble_eq_true rfl⟩) hS (fun q _ h => hF q h) hF (fun r_1 u t H1 locs1 ht hvm hw hB hz1 hk1 hS => ?_)
  refine W.widen (k := 0) (n := 0) (Nat.le_of_ble_eq_true rfl) (Nat.le_of_ble_eq_true rfl) ?_
  have hP := pv_keep hP rfl hk1
  refine lv_if_ne (tgt := 17) hx hb dX9_put_12 (by decide) (fun c_3 => ?_) (fun c_3 => ?_)
  · refine lv_lload hx hb dX9_put_17 (lv_at hl 0 rfl) ?_
    refine lv_lconst (v := 0) hx hb dX9_put_19 (by decide) ?_
    refine W.lcmp hx hb dX9_put_20 ?_
    refine lv_topi (fun x_4 ex_4 => ?_)
    refine lv_if_eq (tgt := 66) hx hb dX9_put_21 (by decide) (fun c_5 => ?_) (fun c_5 => ?_)
    · refine lv_iconst (v := 1) hx hb dX9_put_66 (by decide) ?_
      refine W.widen (k := 0) (n := 0) (Nat.le_of_ble_eq_true rfl) (Nat.le_of_ble_eq_true rfl) ?_
      exact W.zret (v := 1) (ty := .boolean) hx hb hr rfl (fun t ht hW => ⟨⟨1, (0, f), rfl, Or.inl rfl, (by rw [ht]; exact hP.sub [0, 1] rfl), va_K.moved hW.alike (hK.sub [0] rfl), hD.sub [0, 1] (by decide) rfl⟩, hS.F ht⟩) hS.2.2 dX9_put_67
    · refine lv_aload_n hx hb dX9_put_24 rfl (lv_at hl 1 rfl) ?_
      refine lv_aload_n hx hb dX9_put_25 rfl (lv_at hl 1 rfl) ?_
      refine va_get (own := RX9) (D := D) (ci := 2) (v := .ref (w 2)) (C := RX9) (T := TX9) (N := 6) hx hb hts inF9 hown hK hP 0 rfl rfl 2 (by decide) (hg w1_53 rfl) (fun _ h9 => h9) rfl dX9_put_26 ?_
      refine lv_aload_n hx hb dX9_put_29 rfl (lv_at hl 1 rfl) ?_
      refine va_get (own := RX9) (D := D) (ci := 2) (v := .int 0) (C := RX9) (T := TX9) (N := 6) hx hb hts inF9 hown hK hP 0 rfl rfl 4 (by decide) (hg w1_56 rfl) (fun _ h9 => h9) rfl dX9_put_30 ?_
      refine lv_iconst (v := 1) hx hb dX9_put_33 (by decide) ?_
      refine lv_iadd hx hb dX9_put_34 ?_
      refine pv_setI 1 (by decide) ?_
      have hF := pv_new hA hS.1
      refine va_callr (va_runSN (As := [.ref (w 2), .int 1]) (rest := [.ref h0]) ⟨hx, hb, hml, hown, hts⟩ (c_X11_roomy l hfl D _ (w 2) cJ f) ⟨(va_cnB 2 hts (pv_gC w3_83) rfl rfl rfl (hE.2.2.1 _ (pv_ib w5_1 rfl)) (hg w1_1 rfl) (by decide +kernel) ⟨Nat.le_of_ble_eq_true rfl, Nat.le_of_ble_eq_true rfl⟩), hg w3_82 rfl, trivial⟩ (pv_ps hE hS hF (hP.sub [1] rfl) (hK.sub [0] rfl) (hD.sub [1] (by decide) rfl)) rfl rfl hl.1 rfl (lv_room (Nat.le_of_ble_eq_true rfl)) dX9_put_35 ⟨Nat.le_of_ble_eq_true rfl, Nat.le_of_ble_eq_true rfl⟩) hS (fun q _ h => hF q h) hF (fun u ra_5 t H1 locs1 ht hvm hw hB hz1 hk1 hS => ?_)
      refine W.widen (k := 0) (n := 0) (Nat.le_of_ble_eq_true rfl) (Nat.le_of_ble_eq_true rfl) ?_
      have hP := pv_keep hP rfl hk1
      subst hB
      refine va_put (own := RX9) (D := D) (ci := 2) (v := .ref (w 2)) (ty := .array .long) (C := RX9) (T := TX9) (N := 6) hx hb hts inF9 tyX9 tyX9_ok nmX9 hown hK hP hD hS 0 rfl rfl 2 (by decide) (hg w1_53 rfl) (fun _ h9 => h9) rfl (by decide +kernel) rfl rfl (Nat.le_of_ble_eq_true rfl) dX9_put_38 (fun H locs hP hD hS => ?_)
      have hP : va_P D pv_cl [(h0, .inr (2, [.ref (w 0), .ref (w 1), .ref (w 2), .ref (w 3), .int 0, .int g0])), ((w 2), .inl (cJ, 64, .inr (.inl f)))] _ := hP
      have hD : va_D A [(h0, .inr (2, [.ref (w 0), .ref (w 1), .ref (w 2), .ref (w 3), .int 0, .int g0])), ((w 2), .inl (cJ, 64, .inr (.inl f)))] := hD
      refine lv_aload_n hx hb dX9_put_41 rfl (lv_at hl 1 rfl) ?_
      refine va_get (own := RX9) (D := D) (ci := 2) (v := .ref (w 2)) (C := RX9) (T := TX9) (N := 6) hx hb hts inF9 hown hK hP 0 rfl rfl 2 (by decide) (hg w1_53 rfl) (fun _ h9 => h9) rfl dX9_put_42 ?_
      refine lv_aload_n hx hb dX9_put_45 rfl (lv_at hl 1 rfl) ?_
      refine va_get (own := RX9) (D := D) (ci := 2) (v := .int 0) (C := RX9) (T := TX9) (N := 6) hx hb hts inF9 hown hK hP 0 rfl rfl 4 (by decide) (hg w1_56 rfl) (fun _ h9 => h9) rfl dX9_put_46 ?_
      refine lv_lload hx hb dX9_put_49 (lv_at hl 0 rfl) ?_
      refine lv_iload_n hx hb dX9_put_51 rfl (lv_at hl 3 rfl) ?_
      have hF := pv_new hA hS.1
      refine va_calll (va_runS (As := [.long r_0, .int p1]) (rest := [.int 0, .ref (w 2)]) ⟨hx, hb, hml, hown, hts⟩ (c_X7_term l hfl D _ r_0 p1) (va_cwS 2 hts (pv_gS w5_2 w5_3 w1_17 w5_4) rfl rfl rfl (by decide +kernel) ⟨Nat.le_of_ble_eq_true rfl, Nat.le_of_ble_eq_true rfl⟩) (pv_ps hE hS hF (hP.sub [] rfl) (hK.sub [] rfl) (hD.sub [] (by decide) rfl)) rfl rfl hl.1 rfl (lv_room (Nat.le_of_ble_eq_true rfl)) dX9_put_52 ⟨Nat.le_of_ble_eq_true rfl, Nat.le_of_ble_eq_true rfl⟩) hS (fun q _ h => hF q h) hF (fun r_6 u t H1 locs1 ht hvm hw hB hz1 hk1 hS => ?_)
      refine W.widen (k := 0) (n := 0) (Nat.le_of_ble_eq_true rfl) (Nat.le_of_ble_eq_true rfl) ?_
      have hP := pv_keep hP rfl hk1
      refine va_last hx hb hK hP hD hS 1 0 rfl rfl (by unfold vp_in; decide) dX9_put_55 (fun H locs hP hD hS => ?_)
      have hP : va_P D pv_cl [(h0, .inr (2, [.ref (w 0), .ref (w 1), .ref (w 2), .ref (w 3), .int 0, .int g0])), ((w 2), .inl (cJ, 64, .inr (.inl (vp_updL (f) (0 : Int32).toNatClampNeg r_6))))] _ := hP
      have hD : va_D A [(h0, .inr (2, [.ref (w 0), .ref (w 1), .ref (w 2), .ref (w 3), .int 0, .int g0])), ((w 2), .inl (cJ, 64, .inr (.inl (vp_updL (f) (0 : Int32).toNatClampNeg r_6))))] := hD
      refine lv_aload_n hx hb dX9_put_56 rfl (lv_at hl 1 rfl) ?_
      refine lv_dup hx hb dX9_put_57 rfl ?_
      refine va_get (own := RX9) (D := D) (ci := 2) (v := .int 0) (C := RX9) (T := TX9) (N := 6) hx hb hts inF9 hown hK hP 0 rfl rfl 4 (by decide) (hg w1_56 rfl) (fun _ h9 => h9) rfl dX9_put_58 ?_
      refine lv_iconst (v := 1) hx hb dX9_put_61 (by decide) ?_
      refine lv_iadd hx hb dX9_put_62 ?_
      refine pv_setI 1 (by decide) ?_
      refine va_put (own := RX9) (D := D) (ci := 2) (v := .int 1) (ty := .int) (C := RX9) (T := TX9) (N := 6) hx hb hts inF9 tyX9 tyX9_ok nmX9 hown hK hP hD hS 0 rfl rfl 4 (by decide) (hg w1_56 rfl) (fun _ h9 => h9) rfl (by decide +kernel) rfl rfl (Nat.le_of_ble_eq_true rfl) dX9_put_63 (fun H locs hP hD hS => ?_)
      have hP : va_P D pv_cl [(h0, .inr (2, [.ref (w 0), .ref (w 1), .ref (w 2), .ref (w 3), .int 1, .int g0])), ((w 2), .inl (cJ, 64, .inr (.inl (vp_updL (f) (0 : Int32).toNatClampNeg r_6))))] _ := hP
      have hD : va_D A [(h0, .inr (2, [.ref (w 0), .ref (w 1), .ref (w 2), .ref (w 3), .int 1, .int g0])), ((w 2), .inl (cJ, 64, .inr (.inl (vp_updL (f) (0 : Int32).toNatClampNeg r_6))))] := hD
      refine lv_iconst (v := 1) hx hb dX9_put_66 (by decide) ?_
      refine W.widen (k := 0) (n := 0) (Nat.le_of_ble_eq_true rfl) (Nat.le_of_ble_eq_true rfl) ?_
      exact W.zret (v := 1) (ty := .boolean) hx hb hr rfl (fun t ht hW => ⟨⟨1, (1, vp_updL (f) (0 : Int32).toNatClampNeg r_6), rfl, Or.inr rfl, (by rw [ht]; exact hP.sub [0, 1] rfl), va_K.moved hW.alike (hK.sub [0] rfl), hD.sub [0, 1] (by decide) rfl⟩, hS.F ht⟩) hS.2.2 dX9_put_67
  · refine lv_iconst (v := 0) hx hb dX9_put_15 (by decide) ?_
    refine W.widen (k := 0) (n := 0) (Nat.le_of_ble_eq_true rfl) (Nat.le_of_ble_eq_true rfl) ?_
    exact W.zret (v := 0) (ty := .boolean) hx hb hr rfl (fun t ht hW => ⟨⟨0, (0, f), rfl, Or.inl rfl, (by rw [ht]; exact hP.sub [0, 1] rfl), va_K.moved hW.alike (hK.sub [0] rfl), hD.sub [0, 1] (by decide) rfl⟩, hS.F ht⟩) hS.2.2 dX9_put_16

theorem dJ7_copyOf_c38d5_0 : decode cJ7_copyOf_c38d5 0 = .ok (.iload_n 1, 1) := by decide +kernel
theorem dJ7_copyOf_c38d5_1 : decode cJ7_copyOf_c38d5 1 = .ok (.aload_n 0, 1) := by decide +kernel
theorem dJ7_copyOf_c38d5_2 : decode cJ7_copyOf_c38d5 2 = .ok (.arraylength, 1) := by decide +kernel
theorem dJ7_copyOf_c38d5_3 : decode cJ7_copyOf_c38d5 3 = .ok (.if_icmp .ne 11, 3) := by decide +kernel
theorem dJ7_copyOf_c38d5_14 : decode cJ7_copyOf_c38d5 14 = .ok (.iload_n 1, 1) := by decide +kernel
theorem dJ7_copyOf_c38d5_15 : decode cJ7_copyOf_c38d5 15 = .ok (.newarray .long, 2) := by decide +kernel
theorem w1_75 : (Jvm.Cond.arrayClass Jvm.ClassFile.FieldType.long) ∈ lw_tbl := pv_t1 (pv_mg 75 rfl)
theorem dJ7_copyOf_c38d5_17 : decode cJ7_copyOf_c38d5 17 = .ok (.astore_n 2, 1) := by decide +kernel
theorem dJ7_copyOf_c38d5_18 : decode cJ7_copyOf_c38d5 18 = .ok (.aload_n 0, 1) := by decide +kernel
theorem dJ7_copyOf_c38d5_19 : decode cJ7_copyOf_c38d5 19 = .ok (.iconst 0, 1) := by decide +kernel
theorem dJ7_copyOf_c38d5_20 : decode cJ7_copyOf_c38d5 20 = .ok (.aload_n 2, 1) := by decide +kernel
theorem dJ7_copyOf_c38d5_21 : decode cJ7_copyOf_c38d5 21 = .ok (.iconst 0, 1) := by decide +kernel
theorem dJ7_copyOf_c38d5_22 : decode cJ7_copyOf_c38d5 22 = .ok (.aload_n 0, 1) := by decide +kernel
theorem dJ7_copyOf_c38d5_23 : decode cJ7_copyOf_c38d5 23 = .ok (.arraylength, 1) := by decide +kernel
theorem dJ7_copyOf_c38d5_24 : decode cJ7_copyOf_c38d5 24 = .ok (.iload_n 1, 1) := by decide +kernel
theorem dJ7_copyOf_c38d5_25 : decode cJ7_copyOf_c38d5 25 = .ok (.invokestatic 304, 3) := by decide +kernel
theorem w3_95 : (Jvm.Cond.methodLink "java/util/Arrays" (304 : Nat) ({ cls := "java/lang/Math", name := "min", desc := "(II)I" } : Jvm.MethodName)) ∈ lw_tbl := pv_t3 (pv_mg 95 rfl)
theorem w3_72 : (Jvm.Cond.static ({ cls := "java/lang/Math", name := "min", desc := "(II)I" } : Jvm.MethodName)) ∈ lw_tbl := pv_t3 (pv_mg 72 rfl)
theorem w3_73 : (Jvm.Cond.code ({ cls := "java/lang/Math", name := "min", desc := "(II)I" } : Jvm.MethodName) prog_25_method_69_code (2 : Nat) (Option.some Jvm.ClassFile.FieldType.int)) ∈ lw_tbl := pv_t3 (pv_mg 73 rfl)
theorem dJ7_copyOf_c38d5_28 : decode cJ7_copyOf_c38d5 28 = .ok (.invokestatic 150, 3) := by decide +kernel
theorem w3_96 : (Jvm.Cond.methodLink "java/util/Arrays" (150 : Nat) ({ cls := "java/lang/System", name := "arraycopy", desc := "(Ljava/lang/Object;ILjava/lang/Object;II)V" } : Jvm.MethodName)) ∈ lw_tbl := pv_t3 (pv_mg 96 rfl)
theorem w2_206 : (Jvm.Cond.native ({ cls := "java/lang/System", name := "arraycopy", desc := "(Ljava/lang/Object;ILjava/lang/Object;II)V" } : Jvm.MethodName)) ∈ lw_tbl := pv_t2 (pv_mg 206 rfl)
theorem w2_205 : (Jvm.Cond.static ({ cls := "java/lang/System", name := "arraycopy", desc := "(Ljava/lang/Object;ILjava/lang/Object;II)V" } : Jvm.MethodName)) ∈ lw_tbl := pv_t2 (pv_mg 205 rfl)
theorem w1_16 : (Jvm.Cond.initialized "java/lang/System") ∈ lw_tbl := pv_t1 (pv_mg 16 rfl)
theorem dJ7_copyOf_c38d5_31 : decode cJ7_copyOf_c38d5 31 = .ok (.aload_n 2, 1) := by decide +kernel
theorem dJ7_copyOf_c38d5_32 : decode cJ7_copyOf_c38d5 32 = .ok (.areturn, 1) := by decide +kernel
set_option maxHeartbeats 4000000 in
set_option maxRecDepth 100000 in
/-- copyOf(row, 0) -/
theorem c_J7_copyOf_0 (l : Launch) (hfl : l.stackTraces = false) (D : va_G) (sz : Nat) (h0 : Nat) (cJ : ClassId) (f : Nat → Int64) : Met l yJ7_copyOf_c38d5 (Cond.code yJ7_copyOf_c38d5 cJ7_copyOf_c38d5 3 (some (.array .long)) :: pv_W) ({ frames := 1, cells := 1, slots := 0, locals := 60 } : Room) (va_Pc [.ref h0, .int 0] (pv_P D [(cJ, .long)] [(h0, .inl (cJ, 64, .inr (.inl f)))] (va_A [(h0, .inl (cJ, 64, .inr (.inl f)))] sz) sz)) (va_Qr (fun (_ : Unit) => True) (fun _ _ _ => True) (va_A [(h0, .inl (cJ, 64, .inr (.inl f)))] sz)) 1 0 (va_A [(h0, .inl (cJ, 64, .inr (.inl f)))] sz) := by
  refine Met.ofW (cc := cJ7_copyOf_c38d5) (maxL := 3) (ret := (some (.array .long))) (by decide) rfl ?_
  intro p e s m args below meth c s₁ B hml hv
  obtain ⟨rfl, hsz, hE, hP, hK, hD0⟩ := hv
  have hx := B.exec
  have hb := B.bytes
  have hr := B.returns
  have hts := fun (w : Cond) (h : w ∈ pv_W) => atoms_spec (ws := Cond.code yJ7_copyOf_c38d5 cJ7_copyOf_c38d5 3 (some (.array .long)) :: pv_W) B.pre w (List.mem_cons_of_mem _ h)
  have hg := fun {w : Cond} (h : w ∈ lw_tbl) (g : goodWord w = true) => hts w (pv_in h g)
  have hown : s.vm.findClass RJ7 = some m.cls := findClass_of_methodNamed B.named
  have hlocks := B.notSynchronized
  subst hsz
  have hD := hD0.self (sz := s.heap.size)
  generalize hAe : va_A [(h0, .inl (cJ, 64, .inr (.inl f)))] s.heap.size = A at hD hE ⊢
  have hA : ∀ q : Nat, s.heap.size ≤ q → A q := fun q h => by rw [← hAe]; exact Or.inr h
  have hS : va_S A s.heap s.heap [] := va_S.rf
  have hP : va_P D pv_cl [(h0, .inl (cJ, 64, .inr (.inl f)))] s.heap := hP
  have hl := lv_entry ([.ref h0, .int 0]) (n := 3) (Nat.le_of_ble_eq_true rfl)
  rw [lg_entry_eq]
  generalize (lg_sl ([.ref h0, .int 0]) ++ List.replicate (3 - (lg_sl ([.ref h0, .int 0])).length) Slot.unset).toArray = ls at hl ⊢
  have hl : lv_has ls 3 [(0, .ref h0), (1, .int 0)] := hl
  refine lv_iload_n hx hb dJ7_copyOf_c38d5_0 rfl (lv_at hl 1 rfl) ?_
  refine lv_aload_n hx hb dJ7_copyOf_c38d5_1 rfl (lv_at hl 0 rfl) ?_
  refine va_alen hx hb hK hP 0 0 rfl rfl (v := 64) rfl dJ7_copyOf_c38d5_2 ?_
  refine lv_icmp_ne (tgt := 14) hx hb dJ7_copyOf_c38d5_3 (by decide) (fun _ => ?_) (fun c_1 => absurd c_1 (by decide))
  refine lv_iload_n hx hb dJ7_copyOf_c38d5_14 rfl (lv_at hl 1 rfl) ?_
  refine va_newa (atype := .long) hx hb (hg w1_75 rfl) (ty := .long) rfl hK hP hD hS hA (a0 := (0, .inr (.inl (fun _ => 0)))) (fun _ => rfl) (by decide) (by decide +kernel) (Nat.le_of_ble_eq_true rfl) (Nat.le_of_ble_eq_true rfl) (Nat.le_of_ble_eq_true rfl) dJ7_copyOf_c38d5_15 (fun q_2 cA_3 H hK hP hD hS => ?_)
  have hP : va_P D pv_cl [(h0, .inl (cJ, 64, .inr (.inl f))), (q_2, .inl (cA_3, 0, .inr (.inl (fun _ => 0))))] _ := hP
  have hD : va_D A [(h0, .inl (cJ, 64, .inr (.inl f))), (q_2, .inl (cA_3, 0, .inr (.inl (fun _ => 0))))] := hD
  have hK : va_K D pv_cl [(cJ, .long), (cA_3, .long)] s := hK
  refine W.widen (k := 1) (n := 0) (Nat.le_of_ble_eq_true rfl) (Nat.le_of_ble_eq_true rfl) ?_
  refine lv_astore_n (lv' := [(2, .ref q_2), (0, .ref h0), (1, .int 0)]) hx hb dJ7_copyOf_c38d5_17 rfl hl (by decide) rfl (fun ls hl => ?_)
  refine lv_aload_n hx hb dJ7_copyOf_c38d5_18 rfl (lv_at hl 1 rfl) ?_
  refine lv_iconst (v := 0) hx hb dJ7_copyOf_c38d5_19 (by decide) ?_
  refine lv_aload_n hx hb dJ7_copyOf_c38d5_20 rfl (lv_at hl 0 rfl) ?_
  refine lv_iconst (v := 0) hx hb dJ7_copyOf_c38d5_21 (by decide) ?_
  refine lv_aload_n hx hb dJ7_copyOf_c38d5_22 rfl (lv_at hl 1 rfl) ?_
  refine va_alen hx hb hK hP 0 0 rfl rfl (v := 64) rfl dJ7_copyOf_c38d5_23 ?_
  refine lv_iload_n hx hb dJ7_copyOf_c38d5_24 rfl (lv_at hl 2 rfl) ?_
  refine va_mmin (own := RJ7) hx hb (hml.trans hl.1.symm) hown (hg w3_95 rfl) (hg w3_72 rfl) (hg w1_9 rfl) (hg w3_73 rfl) (Nat.le_of_ble_eq_true rfl) (Nat.le_of_ble_eq_true rfl) (Nat.le_of_ble_eq_true rfl) (Nat.le_of_ble_eq_true rfl) dJ7_copyOf_c38d5_25 ?_
  refine pv_setI 0 (by decide) ?_
  refine va_copyl (own := RJ7) hx hb (hml.trans hl.1.symm) hown (hg w3_96 rfl) (hg w2_206 rfl) (hg w2_205 rfl) (hg w1_16 rfl) hK hP hD hS 0 1 0 1 rfl rfl rfl rfl (by decide) (by decide) (by decide) (by decide) (by decide) (by decide) (fun _ _ => rfl) (Nat.le_of_ble_eq_true rfl) (by decide) dJ7_copyOf_c38d5_28 (fun H locs hP hD hS => ?_)
  have hP : va_P D pv_cl [(h0, .inl (cJ, 64, .inr (.inl f))), (q_2, .inl (cA_3, 0, .inr (.inl (va_cpy (f) (fun _ => 0) (0 : Int32).toNatClampNeg (0 : Int32).toNatClampNeg (0 : Int32).toNatClampNeg))))] _ := hP
  have hD : va_D A [(h0, .inl (cJ, 64, .inr (.inl f))), (q_2, .inl (cA_3, 0, .inr (.inl (va_cpy (f) (fun _ => 0) (0 : Int32).toNatClampNeg (0 : Int32).toNatClampNeg (0 : Int32).toNatClampNeg))))] := hD
  refine lv_aload_n hx hb dJ7_copyOf_c38d5_31 rfl (lv_at hl 0 rfl) ?_
  refine W.widen (k := 1) (n := 0) (Nat.le_of_ble_eq_true rfl) (Nat.le_of_ble_eq_true rfl) ?_
  exact W.aret (v := .ref q_2) hx hb hr (Or.inr ⟨_, rfl⟩) (Or.inr ⟨_, rfl⟩) (fun t ht hW => ⟨⟨(), q_2, rfl, trivial, trivial⟩, hS.F ht⟩) hS.2.2 dJ7_copyOf_c38d5_32

set_option maxHeartbeats 4000000 in
set_option maxRecDepth 100000 in
/-- copyOf(row, 1) -/
theorem c_J7_copyOf_1 (l : Launch) (hfl : l.stackTraces = false) (D : va_G) (sz : Nat) (h0 : Nat) (cJ : ClassId) (f : Nat → Int64) : Met l yJ7_copyOf_c38d5 (Cond.code yJ7_copyOf_c38d5 cJ7_copyOf_c38d5 3 (some (.array .long)) :: pv_W) ({ frames := 1, cells := 1, slots := 1, locals := 60 } : Room) (va_Pc [.ref h0, .int 1] (pv_P D [(cJ, .long)] [(h0, .inl (cJ, 64, .inr (.inl f)))] (va_A [(h0, .inl (cJ, 64, .inr (.inl f)))] sz) sz)) (va_Qr (fun (_ : Unit) => True) (fun _ _ _ => True) (va_A [(h0, .inl (cJ, 64, .inr (.inl f)))] sz)) 1 1 (va_A [(h0, .inl (cJ, 64, .inr (.inl f)))] sz) := by
  refine Met.ofW (cc := cJ7_copyOf_c38d5) (maxL := 3) (ret := (some (.array .long))) (by decide) rfl ?_
  intro p e s m args below meth c s₁ B hml hv
  obtain ⟨rfl, hsz, hE, hP, hK, hD0⟩ := hv
  have hx := B.exec
  have hb := B.bytes
  have hr := B.returns
  have hts := fun (w : Cond) (h : w ∈ pv_W) => atoms_spec (ws := Cond.code yJ7_copyOf_c38d5 cJ7_copyOf_c38d5 3 (some (.array .long)) :: pv_W) B.pre w (List.mem_cons_of_mem _ h)
  have hg := fun {w : Cond} (h : w ∈ lw_tbl) (g : goodWord w = true) => hts w (pv_in h g)
  have hown : s.vm.findClass RJ7 = some m.cls := findClass_of_methodNamed B.named
  have hlocks := B.notSynchronized
  subst hsz
  have hD := hD0.self (sz := s.heap.size)
  generalize hAe : va_A [(h0, .inl (cJ, 64, .inr (.inl f)))] s.heap.size = A at hD hE ⊢
  have hA : ∀ q : Nat, s.heap.size ≤ q → A q := fun q h => by rw [← hAe]; exact Or.inr h
  have hS : va_S A s.heap s.heap [] := va_S.rf
  have hP : va_P D pv_cl [(h0, .inl (cJ, 64, .inr (.inl f)))] s.heap := hP
  have hl := lv_entry ([.ref h0, .int 1]) (n := 3) (Nat.le_of_ble_eq_true rfl)
  rw [lg_entry_eq]
  generalize (lg_sl ([.ref h0, .int 1]) ++ List.replicate (3 - (lg_sl ([.ref h0, .int 1])).length) Slot.unset).toArray = ls at hl ⊢
  have hl : lv_has ls 3 [(0, .ref h0), (1, .int 1)] := hl
  refine lv_iload_n hx hb dJ7_copyOf_c38d5_0 rfl (lv_at hl 1 rfl) ?_
  refine lv_aload_n hx hb dJ7_copyOf_c38d5_1 rfl (lv_at hl 0 rfl) ?_
  refine va_alen hx hb hK hP 0 0 rfl rfl (v := 64) rfl dJ7_copyOf_c38d5_2 ?_
  refine lv_icmp_ne (tgt := 14) hx hb dJ7_copyOf_c38d5_3 (by decide) (fun _ => ?_) (fun c_1 => absurd c_1 (by decide))
  refine lv_iload_n hx hb dJ7_copyOf_c38d5_14 rfl (lv_at hl 1 rfl) ?_
  refine va_newa (atype := .long) hx hb (hg w1_75 rfl) (ty := .long) rfl hK hP hD hS hA (a0 := (1, .inr (.inl (fun _ => 0)))) (fun _ => rfl) (by decide) (by decide +kernel) (Nat.le_of_ble_eq_true rfl) (Nat.le_of_ble_eq_true rfl) (Nat.le_of_ble_eq_true rfl) dJ7_copyOf_c38d5_15 (fun q_2 cA_3 H hK hP hD hS => ?_)
  have hP : va_P D pv_cl [(h0, .inl (cJ, 64, .inr (.inl f))), (q_2, .inl (cA_3, 1, .inr (.inl (fun _ => 0))))] _ := hP
  have hD : va_D A [(h0, .inl (cJ, 64, .inr (.inl f))), (q_2, .inl (cA_3, 1, .inr (.inl (fun _ => 0))))] := hD
  have hK : va_K D pv_cl [(cJ, .long), (cA_3, .long)] s := hK
  refine W.widen (k := 1) (n := 1) (Nat.le_of_ble_eq_true rfl) (Nat.le_of_ble_eq_true rfl) ?_
  refine lv_astore_n (lv' := [(2, .ref q_2), (0, .ref h0), (1, .int 1)]) hx hb dJ7_copyOf_c38d5_17 rfl hl (by decide) rfl (fun ls hl => ?_)
  refine lv_aload_n hx hb dJ7_copyOf_c38d5_18 rfl (lv_at hl 1 rfl) ?_
  refine lv_iconst (v := 0) hx hb dJ7_copyOf_c38d5_19 (by decide) ?_
  refine lv_aload_n hx hb dJ7_copyOf_c38d5_20 rfl (lv_at hl 0 rfl) ?_
  refine lv_iconst (v := 0) hx hb dJ7_copyOf_c38d5_21 (by decide) ?_
  refine lv_aload_n hx hb dJ7_copyOf_c38d5_22 rfl (lv_at hl 1 rfl) ?_
  refine va_alen hx hb hK hP 0 0 rfl rfl (v := 64) rfl dJ7_copyOf_c38d5_23 ?_
  refine lv_iload_n hx hb dJ7_copyOf_c38d5_24 rfl (lv_at hl 2 rfl) ?_
  refine va_mmin (own := RJ7) hx hb (hml.trans hl.1.symm) hown (hg w3_95 rfl) (hg w3_72 rfl) (hg w1_9 rfl) (hg w3_73 rfl) (Nat.le_of_ble_eq_true rfl) (Nat.le_of_ble_eq_true rfl) (Nat.le_of_ble_eq_true rfl) (Nat.le_of_ble_eq_true rfl) dJ7_copyOf_c38d5_25 ?_
  refine pv_setI 1 (by decide) ?_
  refine va_copyl (own := RJ7) hx hb (hml.trans hl.1.symm) hown (hg w3_96 rfl) (hg w2_206 rfl) (hg w2_205 rfl) (hg w1_16 rfl) hK hP hD hS 0 1 0 1 rfl rfl rfl rfl (by decide) (by decide) (by decide) (by decide) (by decide) (by decide) (fun _ _ => rfl) (Nat.le_of_ble_eq_true rfl) (by decide) dJ7_copyOf_c38d5_28 (fun H locs hP hD hS => ?_)
  have hP : va_P D pv_cl [(h0, .inl (cJ, 64, .inr (.inl f))), (q_2, .inl (cA_3, 1, .inr (.inl (va_cpy (f) (fun _ => 0) (0 : Int32).toNatClampNeg (0 : Int32).toNatClampNeg (1 : Int32).toNatClampNeg))))] _ := hP
  have hD : va_D A [(h0, .inl (cJ, 64, .inr (.inl f))), (q_2, .inl (cA_3, 1, .inr (.inl (va_cpy (f) (fun _ => 0) (0 : Int32).toNatClampNeg (0 : Int32).toNatClampNeg (1 : Int32).toNatClampNeg))))] := hD
  refine lv_aload_n hx hb dJ7_copyOf_c38d5_31 rfl (lv_at hl 0 rfl) ?_
  refine W.widen (k := 1) (n := 1) (Nat.le_of_ble_eq_true rfl) (Nat.le_of_ble_eq_true rfl) ?_
  exact W.aret (v := .ref q_2) hx hb hr (Or.inr ⟨_, rfl⟩) (Or.inr ⟨_, rfl⟩) (fun t ht hW => ⟨⟨(), q_2, rfl, trivial, trivial⟩, hS.F ht⟩) hS.2.2 dJ7_copyOf_c38d5_32

theorem dX9_listed_0 : decode cX9_listed 0 = .ok (.aload_n 0, 1) := by decide +kernel
theorem dX9_listed_1 : decode cX9_listed 1 = .ok (.getfield 22, 3) := by decide +kernel
theorem dX9_listed_4 : decode cX9_listed 4 = .ok (.aload_n 0, 1) := by decide +kernel
theorem dX9_listed_5 : decode cX9_listed 5 = .ok (.getfield 28, 3) := by decide +kernel
theorem dX9_listed_8 : decode cX9_listed 8 = .ok (.iconst 0, 1) := by decide +kernel
theorem dX9_listed_9 : decode cX9_listed 9 = .ok (.invokestatic 56, 3) := by decide +kernel
theorem w5_30 : (Jvm.Cond.methodLink "Polyforge$Slate" (56 : Nat) ({ cls := "java/lang/Math", name := "max", desc := "(II)I" } : Jvm.MethodName)) ∈ lw_tbl := pv_t5 (pv_mg 30 rfl)
theorem w1_222 : (Jvm.Cond.static ({ cls := "java/lang/Math", name := "max", desc := "(II)I" } : Jvm.MethodName)) ∈ lw_tbl := pv_t1 (pv_mg 222 rfl)
theorem w1_223 : (Jvm.Cond.code ({ cls := "java/lang/Math", name := "max", desc := "(II)I" } : Jvm.MethodName) prog_25_method_65_code (2 : Nat) (Option.some Jvm.ClassFile.FieldType.int)) ∈ lw_tbl := pv_t1 (pv_mg 223 rfl)
theorem dX9_listed_12 : decode cX9_listed 12 = .ok (.invokestatic 62, 3) := by decide +kernel
theorem w5_31 : (Jvm.Cond.methodLink "Polyforge$Slate" (62 : Nat) ({ cls := "java/util/Arrays", name := "copyOf", desc := "([JI)[J" } : Jvm.MethodName)) ∈ lw_tbl := pv_t5 (pv_mg 31 rfl)
theorem w3_87 : (Jvm.Cond.code ({ cls := "java/util/Arrays", name := "copyOf", desc := "([JI)[J" } : Jvm.MethodName) prog_31_method_124_code (3 : Nat) (Option.some (Jvm.ClassFile.FieldType.array Jvm.ClassFile.FieldType.long))) ∈ lw_tbl := pv_t3 (pv_mg 87 rfl)
theorem w3_86 : (Jvm.Cond.static ({ cls := "java/util/Arrays", name := "copyOf", desc := "([JI)[J" } : Jvm.MethodName)) ∈ lw_tbl := pv_t3 (pv_mg 86 rfl)
theorem w1_15 : (Jvm.Cond.initialized "java/util/Arrays") ∈ lw_tbl := pv_t1 (pv_mg 15 rfl)
theorem dX9_listed_15 : decode cX9_listed 15 = .ok (.areturn, 1) := by decide +kernel
set_option maxHeartbeats 4000000 in
set_option maxRecDepth 100000 in
/-- listed, of 0 terms -/
theorem c_X9_listed_0 (l : Launch) (hfl : l.stackTraces = false) (D : va_G) (sz : Nat) (h0 : Nat) (w : Nat → Nat) (cJ : ClassId) (f : Nat → Int64) (g0 : Int32) : Met l yX9_listed (Cond.code yX9_listed cX9_listed 1 (some (.array .long)) :: pv_W) ({ frames := 2, cells := 1, slots := 0, locals := 82 } : Room) (va_Pc [.ref h0] (pv_P D [(cJ, .long)] [(h0, .inr (2, [.ref (w 0), .ref (w 1), .ref (w 2), .ref (w 3), .int 0, .int g0])), ((w 2), .inl (cJ, 64, .inr (.inl f)))] (va_A [(h0, .inr (2, [.ref (w 0), .ref (w 1), .ref (w 2), .ref (w 3), .int 0, .int g0])), ((w 2), .inl (cJ, 64, .inr (.inl f)))] sz) sz)) (va_Qr (fun (_ : Unit) => True) (fun _ _ _ => True) (va_A [(h0, .inr (2, [.ref (w 0), .ref (w 1), .ref (w 2), .ref (w 3), .int 0, .int g0])), ((w 2), .inl (cJ, 64, .inr (.inl f)))] sz)) 1 0 (va_A [(h0, .inr (2, [.ref (w 0), .ref (w 1), .ref (w 2), .ref (w 3), .int 0, .int g0])), ((w 2), .inl (cJ, 64, .inr (.inl f)))] sz) := by
  refine Met.ofW (cc := cX9_listed) (maxL := 1) (ret := (some (.array .long))) (by decide) rfl ?_
  intro p e s m args below meth c s₁ B hml hv
  obtain ⟨rfl, hsz, hE, hP, hK, hD0⟩ := hv
  have hx := B.exec
  have hb := B.bytes
  have hr := B.returns
  have hts := fun (w : Cond) (h : w ∈ pv_W) => atoms_spec (ws := Cond.code yX9_listed cX9_listed 1 (some (.array .long)) :: pv_W) B.pre w (List.mem_cons_of_mem _ h)
  have hg := fun {w : Cond} (h : w ∈ lw_tbl) (g : goodWord w = true) => hts w (pv_in h g)
  have hown : s.vm.findClass RX9 = some m.cls := findClass_of_methodNamed B.named
  have hlocks := B.notSynchronized
  subst hsz
  have hD := hD0.self (sz := s.heap.size)
  generalize hAe : va_A [(h0, .inr (2, [.ref (w 0), .ref (w 1), .ref (w 2), .ref (w 3), .int 0, .int g0])), ((w 2), .inl (cJ, 64, .inr (.inl f)))] s.heap.size = A at hD hE ⊢
  have hA : ∀ q : Nat, s.heap.size ≤ q → A q := fun q h => by rw [← hAe]; exact Or.inr h
  have hS : va_S A s.heap s.heap [] := va_S.rf
  have hP : va_P D pv_cl [(h0, .inr (2, [.ref (w 0), .ref (w 1), .ref (w 2), .ref (w 3), .int 0, .int g0])), ((w 2), .inl (cJ, 64, .inr (.inl f)))] s.heap := hP
  have hl := lv_entry ([.ref h0]) (n := 1) (Nat.le_of_ble_eq_true rfl)
  rw [lg_entry_eq]
  generalize (lg_sl ([.ref h0]) ++ List.replicate (1 - (lg_sl ([.ref h0])).length) Slot.unset).toArray = ls at hl ⊢
  have hl : lv_has ls 1 [(0, .ref h0)] := hl
  refine lv_aload_n hx hb dX9_listed_0 rfl (lv_at hl 0 rfl) ?_
  refine va_get (own := RX9) (D := D) (ci := 2) (v := .ref (w 2)) (C := RX9) (T := TX9) (N := 6) hx hb hts inF9 hown hK hP 0 rfl rfl 2 (by decide) (hg w1_53 rfl) (fun _ h9 => h9) rfl dX9_listed_1 ?_
  refine lv_aload_n hx hb dX9_listed_4 rfl (lv_at hl 0 rfl) ?_
  refine va_get (own := RX9) (D := D) (ci := 2) (v := .int 0) (C := RX9) (T := TX9) (N := 6) hx hb hts inF9 hown hK hP 0 rfl rfl 4 (by decide) (hg w1_56 rfl) (fun _ h9 => h9) rfl dX9_listed_5 ?_
  refine lv_iconst (v := 0) hx hb dX9_listed_8 (by decide) ?_
  refine va_mmax (own := RX9) hx hb (hml.trans hl.1.symm) hown (hg w5_30 rfl) (hg w1_222 rfl) (hg w1_9 rfl) (hg w1_223 rfl) (Nat.le_of_ble_eq_true rfl) (Nat.le_of_ble_eq_true rfl) (Nat.le_of_ble_eq_true rfl) (Nat.le_of_ble_eq_true rfl) dX9_listed_9 ?_
  refine pv_setI 0 (by decide) ?_
  have hF := va_free (wc := [((w 2), .inl (cJ, 64, .inr (.inl f)))]) hD hS hA [1] rfl
  refine va_callr (va_runS (As := [.ref (w 2), .int 0]) (rest := []) ⟨hx, hb, hml, hown, hts⟩ (c_J7_copyOf_0 l hfl D _ (w 2) cJ f) (va_cwS 2 hts (pv_gS w5_31 w3_86 w1_15 w3_87) rfl rfl rfl (by decide +kernel) ⟨Nat.le_of_ble_eq_true rfl, Nat.le_of_ble_eq_true rfl⟩) (pv_ps hE hS hF (hP.sub [1] rfl) (hK.sub [0] rfl) (hD.sub [1] (by decide) rfl)) rfl rfl hl.1 rfl (lv_room (Nat.le_of_ble_eq_true rfl)) dX9_listed_12 ⟨Nat.le_of_ble_eq_true rfl, Nat.le_of_ble_eq_true rfl⟩) hS (fun q _ h => hF q h) hF (fun u ra_0 t H1 locs1 ht hvm hw hB hz1 hk1 hS => ?_)
  refine W.widen (k := 1) (n := 0) (Nat.le_of_ble_eq_true rfl) (Nat.le_of_ble_eq_true rfl) ?_
  obtain ⟨hP, hD⟩ := va_join (wr := [(h0, .inr (2, [.ref (w 0), .ref (w 1), .ref (w 2), .ref (w 3), .int 0, .int g0]))]) (w1 := []) hP hD [1] [0] rfl rfl (by decide) (by decide) hk1 hF pv_P0 pv_D0
  have hP : va_P D pv_cl [(h0, .inr (2, [.ref (w 0), .ref (w 1), .ref (w 2), .ref (w 3), .int 0, .int g0]))] _ := hP
  have hD : va_D A [(h0, .inr (2, [.ref (w 0), .ref (w 1), .ref (w 2), .ref (w 3), .int 0, .int g0]))] := hD
  refine W.widen (k := 1) (n := 0) (Nat.le_of_ble_eq_true rfl) (Nat.le_of_ble_eq_true rfl) ?_
  exact W.aret (v := .ref ra_0) hx hb hr (Or.inr ⟨_, rfl⟩) (Or.inr ⟨_, rfl⟩) (fun t ht hW => ⟨⟨(), ra_0, rfl, trivial, trivial⟩, hS.F ht⟩) hS.2.2 dX9_listed_15

set_option maxHeartbeats 4000000 in
set_option maxRecDepth 100000 in
/-- listed, of 1 terms -/
theorem c_X9_listed_1 (l : Launch) (hfl : l.stackTraces = false) (D : va_G) (sz : Nat) (h0 : Nat) (w : Nat → Nat) (cJ : ClassId) (f : Nat → Int64) (g0 : Int32) : Met l yX9_listed (Cond.code yX9_listed cX9_listed 1 (some (.array .long)) :: pv_W) ({ frames := 2, cells := 1, slots := 1, locals := 82 } : Room) (va_Pc [.ref h0] (pv_P D [(cJ, .long)] [(h0, .inr (2, [.ref (w 0), .ref (w 1), .ref (w 2), .ref (w 3), .int 1, .int g0])), ((w 2), .inl (cJ, 64, .inr (.inl f)))] (va_A [(h0, .inr (2, [.ref (w 0), .ref (w 1), .ref (w 2), .ref (w 3), .int 1, .int g0])), ((w 2), .inl (cJ, 64, .inr (.inl f)))] sz) sz)) (va_Qr (fun (_ : Unit) => True) (fun _ _ _ => True) (va_A [(h0, .inr (2, [.ref (w 0), .ref (w 1), .ref (w 2), .ref (w 3), .int 1, .int g0])), ((w 2), .inl (cJ, 64, .inr (.inl f)))] sz)) 1 1 (va_A [(h0, .inr (2, [.ref (w 0), .ref (w 1), .ref (w 2), .ref (w 3), .int 1, .int g0])), ((w 2), .inl (cJ, 64, .inr (.inl f)))] sz) := by
  refine Met.ofW (cc := cX9_listed) (maxL := 1) (ret := (some (.array .long))) (by decide) rfl ?_
  intro p e s m args below meth c s₁ B hml hv
  obtain ⟨rfl, hsz, hE, hP, hK, hD0⟩ := hv
  have hx := B.exec
  have hb := B.bytes
  have hr := B.returns
  have hts := fun (w : Cond) (h : w ∈ pv_W) => atoms_spec (ws := Cond.code yX9_listed cX9_listed 1 (some (.array .long)) :: pv_W) B.pre w (List.mem_cons_of_mem _ h)
  have hg := fun {w : Cond} (h : w ∈ lw_tbl) (g : goodWord w = true) => hts w (pv_in h g)
  have hown : s.vm.findClass RX9 = some m.cls := findClass_of_methodNamed B.named
  have hlocks := B.notSynchronized
  subst hsz
  have hD := hD0.self (sz := s.heap.size)
  generalize hAe : va_A [(h0, .inr (2, [.ref (w 0), .ref (w 1), .ref (w 2), .ref (w 3), .int 1, .int g0])), ((w 2), .inl (cJ, 64, .inr (.inl f)))] s.heap.size = A at hD hE ⊢
  have hA : ∀ q : Nat, s.heap.size ≤ q → A q := fun q h => by rw [← hAe]; exact Or.inr h
  have hS : va_S A s.heap s.heap [] := va_S.rf
  have hP : va_P D pv_cl [(h0, .inr (2, [.ref (w 0), .ref (w 1), .ref (w 2), .ref (w 3), .int 1, .int g0])), ((w 2), .inl (cJ, 64, .inr (.inl f)))] s.heap := hP
  have hl := lv_entry ([.ref h0]) (n := 1) (Nat.le_of_ble_eq_true rfl)
  rw [lg_entry_eq]
  generalize (lg_sl ([.ref h0]) ++ List.replicate (1 - (lg_sl ([.ref h0])).length) Slot.unset).toArray = ls at hl ⊢
  have hl : lv_has ls 1 [(0, .ref h0)] := hl
  refine lv_aload_n hx hb dX9_listed_0 rfl (lv_at hl 0 rfl) ?_
  refine va_get (own := RX9) (D := D) (ci := 2) (v := .ref (w 2)) (C := RX9) (T := TX9) (N := 6) hx hb hts inF9 hown hK hP 0 rfl rfl 2 (by decide) (hg w1_53 rfl) (fun _ h9 => h9) rfl dX9_listed_1 ?_
  refine lv_aload_n hx hb dX9_listed_4 rfl (lv_at hl 0 rfl) ?_
  refine va_get (own := RX9) (D := D) (ci := 2) (v := .int 1) (C := RX9) (T := TX9) (N := 6) hx hb hts inF9 hown hK hP 0 rfl rfl 4 (by decide) (hg w1_56 rfl) (fun _ h9 => h9) rfl dX9_listed_5 ?_
  refine lv_iconst (v := 0) hx hb dX9_listed_8 (by decide) ?_
  refine va_mmax (own := RX9) hx hb (hml.trans hl.1.symm) hown (hg w5_30 rfl) (hg w1_222 rfl) (hg w1_9 rfl) (hg w1_223 rfl) (Nat.le_of_ble_eq_true rfl) (Nat.le_of_ble_eq_true rfl) (Nat.le_of_ble_eq_true rfl) (Nat.le_of_ble_eq_true rfl) dX9_listed_9 ?_
  refine pv_setI 1 (by decide) ?_
  have hF := va_free (wc := [((w 2), .inl (cJ, 64, .inr (.inl f)))]) hD hS hA [1] rfl
  refine va_callr (va_runS (As := [.ref (w 2), .int 1]) (rest := []) ⟨hx, hb, hml, hown, hts⟩ (c_J7_copyOf_1 l hfl D _ (w 2) cJ f) (va_cwS 2 hts (pv_gS w5_31 w3_86 w1_15 w3_87) rfl rfl rfl (by decide +kernel) ⟨Nat.le_of_ble_eq_true rfl, Nat.le_of_ble_eq_true rfl⟩) (pv_ps hE hS hF (hP.sub [1] rfl) (hK.sub [0] rfl) (hD.sub [1] (by decide) rfl)) rfl rfl hl.1 rfl (lv_room (Nat.le_of_ble_eq_true rfl)) dX9_listed_12 ⟨Nat.le_of_ble_eq_true rfl, Nat.le_of_ble_eq_true rfl⟩) hS (fun q _ h => hF q h) hF (fun u ra_0 t H1 locs1 ht hvm hw hB hz1 hk1 hS => ?_)
  refine W.widen (k := 1) (n := 1) (Nat.le_of_ble_eq_true rfl) (Nat.le_of_ble_eq_true rfl) ?_
  obtain ⟨hP, hD⟩ := va_join (wr := [(h0, .inr (2, [.ref (w 0), .ref (w 1), .ref (w 2), .ref (w 3), .int 1, .int g0]))]) (w1 := []) hP hD [1] [0] rfl rfl (by decide) (by decide) hk1 hF pv_P0 pv_D0
  have hP : va_P D pv_cl [(h0, .inr (2, [.ref (w 0), .ref (w 1), .ref (w 2), .ref (w 3), .int 1, .int g0]))] _ := hP
  have hD : va_D A [(h0, .inr (2, [.ref (w 0), .ref (w 1), .ref (w 2), .ref (w 3), .int 1, .int g0]))] := hD
  refine W.widen (k := 1) (n := 1) (Nat.le_of_ble_eq_true rfl) (Nat.le_of_ble_eq_true rfl) ?_
  exact W.aret (v := .ref ra_0) hx hb hr (Or.inr ⟨_, rfl⟩) (Or.inr ⟨_, rfl⟩) (fun t ht hW => ⟨⟨(), ra_0, rfl, trivial, trivial⟩, hS.F ht⟩) hS.2.2 dX9_listed_15

theorem dX11_keep_0 : decode cX11_keep 0 = .ok (.iconst 0, 1) := by decide +kernel
theorem dX11_keep_1 : decode cX11_keep 1 = .ok (.istore_n 1, 1) := by decide +kernel
theorem dX11_keep_2 : decode cX11_keep 2 = .ok (.iload_n 1, 1) := by decide +kernel
theorem dX11_keep_3 : decode cX11_keep 3 = .ok (.aload_n 0, 1) := by decide +kernel
theorem dX11_keep_4 : decode cX11_keep 4 = .ok (.getfield 15, 3) := by decide +kernel
theorem dX11_keep_7 : decode cX11_keep 7 = .ok (.if_icmp .ge 49, 3) := by decide +kernel
theorem dX11_keep_56 : decode cX11_keep 56 = .ok (.aload_n 0, 1) := by decide +kernel
theorem dX11_keep_57 : decode cX11_keep 57 = .ok (.getfield 15, 3) := by decide +kernel
theorem dX11_keep_60 : decode cX11_keep 60 = .ok (.bipush 60, 2) := by decide +kernel
theorem dX11_keep_62 : decode cX11_keep 62 = .ok (.if_icmp .lt 14, 3) := by decide +kernel
theorem dX11_keep_76 : decode cX11_keep 76 = .ok (.aload_n 0, 1) := by decide +kernel
theorem dX11_keep_77 : decode cX11_keep 77 = .ok (.getfield 11, 3) := by decide +kernel
theorem w2_37 : (Jvm.Cond.fieldLink "Polyforge" (11 : Nat) "Polyforge" "kept" "[LPolyforge$Polynomial;") ∈ lw_tbl := pv_t2 (pv_mg 37 rfl)
theorem dX11_keep_80 : decode cX11_keep 80 = .ok (.aload_n 0, 1) := by decide +kernel
theorem dX11_keep_81 : decode cX11_keep 81 = .ok (.getfield 15, 3) := by decide +kernel
theorem dX11_keep_84 : decode cX11_keep 84 = .ok (.new 9, 3) := by decide +kernel
theorem w1_38 : (Jvm.Cond.classLink "Polyforge" (9 : Nat) "Polyforge$Polynomial") ∈ lw_tbl := pv_t1 (pv_mg 38 rfl)
theorem w5_25 : (Jvm.Cond.instantiable "Polyforge$Polynomial" (2 : Nat)) ∈ lw_tbl := pv_t5 (pv_mg 25 rfl)
theorem dX11_keep_87 : decode cX11_keep 87 = .ok (.dup, 1) := by decide +kernel
theorem dX11_keep_88 : decode cX11_keep 88 = .ok (.aload_n 0, 1) := by decide +kernel
theorem dX11_keep_89 : decode cX11_keep 89 = .ok (.getfield 58, 3) := by decide +kernel
theorem w2_48 : (Jvm.Cond.fieldLink "Polyforge" (58 : Nat) "Polyforge" "slate" "LPolyforge$Slate;") ∈ lw_tbl := pv_t2 (pv_mg 48 rfl)
theorem dX11_keep_92 : decode cX11_keep 92 = .ok (.getfield 508, 3) := by decide +kernel
theorem w1_59 : (Jvm.Cond.fieldLinkNest "Polyforge" (508 : Nat) "Polyforge$Slate" "ground" "I" "Polyforge") ∈ lw_tbl := pv_t1 (pv_mg 59 rfl)
theorem dX11_keep_95 : decode cX11_keep 95 = .ok (.aload_n 0, 1) := by decide +kernel
theorem dX11_keep_96 : decode cX11_keep 96 = .ok (.getfield 58, 3) := by decide +kernel
theorem dX11_keep_99 : decode cX11_keep 99 = .ok (.invokevirtual 521, 3) := by decide +kernel
theorem w5_26 : (Jvm.Cond.methodLink "Polyforge" (521 : Nat) ({ cls := "Polyforge$Slate", name := "listed", desc := "()[J" } : Jvm.MethodName)) ∈ lw_tbl := pv_t5 (pv_mg 26 rfl)
theorem w5_29 : (Jvm.Cond.code ({ cls := "Polyforge$Slate", name := "listed", desc := "()[J" } : Jvm.MethodName) prog_11_method_4_code (1 : Nat) (Option.some (Jvm.ClassFile.FieldType.array Jvm.ClassFile.FieldType.long))) ∈ lw_tbl := pv_t5 (pv_mg 29 rfl)
theorem w5_28 : (Jvm.Cond.selects "Polyforge$Slate" ({ cls := "Polyforge$Slate", name := "listed", desc := "()[J" } : Jvm.MethodName) ({ cls := "Polyforge$Slate", name := "listed", desc := "()[J" } : Jvm.MethodName)) ∈ lw_tbl := pv_t5 (pv_mg 28 rfl)
theorem w5_27 : (Jvm.Cond.instanceMethod ({ cls := "Polyforge$Slate", name := "listed", desc := "()[J" } : Jvm.MethodName)) ∈ lw_tbl := pv_t5 (pv_mg 27 rfl)
theorem dX11_keep_102 : decode cX11_keep 102 = .ok (.invokespecial 525, 3) := by decide +kernel
theorem w5_32 : (Jvm.Cond.methodLink "Polyforge" (525 : Nat) ({ cls := "Polyforge$Polynomial", name := "<init>", desc := "(I[J)V" } : Jvm.MethodName)) ∈ lw_tbl := pv_t5 (pv_mg 32 rfl)
theorem w5_34 : (Jvm.Cond.code ({ cls := "Polyforge$Polynomial", name := "<init>", desc := "(I[J)V" } : Jvm.MethodName) prog_9_method_1_code (3 : Nat) (Option.none : Option Jvm.ClassFile.FieldType)) ∈ lw_tbl := pv_t5 (pv_mg 34 rfl)
theorem w5_33 : (Jvm.Cond.instanceMethod ({ cls := "Polyforge$Polynomial", name := "<init>", desc := "(I[J)V" } : Jvm.MethodName)) ∈ lw_tbl := pv_t5 (pv_mg 33 rfl)
theorem dX11_keep_105 : decode cX11_keep 105 = .ok (.aastore, 1) := by decide +kernel
theorem dX11_keep_106 : decode cX11_keep 106 = .ok (.aload_n 0, 1) := by decide +kernel
theorem dX11_keep_107 : decode cX11_keep 107 = .ok (.dup, 1) := by decide +kernel
theorem dX11_keep_108 : decode cX11_keep 108 = .ok (.getfield 15, 3) := by decide +kernel
theorem dX11_keep_111 : decode cX11_keep 111 = .ok (.dup_x1, 1) := by decide +kernel
theorem dX11_keep_112 : decode cX11_keep 112 = .ok (.iconst 1, 1) := by decide +kernel
theorem dX11_keep_113 : decode cX11_keep 113 = .ok (.iadd, 1) := by decide +kernel
theorem dX11_keep_114 : decode cX11_keep 114 = .ok (.putfield 15, 3) := by decide +kernel
theorem dX11_keep_117 : decode cX11_keep 117 = .ok (.ireturn, 1) := by decide +kernel
set_option maxHeartbeats 4000000 in
set_option maxRecDepth 100000 in
/-- keep, 0 terms on the slate -/
theorem c_X11_keep_0 (l : Launch) (hfl : l.stackTraces = false) (D : va_G) (sz : Nat) (h0 : Nat) (q w : Nat → Nat) (cJ cP : ClassId) (f : Nat → Int64) (g0 : Int32) : vx_Met l yX11_keep (Cond.code yX11_keep cX11_keep 3 (some .int) :: pv_W) ({ frames := 3, cells := 2, slots := 2, locals := 102 } : Room) (va_Pc [.ref h0] (pv_P D [(cJ, .long), (cP, .object "Polyforge$Polynomial")] [(h0, .inr (0, [.ref (q 0), .int 0, .int 108, .ref (q 1), .int 0, .ref (q 2), .int 0, .ref (q 3), .ref (q 4), .int 1, .ref (q 5), .ref (q 6), .ref (q 7), .ref (q 8), .ref (q 9)])), ((q 6), .inr (2, [.ref (w 0), .ref (w 1), .ref (w 2), .ref (w 3), .int 0, .int g0])), ((w 2), .inl (cJ, 64, .inr (.inl f))), ((q 0), .inl (cP, 60, .inr (.inr (.inr (.inr (fun _ => none))))))] (va_A [(h0, .inr (0, [.ref (q 0), .int 0, .int 108, .ref (q 1), .int 0, .ref (q 2), .int 0, .ref (q 3), .ref (q 4), .int 1, .ref (q 5), .ref (q 6), .ref (q 7), .ref (q 8), .ref (q 9)])), ((q 6), .inr (2, [.ref (w 0), .ref (w 1), .ref (w 2), .ref (w 3), .int 0, .int g0])), ((w 2), .inl (cJ, 64, .inr (.inl f))), ((q 0), .inl (cP, 60, .inr (.inr (.inr (.inr (fun _ => none))))))] sz) sz)) (va_Qi (fun r (_ : Unit) => r = 0) (fun _ _ => True) (va_A [(h0, .inr (0, [.ref (q 0), .int 0, .int 108, .ref (q 1), .int 0, .ref (q 2), .int 0, .ref (q 3), .ref (q 4), .int 1, .ref (q 5), .ref (q 6), .ref (q 7), .ref (q 8), .ref (q 9)])), ((q 6), .inr (2, [.ref (w 0), .ref (w 1), .ref (w 2), .ref (w 3), .int 0, .int g0])), ((w 2), .inl (cJ, 64, .inr (.inl f))), ((q 0), .inl (cP, 60, .inr (.inr (.inr (.inr (fun _ => none))))))] sz)) (vx_X (fun _ : Unit => True) (fun E _ _ => False) (va_A [(h0, .inr (0, [.ref (q 0), .int 0, .int 108, .ref (q 1), .int 0, .ref (q 2), .int 0, .ref (q 3), .ref (q 4), .int 1, .ref (q 5), .ref (q 6), .ref (q 7), .ref (q 8), .ref (q 9)])), ((q 6), .inr (2, [.ref (w 0), .ref (w 1), .ref (w 2), .ref (w 3), .int 0, .int g0])), ((w 2), .inl (cJ, 64, .inr (.inl f))), ((q 0), .inl (cP, 60, .inr (.inr (.inr (.inr (fun _ => none))))))] sz)) 2 2 (va_A [(h0, .inr (0, [.ref (q 0), .int 0, .int 108, .ref (q 1), .int 0, .ref (q 2), .int 0, .ref (q 3), .ref (q 4), .int 1, .ref (q 5), .ref (q 6), .ref (q 7), .ref (q 8), .ref (q 9)])), ((q 6), .inr (2, [.ref (w 0), .ref (w 1), .ref (w 2), .ref (w 3), .int 0, .int g0])), ((w 2), .inl (cJ, 64, .inr (.inl f))), ((q 0), .inl (cP, 60, .inr (.inr (.inr (.inr (fun _ => none))))))] sz) := by
  refine vx_ofW (cc := cX11_keep) (maxL := 3) (ret := (some .int)) (by decide) rfl ?_
  intro p e s m args below meth c s₁ B hml hnt hv
  obtain ⟨rfl, hsz, hE, hP, hK, hD0⟩ := hv
  have hx := B.exec
  have hb := B.bytes
  have hr := B.returns
  have hts := fun (w : Cond) (h : w ∈ pv_W) => atoms_spec (ws := Cond.code yX11_keep cX11_keep 3 (some .int) :: pv_W) B.pre w (List.mem_cons_of_mem _ h)
  have hg := fun {w : Cond} (h : w ∈ lw_tbl) (g : goodWord w = true) => hts w (pv_in h g)
  have hown : s.vm.findClass RX11 = some m.cls := findClass_of_methodNamed B.named
  have hlocks := B.notSynchronized
  subst hsz
  have hD := hD0.self (sz := s.heap.size)
  generalize hAe : va_A [(h0, .inr (0, [.ref (q 0), .int 0, .int 108, .ref (q 1), .int 0, .ref (q 2), .int 0, .ref (q 3), .ref (q 4), .int 1, .ref (q 5), .ref (q 6), .ref (q 7), .ref (q 8), .ref (q 9)])), ((q 6), .inr (2, [.ref (w 0), .ref (w 1), .ref (w 2), .ref (w 3), .int 0, .int g0])), ((w 2), .inl (cJ, 64, .inr (.inl f))), ((q 0), .inl (cP, 60, .inr (.inr (.inr (.inr (fun _ => none))))))] s.heap.size = A at hD hE ⊢
  have hA : ∀ q : Nat, s.heap.size ≤ q → A q := fun q h => by rw [← hAe]; exact Or.inr h
  have hS : va_S A s.heap s.heap [] := va_S.rf
  have hP : va_P D pv_cl [(h0, .inr (0, [.ref (q 0), .int 0, .int 108, .ref (q 1), .int 0, .ref (q 2), .int 0, .ref (q 3), .ref (q 4), .int 1, .ref (q 5), .ref (q 6), .ref (q 7), .ref (q 8), .ref (q 9)])), ((q 6), .inr (2, [.ref (w 0), .ref (w 1), .ref (w 2), .ref (w 3), .int 0, .int g0])), ((w 2), .inl (cJ, 64, .inr (.inl f))), ((q 0), .inl (cP, 60, .inr (.inr (.inr (.inr (fun _ => none))))))] s.heap := hP
  have hl := lv_entry ([.ref h0]) (n := 3) (Nat.le_of_ble_eq_true rfl)
  rw [lg_entry_eq]
  generalize (lg_sl ([.ref h0]) ++ List.replicate (3 - (lg_sl ([.ref h0])).length) Slot.unset).toArray = ls at hl ⊢
  have hl : lv_has ls 3 [(0, .ref h0)] := hl
  refine lv_iconst (v := 0) hx hb dX11_keep_0 (by decide) ?_
  refine lv_istore_n (lv' := [(1, .int 0), (0, .ref h0)]) hx hb dX11_keep_1 rfl hl (by decide) rfl (fun ls hl => ?_)
  refine lv_iload_n hx hb dX11_keep_2 rfl (lv_at hl 0 rfl) ?_
  refine lv_aload_n hx hb dX11_keep_3 rfl (lv_at hl 1 rfl) ?_
  refine va_get (own := RX11) (D := D) (ci := 0) (v := .int 0) (C := RX11) (T := TX11) (N := 15) hx hb hts inF11 hown hK hP 0 rfl rfl 1 (by decide) (hg w2_38 rfl) (fun _ h9 => h9) rfl dX11_keep_4 ?_
  refine lv_icmp_ge (tgt := 56) hx hb dX11_keep_7 (by decide) (fun _ => ?_) (fun c_1 => absurd (by decide) c_1)
  refine lv_aload_n hx hb dX11_keep_56 rfl (lv_at hl 1 rfl) ?_
  refine va_get (own := RX11) (D := D) (ci := 0) (v := .int 0) (C := RX11) (T := TX11) (N := 15) hx hb hts inF11 hown hK hP 0 rfl rfl 1 (by decide) (hg w2_38 rfl) (fun _ h9 => h9) rfl dX11_keep_57 ?_
  refine lv_bipush (v := 60) hx hb dX11_keep_60 (by decide) ?_
  refine lv_icmp_lt (tgt := 76) hx hb dX11_keep_62 (by decide) (fun _ => ?_) (fun c_2 => absurd (by decide) c_2)
  refine lv_aload_n hx hb dX11_keep_76 rfl (lv_at hl 1 rfl) ?_
  refine va_get (own := RX11) (D := D) (ci := 0) (v := .ref (q 0)) (C := RX11) (T := TX11) (N := 15) hx hb hts inF11 hown hK hP 0 rfl rfl 0 (by decide) (hg w2_37 rfl) (fun _ h9 => h9) rfl dX11_keep_77 ?_
  refine lv_aload_n hx hb dX11_keep_80 rfl (lv_at hl 1 rfl) ?_
  refine va_get (own := RX11) (D := D) (ci := 0) (v := .int 0) (C := RX11) (T := TX11) (N := 15) hx hb hts inF11 hown hK hP 0 rfl rfl 1 (by decide) (hg w2_38 rfl) (fun _ h9 => h9) rfl dX11_keep_81 ?_
  refine va_new (own := RX11) (ci := 9) (fs := [.int 0, .null]) (C := RX7) (T := TX7) (N := 2) hx hb hts inF7 tyX7 tyX7_ok hown (hg w1_38 rfl) (hg w5_25 rfl) (hg w1_17 rfl) hK hP hD hS hA rfl (by decide +kernel) (Nat.le_of_ble_eq_true rfl) (Nat.le_of_ble_eq_true rfl) dX11_keep_84 (fun q_3 H hP hD hS => ?_)
  have hP : va_P D pv_cl [(h0, .inr (0, [.ref (q 0), .int 0, .int 108, .ref (q 1), .int 0, .ref (q 2), .int 0, .ref (q 3), .ref (q 4), .int 1, .ref (q 5), .ref (q 6), .ref (q 7), .ref (q 8), .ref (q 9)])), ((q 6), .inr (2, [.ref (w 0), .ref (w 1), .ref (w 2), .ref (w 3), .int 0, .int g0])), ((w 2), .inl (cJ, 64, .inr (.inl f))), ((q 0), .inl (cP, 60, .inr (.inr (.inr (.inr (fun _ => none)))))), (q_3, .inr (9, [.int 0, .null]))] _ := hP
  have hD : va_D A [(h0, .inr (0, [.ref (q 0), .int 0, .int 108, .ref (q 1), .int 0, .ref (q 2), .int 0, .ref (q 3), .ref (q 4), .int 1, .ref (q 5), .ref (q 6), .ref (q 7), .ref (q 8), .ref (q 9)])), ((q 6), .inr (2, [.ref (w 0), .ref (w 1), .ref (w 2), .ref (w 3), .int 0, .int g0])), ((w 2), .inl (cJ, 64, .inr (.inl f))), ((q 0), .inl (cP, 60, .inr (.inr (.inr (.inr (fun _ => none)))))), (q_3, .inr (9, [.int 0, .null]))] := hD
  refine W.widen (k := 1) (n := 2) (Nat.le_of_ble_eq_true rfl) (Nat.le_of_ble_eq_true rfl) ?_
  refine lv_dup hx hb dX11_keep_87 rfl ?_
  refine lv_aload_n hx hb dX11_keep_88 rfl (lv_at hl 1 rfl) ?_
  refine va_get (own := RX11) (D := D) (ci := 0) (v := .ref (q 6)) (C := RX11) (T := TX11) (N := 15) hx hb hts inF11 hown hK hP 0 rfl rfl 11 (by decide) (hg w2_48 rfl) (fun _ h9 => h9) rfl dX11_keep_89 ?_
  refine va_getN (own := RX11) (D := D) (ci := 2) (v := .int g0) (C := RX9) (T := TX9) (N := 6) hx hb hts inF9 hown hK hP 1 rfl rfl 5 (by decide) (va_Nw.use rfl (hE.2.2.1 _ (pv_ib w1_59 rfl))) (fun _ h9 => h9) rfl dX11_keep_92 ?_
  refine lv_aload_n hx hb dX11_keep_95 rfl (lv_at hl 1 rfl) ?_
  refine va_get (own := RX11) (D := D) (ci := 0) (v := .ref (q 6)) (C := RX11) (T := TX11) (N := 15) hx hb hts inF11 hown hK hP 0 rfl rfl 11 (by decide) (hg w2_48 rfl) (fun _ h9 => h9) rfl dX11_keep_96 ?_
  have hF := va_free (wc := [((q 6), .inr (2, [.ref (w 0), .ref (w 1), .ref (w 2), .ref (w 3), .int 0, .int g0])), ((w 2), .inl (cJ, 64, .inr (.inl f)))]) hD hS hA [1, 2] rfl
  refine va_callr (va_runV (As := []) (rest := [.int g0, .ref q_3, .ref q_3, .int 0, .ref (q 0)]) ⟨hx, hb, hml, hown, hts⟩ (c_X9_listed_0 l hfl D _ (q 6) w cJ f g0) (cwV 0 hts (pv_gV w5_26 w5_27 w5_28 w1_2 w5_29) rfl rfl rfl (by decide +kernel) ⟨Nat.le_of_ble_eq_true rfl, Nat.le_of_ble_eq_true rfl⟩) (pv_pV hE hS hF (hP.sub [1, 2] rfl) (hK.sub [0] rfl) (hD.sub [1, 2] (by decide) rfl) (va_recv (ci := 2) (q0 := 1) hK hP rfl rfl)) rfl rfl hl.1 rfl (lv_room (Nat.le_of_ble_eq_true rfl)) dX11_keep_99 ⟨Nat.le_of_ble_eq_true rfl, Nat.le_of_ble_eq_true rfl⟩) hS (fun q _ h => hF q h) hF (fun u ra_3 t H1 locs1 ht hvm hw hB hz1 hk1 hS => ?_)
  refine W.widen (k := 2) (n := 2) (Nat.le_of_ble_eq_true rfl) (Nat.le_of_ble_eq_true rfl) ?_
  obtain ⟨hP, hD⟩ := va_join (wr := [(h0, .inr (0, [.ref (q 0), .int 0, .int 108, .ref (q 1), .int 0, .ref (q 2), .int 0, .ref (q 3), .ref (q 4), .int 1, .ref (q 5), .ref (q 6), .ref (q 7), .ref (q 8), .ref (q 9)])), ((q 0), .inl (cP, 60, .inr (.inr (.inr (.inr (fun _ => none)))))), (q_3, .inr (9, [.int 0, .null]))]) (w1 := []) hP hD [1, 2] [0, 3, 4] rfl rfl (by decide) (by decide) hk1 hF pv_P0 pv_D0
  have hP : va_P D pv_cl [(h0, .inr (0, [.ref (q 0), .int 0, .int 108, .ref (q 1), .int 0, .ref (q 2), .int 0, .ref (q 3), .ref (q 4), .int 1, .ref (q 5), .ref (q 6), .ref (q 7), .ref (q 8), .ref (q 9)])), ((q 0), .inl (cP, 60, .inr (.inr (.inr (.inr (fun _ => none)))))), (q_3, .inr (9, [.int 0, .null]))] _ := hP
  have hD : va_D A [(h0, .inr (0, [.ref (q 0), .int 0, .int 108, .ref (q 1), .int 0, .ref (q 2), .int 0, .ref (q 3), .ref (q 4), .int 1, .ref (q 5), .ref (q 6), .ref (q 7), .ref (q 8), .ref (q 9)])), ((q 0), .inl (cP, 60, .inr (.inr (.inr (.inr (fun _ => none)))))), (q_3, .inr (9, [.int 0, .null]))] := hD
  have hF := va_free (wc := [(q_3, .inr (9, [.int 0, .null]))]) hD hS hA [2] rfl
  refine va_callv (va_runI (As := [.int g0, .ref ra_3]) (rest := [.ref q_3, .int 0, .ref (q 0)]) ⟨hx, hb, hml, hown, hts⟩ (c_X7_init l hfl D _ q_3 0 .null g0 ra_3) (cwI 2 hts (pv_gC w5_34) rfl rfl rfl (hg w1_17 rfl) (hg w5_32 rfl) (hg w5_33 rfl) rfl (by decide +kernel) ⟨Nat.le_of_ble_eq_true rfl, Nat.le_of_ble_eq_true rfl⟩) (pv_ps hE hS hF (hP.sub [2] rfl) (hK.sub [] rfl) (hD.sub [2] (by decide) rfl)) rfl rfl hl.1 rfl (lv_room (Nat.le_of_ble_eq_true rfl)) dX11_keep_102 ⟨Nat.le_of_ble_eq_true rfl, Nat.le_of_ble_eq_true rfl⟩) hS (fun q _ h => hF q h) hF (fun u t H1 locs1 ht hvm hw hB hz1 hk1 hS => ?_)
  refine W.widen (k := 2) (n := 2) (Nat.le_of_ble_eq_true rfl) (Nat.le_of_ble_eq_true rfl) ?_
  obtain ⟨hP1, hK1, hD1⟩ := hB
  rw [ht] at hP1
  have hK1 := va_K.moved hvm.symm hK1
  obtain ⟨hP, hD⟩ := va_join (wr := [(h0, .inr (0, [.ref (q 0), .int 0, .int 108, .ref (q 1), .int 0, .ref (q 2), .int 0, .ref (q 3), .ref (q 4), .int 1, .ref (q 5), .ref (q 6), .ref (q 7), .ref (q 8), .ref (q 9)])), ((q 0), .inl (cP, 60, .inr (.inr (.inr (.inr (fun _ => none))))))]) (w1 := [(q_3, .inr (9, [.int g0, .ref ra_3]))]) hP hD [2] [0, 1] rfl rfl (by decide) (by decide) hk1 hF hP1 hD1
  have hP : va_P D pv_cl [(h0, .inr (0, [.ref (q 0), .int 0, .int 108, .ref (q 1), .int 0, .ref (q 2), .int 0, .ref (q 3), .ref (q 4), .int 1, .ref (q 5), .ref (q 6), .ref (q 7), .ref (q 8), .ref (q 9)])), ((q 0), .inl (cP, 60, .inr (.inr (.inr (.inr (fun _ => none)))))), (q_3, .inr (9, [.int g0, .ref ra_3]))] _ := hP
  have hD : va_D A [(h0, .inr (0, [.ref (q 0), .int 0, .int 108, .ref (q 1), .int 0, .ref (q 2), .int 0, .ref (q 3), .ref (q 4), .int 1, .ref (q 5), .ref (q 6), .ref (q 7), .ref (q 8), .ref (q 9)])), ((q 0), .inl (cP, 60, .inr (.inr (.inr (.inr (fun _ => none)))))), (q_3, .inr (9, [.int g0, .ref ra_3]))] := hD
  refine va_astq hx hb hK hP hD hS 1 1 2 9 rfl rfl rfl rfl (by unfold vp_in; decide) dX11_keep_105 (fun H locs hP hD hS => ?_)
  have hP : va_P D pv_cl [(h0, .inr (0, [.ref (q 0), .int 0, .int 108, .ref (q 1), .int 0, .ref (q 2), .int 0, .ref (q 3), .ref (q 4), .int 1, .ref (q 5), .ref (q 6), .ref (q 7), .ref (q 8), .ref (q 9)])), ((q 0), .inl (cP, 60, .inr (.inr (.inr (.inr (va_up (fun _ => none) (0 : Int32).toNatClampNeg (some q_3))))))), (q_3, .inr (9, [.int g0, .ref ra_3]))] _ := hP
  have hD : va_D A [(h0, .inr (0, [.ref (q 0), .int 0, .int 108, .ref (q 1), .int 0, .ref (q 2), .int 0, .ref (q 3), .ref (q 4), .int 1, .ref (q 5), .ref (q 6), .ref (q 7), .ref (q 8), .ref (q 9)])), ((q 0), .inl (cP, 60, .inr (.inr (.inr (.inr (va_up (fun _ => none) (0 : Int32).toNatClampNeg (some q_3))))))), (q_3, .inr (9, [.int g0, .ref ra_3]))] := hD
  refine lv_aload_n hx hb dX11_keep_106 rfl (lv_at hl 1 rfl) ?_
  refine lv_dup hx hb dX11_keep_107 rfl ?_
  refine va_get (own := RX11) (D := D) (ci := 0) (v := .int 0) (C := RX11) (T := TX11) (N := 15) hx hb hts inF11 hown hK hP 0 rfl rfl 1 (by decide) (hg w2_38 rfl) (fun _ h9 => h9) rfl dX11_keep_108 ?_
  refine lv_dup_x1 hx hb dX11_keep_111 rfl rfl ?_
  refine lv_iconst (v := 1) hx hb dX11_keep_112 (by decide) ?_
  refine lv_iadd hx hb dX11_keep_113 ?_
  refine pv_setI 1 (by decide) ?_
  refine va_put (own := RX11) (D := D) (ci := 0) (v := .int 1) (ty := .int) (C := RX11) (T := TX11) (N := 15) hx hb hts inF11 tyX11 tyX11_ok nmX11 hown hK hP hD hS 0 rfl rfl 1 (by decide) (hg w2_38 rfl) (fun _ h9 => h9) rfl (by decide +kernel) rfl rfl (Nat.le_of_ble_eq_true rfl) dX11_keep_114 (fun H locs hP hD hS => ?_)
  have hP : va_P D pv_cl [(h0, .inr (0, [.ref (q 0), .int 1, .int 108, .ref (q 1), .int 0, .ref (q 2), .int 0, .ref (q 3), .ref (q 4), .int 1, .ref (q 5), .ref (q 6), .ref (q 7), .ref (q 8), .ref (q 9)])), ((q 0), .inl (cP, 60, .inr (.inr (.inr (.inr (va_up (fun _ => none) (0 : Int32).toNatClampNeg (some q_3))))))), (q_3, .inr (9, [.int g0, .ref ra_3]))] _ := hP
  have hD : va_D A [(h0, .inr (0, [.ref (q 0), .int 1, .int 108, .ref (q 1), .int 0, .ref (q 2), .int 0, .ref (q 3), .ref (q 4), .int 1, .ref (q 5), .ref (q 6), .ref (q 7), .ref (q 8), .ref (q 9)])), ((q 0), .inl (cP, 60, .inr (.inr (.inr (.inr (va_up (fun _ => none) (0 : Int32).toNatClampNeg (some q_3))))))), (q_3, .inr (9, [.int g0, .ref ra_3]))] := hD
  refine vx_ret ?_
  refine W.widen (k := 2) (n := 2) (Nat.le_of_ble_eq_true rfl) (Nat.le_of_ble_eq_true rfl) ?_
  exact W.iret (v := 0) hx hb hr (fun t ht hW => ⟨⟨0, (), rfl, rfl, trivial⟩, hS.F ht⟩) hS.2.2 dX11_keep_117

set_option maxHeartbeats 4000000 in
set_option maxRecDepth 100000 in
/-- keep, 1 terms on the slate -/
theorem c_X11_keep_1 (l : Launch) (hfl : l.stackTraces = false) (D : va_G) (sz : Nat) (h0 : Nat) (q w : Nat → Nat) (cJ cP : ClassId) (f : Nat → Int64) (g0 : Int32) : vx_Met l yX11_keep (Cond.code yX11_keep cX11_keep 3 (some .int) :: pv_W) ({ frames := 3, cells := 2, slots := 3, locals := 102 } : Room) (va_Pc [.ref h0] (pv_P D [(cJ, .long), (cP, .object "Polyforge$Polynomial")] [(h0, .inr (0, [.ref (q 0), .int 0, .int 108, .ref (q 1), .int 0, .ref (q 2), .int 0, .ref (q 3), .ref (q 4), .int 1, .ref (q 5), .ref (q 6), .ref (q 7), .ref (q 8), .ref (q 9)])), ((q 6), .inr (2, [.ref (w 0), .ref (w 1), .ref (w 2), .ref (w 3), .int 1, .int g0])), ((w 2), .inl (cJ, 64, .inr (.inl f))), ((q 0), .inl (cP, 60, .inr (.inr (.inr (.inr (fun _ => none))))))] (va_A [(h0, .inr (0, [.ref (q 0), .int 0, .int 108, .ref (q 1), .int 0, .ref (q 2), .int 0, .ref (q 3), .ref (q 4), .int 1, .ref (q 5), .ref (q 6), .ref (q 7), .ref (q 8), .ref (q 9)])), ((q 6), .inr (2, [.ref (w 0), .ref (w 1), .ref (w 2), .ref (w 3), .int 1, .int g0])), ((w 2), .inl (cJ, 64, .inr (.inl f))), ((q 0), .inl (cP, 60, .inr (.inr (.inr (.inr (fun _ => none))))))] sz) sz)) (va_Qi (fun r (_ : Unit) => r = 0) (fun _ _ => True) (va_A [(h0, .inr (0, [.ref (q 0), .int 0, .int 108, .ref (q 1), .int 0, .ref (q 2), .int 0, .ref (q 3), .ref (q 4), .int 1, .ref (q 5), .ref (q 6), .ref (q 7), .ref (q 8), .ref (q 9)])), ((q 6), .inr (2, [.ref (w 0), .ref (w 1), .ref (w 2), .ref (w 3), .int 1, .int g0])), ((w 2), .inl (cJ, 64, .inr (.inl f))), ((q 0), .inl (cP, 60, .inr (.inr (.inr (.inr (fun _ => none))))))] sz)) (vx_X (fun _ : Unit => True) (fun E _ _ => False) (va_A [(h0, .inr (0, [.ref (q 0), .int 0, .int 108, .ref (q 1), .int 0, .ref (q 2), .int 0, .ref (q 3), .ref (q 4), .int 1, .ref (q 5), .ref (q 6), .ref (q 7), .ref (q 8), .ref (q 9)])), ((q 6), .inr (2, [.ref (w 0), .ref (w 1), .ref (w 2), .ref (w 3), .int 1, .int g0])), ((w 2), .inl (cJ, 64, .inr (.inl f))), ((q 0), .inl (cP, 60, .inr (.inr (.inr (.inr (fun _ => none))))))] sz)) 2 3 (va_A [(h0, .inr (0, [.ref (q 0), .int 0, .int 108, .ref (q 1), .int 0, .ref (q 2), .int 0, .ref (q 3), .ref (q 4), .int 1, .ref (q 5), .ref (q 6), .ref (q 7), .ref (q 8), .ref (q 9)])), ((q 6), .inr (2, [.ref (w 0), .ref (w 1), .ref (w 2), .ref (w 3), .int 1, .int g0])), ((w 2), .inl (cJ, 64, .inr (.inl f))), ((q 0), .inl (cP, 60, .inr (.inr (.inr (.inr (fun _ => none))))))] sz) := by
  refine vx_ofW (cc := cX11_keep) (maxL := 3) (ret := (some .int)) (by decide) rfl ?_
  intro p e s m args below meth c s₁ B hml hnt hv
  obtain ⟨rfl, hsz, hE, hP, hK, hD0⟩ := hv
  have hx := B.exec
  have hb := B.bytes
  have hr := B.returns
  have hts := fun (w : Cond) (h : w ∈ pv_W) => atoms_spec (ws := Cond.code yX11_keep cX11_keep 3 (some .int) :: pv_W) B.pre w (List.mem_cons_of_mem _ h)
  have hg := fun {w : Cond} (h : w ∈ lw_tbl) (g : goodWord w = true) => hts w (pv_in h g)
  have hown : s.vm.findClass RX11 = some m.cls := findClass_of_methodNamed B.named
  have hlocks := B.notSynchronized
  subst hsz
  have hD := hD0.self (sz := s.heap.size)
  generalize hAe : va_A [(h0, .inr (0, [.ref (q 0), .int 0, .int 108, .ref (q 1), .int 0, .ref (q 2), .int 0, .ref (q 3), .ref (q 4), .int 1, .ref (q 5), .ref (q 6), .ref (q 7), .ref (q 8), .ref (q 9)])), ((q 6), .inr (2, [.ref (w 0), .ref (w 1), .ref (w 2), .ref (w 3), .int 1, .int g0])), ((w 2), .inl (cJ, 64, .inr (.inl f))), ((q 0), .inl (cP, 60, .inr (.inr (.inr (.inr (fun _ => none))))))] s.heap.size = A at hD hE ⊢
  have hA : ∀ q : Nat, s.heap.size ≤ q → A q := fun q h => by rw [← hAe]; exact Or.inr h
  have hS : va_S A s.heap s.heap [] := va_S.rf
  have hP : va_P D pv_cl [(h0, .inr (0, [.ref (q 0), .int 0, .int 108, .ref (q 1), .int 0, .ref (q 2), .int 0, .ref (q 3), .ref (q 4), .int 1, .ref (q 5), .ref (q 6), .ref (q 7), .ref (q 8), .ref (q 9)])), ((q 6), .inr (2, [.ref (w 0), .ref (w 1), .ref (w 2), .ref (w 3), .int 1, .int g0])), ((w 2), .inl (cJ, 64, .inr (.inl f))), ((q 0), .inl (cP, 60, .inr (.inr (.inr (.inr (fun _ => none))))))] s.heap := hP
  have hl := lv_entry ([.ref h0]) (n := 3) (Nat.le_of_ble_eq_true rfl)
  rw [lg_entry_eq]
  generalize (lg_sl ([.ref h0]) ++ List.replicate (3 - (lg_sl ([.ref h0])).length) Slot.unset).toArray = ls at hl ⊢
  have hl : lv_has ls 3 [(0, .ref h0)] := hl
  refine lv_iconst (v := 0) hx hb dX11_keep_0 (by decide) ?_
  refine lv_istore_n (lv' := [(1, .int 0), (0, .ref h0)]) hx hb dX11_keep_1 rfl hl (by decide) rfl (fun ls hl => ?_)
  refine lv_iload_n hx hb dX11_keep_2 rfl (lv_at hl 0 rfl) ?_
  refine lv_aload_n hx hb dX11_keep_3 rfl (lv_at hl 1 rfl) ?_
  refine va_get (own := RX11) (D := D) (ci := 0) (v := .int 0) (C := RX11) (T := TX11) (N := 15) hx hb hts inF11 hown hK hP 0 rfl rfl 1 (by decide) (hg w2_38 rfl) (fun _ h9 => h9) rfl dX11_keep_4 ?_
  refine lv_icmp_ge (tgt := 56) hx hb dX11_keep_7 (by decide) (fun _ => ?_) (fun c_1 => absurd (by decide) c_1)
  refine lv_aload_n hx hb dX11_keep_56 rfl (lv_at hl 1 rfl) ?_
  refine va_get (own := RX11) (D := D) (ci := 0) (v := .int 0) (C := RX11) (T := TX11) (N := 15) hx hb hts inF11 hown hK hP 0 rfl rfl 1 (by decide) (hg w2_38 rfl) (fun _ h9 => h9) rfl dX11_keep_57 ?_
  refine lv_bipush (v := 60) hx hb dX11_keep_60 (by decide) ?_
  refine lv_icmp_lt (tgt := 76) hx hb dX11_keep_62 (by decide) (fun _ => ?_) (fun c_2 => absurd (by decide) c_2)
  refine lv_aload_n hx hb dX11_keep_76 rfl (lv_at hl 1 rfl) ?_
  refine va_get (own := RX11) (D := D) (ci := 0) (v := .ref (q 0)) (C := RX11) (T := TX11) (N := 15) hx hb hts inF11 hown hK hP 0 rfl rfl 0 (by decide) (hg w2_37 rfl) (fun _ h9 => h9) rfl dX11_keep_77 ?_
  refine lv_aload_n hx hb dX11_keep_80 rfl (lv_at hl 1 rfl) ?_
  refine va_get (own := RX11) (D := D) (ci := 0) (v := .int 0) (C := RX11) (T := TX11) (N := 15) hx hb hts inF11 hown hK hP 0 rfl rfl 1 (by decide) (hg w2_38 rfl) (fun _ h9 => h9) rfl dX11_keep_81 ?_
  refine va_new (own := RX11) (ci := 9) (fs := [.int 0, .null]) (C := RX7) (T := TX7) (N := 2) hx hb hts inF7 tyX7 tyX7_ok hown (hg w1_38 rfl) (hg w5_25 rfl) (hg w1_17 rfl) hK hP hD hS hA rfl (by decide +kernel) (Nat.le_of_ble_eq_true rfl) (Nat.le_of_ble_eq_true rfl) dX11_keep_84 (fun q_3 H hP hD hS => ?_)
  have hP : va_P D pv_cl [(h0, .inr (0, [.ref (q 0), .int 0, .int 108, .ref (q 1), .int 0, .ref (q 2), .int 0, .ref (q 3), .ref (q 4), .int 1, .ref (q 5), .ref (q 6), .ref (q 7), .ref (q 8), .ref (q 9)])), ((q 6), .inr (2, [.ref (w 0), .ref (w 1), .ref (w 2), .ref (w 3), .int 1, .int g0])), ((w 2), .inl (cJ, 64, .inr (.inl f))), ((q 0), .inl (cP, 60, .inr (.inr (.inr (.inr (fun _ => none)))))), (q_3, .inr (9, [.int 0, .null]))] _ := hP
  have hD : va_D A [(h0, .inr (0, [.ref (q 0), .int 0, .int 108, .ref (q 1), .int 0, .ref (q 2), .int 0, .ref (q 3), .ref (q 4), .int 1, .ref (q 5), .ref (q 6), .ref (q 7), .ref (q 8), .ref (q 9)])), ((q 6), .inr (2, [.ref (w 0), .ref (w 1), .ref (w 2), .ref (w 3), .int 1, .int g0])), ((w 2), .inl (cJ, 64, .inr (.inl f))), ((q 0), .inl (cP, 60, .inr (.inr (.inr (.inr (fun _ => none)))))), (q_3, .inr (9, [.int 0, .null]))] := hD
  refine W.widen (k := 1) (n := 2) (Nat.le_of_ble_eq_true rfl) (Nat.le_of_ble_eq_true rfl) ?_
  refine lv_dup hx hb dX11_keep_87 rfl ?_
  refine lv_aload_n hx hb dX11_keep_88 rfl (lv_at hl 1 rfl) ?_
  refine va_get (own := RX11) (D := D) (ci := 0) (v := .ref (q 6)) (C := RX11) (T := TX11) (N := 15) hx hb hts inF11 hown hK hP 0 rfl rfl 11 (by decide) (hg w2_48 rfl) (fun _ h9 => h9) rfl dX11_keep_89 ?_
  refine va_getN (own := RX11) (D := D) (ci := 2) (v := .int g0) (C := RX9) (T := TX9) (N := 6) hx hb hts inF9 hown hK hP 1 rfl rfl 5 (by decide) (va_Nw.use rfl (hE.2.2.1 _ (pv_ib w1_59 rfl))) (fun _ h9 => h9) rfl dX11_keep_92 ?_
  refine lv_aload_n hx hb dX11_keep_95 rfl (lv_at hl 1 rfl) ?_
  refine va_get (own := RX11) (D := D) (ci := 0) (v := .ref (q 6)) (C := RX11) (T := TX11) (N := 15) hx hb hts inF11 hown hK hP 0 rfl rfl 11 (by decide) (hg w2_48 rfl) (fun _ h9 => h9) rfl dX11_keep_96 ?_
  have hF := va_free (wc := [((q 6), .inr (2, [.ref (w 0), .ref (w 1), .ref (w 2), .ref (w 3), .int 1, .int g0])), ((w 2), .inl (cJ, 64, .inr (.inl f)))]) hD hS hA [1, 2] rfl
  refine va_callr (va_runV (As := []) (rest := [.int g0, .ref q_3, .ref q_3, .int 0, .ref (q 0)]) ⟨hx, hb, hml, hown, hts⟩ (c_X9_listed_1 l hfl D _ (q 6) w cJ f g0) (cwV 0 hts (pv_gV w5_26 w5_27 w5_28 w1_2 w5_29) rfl rfl rfl (by decide +kernel) ⟨Nat.le_of_ble_eq_true rfl, Nat.le_of_ble_eq_true rfl⟩) (pv_pV hE hS hF (hP.sub [1, 2] rfl) (hK.sub [0] rfl) (hD.sub [1, 2] (by decide) rfl) (va_recv (ci := 2) (q0 := 1) hK hP rfl rfl)) rfl rfl hl.1 rfl (lv_room (Nat.le_of_ble_eq_true rfl)) dX11_keep_99 ⟨Nat.le_of_ble_eq_true rfl, Nat.le_of_ble_eq_true rfl⟩) hS (fun q _ h => hF q h) hF (fun u ra_3 t H1 locs1 ht hvm hw hB hz1 hk1 hS => ?_)
  refine W.widen (k := 2) (n := 3) (Nat.le_of_ble_eq_true rfl) (Nat.le_of_ble_eq_true rfl) ?_
  obtain ⟨hP, hD⟩ := va_join (wr := [(h0, .inr (0, [.ref (q 0), .int 0, .int 108, .ref (q 1), .int 0, .ref (q 2), .int 0, .ref (q 3), .ref (q 4), .int 1, .ref (q 5), .ref (q 6), .ref (q 7), .ref (q 8), .ref (q 9)])), ((q 0), .inl (cP, 60, .inr (.inr (.inr (.inr (fun _ => none)))))), (q_3, .inr (9, [.int 0, .null]))]) (w1 := []) hP hD [1, 2] [0, 3, 4] rfl rfl (by decide) (by decide) hk1 hF pv_P0 pv_D0
  have hP : va_P D pv_cl [(h0, .inr (0, [.ref (q 0), .int 0, .int 108, .ref (q 1), .int 0, .ref (q 2), .int 0, .ref (q 3), .ref (q 4), .int 1, .ref (q 5), .ref (q 6), .ref (q 7), .ref (q 8), .ref (q 9)])), ((q 0), .inl (cP, 60, .inr (.inr (.inr (.inr (fun _ => none)))))), (q_3, .inr (9, [.int 0, .null]))] _ := hP
  have hD : va_D A [(h0, .inr (0, [.ref (q 0), .int 0, .int 108, .ref (q 1), .int 0, .ref (q 2), .int 0, .ref (q 3), .ref (q 4), .int 1, .ref (q 5), .ref (q 6), .ref (q 7), .ref (q 8), .ref (q 9)])), ((q 0), .inl (cP, 60, .inr (.inr (.inr (.inr (fun _ => none)))))), (q_3, .inr (9, [.int 0, .null]))] := hD
  have hF := va_free (wc := [(q_3, .inr (9, [.int 0, .null]))]) hD hS hA [2] rfl
  refine va_callv (va_runI (As := [.int g0, .ref ra_3]) (rest := [.ref q_3, .int 0, .ref (q 0)]) ⟨hx, hb, hml, hown, hts⟩ (c_X7_init l hfl D _ q_3 0 .null g0 ra_3) (cwI 2 hts (pv_gC w5_34) rfl rfl rfl (hg w1_17 rfl) (hg w5_32 rfl) (hg w5_33 rfl) rfl (by decide +kernel) ⟨Nat.le_of_ble_eq_true rfl, Nat.le_of_ble_eq_true rfl⟩) (pv_ps hE hS hF (hP.sub [2] rfl) (hK.sub [] rfl) (hD.sub [2] (by decide) rfl)) rfl rfl hl.1 rfl (lv_room (Nat.le_of_ble_eq_true rfl)) dX11_keep_102 ⟨Nat.le_of_ble_eq_true rfl, Nat.le_of_ble_eq_true rfl⟩) hS (fun q _ h => hF q h) hF (fun u t H1 locs1 ht hvm hw hB hz1 hk1 hS => ?_)
  refine W.widen (k := 2) (n := 3) (Nat.le_of_ble_eq_true rfl) (Nat.le_of_ble_eq_true rfl) ?_
  obtain ⟨hP1, hK1, hD1⟩ := hB
  rw [ht] at hP1
  have hK1 := va_K.moved hvm.symm hK1
  obtain ⟨hP, hD⟩ := va_join (wr := [(h0, .inr (0, [.ref (q 0), .int 0, .int 108, .ref (q 1), .int 0, .ref (q 2), .int 0, .ref (q 3), .ref (q 4), .int 1, .ref (q 5), .ref (q 6), .ref (q 7), .ref (q 8), .ref (q 9)])), ((q 0), .inl (cP, 60, .inr (.inr (.inr (.inr (fun _ => none))))))]) (w1 := [(q_3, .inr (9, [.int g0, .ref ra_3]))]) hP hD [2] [0, 1] rfl rfl (by decide) (by decide) hk1 hF hP1 hD1
  have hP : va_P D pv_cl [(h0, .inr (0, [.ref (q 0), .int 0, .int 108, .ref (q 1), .int 0, .ref (q 2), .int 0, .ref (q 3), .ref (q 4), .int 1, .ref (q 5), .ref (q 6), .ref (q 7), .ref (q 8), .ref (q 9)])), ((q 0), .inl (cP, 60, .inr (.inr (.inr (.inr (fun _ => none)))))), (q_3, .inr (9, [.int g0, .ref ra_3]))] _ := hP
  have hD : va_D A [(h0, .inr (0, [.ref (q 0), .int 0, .int 108, .ref (q 1), .int 0, .ref (q 2), .int 0, .ref (q 3), .ref (q 4), .int 1, .ref (q 5), .ref (q 6), .ref (q 7), .ref (q 8), .ref (q 9)])), ((q 0), .inl (cP, 60, .inr (.inr (.inr (.inr (fun _ => none)))))), (q_3, .inr (9, [.int g0, .ref ra_3]))] := hD
  refine va_astq hx hb hK hP hD hS 1 1 2 9 rfl rfl rfl rfl (by unfold vp_in; decide) dX11_keep_105 (fun H locs hP hD hS => ?_)
  have hP : va_P D pv_cl [(h0, .inr (0, [.ref (q 0), .int 0, .int 108, .ref (q 1), .int 0, .ref (q 2), .int 0, .ref (q 3), .ref (q 4), .int 1, .ref (q 5), .ref (q 6), .ref (q 7), .ref (q 8), .ref (q 9)])), ((q 0), .inl (cP, 60, .inr (.inr (.inr (.inr (va_up (fun _ => none) (0 : Int32).toNatClampNeg (some q_3))))))), (q_3, .inr (9, [.int g0, .ref ra_3]))] _ := hP
  have hD : va_D A [(h0, .inr (0, [.ref (q 0), .int 0, .int 108, .ref (q 1), .int 0, .ref (q 2), .int 0, .ref (q 3), .ref (q 4), .int 1, .ref (q 5), .ref (q 6), .ref (q 7), .ref (q 8), .ref (q 9)])), ((q 0), .inl (cP, 60, .inr (.inr (.inr (.inr (va_up (fun _ => none) (0 : Int32).toNatClampNeg (some q_3))))))), (q_3, .inr (9, [.int g0, .ref ra_3]))] := hD
  refine lv_aload_n hx hb dX11_keep_106 rfl (lv_at hl 1 rfl) ?_
  refine lv_dup hx hb dX11_keep_107 rfl ?_
  refine va_get (own := RX11) (D := D) (ci := 0) (v := .int 0) (C := RX11) (T := TX11) (N := 15) hx hb hts inF11 hown hK hP 0 rfl rfl 1 (by decide) (hg w2_38 rfl) (fun _ h9 => h9) rfl dX11_keep_108 ?_
  refine lv_dup_x1 hx hb dX11_keep_111 rfl rfl ?_
  refine lv_iconst (v := 1) hx hb dX11_keep_112 (by decide) ?_
  refine lv_iadd hx hb dX11_keep_113 ?_
  refine pv_setI 1 (by decide) ?_
  refine va_put (own := RX11) (D := D) (ci := 0) (v := .int 1) (ty := .int) (C := RX11) (T := TX11) (N := 15) hx hb hts inF11 tyX11 tyX11_ok nmX11 hown hK hP hD hS 0 rfl rfl 1 (by decide) (hg w2_38 rfl) (fun _ h9 => h9) rfl (by decide +kernel) rfl rfl (Nat.le_of_ble_eq_true rfl) dX11_keep_114 (fun H locs hP hD hS => ?_)
  have hP : va_P D pv_cl [(h0, .inr (0, [.ref (q 0), .int 1, .int 108, .ref (q 1), .int 0, .ref (q 2), .int 0, .ref (q 3), .ref (q 4), .int 1, .ref (q 5), .ref (q 6), .ref (q 7), .ref (q 8), .ref (q 9)])), ((q 0), .inl (cP, 60, .inr (.inr (.inr (.inr (va_up (fun _ => none) (0 : Int32).toNatClampNeg (some q_3))))))), (q_3, .inr (9, [.int g0, .ref ra_3]))] _ := hP
  have hD : va_D A [(h0, .inr (0, [.ref (q 0), .int 1, .int 108, .ref (q 1), .int 0, .ref (q 2), .int 0, .ref (q 3), .ref (q 4), .int 1, .ref (q 5), .ref (q 6), .ref (q 7), .ref (q 8), .ref (q 9)])), ((q 0), .inl (cP, 60, .inr (.inr (.inr (.inr (va_up (fun _ => none) (0 : Int32).toNatClampNeg (some q_3))))))), (q_3, .inr (9, [.int g0, .ref ra_3]))] := hD
  refine vx_ret ?_
  refine W.widen (k := 2) (n := 3) (Nat.le_of_ble_eq_true rfl) (Nat.le_of_ble_eq_true rfl) ?_
  exact W.iret (v := 0) hx hb hr (fun t ht hW => ⟨⟨0, (), rfl, rfl, trivial⟩, hS.F ht⟩) hS.2.2 dX11_keep_117

theorem dX11_constant_0 : decode cX11_constant 0 = .ok (.iload_n 1, 1) := by decide +kernel
theorem dX11_constant_1 : decode cX11_constant 1 = .ok (.invokestatic 81, 3) := by decide +kernel
theorem w4_145 : (Jvm.Cond.methodLink "Polyforge" (81 : Nat) ({ cls := "Polyforge", name := "requireGround", desc := "(I)V" } : Jvm.MethodName)) ∈ lw_tbl := pv_t4 (pv_mg 145 rfl)
theorem w4_147 : (Jvm.Cond.code ({ cls := "Polyforge", name := "requireGround", desc := "(I)V" } : Jvm.MethodName) prog_1_method_55_code (1 : Nat) (Option.none : Option Jvm.ClassFile.FieldType)) ∈ lw_tbl := pv_t4 (pv_mg 147 rfl)
theorem w4_146 : (Jvm.Cond.static ({ cls := "Polyforge", name := "requireGround", desc := "(I)V" } : Jvm.MethodName)) ∈ lw_tbl := pv_t4 (pv_mg 146 rfl)
theorem dX11_constant_4 : decode cX11_constant 4 = .ok (.aload_n 0, 1) := by decide +kernel
theorem dX11_constant_5 : decode cX11_constant 5 = .ok (.getfield 58, 3) := by decide +kernel
theorem dX11_constant_8 : decode cX11_constant 8 = .ok (.iload_n 1, 1) := by decide +kernel
theorem dX11_constant_9 : decode cX11_constant 9 = .ok (.invokevirtual 85, 3) := by decide +kernel
theorem w4_223 : (Jvm.Cond.methodLink "Polyforge" (85 : Nat) ({ cls := "Polyforge$Slate", name := "begin", desc := "(I)V" } : Jvm.MethodName)) ∈ lw_tbl := pv_t4 (pv_mg 223 rfl)
theorem w4_226 : (Jvm.Cond.code ({ cls := "Polyforge$Slate", name := "begin", desc := "(I)V" } : Jvm.MethodName) prog_11_method_2_code (2 : Nat) (Option.none : Option Jvm.ClassFile.FieldType)) ∈ lw_tbl := pv_t4 (pv_mg 226 rfl)
theorem w4_225 : (Jvm.Cond.selects "Polyforge$Slate" ({ cls := "Polyforge$Slate", name := "begin", desc := "(I)V" } : Jvm.MethodName) ({ cls := "Polyforge$Slate", name := "begin", desc := "(I)V" } : Jvm.MethodName)) ∈ lw_tbl := pv_t4 (pv_mg 225 rfl)
theorem w4_224 : (Jvm.Cond.instanceMethod ({ cls := "Polyforge$Slate", name := "begin", desc := "(I)V" } : Jvm.MethodName)) ∈ lw_tbl := pv_t4 (pv_mg 224 rfl)
theorem dX11_constant_12 : decode cX11_constant 12 = .ok (.aload_n 0, 1) := by decide +kernel
theorem dX11_constant_13 : decode cX11_constant 13 = .ok (.getfield 58, 3) := by decide +kernel
theorem dX11_constant_16 : decode cX11_constant 16 = .ok (.iload_n 2, 1) := by decide +kernel
theorem dX11_constant_17 : decode cX11_constant 17 = .ok (.i2l, 1) := by decide +kernel
theorem dX11_constant_18 : decode cX11_constant 18 = .ok (.iconst 0, 1) := by decide +kernel
theorem dX11_constant_19 : decode cX11_constant 19 = .ok (.invokevirtual 88, 3) := by decide +kernel
theorem w4_227 : (Jvm.Cond.methodLink "Polyforge" (88 : Nat) ({ cls := "Polyforge$Slate", name := "put", desc := "(JI)Z" } : Jvm.MethodName)) ∈ lw_tbl := pv_t4 (pv_mg 227 rfl)
theorem w4_230 : (Jvm.Cond.code ({ cls := "Polyforge$Slate", name := "put", desc := "(JI)Z" } : Jvm.MethodName) prog_11_method_10_code (6 : Nat) (Option.some Jvm.ClassFile.FieldType.boolean)) ∈ lw_tbl := pv_t4 (pv_mg 230 rfl)
theorem w4_229 : (Jvm.Cond.selects "Polyforge$Slate" ({ cls := "Polyforge$Slate", name := "put", desc := "(JI)Z" } : Jvm.MethodName) ({ cls := "Polyforge$Slate", name := "put", desc := "(JI)Z" } : Jvm.MethodName)) ∈ lw_tbl := pv_t4 (pv_mg 229 rfl)
theorem w4_228 : (Jvm.Cond.instanceMethod ({ cls := "Polyforge$Slate", name := "put", desc := "(JI)Z" } : Jvm.MethodName)) ∈ lw_tbl := pv_t4 (pv_mg 228 rfl)
theorem dX11_constant_22 : decode cX11_constant 22 = .ok (.pop, 1) := by decide +kernel
theorem dX11_constant_23 : decode cX11_constant 23 = .ok (.aload_n 0, 1) := by decide +kernel
theorem dX11_constant_24 : decode cX11_constant 24 = .ok (.invokevirtual 92, 3) := by decide +kernel
theorem w5_5 : (Jvm.Cond.methodLink "Polyforge" (92 : Nat) ({ cls := "Polyforge", name := "keep", desc := "()I" } : Jvm.MethodName)) ∈ lw_tbl := pv_t5 (pv_mg 5 rfl)
theorem w5_8 : (Jvm.Cond.code ({ cls := "Polyforge", name := "keep", desc := "()I" } : Jvm.MethodName) prog_1_method_81_code (3 : Nat) (Option.some Jvm.ClassFile.FieldType.int)) ∈ lw_tbl := pv_t5 (pv_mg 8 rfl)
theorem wp3_12 : Cond.selects "Polyforge" ⟨"Polyforge", "keep", "()I"⟩ ⟨"Polyforge", "keep", "()I"⟩ ∈ lw_tbl := pv_mg 44 rfl
theorem w5_7 : (Jvm.Cond.instanceMethod ({ cls := "Polyforge", name := "keep", desc := "()I" } : Jvm.MethodName)) ∈ lw_tbl := pv_t5 (pv_mg 7 rfl)
theorem dX11_constant_27 : decode cX11_constant 27 = .ok (.ireturn, 1) := by decide +kernel
set_option maxHeartbeats 4000000 in
set_option maxRecDepth 100000 in
/-- constant on a fresh object -/
theorem c_X11_constant (l : Launch) (hfl : l.stackTraces = false) (D : va_G) (sz : Nat) (h0 : Nat) (q w : Nat → Nat) (cJ cP : ClassId) (f : Nat → Int64) (p0 p1 : Int32) : vx_Met l yX11_constant (Cond.code yX11_constant cX11_constant 3 (some .int) :: pv_W) ({ frames := 8, cells := 3, slots := 9, locals := 124 } : Room) (va_Pc [.ref h0, .int p0, .int p1] (pv_P D [(cJ, .long), (cP, .object "Polyforge$Polynomial")] [(h0, .inr (0, [.ref (q 0), .int 0, .int 108, .ref (q 1), .int 0, .ref (q 2), .int 0, .ref (q 3), .ref (q 4), .int 1, .ref (q 5), .ref (q 6), .ref (q 7), .ref (q 8), .ref (q 9)])), ((q 6), .inr (2, [.ref (w 0), .ref (w 1), .ref (w 2), .ref (w 3), .int 0, .int 0])), ((w 2), .inl (cJ, 64, .inr (.inl f))), ((q 0), .inl (cP, 60, .inr (.inr (.inr (.inr (fun _ => none))))))] (va_A [(h0, .inr (0, [.ref (q 0), .int 0, .int 108, .ref (q 1), .int 0, .ref (q 2), .int 0, .ref (q 3), .ref (q 4), .int 1, .ref (q 5), .ref (q 6), .ref (q 7), .ref (q 8), .ref (q 9)])), ((q 6), .inr (2, [.ref (w 0), .ref (w 1), .ref (w 2), .ref (w 3), .int 0, .int 0])), ((w 2), .inl (cJ, 64, .inr (.inl f))), ((q 0), .inl (cP, 60, .inr (.inr (.inr (.inr (fun _ => none))))))] sz) sz)) (va_Qi (fun r (_ : Unit) => r = 0 ∧ (p0 = 0 ∨ pv_pr p0)) (fun _ _ => True) (va_A [(h0, .inr (0, [.ref (q 0), .int 0, .int 108, .ref (q 1), .int 0, .ref (q 2), .int 0, .ref (q 3), .ref (q 4), .int 1, .ref (q 5), .ref (q 6), .ref (q 7), .ref (q 8), .ref (q 9)])), ((q 6), .inr (2, [.ref (w 0), .ref (w 1), .ref (w 2), .ref (w 3), .int 0, .int 0])), ((w 2), .inl (cJ, 64, .inr (.inl f))), ((q 0), .inl (cP, 60, .inr (.inr (.inr (.inr (fun _ => none))))))] sz)) (vx_X (fun _ : Unit => True) (fun E _ _ => E = "java/lang/IllegalArgumentException" ∧ ¬ (p0 = 0 ∨ pv_pr p0)) (va_A [(h0, .inr (0, [.ref (q 0), .int 0, .int 108, .ref (q 1), .int 0, .ref (q 2), .int 0, .ref (q 3), .ref (q 4), .int 1, .ref (q 5), .ref (q 6), .ref (q 7), .ref (q 8), .ref (q 9)])), ((q 6), .inr (2, [.ref (w 0), .ref (w 1), .ref (w 2), .ref (w 3), .int 0, .int 0])), ((w 2), .inl (cJ, 64, .inr (.inl f))), ((q 0), .inl (cP, 60, .inr (.inr (.inr (.inr (fun _ => none))))))] sz)) 3 9 (va_A [(h0, .inr (0, [.ref (q 0), .int 0, .int 108, .ref (q 1), .int 0, .ref (q 2), .int 0, .ref (q 3), .ref (q 4), .int 1, .ref (q 5), .ref (q 6), .ref (q 7), .ref (q 8), .ref (q 9)])), ((q 6), .inr (2, [.ref (w 0), .ref (w 1), .ref (w 2), .ref (w 3), .int 0, .int 0])), ((w 2), .inl (cJ, 64, .inr (.inl f))), ((q 0), .inl (cP, 60, .inr (.inr (.inr (.inr (fun _ => none))))))] sz) := by
  refine vx_ofW (cc := cX11_constant) (maxL := 3) (ret := (some .int)) (by decide) rfl ?_
  intro p e s m args below meth c s₁ B hml hnt hv
  obtain ⟨rfl, hsz, hE, hP, hK, hD0⟩ := hv
  have hx := B.exec
  have hb := B.bytes
  have hr := B.returns
  have hts := fun (w : Cond) (h : w ∈ pv_W) => atoms_spec (ws := Cond.code yX11_constant cX11_constant 3 (some .int) :: pv_W) B.pre w (List.mem_cons_of_mem _ h)
  have hg := fun {w : Cond} (h : w ∈ lw_tbl) (g : goodWord w = true) => hts w (pv_in h g)
  have hown : s.vm.findClass RX11 = some m.cls := findClass_of_methodNamed B.named
  have hlocks := B.notSynchronized
  subst hsz
  have hD := hD0.self (sz := s.heap.size)
  generalize hAe : va_A [(h0, .inr (0, [.ref (q 0), .int 0, .int 108, .ref (q 1), .int 0, .ref (q 2), .int 0, .ref (q 3), .ref (q 4), .int 1, .ref (q 5), .ref (q 6), .ref (q 7), .ref (q 8), .ref (q 9)])), ((q 6), .inr (2, [.ref (w 0), .ref (w 1), .ref (w 2), .ref (w 3), .int 0, .int 0])), ((w 2), .inl (cJ, 64, .inr (.inl f))), ((q 0), .inl (cP, 60, .inr (.inr (.inr (.inr (fun _ => none))))))] s.heap.size = A at hD hE ⊢
  have hA : ∀ q : Nat, s.heap.size ≤ q → A q := fun q h => by rw [← hAe]; exact Or.inr h
  have hS : va_S A s.heap s.heap [] := va_S.rf
  have hP : va_P D pv_cl [(h0, .inr (0, [.ref (q 0), .int 0, .int 108, .ref (q 1), .int 0, .ref (q 2), .int 0, .ref (q 3), .ref (q 4), .int 1, .ref (q 5), .ref (q 6), .ref (q 7), .ref (q 8), .ref (q 9)])), ((q 6), .inr (2, [.ref (w 0), .ref (w 1), .ref (w 2), .ref (w 3), .int 0, .int 0])), ((w 2), .inl (cJ, 64, .inr (.inl f))), ((q 0), .inl (cP, 60, .inr (.inr (.inr (.inr (fun _ => none))))))] s.heap := hP
  have hl := lv_entry ([.ref h0, .int p0, .int p1]) (n := 3) (Nat.le_of_ble_eq_true rfl)
  rw [lg_entry_eq]
  generalize (lg_sl ([.ref h0, .int p0, .int p1]) ++ List.replicate (3 - (lg_sl ([.ref h0, .int p0, .int p1])).length) Slot.unset).toArray = ls at hl ⊢
  have hl : lv_has ls 3 [(0, .ref h0), (1, .int p0), (2, .int p1)] := hl
  refine lv_iload_n hx hb dX11_constant_0 rfl (lv_at hl 1 rfl) ?_
  have hF := pv_new hA hS.1
  refine vx_callv (vx_runS (As := [.int p0]) (rest := []) ⟨hx, hb, hml, hown, hts⟩ (c_X11_requireGround l hfl D _ p0) (va_cwS 1 hts (pv_gS w4_145 w4_146 w1_1 w4_147) rfl rfl rfl (by decide +kernel) ⟨Nat.le_of_ble_eq_true rfl, Nat.le_of_ble_eq_true rfl⟩) (pv_ps hE hS hF (hP.sub [] rfl) (hK.sub [] rfl) (hD.sub [] (by decide) rfl)) rfl rfl hl.1 rfl (lv_room (Nat.le_of_ble_eq_true rfl)) dX11_constant_1 ⟨Nat.le_of_ble_eq_true rfl, Nat.le_of_ble_eq_true rfl⟩) hS (fun q _ h => hF q h) hF (fun q _ h => hF q h) (fun E ce q9 u t H1 locs1 ht hvm hpx hbx hz1 hk1 hS hce hcv hcl => ?_) (fun u t H1 locs1 ht hvm hw hB hz1 hk1 hS => ?_)
  · exact vx_out (fun x h9 => absurd (hnt x h9) id) hlocks hce hcv hcl (fun t ht hvm => ⟨(), trivial, hbx, hS.F ht⟩) hS.2.2 (Nat.le_of_ble_eq_true rfl) (Nat.le_of_ble_eq_true rfl)
  · refine W.widen (k := 1) (n := 6) (Nat.le_of_ble_eq_true rfl) (Nat.le_of_ble_eq_true rfl) ?_
    have hP := pv_keep hP rfl hk1
    have a_2 := hw
    refine lv_aload_n hx hb dX11_constant_4 rfl (lv_at hl 0 rfl) ?_
    refine va_get (own := RX11) (D := D) (ci := 0) (v := .ref (q 6)) (C := RX11) (T := TX11) (N := 15) hx hb hts inF11 hown hK hP 0 rfl rfl 11 (by decide) (hg w2_48 rfl) (fun _ h9 => h9) rfl dX11_constant_5 ?_
    refine lv_iload_n hx hb dX11_constant_8 rfl (lv_at hl 1 rfl) ?_
    have hF := va_free (wc := [((q 6), .inr (2, [.ref (w 0), .ref (w 1), .ref (w 2), .ref (w 3), .int 0, .int 0]))]) hD hS hA [1] rfl
    refine va_callv (va_runV (As := [.int p0]) (rest := []) ⟨hx, hb, hml, hown, hts⟩ (c_X9_begin l hfl D _ (q 6) w p0) (cwV 1 hts (pv_gV w4_223 w4_224 w4_225 w1_2 w4_226) rfl rfl rfl (by decide +kernel) ⟨Nat.le_of_ble_eq_true rfl, Nat.le_of_ble_eq_true rfl⟩) (pv_pV hE hS hF (hP.sub [1] rfl) (hK.sub [] rfl) (hD.sub [1] (by decide) rfl) (va_recv (ci := 2) (q0 := 1) hK hP rfl rfl)) rfl rfl hl.1 rfl (lv_room (Nat.le_of_ble_eq_true rfl)) dX11_constant_9 ⟨Nat.le_of_ble_eq_true rfl, Nat.le_of_ble_eq_true rfl⟩) hS (fun q _ h => hF q h) hF (fun u t H1 locs1 ht hvm hw hB hz1 hk1 hS => ?_)
    refine W.widen (k := 1) (n := 6) (Nat.le_of_ble_eq_true rfl) (Nat.le_of_ble_eq_true rfl) ?_
    obtain ⟨hP1, hK1, hD1⟩ := hB
    rw [ht] at hP1
    have hK1 := va_K.moved hvm.symm hK1
    obtain ⟨hP, hD⟩ := va_join (wr := [(h0, .inr (0, [.ref (q 0), .int 0, .int 108, .ref (q 1), .int 0, .ref (q 2), .int 0, .ref (q 3), .ref (q 4), .int 1, .ref (q 5), .ref (q 6), .ref (q 7), .ref (q 8), .ref (q 9)])), ((w 2), .inl (cJ, 64, .inr (.inl f))), ((q 0), .inl (cP, 60, .inr (.inr (.inr (.inr (fun _ => none))))))]) (w1 := [((q 6), .inr (2, [.ref (w 0), .ref (w 1), .ref (w 2), .ref (w 3), .int 0, .int p0]))]) hP hD [1] [0, 2, 3] rfl rfl (by decide) (by decide) hk1 hF hP1 hD1
    have hP : va_P D pv_cl [(h0, .inr (0, [.ref (q 0), .int 0, .int 108, .ref (q 1), .int 0, .ref (q 2), .int 0, .ref (q 3), .ref (q 4), .int 1, .ref (q 5), .ref (q 6), .ref (q 7), .ref (q 8), .ref (q 9)])), ((w 2), .inl (cJ, 64, .inr (.inl f))), ((q 0), .inl (cP, 60, .inr (.inr (.inr (.inr (fun _ => none)))))), ((q 6), .inr (2, [.ref (w 0), .ref (w 1), .ref (w 2), .ref (w 3), .int 0, .int p0]))] _ := hP
    have hD : va_D A [(h0, .inr (0, [.ref (q 0), .int 0, .int 108, .ref (q 1), .int 0, .ref (q 2), .int 0, .ref (q 3), .ref (q 4), .int 1, .ref (q 5), .ref (q 6), .ref (q 7), .ref (q 8), .ref (q 9)])), ((w 2), .inl (cJ, 64, .inr (.inl f))), ((q 0), .inl (cP, 60, .inr (.inr (.inr (.inr (fun _ => none)))))), ((q 6), .inr (2, [.ref (w 0), .ref (w 1), .ref (w 2), .ref (w 3), .int 0, .int p0]))] := hD
    refine lv_aload_n hx hb dX11_constant_12 rfl (lv_at hl 0 rfl) ?_
    refine va_get (own := RX11) (D := D) (ci := 0) (v := .ref (q 6)) (C := RX11) (T := TX11) (N := 15) hx hb hts inF11 hown hK hP 0 rfl rfl 11 (by decide) (hg w2_48 rfl) (fun _ h9 => h9) rfl dX11_constant_13 ?_
    refine lv_iload_n hx hb dX11_constant_16 rfl (lv_at hl 2 rfl) ?_
    refine lv_i2l hx hb dX11_constant_17 rfl ?_
    refine lv_iconst (v := 0) hx hb dX11_constant_18 (by decide) ?_
    have hF := va_free (wc := [((q 6), .inr (2, [.ref (w 0), .ref (w 1), .ref (w 2), .ref (w 3), .int 0, .int p0])), ((w 2), .inl (cJ, 64, .inr (.inl f)))]) hD hS hA [3, 1] rfl
    refine va_calli (va_runV (As := [.long p1.toInt64, .int 0]) (rest := []) ⟨hx, hb, hml, hown, hts⟩ (c_X9_put l hfl D _ (q 6) w cJ f p0 p1.toInt64 0) (cwV 2 hts (pv_gV w4_227 w4_228 w4_229 w1_2 w4_230) rfl rfl rfl (by decide +kernel) ⟨Nat.le_of_ble_eq_true rfl, Nat.le_of_ble_eq_true rfl⟩) (pv_pV hE hS hF (hP.sub [3, 1] rfl) (hK.sub [0] rfl) (hD.sub [3, 1] (by decide) rfl) (va_recv (ci := 2) (q0 := 3) hK hP rfl rfl)) rfl rfl hl.1 rfl (lv_room (Nat.le_of_ble_eq_true rfl)) dX11_constant_19 ⟨Nat.le_of_ble_eq_true rfl, Nat.le_of_ble_eq_true rfl⟩) hS (fun q _ h => hF q h) hF (fun r_3 u t H1 locs1 ht hvm hw hB hz1 hk1 hS => ?_)
    refine W.widen (k := 1) (n := 6) (Nat.le_of_ble_eq_true rfl) (Nat.le_of_ble_eq_true rfl) ?_
    obtain ⟨n1, f1⟩ := u
    obtain ⟨hP1, hK1, hD1⟩ := hB
    rcases (show n1 = 0 ∨ n1 = 1 from hw) with rfl | rfl
    · rw [ht] at hP1
      have hK1 := va_K.moved hvm.symm hK1
      obtain ⟨hP, hD⟩ := va_join (wr := [(h0, .inr (0, [.ref (q 0), .int 0, .int 108, .ref (q 1), .int 0, .ref (q 2), .int 0, .ref (q 3), .ref (q 4), .int 1, .ref (q 5), .ref (q 6), .ref (q 7), .ref (q 8), .ref (q 9)])), ((q 0), .inl (cP, 60, .inr (.inr (.inr (.inr (fun _ => none))))))]) (w1 := [((q 6), .inr (2, [.ref (w 0), .ref (w 1), .ref (w 2), .ref (w 3), .int 0, .int p0])), ((w 2), .inl (cJ, 64, .inr (.inl f1)))]) hP hD [3, 1] [0, 2] rfl rfl (by decide) (by decide) hk1 hF hP1 hD1
      have hP : va_P D pv_cl [(h0, .inr (0, [.ref (q 0), .int 0, .int 108, .ref (q 1), .int 0, .ref (q 2), .int 0, .ref (q 3), .ref (q 4), .int 1, .ref (q 5), .ref (q 6), .ref (q 7), .ref (q 8), .ref (q 9)])), ((q 0), .inl (cP, 60, .inr (.inr (.inr (.inr (fun _ => none)))))), ((q 6), .inr (2, [.ref (w 0), .ref (w 1), .ref (w 2), .ref (w 3), .int 0, .int p0])), ((w 2), .inl (cJ, 64, .inr (.inl f1)))] _ := hP
      have hD : va_D A [(h0, .inr (0, [.ref (q 0), .int 0, .int 108, .ref (q 1), .int 0, .ref (q 2), .int 0, .ref (q 3), .ref (q 4), .int 1, .ref (q 5), .ref (q 6), .ref (q 7), .ref (q 8), .ref (q 9)])), ((q 0), .inl (cP, 60, .inr (.inr (.inr (.inr (fun _ => none)))))), ((q 6), .inr (2, [.ref (w 0), .ref (w 1), .ref (w 2), .ref (w 3), .int 0, .int p0])), ((w 2), .inl (cJ, 64, .inr (.inl f1)))] := hD
      refine lv_pop hx hb dX11_constant_22 rfl ?_
      refine lv_aload_n hx hb dX11_constant_23 rfl (lv_at hl 0 rfl) ?_
      have hF := va_free (wc := [(h0, .inr (0, [.ref (q 0), .int 0, .int 108, .ref (q 1), .int 0, .ref (q 2), .int 0, .ref (q 3), .ref (q 4), .int 1, .ref (q 5), .ref (q 6), .ref (q 7), .ref (q 8), .ref (q 9)])), ((q 6), .inr (2, [.ref (w 0), .ref (w 1), .ref (w 2), .ref (w 3), .int 0, .int p0])), ((w 2), .inl (cJ, 64, .inr (.inl f1))), ((q 0), .inl (cP, 60, .inr (.inr (.inr (.inr (fun _ => none))))))]) hD hS hA [0, 2, 3, 1] rfl
      refine vx_calli (vx_runV (As := []) (rest := []) ⟨hx, hb, hml, hown, hts⟩ (c_X11_keep_0 l hfl D _ h0 q w cJ cP f1 p0) (cwV 0 hts (pv_gV w5_5 w5_7 wp3_12 w1_1 w5_8) rfl rfl rfl (by decide +kernel) ⟨Nat.le_of_ble_eq_true rfl, Nat.le_of_ble_eq_true rfl⟩) (pv_pV hE hS hF (hP.sub [0, 2, 3, 1] rfl) (hK.sub [0, 1] rfl) (hD.sub [0, 2, 3, 1] (by decide) rfl) (va_recv (ci := 0) (q0 := 0) hK hP rfl rfl)) rfl rfl hl.1 rfl (lv_room (Nat.le_of_ble_eq_true rfl)) dX11_constant_24 ⟨Nat.le_of_ble_eq_true rfl, Nat.le_of_ble_eq_true rfl⟩) hS (fun q _ h => hF q h) hF (fun q _ h => hF q h) (fun E ce q9 u t H1 locs1 ht hvm hpx hbx hz1 hk1 hS hce hcv hcl => ?_) (fun r_4 u t H1 locs1 ht hvm hw hB hz1 hk1 hS => ?_)
      · exact vx_out (fun x h9 => absurd (hnt x h9) id) hlocks hce hcv hcl (fun t ht hvm => ⟨(), trivial, hbx.elim, hS.F ht⟩) hS.2.2 (Nat.le_of_ble_eq_true rfl) (Nat.le_of_ble_eq_true rfl)
      · refine W.widen (k := 3) (n := 8) (Nat.le_of_ble_eq_true rfl) (Nat.le_of_ble_eq_true rfl) ?_
        obtain rfl := hw
        refine vx_ret ?_
        refine W.widen (k := 3) (n := 9) (Nat.le_of_ble_eq_true rfl) (Nat.le_of_ble_eq_true rfl) ?_
        exact W.iret (v := 0) hx hb hr (fun t ht hW => ⟨⟨0, (), rfl, ⟨rfl, a_2⟩, trivial⟩, hS.F ht⟩) hS.2.2 dX11_constant_27
    · rw [ht] at hP1
      have hK1 := va_K.moved hvm.symm hK1
      obtain ⟨hP, hD⟩ := va_join (wr := [(h0, .inr (0, [.ref (q 0), .int 0, .int 108, .ref (q 1), .int 0, .ref (q 2), .int 0, .ref (q 3), .ref (q 4), .int 1, .ref (q 5), .ref (q 6), .ref (q 7), .ref (q 8), .ref (q 9)])), ((q 0), .inl (cP, 60, .inr (.inr (.inr (.inr (fun _ => none))))))]) (w1 := [((q 6), .inr (2, [.ref (w 0), .ref (w 1), .ref (w 2), .ref (w 3), .int 1, .int p0])), ((w 2), .inl (cJ, 64, .inr (.inl f1)))]) hP hD [3, 1] [0, 2] rfl rfl (by decide) (by decide) hk1 hF hP1 hD1
      have hP : va_P D pv_cl [(h0, .inr (0, [.ref (q 0), .int 0, .int 108, .ref (q 1), .int 0, .ref (q 2), .int 0, .ref (q 3), .ref (q 4), .int 1, .ref (q 5), .ref (q 6), .ref (q 7), .ref (q 8), .ref (q 9)])), ((q 0), .inl (cP, 60, .inr (.inr (.inr (.inr (fun _ => none)))))), ((q 6), .inr (2, [.ref (w 0), .ref (w 1), .ref (w 2), .ref (w 3), .int 1, .int p0])), ((w 2), .inl (cJ, 64, .inr (.inl f1)))] _ := hP
      have hD : va_D A [(h0, .inr (0, [.ref (q 0), .int 0, .int 108, .ref (q 1), .int 0, .ref (q 2), .int 0, .ref (q 3), .ref (q 4), .int 1, .ref (q 5), .ref (q 6), .ref (q 7), .ref (q 8), .ref (q 9)])), ((q 0), .inl (cP, 60, .inr (.inr (.inr (.inr (fun _ => none)))))), ((q 6), .inr (2, [.ref (w 0), .ref (w 1), .ref (w 2), .ref (w 3), .int 1, .int p0])), ((w 2), .inl (cJ, 64, .inr (.inl f1)))] := hD
      refine lv_pop hx hb dX11_constant_22 rfl ?_
      refine lv_aload_n hx hb dX11_constant_23 rfl (lv_at hl 0 rfl) ?_
      have hF := va_free (wc := [(h0, .inr (0, [.ref (q 0), .int 0, .int 108, .ref (q 1), .int 0, .ref (q 2), .int 0, .ref (q 3), .ref (q 4), .int 1, .ref (q 5), .ref (q 6), .ref (q 7), .ref (q 8), .ref (q 9)])), ((q 6), .inr (2, [.ref (w 0), .ref (w 1), .ref (w 2), .ref (w 3), .int 1, .int p0])), ((w 2), .inl (cJ, 64, .inr (.inl f1))), ((q 0), .inl (cP, 60, .inr (.inr (.inr (.inr (fun _ => none))))))]) hD hS hA [0, 2, 3, 1] rfl
      refine vx_calli (vx_runV (As := []) (rest := []) ⟨hx, hb, hml, hown, hts⟩ (c_X11_keep_1 l hfl D _ h0 q w cJ cP f1 p0) (cwV 0 hts (pv_gV w5_5 w5_7 wp3_12 w1_1 w5_8) rfl rfl rfl (by decide +kernel) ⟨Nat.le_of_ble_eq_true rfl, Nat.le_of_ble_eq_true rfl⟩) (pv_pV hE hS hF (hP.sub [0, 2, 3, 1] rfl) (hK.sub [0, 1] rfl) (hD.sub [0, 2, 3, 1] (by decide) rfl) (va_recv (ci := 0) (q0 := 0) hK hP rfl rfl)) rfl rfl hl.1 rfl (lv_room (Nat.le_of_ble_eq_true rfl)) dX11_constant_24 ⟨Nat.le_of_ble_eq_true rfl, Nat.le_of_ble_eq_true rfl⟩) hS (fun q _ h => hF q h) hF (fun q _ h => hF q h) (fun E ce q9 u t H1 locs1 ht hvm hpx hbx hz1 hk1 hS hce hcv hcl => ?_) (fun r_5 u t H1 locs1 ht hvm hw hB hz1 hk1 hS => ?_)
      · exact vx_out (fun x h9 => absurd (hnt x h9) id) hlocks hce hcv hcl (fun t ht hvm => ⟨(), trivial, hbx.elim, hS.F ht⟩) hS.2.2 (Nat.le_of_ble_eq_true rfl) (Nat.le_of_ble_eq_true rfl)
      · refine W.widen (k := 3) (n := 9) (Nat.le_of_ble_eq_true rfl) (Nat.le_of_ble_eq_true rfl) ?_
        obtain rfl := hw
        refine vx_ret ?_
        refine W.widen (k := 3) (n := 9) (Nat.le_of_ble_eq_true rfl) (Nat.le_of_ble_eq_true rfl) ?_
        exact W.iret (v := 0) hx hb hr (fun t ht hW => ⟨⟨0, (), rfl, ⟨rfl, a_2⟩, trivial⟩, hS.F ht⟩) hS.2.2 dX11_constant_27

theorem dX11_variable_0 : decode cX11_variable 0 = .ok (.iload_n 1, 1) := by decide +kernel
theorem dX11_variable_1 : decode cX11_variable 1 = .ok (.invokestatic 81, 3) := by decide +kernel
theorem dX11_variable_4 : decode cX11_variable 4 = .ok (.iload_n 2, 1) := by decide +kernel
theorem dX11_variable_5 : decode cX11_variable 5 = .ok (.invokestatic 96, 3) := by decide +kernel
theorem dX11_variable_8 : decode cX11_variable 8 = .ok (.aload_n 0, 1) := by decide +kernel
theorem dX11_variable_9 : decode cX11_variable 9 = .ok (.getfield 58, 3) := by decide +kernel
theorem dX11_variable_12 : decode cX11_variable 12 = .ok (.iload_n 1, 1) := by decide +kernel
theorem dX11_variable_13 : decode cX11_variable 13 = .ok (.invokevirtual 85, 3) := by decide +kernel
theorem dX11_variable_16 : decode cX11_variable 16 = .ok (.aload_n 0, 1) := by decide +kernel
theorem dX11_variable_17 : decode cX11_variable 17 = .ok (.getfield 58, 3) := by decide +kernel
theorem dX11_variable_20 : decode cX11_variable 20 = .ok (.lconst 1, 1) := by decide +kernel
theorem dX11_variable_21 : decode cX11_variable 21 = .ok (.iload_n 2, 1) := by decide +kernel
theorem dX11_variable_22 : decode cX11_variable 22 = .ok (.invokestatic 99, 3) := by decide +kernel
theorem w5_63 : (Jvm.Cond.methodLink "Polyforge" (99 : Nat) ({ cls := "Polyforge$Polynomial", name := "unit", desc := "(I)I" } : Jvm.MethodName)) ∈ lw_tbl := pv_t5 (pv_mg 63 rfl)
theorem w5_65 : (Jvm.Cond.code ({ cls := "Polyforge$Polynomial", name := "unit", desc := "(I)I" } : Jvm.MethodName) prog_9_method_3_code (1 : Nat) (Option.some Jvm.ClassFile.FieldType.int)) ∈ lw_tbl := pv_t5 (pv_mg 65 rfl)
theorem w5_64 : (Jvm.Cond.static ({ cls := "Polyforge$Polynomial", name := "unit", desc := "(I)I" } : Jvm.MethodName)) ∈ lw_tbl := pv_t5 (pv_mg 64 rfl)
theorem dX11_variable_25 : decode cX11_variable 25 = .ok (.invokevirtual 88, 3) := by decide +kernel
theorem dX11_variable_28 : decode cX11_variable 28 = .ok (.pop, 1) := by decide +kernel
theorem dX11_variable_29 : decode cX11_variable 29 = .ok (.aload_n 0, 1) := by decide +kernel
theorem dX11_variable_30 : decode cX11_variable 30 = .ok (.invokevirtual 92, 3) := by decide +kernel
theorem dX11_variable_33 : decode cX11_variable 33 = .ok (.ireturn, 1) := by decide +kernel
set_option maxHeartbeats 4000000 in
set_option maxRecDepth 100000 in
/-- variable on a fresh object -/
theorem c_X11_variable (l : Launch) (hfl : l.stackTraces = false) (D : va_G) (sz : Nat) (h0 : Nat) (q w : Nat → Nat) (cJ cP : ClassId) (f : Nat → Int64) (p0 p1 : Int32) : vx_Met l yX11_variable (Cond.code yX11_variable cX11_variable 3 (some .int) :: pv_W) ({ frames := 8, cells := 4, slots := 15, locals := 124 } : Room) (va_Pc [.ref h0, .int p0, .int p1] (pv_P D [(cJ, .long), (cP, .object "Polyforge$Polynomial")] [(h0, .inr (0, [.ref (q 0), .int 0, .int 108, .ref (q 1), .int 0, .ref (q 2), .int 0, .ref (q 3), .ref (q 4), .int 1, .ref (q 5), .ref (q 6), .ref (q 7), .ref (q 8), .ref (q 9)])), ((q 6), .inr (2, [.ref (w 0), .ref (w 1), .ref (w 2), .ref (w 3), .int 0, .int 0])), ((w 2), .inl (cJ, 64, .inr (.inl f))), ((q 0), .inl (cP, 60, .inr (.inr (.inr (.inr (fun _ => none))))))] (va_A [(h0, .inr (0, [.ref (q 0), .int 0, .int 108, .ref (q 1), .int 0, .ref (q 2), .int 0, .ref (q 3), .ref (q 4), .int 1, .ref (q 5), .ref (q 6), .ref (q 7), .ref (q 8), .ref (q 9)])), ((q 6), .inr (2, [.ref (w 0), .ref (w 1), .ref (w 2), .ref (w 3), .int 0, .int 0])), ((w 2), .inl (cJ, 64, .inr (.inl f))), ((q 0), .inl (cP, 60, .inr (.inr (.inr (.inr (fun _ => none))))))] sz) sz)) (va_Qi (fun r (_ : Unit) => r = 0 ∧ ((p0 = 0 ∨ pv_pr p0) ∧ pv_vr p1)) (fun _ _ => True) (va_A [(h0, .inr (0, [.ref (q 0), .int 0, .int 108, .ref (q 1), .int 0, .ref (q 2), .int 0, .ref (q 3), .ref (q 4), .int 1, .ref (q 5), .ref (q 6), .ref (q 7), .ref (q 8), .ref (q 9)])), ((q 6), .inr (2, [.ref (w 0), .ref (w 1), .ref (w 2), .ref (w 3), .int 0, .int 0])), ((w 2), .inl (cJ, 64, .inr (.inl f))), ((q 0), .inl (cP, 60, .inr (.inr (.inr (.inr (fun _ => none))))))] sz)) (vx_X (fun _ : Unit => True) (fun E _ _ => E = "java/lang/IllegalArgumentException" ∧ ¬ ((p0 = 0 ∨ pv_pr p0) ∧ pv_vr p1)) (va_A [(h0, .inr (0, [.ref (q 0), .int 0, .int 108, .ref (q 1), .int 0, .ref (q 2), .int 0, .ref (q 3), .ref (q 4), .int 1, .ref (q 5), .ref (q 6), .ref (q 7), .ref (q 8), .ref (q 9)])), ((q 6), .inr (2, [.ref (w 0), .ref (w 1), .ref (w 2), .ref (w 3), .int 0, .int 0])), ((w 2), .inl (cJ, 64, .inr (.inl f))), ((q 0), .inl (cP, 60, .inr (.inr (.inr (.inr (fun _ => none))))))] sz)) 4 15 (va_A [(h0, .inr (0, [.ref (q 0), .int 0, .int 108, .ref (q 1), .int 0, .ref (q 2), .int 0, .ref (q 3), .ref (q 4), .int 1, .ref (q 5), .ref (q 6), .ref (q 7), .ref (q 8), .ref (q 9)])), ((q 6), .inr (2, [.ref (w 0), .ref (w 1), .ref (w 2), .ref (w 3), .int 0, .int 0])), ((w 2), .inl (cJ, 64, .inr (.inl f))), ((q 0), .inl (cP, 60, .inr (.inr (.inr (.inr (fun _ => none))))))] sz) := by
  refine vx_ofW (cc := cX11_variable) (maxL := 3) (ret := (some .int)) (by decide) rfl ?_
  intro p e s m args below meth c s₁ B hml hnt hv
  obtain ⟨rfl, hsz, hE, hP, hK, hD0⟩ := hv
  have hx := B.exec
  have hb := B.bytes
  have hr := B.returns
  have hts := fun (w : Cond) (h : w ∈ pv_W) => atoms_spec (ws := Cond.code yX11_variable cX11_variable 3 (some .int) :: pv_W) B.pre w (List.mem_cons_of_mem _ h)
  have hg := fun {w : Cond} (h : w ∈ lw_tbl) (g : goodWord w = true) => hts w (pv_in h g)
  have hown : s.vm.findClass RX11 = some m.cls := findClass_of_methodNamed B.named
  have hlocks := B.notSynchronized
  subst hsz
  have hD := hD0.self (sz := s.heap.size)
  generalize hAe : va_A [(h0, .inr (0, [.ref (q 0), .int 0, .int 108, .ref (q 1), .int 0, .ref (q 2), .int 0, .ref (q 3), .ref (q 4), .int 1, .ref (q 5), .ref (q 6), .ref (q 7), .ref (q 8), .ref (q 9)])), ((q 6), .inr (2, [.ref (w 0), .ref (w 1), .ref (w 2), .ref (w 3), .int 0, .int 0])), ((w 2), .inl (cJ, 64, .inr (.inl f))), ((q 0), .inl (cP, 60, .inr (.inr (.inr (.inr (fun _ => none))))))] s.heap.size = A at hD hE ⊢
  have hA : ∀ q : Nat, s.heap.size ≤ q → A q := fun q h => by rw [← hAe]; exact Or.inr h
  have hS : va_S A s.heap s.heap [] := va_S.rf
  have hP : va_P D pv_cl [(h0, .inr (0, [.ref (q 0), .int 0, .int 108, .ref (q 1), .int 0, .ref (q 2), .int 0, .ref (q 3), .ref (q 4), .int 1, .ref (q 5), .ref (q 6), .ref (q 7), .ref (q 8), .ref (q 9)])), ((q 6), .inr (2, [.ref (w 0), .ref (w 1), .ref (w 2), .ref (w 3), .int 0, .int 0])), ((w 2), .inl (cJ, 64, .inr (.inl f))), ((q 0), .inl (cP, 60, .inr (.inr (.inr (.inr (fun _ => none))))))] s.heap := hP
  have hl := lv_entry ([.ref h0, .int p0, .int p1]) (n := 3) (Nat.le_of_ble_eq_true rfl)
  rw [lg_entry_eq]
  generalize (lg_sl ([.ref h0, .int p0, .int p1]) ++ List.replicate (3 - (lg_sl ([.ref h0, .int p0, .int p1])).length) Slot.unset).toArray = ls at hl ⊢
  have hl : lv_has ls 3 [(0, .ref h0), (1, .int p0), (2, .int p1)] := hl
  refine lv_iload_n hx hb dX11_variable_0 rfl (lv_at hl 1 rfl) ?_
  have hF := pv_new hA hS.1
  refine vx_callv (vx_runS (As := [.int p0]) (rest := []) ⟨hx, hb, hml, hown, hts⟩ (c_X11_requireGround l hfl D _ p0) (va_cwS 1 hts (pv_gS w4_145 w4_146 w1_1 w4_147) rfl rfl rfl (by decide +kernel) ⟨Nat.le_of_ble_eq_true rfl, Nat.le_of_ble_eq_true rfl⟩) (pv_ps hE hS hF (hP.sub [] rfl) (hK.sub [] rfl) (hD.sub [] (by decide) rfl)) rfl rfl hl.1 rfl (lv_room (Nat.le_of_ble_eq_true rfl)) dX11_variable_1 ⟨Nat.le_of_ble_eq_true rfl, Nat.le_of_ble_eq_true rfl⟩) hS (fun q _ h => hF q h) hF (fun q _ h => hF q h) (fun E ce q9 u t H1 locs1 ht hvm hpx hbx hz1 hk1 hS hce hcv hcl => ?_) (fun u t H1 locs1 ht hvm hw hB hz1 hk1 hS => ?_)
  · exact vx_out (fun x h9 => absurd (hnt x h9) id) hlocks hce hcv hcl (fun t ht hvm => ⟨(), trivial, ⟨hbx.1, fun h => hbx.2 h.1⟩, hS.F ht⟩) hS.2.2 (Nat.le_of_ble_eq_true rfl) (Nat.le_of_ble_eq_true rfl)
  · refine W.widen (k := 1) (n := 6) (Nat.le_of_ble_eq_true rfl) (Nat.le_of_ble_eq_true rfl) ?_
    have hP := pv_keep hP rfl hk1
    have a_2 := hw
    refine lv_iload_n hx hb dX11_variable_4 rfl (lv_at hl 2 rfl) ?_
    have hF := pv_new hA hS.1
    refine vx_callv (vx_runS (As := [.int p1]) (rest := []) ⟨hx, hb, hml, hown, hts⟩ (c_X11_requireVariable l hfl D _ p1) (va_cwS 1 hts (pv_gS w5_56 w5_57 w1_1 w5_58) rfl rfl rfl (by decide +kernel) ⟨Nat.le_of_ble_eq_true rfl, Nat.le_of_ble_eq_true rfl⟩) (pv_ps hE hS hF (hP.sub [] rfl) (hK.sub [] rfl) (hD.sub [] (by decide) rfl)) rfl rfl hl.1 rfl (lv_room (Nat.le_of_ble_eq_true rfl)) dX11_variable_5 ⟨Nat.le_of_ble_eq_true rfl, Nat.le_of_ble_eq_true rfl⟩) hS (fun q _ h => hF q h) hF (fun q _ h => hF q h) (fun E ce q9 u t H1 locs1 ht hvm hpx hbx hz1 hk1 hS hce hcv hcl => ?_) (fun u t H1 locs1 ht hvm hw hB hz1 hk1 hS => ?_)
    · exact vx_out (fun x h9 => absurd (hnt x h9) id) hlocks hce hcv hcl (fun t ht hvm => ⟨(), trivial, ⟨hbx.1, fun h => hbx.2 h.2⟩, hS.F ht⟩) hS.2.2 (Nat.le_of_ble_eq_true rfl) (Nat.le_of_ble_eq_true rfl)
    · refine W.widen (k := 2) (n := 12) (Nat.le_of_ble_eq_true rfl) (Nat.le_of_ble_eq_true rfl) ?_
      have hP := pv_keep hP rfl hk1
      have a_4 := hw
      refine lv_aload_n hx hb dX11_variable_8 rfl (lv_at hl 0 rfl) ?_
      refine va_get (own := RX11) (D := D) (ci := 0) (v := .ref (q 6)) (C := RX11) (T := TX11) (N := 15) hx hb hts inF11 hown hK hP 0 rfl rfl 11 (by decide) (hg w2_48 rfl) (fun _ h9 => h9) rfl dX11_variable_9 ?_
      refine lv_iload_n hx hb dX11_variable_12 rfl (lv_at hl 1 rfl) ?_
      have hF := va_free (wc := [((q 6), .inr (2, [.ref (w 0), .ref (w 1), .ref (w 2), .ref (w 3), .int 0, .int 0]))]) hD hS hA [1] rfl
      refine va_callv (va_runV (As := [.int p0]) (rest := []) ⟨hx, hb, hml, hown, hts⟩ (c_X9_begin l hfl D _ (q 6) w p0) (cwV 1 hts (pv_gV w4_223 w4_224 w4_225 w1_2 w4_226) rfl rfl rfl (by decide +kernel) ⟨Nat.le_of_ble_eq_true rfl, Nat.le_of_ble_eq_true rfl⟩) (pv_pV hE hS hF (hP.sub [1] rfl) (hK.sub [] rfl) (hD.sub [1] (by decide) rfl) (va_recv (ci := 2) (q0 := 1) hK hP rfl rfl)) rfl rfl hl.1 rfl (lv_room (Nat.le_of_ble_eq_true rfl)) dX11_variable_13 ⟨Nat.le_of_ble_eq_true rfl, Nat.le_of_ble_eq_true rfl⟩) hS (fun q _ h => hF q h) hF (fun u t H1 locs1 ht hvm hw hB hz1 hk1 hS => ?_)
      refine W.widen (k := 2) (n := 12) (Nat.le_of_ble_eq_true rfl) (Nat.le_of_ble_eq_true rfl) ?_
      obtain ⟨hP1, hK1, hD1⟩ := hB
      rw [ht] at hP1
      have hK1 := va_K.moved hvm.symm hK1
      obtain ⟨hP, hD⟩ := va_join (wr := [(h0, .inr (0, [.ref (q 0), .int 0, .int 108, .ref (q 1), .int 0, .ref (q 2), .int 0, .ref (q 3), .ref (q 4), .int 1, .ref (q 5), .ref (q 6), .ref (q 7), .ref (q 8), .ref (q 9)])), ((w 2), .inl (cJ, 64, .inr (.inl f))), ((q 0), .inl (cP, 60, .inr (.inr (.inr (.inr (fun _ => none))))))]) (w1 := [((q 6), .inr (2, [.ref (w 0), .ref (w 1), .ref (w 2), .ref (w 3), .int 0, .int p0]))]) hP hD [1] [0, 2, 3] rfl rfl (by decide) (by decide) hk1 hF hP1 hD1
      have hP : va_P D pv_cl [(h0, .inr (0, [.ref (q 0), .int 0, .int 108, .ref (q 1), .int 0, .ref (q 2), .int 0, .ref (q 3), .ref (q 4), .int 1, .ref (q 5), .ref (q 6), .ref (q 7), .ref (q 8), .ref (q 9)])), ((w 2), .inl (cJ, 64, .inr (.inl f))), ((q 0), .inl (cP, 60, .inr (.inr (.inr (.inr (fun _ => none)))))), ((q 6), .inr (2, [.ref (w 0), .ref (w 1), .ref (w 2), .ref (w 3), .int 0, .int p0]))] _ := hP
      have hD : va_D A [(h0, .inr (0, [.ref (q 0), .int 0, .int 108, .ref (q 1), .int 0, .ref (q 2), .int 0, .ref (q 3), .ref (q 4), .int 1, .ref (q 5), .ref (q 6), .ref (q 7), .ref (q 8), .ref (q 9)])), ((w 2), .inl (cJ, 64, .inr (.inl f))), ((q 0), .inl (cP, 60, .inr (.inr (.inr (.inr (fun _ => none)))))), ((q 6), .inr (2, [.ref (w 0), .ref (w 1), .ref (w 2), .ref (w 3), .int 0, .int p0]))] := hD
      refine lv_aload_n hx hb dX11_variable_16 rfl (lv_at hl 0 rfl) ?_
      refine va_get (own := RX11) (D := D) (ci := 0) (v := .ref (q 6)) (C := RX11) (T := TX11) (N := 15) hx hb hts inF11 hown hK hP 0 rfl rfl 11 (by decide) (hg w2_48 rfl) (fun _ h9 => h9) rfl dX11_variable_17 ?_
      refine lv_lconst (v := 1) hx hb dX11_variable_20 (by decide) ?_
      refine lv_iload_n hx hb dX11_variable_21 rfl (lv_at hl 2 rfl) ?_
      have hF := pv_new hA hS.1
      refine va_calli (va_runS (As := [.int p1]) (rest := [.long 1, .ref (q 6)]) ⟨hx, hb, hml, hown, hts⟩ (c_X7_unit l hfl D _ p1) (va_cwS 1 hts (pv_gS w5_63 w5_64 w1_17 w5_65) rfl rfl rfl (by decide +kernel) ⟨Nat.le_of_ble_eq_true rfl, Nat.le_of_ble_eq_true rfl⟩) (pv_ps hE hS hF (hP.sub [] rfl) (hK.sub [] rfl) (hD.sub [] (by decide) rfl)) rfl rfl hl.1 rfl (lv_room (Nat.le_of_ble_eq_true rfl)) dX11_variable_22 ⟨Nat.le_of_ble_eq_true rfl, Nat.le_of_ble_eq_true rfl⟩) hS (fun q _ h => hF q h) hF (fun r_5 u t H1 locs1 ht hvm hw hB hz1 hk1 hS => ?_)
      refine W.widen (k := 2) (n := 12) (Nat.le_of_ble_eq_true rfl) (Nat.le_of_ble_eq_true rfl) ?_
      have hP := pv_keep hP rfl hk1
      have hF := va_free (wc := [((q 6), .inr (2, [.ref (w 0), .ref (w 1), .ref (w 2), .ref (w 3), .int 0, .int p0])), ((w 2), .inl (cJ, 64, .inr (.inl f)))]) hD hS hA [3, 1] rfl
      refine va_calli (va_runV (As := [.long 1, .int r_5]) (rest := []) ⟨hx, hb, hml, hown, hts⟩ (c_X9_put l hfl D _ (q 6) w cJ f p0 1 r_5) (cwV 2 hts (pv_gV w4_227 w4_228 w4_229 w1_2 w4_230) rfl rfl rfl (by decide +kernel) ⟨Nat.le_of_ble_eq_true rfl, Nat.le_of_ble_eq_true rfl⟩) (pv_pV hE hS hF (hP.sub [3, 1] rfl) (hK.sub [0] rfl) (hD.sub [3, 1] (by decide) rfl) (va_recv (ci := 2) (q0 := 3) hK hP rfl rfl)) rfl rfl hl.1 rfl (lv_room (Nat.le_of_ble_eq_true rfl)) dX11_variable_25 ⟨Nat.le_of_ble_eq_true rfl, Nat.le_of_ble_eq_true rfl⟩) hS (fun q _ h => hF q h) hF (fun r_6 u t H1 locs1 ht hvm hw hB hz1 hk1 hS => ?_)
      refine W.widen (k := 2) (n := 12) (Nat.le_of_ble_eq_true rfl) (Nat.le_of_ble_eq_true rfl) ?_
      obtain ⟨n1, f1⟩ := u
      obtain ⟨hP1, hK1, hD1⟩ := hB
      rcases (show n1 = 0 ∨ n1 = 1 from hw) with rfl | rfl
      · rw [ht] at hP1
        have hK1 := va_K.moved hvm.symm hK1
        obtain ⟨hP, hD⟩ := va_join (wr := [(h0, .inr (0, [.ref (q 0), .int 0, .int 108, .ref (q 1), .int 0, .ref (q 2), .int 0, .ref (q 3), .ref (q 4), .int 1, .ref (q 5), .ref (q 6), .ref (q 7), .ref (q 8), .ref (q 9)])), ((q 0), .inl (cP, 60, .inr (.inr (.inr (.inr (fun _ => none))))))]) (w1 := [((q 6), .inr (2, [.ref (w 0), .ref (w 1), .ref (w 2), .ref (w 3), .int 0, .int p0])), ((w 2), .inl (cJ, 64, .inr (.inl f1)))]) hP hD [3, 1] [0, 2] rfl rfl (by decide) (by decide) hk1 hF hP1 hD1
        have hP : va_P D pv_cl [(h0, .inr (0, [.ref (q 0), .int 0, .int 108, .ref (q 1), .int 0, .ref (q 2), .int 0, .ref (q 3), .ref (q 4), .int 1, .ref (q 5), .ref (q 6), .ref (q 7), .ref (q 8), .ref (q 9)])), ((q 0), .inl (cP, 60, .inr (.inr (.inr (.inr (fun _ => none)))))), ((q 6), .inr (2, [.ref (w 0), .ref (w 1), .ref (w 2), .ref (w 3), .int 0, .int p0])), ((w 2), .inl (cJ, 64, .inr (.inl f1)))] _ := hP
        have hD : va_D A [(h0, .inr (0, [.ref (q 0), .int 0, .int 108, .ref (q 1), .int 0, .ref (q 2), .int 0, .ref (q 3), .ref (q 4), .int 1, .ref (q 5), .ref (q 6), .ref (q 7), .ref (q 8), .ref (q 9)])), ((q 0), .inl (cP, 60, .inr (.inr (.inr (.inr (fun _ => none)))))), ((q 6), .inr (2, [.ref (w 0), .ref (w 1), .ref (w 2), .ref (w 3), .int 0, .int p0])), ((w 2), .inl (cJ, 64, .inr (.inl f1)))] := hD
        refine lv_pop hx hb dX11_variable_28 rfl ?_
        refine lv_aload_n hx hb dX11_variable_29 rfl (lv_at hl 0 rfl) ?_
        have hF := va_free (wc := [(h0, .inr (0, [.ref (q 0), .int 0, .int 108, .ref (q 1), .int 0, .ref (q 2), .int 0, .ref (q 3), .ref (q 4), .int 1, .ref (q 5), .ref (q 6), .ref (q 7), .ref (q 8), .ref (q 9)])), ((q 6), .inr (2, [.ref (w 0), .ref (w 1), .ref (w 2), .ref (w 3), .int 0, .int p0])), ((w 2), .inl (cJ, 64, .inr (.inl f1))), ((q 0), .inl (cP, 60, .inr (.inr (.inr (.inr (fun _ => none))))))]) hD hS hA [0, 2, 3, 1] rfl
        refine vx_calli (vx_runV (As := []) (rest := []) ⟨hx, hb, hml, hown, hts⟩ (c_X11_keep_0 l hfl D _ h0 q w cJ cP f1 p0) (cwV 0 hts (pv_gV w5_5 w5_7 wp3_12 w1_1 w5_8) rfl rfl rfl (by decide +kernel) ⟨Nat.le_of_ble_eq_true rfl, Nat.le_of_ble_eq_true rfl⟩) (pv_pV hE hS hF (hP.sub [0, 2, 3, 1] rfl) (hK.sub [0, 1] rfl) (hD.sub [0, 2, 3, 1] (by decide) rfl) (va_recv (ci := 0) (q0 := 0) hK hP rfl rfl)) rfl rfl hl.1 rfl (lv_room (Nat.le_of_ble_eq_true rfl)) dX11_variable_30 ⟨Nat.le_of_ble_eq_true rfl, Nat.le_of_ble_eq_true rfl⟩) hS (fun q _ h => hF q h) hF (fun q _ h => hF q h) (fun E ce q9 u t H1 locs1 ht hvm hpx hbx hz1 hk1 hS hce hcv hcl => ?_) (fun r_7 u t H1 locs1 ht hvm hw hB hz1 hk1 hS => ?_)
        · exact vx_out (fun x h9 => absurd (hnt x h9) id) hlocks hce hcv hcl (fun t ht hvm => ⟨(), trivial, hbx.elim, hS.F ht⟩) hS.2.2 (Nat.le_of_ble_eq_true rfl) (Nat.le_of_ble_eq_true rfl)
        · refine W.widen (k := 4) (n := 14) (Nat.le_of_ble_eq_true rfl) (Nat.le_of_ble_eq_true rfl) ?_
          obtain rfl := hw
          refine vx_ret ?_
          refine W.widen (k := 4) (n := 15) (Nat.le_of_ble_eq_true rfl) (Nat.le_of_ble_eq_true rfl) ?_
          exact W.iret (v := 0) hx hb hr (fun t ht hW => ⟨⟨0, (), rfl, ⟨rfl, a_2, a_4⟩, trivial⟩, hS.F ht⟩) hS.2.2 dX11_variable_33
      · rw [ht] at hP1
        have hK1 := va_K.moved hvm.symm hK1
        obtain ⟨hP, hD⟩ := va_join (wr := [(h0, .inr (0, [.ref (q 0), .int 0, .int 108, .ref (q 1), .int 0, .ref (q 2), .int 0, .ref (q 3), .ref (q 4), .int 1, .ref (q 5), .ref (q 6), .ref (q 7), .ref (q 8), .ref (q 9)])), ((q 0), .inl (cP, 60, .inr (.inr (.inr (.inr (fun _ => none))))))]) (w1 := [((q 6), .inr (2, [.ref (w 0), .ref (w 1), .ref (w 2), .ref (w 3), .int 1, .int p0])), ((w 2), .inl (cJ, 64, .inr (.inl f1)))]) hP hD [3, 1] [0, 2] rfl rfl (by decide) (by decide) hk1 hF hP1 hD1
        have hP : va_P D pv_cl [(h0, .inr (0, [.ref (q 0), .int 0, .int 108, .ref (q 1), .int 0, .ref (q 2), .int 0, .ref (q 3), .ref (q 4), .int 1, .ref (q 5), .ref (q 6), .ref (q 7), .ref (q 8), .ref (q 9)])), ((q 0), .inl (cP, 60, .inr (.inr (.inr (.inr (fun _ => none)))))), ((q 6), .inr (2, [.ref (w 0), .ref (w 1), .ref (w 2), .ref (w 3), .int 1, .int p0])), ((w 2), .inl (cJ, 64, .inr (.inl f1)))] _ := hP
        have hD : va_D A [(h0, .inr (0, [.ref (q 0), .int 0, .int 108, .ref (q 1), .int 0, .ref (q 2), .int 0, .ref (q 3), .ref (q 4), .int 1, .ref (q 5), .ref (q 6), .ref (q 7), .ref (q 8), .ref (q 9)])), ((q 0), .inl (cP, 60, .inr (.inr (.inr (.inr (fun _ => none)))))), ((q 6), .inr (2, [.ref (w 0), .ref (w 1), .ref (w 2), .ref (w 3), .int 1, .int p0])), ((w 2), .inl (cJ, 64, .inr (.inl f1)))] := hD
        refine lv_pop hx hb dX11_variable_28 rfl ?_
        refine lv_aload_n hx hb dX11_variable_29 rfl (lv_at hl 0 rfl) ?_
        have hF := va_free (wc := [(h0, .inr (0, [.ref (q 0), .int 0, .int 108, .ref (q 1), .int 0, .ref (q 2), .int 0, .ref (q 3), .ref (q 4), .int 1, .ref (q 5), .ref (q 6), .ref (q 7), .ref (q 8), .ref (q 9)])), ((q 6), .inr (2, [.ref (w 0), .ref (w 1), .ref (w 2), .ref (w 3), .int 1, .int p0])), ((w 2), .inl (cJ, 64, .inr (.inl f1))), ((q 0), .inl (cP, 60, .inr (.inr (.inr (.inr (fun _ => none))))))]) hD hS hA [0, 2, 3, 1] rfl
        refine vx_calli (vx_runV (As := []) (rest := []) ⟨hx, hb, hml, hown, hts⟩ (c_X11_keep_1 l hfl D _ h0 q w cJ cP f1 p0) (cwV 0 hts (pv_gV w5_5 w5_7 wp3_12 w1_1 w5_8) rfl rfl rfl (by decide +kernel) ⟨Nat.le_of_ble_eq_true rfl, Nat.le_of_ble_eq_true rfl⟩) (pv_pV hE hS hF (hP.sub [0, 2, 3, 1] rfl) (hK.sub [0, 1] rfl) (hD.sub [0, 2, 3, 1] (by decide) rfl) (va_recv (ci := 0) (q0 := 0) hK hP rfl rfl)) rfl rfl hl.1 rfl (lv_room (Nat.le_of_ble_eq_true rfl)) dX11_variable_30 ⟨Nat.le_of_ble_eq_true rfl, Nat.le_of_ble_eq_true rfl⟩) hS (fun q _ h => hF q h) hF (fun q _ h => hF q h) (fun E ce q9 u t H1 locs1 ht hvm hpx hbx hz1 hk1 hS hce hcv hcl => ?_) (fun r_8 u t H1 locs1 ht hvm hw hB hz1 hk1 hS => ?_)
        · exact vx_out (fun x h9 => absurd (hnt x h9) id) hlocks hce hcv hcl (fun t ht hvm => ⟨(), trivial, hbx.elim, hS.F ht⟩) hS.2.2 (Nat.le_of_ble_eq_true rfl) (Nat.le_of_ble_eq_true rfl)
        · refine W.widen (k := 4) (n := 15) (Nat.le_of_ble_eq_true rfl) (Nat.le_of_ble_eq_true rfl) ?_
          obtain rfl := hw
          refine vx_ret ?_
          refine W.widen (k := 4) (n := 15) (Nat.le_of_ble_eq_true rfl) (Nat.le_of_ble_eq_true rfl) ?_
          exact W.iret (v := 0) hx hb hr (fun t ht hW => ⟨⟨0, (), rfl, ⟨rfl, a_2, a_4⟩, trivial⟩, hS.F ht⟩) hS.2.2 dX11_variable_33

